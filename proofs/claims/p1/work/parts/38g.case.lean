section CAS
theorem dL_nearest_0 : decode cL_nearest 0 = .ok (.aload 4, 2) := by decide +kernel
theorem dL_nearest_2 : decode cL_nearest 2 = .ok (.iconst 0, 1) := by decide +kernel
theorem dL_nearest_3 : decode cL_nearest 3 = .ok (.aload_n 0, 1) := by decide +kernel
theorem dL_nearest_4 : decode cL_nearest 4 = .ok (.iload_n 1, 1) := by decide +kernel
theorem dL_nearest_5 : decode cL_nearest 5 = .ok (.iload_n 2, 1) := by decide +kernel
theorem dL_nearest_6 : decode cL_nearest 6 = .ok (.iload_n 3, 1) := by decide +kernel
theorem dL_nearest_7 : decode cL_nearest 7 = .ok (.invokevirtual 95, 3) := by decide +kernel
theorem dL_nearest_10 : decode cL_nearest 10 = .ok (.i2l, 1) := by decide +kernel
theorem dL_nearest_11 : decode cL_nearest 11 = .ok (.lastore, 1) := by decide +kernel
theorem dL_nearest_12 : decode cL_nearest 12 = .ok (.goto 7, 3) := by decide +kernel
theorem dL_nearest_15 : decode cL_nearest 15 = .ok (.astore 5, 2) := by decide +kernel
theorem dL_nearest_17 : decode cL_nearest 17 = .ok (.iconst 1, 1) := by decide +kernel
theorem dL_nearest_18 : decode cL_nearest 18 = .ok (.ireturn, 1) := by decide +kernel
theorem dL_nearest_19 : decode cL_nearest 19 = .ok (.iconst 0, 1) := by decide +kernel
theorem dL_nearest_20 : decode cL_nearest 20 = .ok (.ireturn, 1) := by decide +kernel
theorem dX11_nearest_0 : decode cX11_nearest 0 = .ok (.iload_n 3, 1) := by decide +kernel
theorem dX11_nearest_1 : decode cX11_nearest 1 = .ok (.iconst 1, 1) := by decide +kernel
theorem dX11_nearest_2 : decode cX11_nearest 2 = .ok (.if_icmp .lt 29, 3) := by decide +kernel
theorem dX11_nearest_5 : decode cX11_nearest 5 = .ok (.iload_n 3, 1) := by decide +kernel
theorem dX11_nearest_6 : decode cX11_nearest 6 = .ok (.bipush 32, 2) := by decide +kernel
theorem dX11_nearest_8 : decode cX11_nearest 8 = .ok (.if_icmp .gt 23, 3) := by decide +kernel
theorem dX11_nearest_11 : decode cX11_nearest 11 = .ok (.iload_n 1, 1) := by decide +kernel
theorem dX11_nearest_12 : decode cX11_nearest 12 = .ok (.ldc_w 292, 3) := by decide +kernel
theorem dX11_nearest_15 : decode cX11_nearest 15 = .ok (.invokestatic 270, 3) := by decide +kernel
theorem dX11_nearest_18 : decode cX11_nearest 18 = .ok (.ifCond .ne 13, 3) := by decide +kernel
theorem dX11_nearest_21 : decode cX11_nearest 21 = .ok (.iload_n 2, 1) := by decide +kernel
theorem dX11_nearest_22 : decode cX11_nearest 22 = .ok (.ldc_w 292, 3) := by decide +kernel
theorem dX11_nearest_25 : decode cX11_nearest 25 = .ok (.invokestatic 270, 3) := by decide +kernel
theorem dX11_nearest_28 : decode cX11_nearest 28 = .ok (.ifCond .eq 11, 3) := by decide +kernel
theorem dX11_nearest_31 : decode cX11_nearest 31 = .ok (.new 116, 3) := by decide +kernel
theorem dX11_nearest_34 : decode cX11_nearest 34 = .ok (.dup, 1) := by decide +kernel
theorem dX11_nearest_35 : decode cX11_nearest 35 = .ok (.invokespecial 118, 3) := by decide +kernel
theorem dX11_nearest_38 : decode cX11_nearest 38 = .ok (.athrow, 1) := by decide +kernel
theorem dX11_nearest_39 : decode cX11_nearest 39 = .ok (.iconst 0, 1) := by decide +kernel
theorem dX11_nearest_40 : decode cX11_nearest 40 = .ok (.istore 4, 2) := by decide +kernel
theorem dX11_nearest_42 : decode cX11_nearest 42 = .ok (.iconst 0, 1) := by decide +kernel
theorem dX11_nearest_43 : decode cX11_nearest 43 = .ok (.istore 5, 2) := by decide +kernel
theorem dX11_nearest_45 : decode cX11_nearest 45 = .ok (.iload 5, 2) := by decide +kernel
theorem dX11_nearest_47 : decode cX11_nearest 47 = .ok (.bipush 32, 2) := by decide +kernel
theorem dX11_nearest_49 : decode cX11_nearest 49 = .ok (.if_icmp .ge 43, 3) := by decide +kernel
theorem dX11_nearest_52 : decode cX11_nearest 52 = .ok (.aload_n 0, 1) := by decide +kernel
theorem dX11_nearest_53 : decode cX11_nearest 53 = .ok (.getfield 11, 3) := by decide +kernel
theorem dX11_nearest_56 : decode cX11_nearest 56 = .ok (.iload 5, 2) := by decide +kernel
theorem dX11_nearest_58 : decode cX11_nearest 58 = .ok (.aaload, 1) := by decide +kernel
theorem dX11_nearest_59 : decode cX11_nearest 59 = .ok (.aload_n 0, 1) := by decide +kernel
theorem dX11_nearest_60 : decode cX11_nearest 60 = .ok (.getfield 94, 3) := by decide +kernel
theorem dX11_nearest_63 : decode cX11_nearest 63 = .ok (.invokevirtual 305, 3) := by decide +kernel
theorem dX11_nearest_66 : decode cX11_nearest 66 = .ok (.ifCond .eq 20, 3) := by decide +kernel
theorem dX11_nearest_86 : decode cX11_nearest 86 = .ok (.iinc 5 1, 3) := by decide +kernel
theorem dX11_nearest_89 : decode cX11_nearest 89 = .ok (.goto (-44), 3) := by decide +kernel
theorem dX11_nearest_92 : decode cX11_nearest 92 = .ok (.aload_n 0, 1) := by decide +kernel
theorem dX11_nearest_93 : decode cX11_nearest 93 = .ok (.iload_n 3, 1) := by decide +kernel
theorem dX11_nearest_94 : decode cX11_nearest 94 = .ok (.iload 4, 2) := by decide +kernel
theorem dX11_nearest_96 : decode cX11_nearest 96 = .ok (.invokestatic 122, 3) := by decide +kernel
theorem dX11_nearest_99 : decode cX11_nearest 99 = .ok (.putfield 213, 3) := by decide +kernel
theorem dX11_nearest_102 : decode cX11_nearest 102 = .ok (.aload_n 0, 1) := by decide +kernel
theorem dX11_nearest_103 : decode cX11_nearest 103 = .ok (.getfield 213, 3) := by decide +kernel
theorem dX11_nearest_106 : decode cX11_nearest 106 = .ok (.ireturn, 1) := by decide +kernel
theorem dX12_nearest_0 : decode cX12_nearest 0 = .ok (.aload_n 0, 1) := by decide +kernel
theorem dX12_nearest_1 : decode cX12_nearest 1 = .ok (.iconst 0, 1) := by decide +kernel
theorem dX12_nearest_2 : decode cX12_nearest 2 = .ok (.putfield 271, 3) := by decide +kernel
theorem dX12_nearest_5 : decode cX12_nearest 5 = .ok (.aload_n 0, 1) := by decide +kernel
theorem dX12_nearest_6 : decode cX12_nearest 6 = .ok (.iload_n 3, 1) := by decide +kernel
theorem dX12_nearest_7 : decode cX12_nearest 7 = .ok (.i2l, 1) := by decide +kernel
theorem dX12_nearest_8 : decode cX12_nearest 8 = .ok (.lconst 1, 1) := by decide +kernel
theorem dX12_nearest_9 : decode cX12_nearest 9 = .ok (.ldc2_w 590, 3) := by decide +kernel
theorem dX12_nearest_12 : decode cX12_nearest 12 = .ok (.invokestatic 287, 3) := by decide +kernel
theorem dX12_nearest_15 : decode cX12_nearest 15 = .ok (.ifCond .eq 19, 3) := by decide +kernel
theorem dX12_nearest_18 : decode cX12_nearest 18 = .ok (.iload_n 1, 1) := by decide +kernel
theorem dX12_nearest_19 : decode cX12_nearest 19 = .ok (.i2l, 1) := by decide +kernel
theorem dX12_nearest_20 : decode cX12_nearest 20 = .ok (.invokestatic 587, 3) := by decide +kernel
theorem dX12_nearest_23 : decode cX12_nearest 23 = .ok (.ifCond .eq 11, 3) := by decide +kernel
theorem dX12_nearest_26 : decode cX12_nearest 26 = .ok (.iload_n 2, 1) := by decide +kernel
theorem dX12_nearest_27 : decode cX12_nearest 27 = .ok (.i2l, 1) := by decide +kernel
theorem dX12_nearest_28 : decode cX12_nearest 28 = .ok (.invokestatic 587, 3) := by decide +kernel
theorem dX12_nearest_31 : decode cX12_nearest 31 = .ok (.ifCond .ne 7, 3) := by decide +kernel
theorem dX12_nearest_34 : decode cX12_nearest 34 = .ok (.iconst 1, 1) := by decide +kernel
theorem dX12_nearest_35 : decode cX12_nearest 35 = .ok (.goto 4, 3) := by decide +kernel
theorem dX12_nearest_38 : decode cX12_nearest 38 = .ok (.iconst 0, 1) := by decide +kernel
theorem dX12_nearest_39 : decode cX12_nearest 39 = .ok (.iconst 1, 1) := by decide +kernel
theorem dX12_nearest_40 : decode cX12_nearest 40 = .ok (.invokevirtual 277, 3) := by decide +kernel
theorem dX12_nearest_43 : decode cX12_nearest 43 = .ok (.ifCond .eq 5, 3) := by decide +kernel
theorem dX12_nearest_46 : decode cX12_nearest 46 = .ok (.iconst 0, 1) := by decide +kernel
theorem dX12_nearest_47 : decode cX12_nearest 47 = .ok (.ireturn, 1) := by decide +kernel
theorem dX12_nearest_48 : decode cX12_nearest 48 = .ok (.aload_n 0, 1) := by decide +kernel
theorem dX12_nearest_49 : decode cX12_nearest 49 = .ok (.iconst 0, 1) := by decide +kernel
theorem dX12_nearest_50 : decode cX12_nearest 50 = .ok (.putfield 575, 3) := by decide +kernel
theorem dX12_nearest_53 : decode cX12_nearest 53 = .ok (.ldc2_w 592, 3) := by decide +kernel
theorem dX12_nearest_56 : decode cX12_nearest 56 = .ok (.lstore 4, 2) := by decide +kernel
theorem dX12_nearest_58 : decode cX12_nearest 58 = .ok (.iconst (-1), 1) := by decide +kernel
theorem dX12_nearest_59 : decode cX12_nearest 59 = .ok (.istore 6, 2) := by decide +kernel
theorem dX12_nearest_61 : decode cX12_nearest 61 = .ok (.iconst 0, 1) := by decide +kernel
theorem dX12_nearest_62 : decode cX12_nearest 62 = .ok (.istore 7, 2) := by decide +kernel
theorem dX12_nearest_64 : decode cX12_nearest 64 = .ok (.iload 7, 2) := by decide +kernel
theorem dX12_nearest_66 : decode cX12_nearest 66 = .ok (.iload_n 3, 1) := by decide +kernel
theorem dX12_nearest_67 : decode cX12_nearest 67 = .ok (.if_icmp .ge 198, 3) := by decide +kernel
theorem dX12_nearest_70 : decode cX12_nearest 70 = .ok (.lconst 0, 1) := by decide +kernel
theorem dX12_nearest_71 : decode cX12_nearest 71 = .ok (.lstore 8, 2) := by decide +kernel
theorem dX12_nearest_73 : decode cX12_nearest 73 = .ok (.iconst (-1), 1) := by decide +kernel
theorem dX12_nearest_74 : decode cX12_nearest 74 = .ok (.istore 10, 2) := by decide +kernel
theorem dX12_nearest_76 : decode cX12_nearest 76 = .ok (.iconst 0, 1) := by decide +kernel
theorem dX12_nearest_77 : decode cX12_nearest 77 = .ok (.istore 11, 2) := by decide +kernel
theorem dX12_nearest_79 : decode cX12_nearest 79 = .ok (.iload 11, 2) := by decide +kernel
theorem dX12_nearest_81 : decode cX12_nearest 81 = .ok (.bipush 32, 2) := by decide +kernel
theorem dX12_nearest_83 : decode cX12_nearest 83 = .ok (.if_icmp .ge 136, 3) := by decide +kernel
theorem dX12_nearest_86 : decode cX12_nearest 86 = .ok (.aload_n 0, 1) := by decide +kernel
theorem dX12_nearest_87 : decode cX12_nearest 87 = .ok (.iload 11, 2) := by decide +kernel
theorem dX12_nearest_89 : decode cX12_nearest 89 = .ok (.invokevirtual 582, 3) := by decide +kernel
theorem dX12_nearest_92 : decode cX12_nearest 92 = .ok (.ifCond .ne 6, 3) := by decide +kernel
theorem dX12_nearest_95 : decode cX12_nearest 95 = .ok (.goto 118, 3) := by decide +kernel
theorem dX12_nearest_213 : decode cX12_nearest 213 = .ok (.iinc 11 1, 3) := by decide +kernel
theorem dX12_nearest_216 : decode cX12_nearest 216 = .ok (.goto (-137), 3) := by decide +kernel
theorem dX12_nearest_219 : decode cX12_nearest 219 = .ok (.iload 10, 2) := by decide +kernel
theorem dX12_nearest_221 : decode cX12_nearest 221 = .ok (.iconst (-1), 1) := by decide +kernel
theorem dX12_nearest_222 : decode cX12_nearest 222 = .ok (.if_icmp .ne 8, 3) := by decide +kernel
theorem dX12_nearest_225 : decode cX12_nearest 225 = .ok (.aload_n 0, 1) := by decide +kernel
theorem dX12_nearest_226 : decode cX12_nearest 226 = .ok (.getfield 575, 3) := by decide +kernel
theorem dX12_nearest_229 : decode cX12_nearest 229 = .ok (.ireturn, 1) := by decide +kernel
theorem dX11_isBeyond_0 : decode cX11_isBeyond 0 = .ok (.iload_n 0, 1) := by decide +kernel
theorem dX11_isBeyond_1 : decode cX11_isBeyond 1 = .ok (.iload_n 1, 1) := by decide +kernel
theorem dX11_isBeyond_2 : decode cX11_isBeyond 2 = .ok (.ineg, 1) := by decide +kernel
theorem dX11_isBeyond_3 : decode cX11_isBeyond 3 = .ok (.if_icmp .lt 8, 3) := by decide +kernel
theorem dX11_isBeyond_6 : decode cX11_isBeyond 6 = .ok (.iload_n 0, 1) := by decide +kernel
theorem dX11_isBeyond_7 : decode cX11_isBeyond 7 = .ok (.iload_n 1, 1) := by decide +kernel
theorem dX11_isBeyond_8 : decode cX11_isBeyond 8 = .ok (.if_icmp .le 7, 3) := by decide +kernel
theorem dX11_isBeyond_11 : decode cX11_isBeyond 11 = .ok (.iconst 1, 1) := by decide +kernel
theorem dX11_isBeyond_12 : decode cX11_isBeyond 12 = .ok (.goto 4, 3) := by decide +kernel
theorem dX11_isBeyond_15 : decode cX11_isBeyond 15 = .ok (.iconst 0, 1) := by decide +kernel
theorem dX11_isBeyond_16 : decode cX11_isBeyond 16 = .ok (.ireturn, 1) := by decide +kernel
theorem dX12_isFar_0 : decode cX12_isFar 0 = .ok (.lload_n 0, 1) := by decide +kernel
theorem dX12_isFar_1 : decode cX12_isFar 1 = .ok (.ldc2_w 585, 3) := by decide +kernel
theorem dX12_isFar_4 : decode cX12_isFar 4 = .ok (.ldc2_w 436, 3) := by decide +kernel
theorem dX12_isFar_7 : decode cX12_isFar 7 = .ok (.invokestatic 287, 3) := by decide +kernel
theorem dX12_isFar_10 : decode cX12_isFar 10 = .ok (.ireturn, 1) := by decide +kernel
theorem dX6_putBox_0 : decode cX6_putBox 0 = .ok (.iconst 0, 1) := by decide +kernel
theorem dX6_putBox_1 : decode cX6_putBox 1 = .ok (.istore_n 2, 1) := by decide +kernel
theorem dX6_putBox_2 : decode cX6_putBox 2 = .ok (.iload_n 2, 1) := by decide +kernel
theorem dX6_putBox_3 : decode cX6_putBox 3 = .ok (.aload_n 0, 1) := by decide +kernel
theorem dX6_putBox_4 : decode cX6_putBox 4 = .ok (.getfield 25, 3) := by decide +kernel
theorem dX6_putBox_7 : decode cX6_putBox 7 = .ok (.if_icmp .ge 121, 3) := by decide +kernel
theorem dX6_putBox_128 : decode cX6_putBox 128 = .ok (.aload_n 0, 1) := by decide +kernel
theorem dX6_putBox_129 : decode cX6_putBox 129 = .ok (.getfield 25, 3) := by decide +kernel
theorem dX6_putBox_132 : decode cX6_putBox 132 = .ok (.ifCond .le 7, 3) := by decide +kernel
theorem dX6_putBox_139 : decode cX6_putBox 139 = .ok (.iconst 0, 1) := by decide +kernel
theorem dX6_putBox_140 : decode cX6_putBox 140 = .ok (.ireturn, 1) := by decide +kernel
theorem dX12_box_0 : decode cX12_box 0 = .ok (.aload_n 0, 1) := by decide +kernel
theorem dX12_box_1 : decode cX12_box 1 = .ok (.getfield 26, 3) := by decide +kernel
theorem dX12_box_4 : decode cX12_box 4 = .ok (.iload_n 1, 1) := by decide +kernel
theorem dX12_box_5 : decode cX12_box 5 = .ok (.iaload, 1) := by decide +kernel
theorem dX12_box_6 : decode cX12_box 6 = .ok (.ifCond .ne 5, 3) := by decide +kernel
theorem dX12_box_9 : decode cX12_box 9 = .ok (.iconst 0, 1) := by decide +kernel
theorem dX12_box_10 : decode cX12_box 10 = .ok (.ireturn, 1) := by decide +kernel
theorem dL_law_1801 : decode cL_law 1801 = .ok (.aload_n 1, 1) := by decide +kernel
theorem dL_law_1802 : decode cL_law 1802 = .ok (.aload_n 0, 1) := by decide +kernel
theorem dL_law_1803 : decode cL_law 1803 = .ok (.iload 4, 2) := by decide +kernel
theorem dL_law_1805 : decode cL_law 1805 = .ok (.iconst 1, 1) := by decide +kernel
theorem dL_law_1806 : decode cL_law 1806 = .ok (.iadd, 1) := by decide +kernel
theorem dL_law_1807 : decode cL_law 1807 = .ok (.iaload, 1) := by decide +kernel
theorem dL_law_1808 : decode cL_law 1808 = .ok (.aload_n 0, 1) := by decide +kernel
theorem dL_law_1809 : decode cL_law 1809 = .ok (.iload 4, 2) := by decide +kernel
theorem dL_law_1811 : decode cL_law 1811 = .ok (.iconst 2, 1) := by decide +kernel
theorem dL_law_1812 : decode cL_law 1812 = .ok (.iadd, 1) := by decide +kernel
theorem dL_law_1813 : decode cL_law 1813 = .ok (.iaload, 1) := by decide +kernel
theorem dL_law_1814 : decode cL_law 1814 = .ok (.aload_n 0, 1) := by decide +kernel
theorem dL_law_1815 : decode cL_law 1815 = .ok (.iload 4, 2) := by decide +kernel
theorem dL_law_1817 : decode cL_law 1817 = .ok (.iconst 3, 1) := by decide +kernel
theorem dL_law_1818 : decode cL_law 1818 = .ok (.iadd, 1) := by decide +kernel
theorem dL_law_1819 : decode cL_law 1819 = .ok (.iaload, 1) := by decide +kernel
theorem dL_law_1820 : decode cL_law 1820 = .ok (.aload_n 3, 1) := by decide +kernel
theorem dL_law_1821 : decode cL_law 1821 = .ok (.invokestatic 214, 3) := by decide +kernel
theorem dL_law_1824 : decode cL_law 1824 = .ok (.istore 5, 2) := by decide +kernel
theorem dL_law_1826 : decode cL_law 1826 = .ok (.aload_n 2, 1) := by decide +kernel
theorem dL_law_1827 : decode cL_law 1827 = .ok (.aload_n 0, 1) := by decide +kernel
theorem dL_law_1828 : decode cL_law 1828 = .ok (.iload 4, 2) := by decide +kernel
theorem dL_law_1830 : decode cL_law 1830 = .ok (.iconst 1, 1) := by decide +kernel
theorem dL_law_1831 : decode cL_law 1831 = .ok (.iadd, 1) := by decide +kernel
theorem dL_law_1832 : decode cL_law 1832 = .ok (.iaload, 1) := by decide +kernel
theorem dL_law_1833 : decode cL_law 1833 = .ok (.aload_n 0, 1) := by decide +kernel
theorem dL_law_1834 : decode cL_law 1834 = .ok (.iload 4, 2) := by decide +kernel
theorem dL_law_1836 : decode cL_law 1836 = .ok (.iconst 2, 1) := by decide +kernel
theorem dL_law_1837 : decode cL_law 1837 = .ok (.iadd, 1) := by decide +kernel
theorem dL_law_1838 : decode cL_law 1838 = .ok (.iaload, 1) := by decide +kernel
theorem dL_law_1839 : decode cL_law 1839 = .ok (.aload_n 0, 1) := by decide +kernel
theorem dL_law_1840 : decode cL_law 1840 = .ok (.iload 4, 2) := by decide +kernel
theorem dL_law_1842 : decode cL_law 1842 = .ok (.iconst 3, 1) := by decide +kernel
theorem dL_law_1843 : decode cL_law 1843 = .ok (.iadd, 1) := by decide +kernel
theorem dL_law_1844 : decode cL_law 1844 = .ok (.iaload, 1) := by decide +kernel
theorem dL_law_1845 : decode cL_law 1845 = .ok (.invokevirtual 216, 3) := by decide +kernel
theorem dL_law_1848 : decode cL_law 1848 = .ok (.istore 6, 2) := by decide +kernel
theorem dL_law_1850 : decode cL_law 1850 = .ok (.aload_n 2, 1) := by decide +kernel
theorem dL_law_1851 : decode cL_law 1851 = .ok (.invokevirtual 136, 3) := by decide +kernel
theorem dL_law_1854 : decode cL_law 1854 = .ok (.iload 5, 2) := by decide +kernel
theorem dL_law_1856 : decode cL_law 1856 = .ok (.if_icmp .eq 5, 3) := by decide +kernel
theorem dL_law_1861 : decode cL_law 1861 = .ok (.iload 5, 2) := by decide +kernel
theorem dL_law_1863 : decode cL_law 1863 = .ok (.ifCond .ne 15, 3) := by decide +kernel
theorem dL_law_1866 : decode cL_law 1866 = .ok (.aload_n 3, 1) := by decide +kernel
theorem dL_law_1867 : decode cL_law 1867 = .ok (.iconst 0, 1) := by decide +kernel
theorem dL_law_1868 : decode cL_law 1868 = .ok (.laload, 1) := by decide +kernel
theorem dL_law_1869 : decode cL_law 1869 = .ok (.iload 6, 2) := by decide +kernel
theorem dL_law_1871 : decode cL_law 1871 = .ok (.i2l, 1) := by decide +kernel
theorem dL_law_1872 : decode cL_law 1872 = .ok (.lcmp, 1) := by decide +kernel
theorem dL_law_1873 : decode cL_law 1873 = .ok (.ifCond .eq 5, 3) := by decide +kernel
theorem dL_law_1878 : decode cL_law 1878 = .ok (.goto 571, 3) := by decide +kernel
abbrev M_L_nearest : MRec := (yL_nearest, cL_nearest, 6, (some Jvm.ClassFile.FieldType.int), [((0 : Nat), (12 : Nat), (15 : Nat), (19 : Nat))])
theorem m_L_nearest : en_M M_L_nearest 5 := ⟨t_2256, t_0, ⟨by decide +kernel, by decide +kernel⟩, by decide +kernel, by decide +kernel, by decide +kernel⟩
abbrev M_X11_nearest : MRec := (yX11_nearest, cX11_nearest, 6, (some Jvm.ClassFile.FieldType.int), [])
theorem m_X11_nearest : en_M M_X11_nearest 3 := ⟨t_2260, t_1, ⟨by decide +kernel, by decide +kernel⟩, by decide +kernel, by decide +kernel, by decide +kernel⟩
abbrev M_X12_nearest : MRec := (yX12_nearest, cX12_nearest, 19, (some Jvm.ClassFile.FieldType.int), [])
theorem m_X12_nearest : en_M M_X12_nearest 3 := ⟨t_3140, t_14, ⟨by decide +kernel, by decide +kernel⟩, by decide +kernel, by decide +kernel, by decide +kernel⟩
abbrev M_X11_isBeyond : MRec := (yX11_isBeyond, cX11_isBeyond, 2, (some Jvm.ClassFile.FieldType.boolean), [])
theorem m_X11_isBeyond : en_M M_X11_isBeyond 2 := ⟨t_1387, t_1, ⟨by decide +kernel, by decide +kernel⟩, by decide +kernel, by decide +kernel, by decide +kernel⟩
abbrev M_X12_isFar : MRec := (yX12_isFar, cX12_isFar, 2, (some Jvm.ClassFile.FieldType.boolean), [])
theorem m_X12_isFar : en_M M_X12_isFar 1 := ⟨t_3135, t_14, ⟨by decide +kernel, by decide +kernel⟩, by decide +kernel, by decide +kernel, by decide +kernel⟩
abbrev M_X6_putBox : MRec := (yX6_putBox, cX6_putBox, 3, (some Jvm.ClassFile.FieldType.boolean), [])
theorem m_X6_putBox : en_M M_X6_putBox 1 := ⟨t_2239, t_2, ⟨by decide +kernel, by decide +kernel⟩, by decide +kernel, by decide +kernel, by decide +kernel⟩
abbrev M_X12_box : MRec := (yX12_box, cX12_box, 3, (some Jvm.ClassFile.FieldType.boolean), [])
theorem m_X12_box : en_M M_X12_box 1 := ⟨t_3127, t_14, ⟨by decide +kernel, by decide +kernel⟩, by decide +kernel, by decide +kernel, by decide +kernel⟩
set_option maxRecDepth 10000 in
theorem q5281 {l : Launch} {E : EE} (hl : l.stackTraces = false) {h : HP} {a0 : Int32} {a1 : Int32} {a2 : Int32} (c0 : a2.toInt < 1) : en_C l E M_X11_nearest 6 1 6 [.ref 32, .int a0, .int a1, .int a2] h (pT "java/lang/IllegalArgumentException" [] h (fun _ => True)) := by
  refine en_mk m_X11_nearest rfl hl (Nat.le_of_ble_eq_true rfl) ?_
  refine x_iload_n (M := M_X11_nearest) dX11_nearest_0 rfl ?_
  refine x_iconst (M := M_X11_nearest) dX11_nearest_1 ?_
  refine x_icmp_lt (M := M_X11_nearest) (tgt := 31) dX11_nearest_2 (by decide) (fun _ => ?_) (fun q => absurd ((bi_lt rfl (by decide +kernel)).mpr (by omega : (a2.toInt < 1 : Prop))) q)
  exact x_throw (M := M_X11_nearest) (names := en_nm) rfl dX11_nearest_31 dX11_nearest_34 dX11_nearest_35 dX11_nearest_38 (by decide +kernel) en_nm_ok (Or.inl t_721) (Or.inl t_19) (at_X11_IllegalArgumentException_118) (Nat.le_of_ble_eq_true rfl) (Nat.le_of_ble_eq_true rfl) (Nat.le_of_ble_eq_true rfl) (Nat.le_of_ble_eq_true rfl) (fun n9 => ⟨rfl, (fr_tr (fr_app (List.replicate n9 none)) (fun _ h => nomatch h) fr_rf), trivial⟩)
set_option maxRecDepth 10000 in
theorem q5286 {l : Launch} {E : EE} (hl : l.stackTraces = false) {h : HP} {a0 : Int32} {a1 : Int32} {a2 : Int32} (c0 : a2.toInt < 1) (o5282 : ob h 32 = some (.inr (14, [.ref 33, .ref 162, .ref 166, .int (0 : Int32), .int (0 : Int32), .int (0 : Int32), .ref 167, .ref 170, .ref 173, .ref 177, .ref 193, .ref 208, .ref 222, .ref 238, .ref 252, .ref 274, .ref 275, .ref 276, .int (0 : Int32)]))) : en_C l E M_L_nearest 7 1 6 [.ref 32, .int a0, .int a1, .int a2, .ref 359] h (pF (some (.int (Int32.ofInt 1))) [] h (fun _ => True)) := by
  refine en_mkW m_L_nearest rfl hl (Nat.le_of_ble_eq_true rfl) ?_
  refine x_aload (M := M_L_nearest) dL_nearest_0 rfl ?_
  refine x_iconst (M := M_L_nearest) dL_nearest_2 ?_
  refine x_aload_n (M := M_L_nearest) dL_nearest_3 rfl ?_
  refine x_iload_n (M := M_L_nearest) dL_nearest_4 rfl ?_
  refine x_iload_n (M := M_L_nearest) dL_nearest_5 rfl ?_
  refine x_iload_n (M := M_L_nearest) dL_nearest_6 rfl ?_
  refine y_callVHX (M := M_L_nearest) (M' := M_X11_nearest) (i9 := 5) (nx := 17) rfl dL_nearest_7 m_X11_nearest t_2257 t_2258 t_2259 o5282 rfl (q5281 hl c0) rfl rfl (Nat.le_of_ble_eq_true rfl) (Nat.le_of_ble_eq_true rfl) (Nat.le_of_ble_eq_true rfl) (Nat.le_of_ble_eq_true rfl) (en_hdm (k0 := 5) [] [] rfl (fun _ h => nomatch h) (by decide +kernel) (by decide) t_716 n_723 dL_nearest_15) (by decide) rfl (fun h5283 f5284 w5285 => ?_)
  refine x_iconst (M := M_L_nearest) dL_nearest_17 ?_
  exact x_iret (M := M_L_nearest) dL_nearest_18 rfl ⟨rfl, (fr_tr f5284 (fun _ h => nomatch h) fr_rf), trivial⟩ (Nat.le_of_ble_eq_true rfl) (Nat.le_of_ble_eq_true rfl)
set_option maxRecDepth 10000 in
theorem q5295 {l : Launch} {E : EE} (hl : l.stackTraces = false) {h : HP} {a2 : Int32} (c0 : a2.toInt < 1) : en_C l E M_X12_in 0 0 0 [.long (a2.toInt64), .long (Int64.ofInt 1), .long (Int64.ofInt 32)] h (pR (some (.int (Int32.ofInt 0))) h) := by
  refine en_mk m_X12_in rfl hl (Nat.le_of_ble_eq_true rfl) ?_
  refine x_lload_n (M := M_X12_in) dX12_in_0 rfl ?_
  refine x_lload_n (M := M_X12_in) dX12_in_1 rfl ?_
  refine x_lcmp (M := M_X12_in) dX12_in_2 ?_
  refine x_if_lt (M := M_X12_in) (tgt := 17) dX12_in_3 (by decide) (fun _ => ?_) (fun q => absurd ((bc_lt (i_i2l rfl) (by decide +kernel)).mpr (by omega : (a2.toInt < 1 : Prop))) q)
  refine x_iconst (M := M_X12_in) dX12_in_17 ?_
  exact x_zret (M := M_X12_in) dX12_in_18 rfl (by decide) ⟨rfl, rfl⟩ (Nat.le_of_ble_eq_true rfl) (Nat.le_of_ble_eq_true rfl)
set_option maxRecDepth 10000 in
theorem q5300 {l : Launch} {E : EE} (hl : l.stackTraces = false) {h : HP} {a0 : Int32} {a1 : Int32} {a2 : Int32} {dg : Int32} (c0 : a2.toInt < 1) (o5291 : ob h 277 = some (.inr (15, (RB dg)))) : en_C l E M_X12_nearest 1 0 0 [.ref 277, .int a0, .int a1, .int a2] h (pF (some (.int (Int32.ofInt 0))) [277] h (fun h' => ob h' 277 = some (.inr (15, ((RB dg).set 0 (.int (Int32.ofInt 1))))) ∧ True)) := by
  refine en_mk m_X12_nearest rfl hl (Nat.le_of_ble_eq_true rfl) ?_
  refine x_aload_n (M := M_X12_nearest) dX12_nearest_0 rfl ?_
  refine x_iconst (M := M_X12_nearest) dX12_nearest_1 ?_
  refine y_put (M := M_X12_nearest) (ci := 15) (C := RX12) (T := TX12) (N := 135) (ty := tyX12) cl15 dX12_nearest_2 o5291 0 (by decide) t_2391 (Or.inl rfl) (Nat.le_of_ble_eq_true rfl) rfl (fun h5292 w5293 f5294 => ?_)
  refine x_aload_n (M := M_X12_nearest) dX12_nearest_5 rfl ?_
  refine x_iload_n (M := M_X12_nearest) dX12_nearest_6 rfl ?_
  refine x_i2l (M := M_X12_nearest) dX12_nearest_7 ?_
  refine x_lconst (M := M_X12_nearest) dX12_nearest_8 ?_
  refine x_ldc2 (M := M_X12_nearest) dX12_nearest_9 t_3141 ?_
  refine x_norm (M := M_X12_nearest) (st' := [.long (Int64.ofInt 32), .long (Int64.ofInt 1), .long (a2.toInt64), .ref 277]) rfl (vj_cons (by decide +kernel : (32 : Int64) = (Int64.ofInt 32)) (vj_cons (by decide +kernel : (Int64.ofNat ((1 : Fin 2) : Nat)) = (Int64.ofInt 1)) rfl)) rfl rfl rfl ?_
  refine x_callSR (M := M_X12_nearest) (M' := M_X12_in) rfl rfl dX12_nearest_12 m_X12_in t_2818 t_2819 (q5295 hl c0) rfl rfl (Nat.le_of_ble_eq_true rfl) (Nat.le_of_ble_eq_true rfl) (Nat.le_of_ble_eq_true rfl) (Nat.le_of_ble_eq_true rfl) ?_
  refine x_if_eq (M := M_X12_nearest) (tgt := 34) dX12_nearest_15 (by decide) (fun _ => ?_) (fun q => absurd q (by decide +kernel))
  refine x_iconst (M := M_X12_nearest) dX12_nearest_34 ?_
  refine x_goto (M := M_X12_nearest) (tgt := 39) dX12_nearest_35 (by decide) ?_
  refine x_iconst (M := M_X12_nearest) dX12_nearest_39 ?_
  refine y_callVR (M := M_X12_nearest) (M' := M_X12_fails) rfl rfl dX12_nearest_40 m_X12_fails t_2805 t_2807 s_157 (q22 hl w5293) rfl rfl w5293 rfl (Nat.le_of_ble_eq_true rfl) (Nat.le_of_ble_eq_true rfl) (Nat.le_of_ble_eq_true rfl) (Nat.le_of_ble_eq_true rfl) (fun h5296 f5297 w5298 => ?_)
  obtain ⟨o5299, -⟩ := w5298
  refine x_if_eq (M := M_X12_nearest) (tgt := 48) dX12_nearest_43 (by decide) (fun q => absurd q (by decide +kernel)) (fun _ => ?_)
  refine x_iconst (M := M_X12_nearest) dX12_nearest_46 ?_
  exact x_iret (M := M_X12_nearest) dX12_nearest_47 rfl ⟨rfl, (fr_tr f5297 (by decide) (fr_tr f5294 (by decide) fr_rf)), ⟨o5299, trivial⟩⟩ (Nat.le_of_ble_eq_true rfl) (Nat.le_of_ble_eq_true rfl)
set_option maxRecDepth 10000 in
theorem lc24_0 {l : Launch} {E : EE} (hl : l.stackTraces = false) (nm : String) {xs : Nat → Int32} (hx : E.2.2.2.2 0 = some (7, xs)) {h : HP} {a0 : Int32} {a1 : Int32} {a2 : Int32} {dg : Int32} (e2 : xs 2 = a0) (e3 : xs 3 = a1) (e4 : xs 4 = a2) (c0 : a2.toInt < 1) (o5287 : ob h 32 = some (.inr (14, [.ref 33, .ref 162, .ref 166, .int (0 : Int32), .int (0 : Int32), .int (0 : Int32), .ref 167, .ref 170, .ref 173, .ref 177, .ref 193, .ref 208, .ref 222, .ref 238, .ref 252, .ref 274, .ref 275, .ref 276, .int (0 : Int32)]))) (o5301 : ob h 277 = some (.inr (15, (RB dg)))) : XX l E (M_law nm) 1312 342628 8074320 (fun o _ => o = .inl (some (.int 1))) 1801 [some (.ref 0), some (.ref 32), some (.ref 277), some (.ref 359), some (.int (Int32.ofInt 1)), none, none, none] [] h 328 2463747 := by
  refine x_aload_n (M := (M_law nm)) dL_law_1801 rfl ?_
  refine x_aload_n (M := (M_law nm)) dL_law_1802 rfl ?_
  refine x_iload (M := (M_law nm)) dL_law_1803 rfl ?_
  refine x_iconst (M := (M_law nm)) dL_law_1805 ?_
  refine x_iadd (M := (M_law nm)) dL_law_1806 ?_
  refine x_sald (M := (M_law nm)) dL_law_1807 (by decide) hx (vp_inD (by decide +kernel)) ?_
  refine x_top (M := (M_law nm)) (y := a0) ((congrArg xs (by decide +kernel : ((Int32.ofInt 1) + (Int32.ofInt 1)).toNatClampNeg = 2)).trans e2) ?_
  refine x_aload_n (M := (M_law nm)) dL_law_1808 rfl ?_
  refine x_iload (M := (M_law nm)) dL_law_1809 rfl ?_
  refine x_iconst (M := (M_law nm)) dL_law_1811 ?_
  refine x_iadd (M := (M_law nm)) dL_law_1812 ?_
  refine x_sald (M := (M_law nm)) dL_law_1813 (by decide) hx (vp_inD (by decide +kernel)) ?_
  refine x_top (M := (M_law nm)) (y := a1) ((congrArg xs (by decide +kernel : ((Int32.ofInt 1) + (Int32.ofInt 2)).toNatClampNeg = 3)).trans e3) ?_
  refine x_aload_n (M := (M_law nm)) dL_law_1814 rfl ?_
  refine x_iload (M := (M_law nm)) dL_law_1815 rfl ?_
  refine x_iconst (M := (M_law nm)) dL_law_1817 ?_
  refine x_iadd (M := (M_law nm)) dL_law_1818 ?_
  refine x_sald (M := (M_law nm)) dL_law_1819 (by decide) hx (vp_inD (by decide +kernel)) ?_
  refine x_top (M := (M_law nm)) (y := a2) ((congrArg xs (by decide +kernel : ((Int32.ofInt 1) + (Int32.ofInt 3)).toNatClampNeg = 4)).trans e4) ?_
  refine x_aload_n (M := (M_law nm)) dL_law_1820 rfl ?_
  refine y_callSW (M := (M_law nm)) (M' := M_L_nearest) rfl rfl dL_law_1821 m_L_nearest t_2254 t_2255 (q5286 hl c0 o5287) rfl rfl (Nat.le_of_ble_eq_true rfl) (Nat.le_of_ble_eq_true rfl) (Nat.le_of_ble_eq_true rfl) (Nat.le_of_ble_eq_true rfl) (fun h5288 f5289 w5290 => ?_)
  refine x_istore (M := (M_law nm)) dL_law_1824 (Nat.le_of_ble_eq_true rfl) rfl ?_
  refine x_aload_n (M := (M_law nm)) dL_law_1826 rfl ?_
  refine x_aload_n (M := (M_law nm)) dL_law_1827 rfl ?_
  refine x_iload (M := (M_law nm)) dL_law_1828 rfl ?_
  refine x_iconst (M := (M_law nm)) dL_law_1830 ?_
  refine x_iadd (M := (M_law nm)) dL_law_1831 ?_
  refine x_sald (M := (M_law nm)) dL_law_1832 (by decide) hx (vp_inD (by decide +kernel)) ?_
  refine x_top (M := (M_law nm)) (y := a0) ((congrArg xs (by decide +kernel : ((Int32.ofInt 1) + (Int32.ofInt 1)).toNatClampNeg = 2)).trans e2) ?_
  refine x_aload_n (M := (M_law nm)) dL_law_1833 rfl ?_
  refine x_iload (M := (M_law nm)) dL_law_1834 rfl ?_
  refine x_iconst (M := (M_law nm)) dL_law_1836 ?_
  refine x_iadd (M := (M_law nm)) dL_law_1837 ?_
  refine x_sald (M := (M_law nm)) dL_law_1838 (by decide) hx (vp_inD (by decide +kernel)) ?_
  refine x_top (M := (M_law nm)) (y := a1) ((congrArg xs (by decide +kernel : ((Int32.ofInt 1) + (Int32.ofInt 2)).toNatClampNeg = 3)).trans e3) ?_
  refine x_aload_n (M := (M_law nm)) dL_law_1839 rfl ?_
  refine x_iload (M := (M_law nm)) dL_law_1840 rfl ?_
  refine x_iconst (M := (M_law nm)) dL_law_1842 ?_
  refine x_iadd (M := (M_law nm)) dL_law_1843 ?_
  refine x_sald (M := (M_law nm)) dL_law_1844 (by decide) hx (vp_inD (by decide +kernel)) ?_
  refine x_top (M := (M_law nm)) (y := a2) ((congrArg xs (by decide +kernel : ((Int32.ofInt 1) + (Int32.ofInt 3)).toNatClampNeg = 4)).trans e4) ?_
  have o5302 := (f5289 277 _ (by decide) o5301)
  refine y_callVR (M := (M_law nm)) (M' := M_X12_nearest) rfl rfl dL_law_1845 m_X12_nearest t_3137 t_3138 t_3139 (q5300 hl c0 o5302) rfl rfl o5302 rfl (Nat.le_of_ble_eq_true rfl) (Nat.le_of_ble_eq_true rfl) (Nat.le_of_ble_eq_true rfl) (Nat.le_of_ble_eq_true rfl) (fun h5303 f5304 w5305 => ?_)
  obtain ⟨o5306, -⟩ := w5305
  refine x_istore (M := (M_law nm)) dL_law_1848 (Nat.le_of_ble_eq_true rfl) rfl ?_
  refine x_aload_n (M := (M_law nm)) dL_law_1850 rfl ?_
  refine x_callVR (M := (M_law nm)) (M' := M_X12_thrown) rfl rfl dL_law_1851 m_X12_thrown t_2797 t_2798 t_2799 (q35 hl o5306) rfl rfl o5306 rfl (Nat.le_of_ble_eq_true rfl) (Nat.le_of_ble_eq_true rfl) (Nat.le_of_ble_eq_true rfl) (Nat.le_of_ble_eq_true rfl) ?_
  refine x_iload (M := (M_law nm)) dL_law_1854 rfl ?_
  refine x_icmp_eq (M := (M_law nm)) (tgt := 1861) dL_law_1856 (by decide) (fun _ => ?_) (fun q => absurd q (by decide +kernel))
  refine x_iload (M := (M_law nm)) dL_law_1861 rfl ?_
  refine x_if_ne (M := (M_law nm)) (tgt := 1878) dL_law_1863 (by decide) (fun _ => ?_) (fun q => absurd q (by decide +kernel))
  refine x_goto (M := (M_law nm)) (tgt := 2449) dL_law_1878 (by decide) ?_
  refine x_iinc (M := (M_law nm)) dL_law_2449 rfl (Nat.le_of_ble_eq_true rfl) rfl ?_
  refine x_lvs (M := (M_law nm)) (lv' := [some (.ref 0), some (.ref 32), some (.ref 277), some (.ref 359), some (.int (Int32.ofInt 7)), some (.int (Int32.ofInt 1)), some (.int (Int32.ofInt 0)), none]) (by rw [(by decide +kernel : (Int32.ofInt 1) + Int32.ofInt 6 = (Int32.ofInt 7))] <;> rfl) ?_
  refine x_goto (M := (M_law nm)) (tgt := 33) dL_law_2452 (by decide) ?_
  refine x_iload (M := (M_law nm)) dL_law_33 rfl ?_
  refine x_aload_n (M := (M_law nm)) dL_law_35 rfl ?_
  refine x_slen (M := (M_law nm)) dL_law_36 (by decide) hx ?_
  refine x_bipush (M := (M_law nm)) dL_law_37 ?_
  refine x_isub (M := (M_law nm)) dL_law_39 ?_
  refine x_icmp_gt (M := (M_law nm)) (tgt := 2455) dL_law_40 (by decide) (fun _ => ?_) (fun q => absurd q (by decide +kernel))
  refine x_iconst (M := (M_law nm)) dL_law_2455 ?_
  exact x_zret (M := (M_law nm)) dL_law_2456 rfl (by decide) rfl (Nat.le_of_ble_eq_true rfl) (Nat.le_of_ble_eq_true rfl)
set_option maxRecDepth 10000 in
theorem q5308 {l : Launch} {E : EE} (hl : l.stackTraces = false) {h : HP} {a0 : Int32} {a1 : Int32} {a2 : Int32} (c0 : ¬ (a2.toInt < 1)) (c1 : 32 < a2.toInt) : en_C l E M_X11_nearest 6 1 6 [.ref 32, .int a0, .int a1, .int a2] h (pT "java/lang/IllegalArgumentException" [] h (fun _ => True)) := by
  refine en_mk m_X11_nearest rfl hl (Nat.le_of_ble_eq_true rfl) ?_
  refine x_iload_n (M := M_X11_nearest) dX11_nearest_0 rfl ?_
  refine x_iconst (M := M_X11_nearest) dX11_nearest_1 ?_
  refine x_icmp_lt (M := M_X11_nearest) (tgt := 31) dX11_nearest_2 (by decide) (fun q => absurd ((bi_lt rfl (by decide +kernel)).mp q) (by omega : ¬ (a2.toInt < 1))) (fun _ => ?_)
  refine x_iload_n (M := M_X11_nearest) dX11_nearest_5 rfl ?_
  refine x_bipush (M := M_X11_nearest) dX11_nearest_6 ?_
  refine x_icmp_gt (M := M_X11_nearest) (tgt := 31) dX11_nearest_8 (by decide) (fun _ => ?_) (fun q => absurd ((bi_lt (by decide +kernel) rfl).mpr (by omega : (32 < a2.toInt : Prop))) q)
  exact x_throw (M := M_X11_nearest) (names := en_nm) rfl dX11_nearest_31 dX11_nearest_34 dX11_nearest_35 dX11_nearest_38 (by decide +kernel) en_nm_ok (Or.inl t_721) (Or.inl t_19) (at_X11_IllegalArgumentException_118) (Nat.le_of_ble_eq_true rfl) (Nat.le_of_ble_eq_true rfl) (Nat.le_of_ble_eq_true rfl) (Nat.le_of_ble_eq_true rfl) (fun n9 => ⟨rfl, (fr_tr (fr_app (List.replicate n9 none)) (fun _ h => nomatch h) fr_rf), trivial⟩)
set_option maxRecDepth 10000 in
theorem q5313 {l : Launch} {E : EE} (hl : l.stackTraces = false) {h : HP} {a0 : Int32} {a1 : Int32} {a2 : Int32} (c0 : ¬ (a2.toInt < 1)) (c1 : 32 < a2.toInt) (o5309 : ob h 32 = some (.inr (14, [.ref 33, .ref 162, .ref 166, .int (0 : Int32), .int (0 : Int32), .int (0 : Int32), .ref 167, .ref 170, .ref 173, .ref 177, .ref 193, .ref 208, .ref 222, .ref 238, .ref 252, .ref 274, .ref 275, .ref 276, .int (0 : Int32)]))) : en_C l E M_L_nearest 7 1 6 [.ref 32, .int a0, .int a1, .int a2, .ref 359] h (pF (some (.int (Int32.ofInt 1))) [] h (fun _ => True)) := by
  refine en_mkW m_L_nearest rfl hl (Nat.le_of_ble_eq_true rfl) ?_
  refine x_aload (M := M_L_nearest) dL_nearest_0 rfl ?_
  refine x_iconst (M := M_L_nearest) dL_nearest_2 ?_
  refine x_aload_n (M := M_L_nearest) dL_nearest_3 rfl ?_
  refine x_iload_n (M := M_L_nearest) dL_nearest_4 rfl ?_
  refine x_iload_n (M := M_L_nearest) dL_nearest_5 rfl ?_
  refine x_iload_n (M := M_L_nearest) dL_nearest_6 rfl ?_
  refine y_callVHX (M := M_L_nearest) (M' := M_X11_nearest) (i9 := 5) (nx := 17) rfl dL_nearest_7 m_X11_nearest t_2257 t_2258 t_2259 o5309 rfl (q5308 hl c0 c1) rfl rfl (Nat.le_of_ble_eq_true rfl) (Nat.le_of_ble_eq_true rfl) (Nat.le_of_ble_eq_true rfl) (Nat.le_of_ble_eq_true rfl) (en_hdm (k0 := 5) [] [] rfl (fun _ h => nomatch h) (by decide +kernel) (by decide) t_716 n_723 dL_nearest_15) (by decide) rfl (fun h5310 f5311 w5312 => ?_)
  refine x_iconst (M := M_L_nearest) dL_nearest_17 ?_
  exact x_iret (M := M_L_nearest) dL_nearest_18 rfl ⟨rfl, (fr_tr f5311 (fun _ h => nomatch h) fr_rf), trivial⟩ (Nat.le_of_ble_eq_true rfl) (Nat.le_of_ble_eq_true rfl)
set_option maxRecDepth 10000 in
theorem q5322 {l : Launch} {E : EE} (hl : l.stackTraces = false) {h : HP} {a2 : Int32} (c0 : ¬ (a2.toInt < 1)) (c1 : 32 < a2.toInt) : en_C l E M_X12_in 0 0 0 [.long (a2.toInt64), .long (Int64.ofInt 1), .long (Int64.ofInt 32)] h (pR (some (.int (Int32.ofInt 0))) h) := by
  refine en_mk m_X12_in rfl hl (Nat.le_of_ble_eq_true rfl) ?_
  refine x_lload_n (M := M_X12_in) dX12_in_0 rfl ?_
  refine x_lload_n (M := M_X12_in) dX12_in_1 rfl ?_
  refine x_lcmp (M := M_X12_in) dX12_in_2 ?_
  refine x_if_lt (M := M_X12_in) (tgt := 17) dX12_in_3 (by decide) (fun q => absurd ((bc_lt (i_i2l rfl) (by decide +kernel)).mp q) (by omega : ¬ (a2.toInt < 1))) (fun _ => ?_)
  refine x_lload_n (M := M_X12_in) dX12_in_6 rfl ?_
  refine x_lload (M := M_X12_in) dX12_in_7 rfl ?_
  refine x_lcmp (M := M_X12_in) dX12_in_9 ?_
  refine x_if_gt (M := M_X12_in) (tgt := 17) dX12_in_10 (by decide) (fun _ => ?_) (fun q => absurd ((bc_gt (i_i2l rfl) (by decide +kernel)).mpr (by omega : (32 < a2.toInt : Prop))) q)
  refine x_iconst (M := M_X12_in) dX12_in_17 ?_
  exact x_zret (M := M_X12_in) dX12_in_18 rfl (by decide) ⟨rfl, rfl⟩ (Nat.le_of_ble_eq_true rfl) (Nat.le_of_ble_eq_true rfl)
set_option maxRecDepth 10000 in
theorem q5327 {l : Launch} {E : EE} (hl : l.stackTraces = false) {h : HP} {a0 : Int32} {a1 : Int32} {a2 : Int32} {dg : Int32} (c0 : ¬ (a2.toInt < 1)) (c1 : 32 < a2.toInt) (o5318 : ob h 277 = some (.inr (15, (RB dg)))) : en_C l E M_X12_nearest 1 0 0 [.ref 277, .int a0, .int a1, .int a2] h (pF (some (.int (Int32.ofInt 0))) [277] h (fun h' => ob h' 277 = some (.inr (15, ((RB dg).set 0 (.int (Int32.ofInt 1))))) ∧ True)) := by
  refine en_mk m_X12_nearest rfl hl (Nat.le_of_ble_eq_true rfl) ?_
  refine x_aload_n (M := M_X12_nearest) dX12_nearest_0 rfl ?_
  refine x_iconst (M := M_X12_nearest) dX12_nearest_1 ?_
  refine y_put (M := M_X12_nearest) (ci := 15) (C := RX12) (T := TX12) (N := 135) (ty := tyX12) cl15 dX12_nearest_2 o5318 0 (by decide) t_2391 (Or.inl rfl) (Nat.le_of_ble_eq_true rfl) rfl (fun h5319 w5320 f5321 => ?_)
  refine x_aload_n (M := M_X12_nearest) dX12_nearest_5 rfl ?_
  refine x_iload_n (M := M_X12_nearest) dX12_nearest_6 rfl ?_
  refine x_i2l (M := M_X12_nearest) dX12_nearest_7 ?_
  refine x_lconst (M := M_X12_nearest) dX12_nearest_8 ?_
  refine x_ldc2 (M := M_X12_nearest) dX12_nearest_9 t_3141 ?_
  refine x_norm (M := M_X12_nearest) (st' := [.long (Int64.ofInt 32), .long (Int64.ofInt 1), .long (a2.toInt64), .ref 277]) rfl (vj_cons (by decide +kernel : (32 : Int64) = (Int64.ofInt 32)) (vj_cons (by decide +kernel : (Int64.ofNat ((1 : Fin 2) : Nat)) = (Int64.ofInt 1)) rfl)) rfl rfl rfl ?_
  refine x_callSR (M := M_X12_nearest) (M' := M_X12_in) rfl rfl dX12_nearest_12 m_X12_in t_2818 t_2819 (q5322 hl c0 c1) rfl rfl (Nat.le_of_ble_eq_true rfl) (Nat.le_of_ble_eq_true rfl) (Nat.le_of_ble_eq_true rfl) (Nat.le_of_ble_eq_true rfl) ?_
  refine x_if_eq (M := M_X12_nearest) (tgt := 34) dX12_nearest_15 (by decide) (fun _ => ?_) (fun q => absurd q (by decide +kernel))
  refine x_iconst (M := M_X12_nearest) dX12_nearest_34 ?_
  refine x_goto (M := M_X12_nearest) (tgt := 39) dX12_nearest_35 (by decide) ?_
  refine x_iconst (M := M_X12_nearest) dX12_nearest_39 ?_
  refine y_callVR (M := M_X12_nearest) (M' := M_X12_fails) rfl rfl dX12_nearest_40 m_X12_fails t_2805 t_2807 s_157 (q22 hl w5320) rfl rfl w5320 rfl (Nat.le_of_ble_eq_true rfl) (Nat.le_of_ble_eq_true rfl) (Nat.le_of_ble_eq_true rfl) (Nat.le_of_ble_eq_true rfl) (fun h5323 f5324 w5325 => ?_)
  obtain ⟨o5326, -⟩ := w5325
  refine x_if_eq (M := M_X12_nearest) (tgt := 48) dX12_nearest_43 (by decide) (fun q => absurd q (by decide +kernel)) (fun _ => ?_)
  refine x_iconst (M := M_X12_nearest) dX12_nearest_46 ?_
  exact x_iret (M := M_X12_nearest) dX12_nearest_47 rfl ⟨rfl, (fr_tr f5324 (by decide) (fr_tr f5321 (by decide) fr_rf)), ⟨o5326, trivial⟩⟩ (Nat.le_of_ble_eq_true rfl) (Nat.le_of_ble_eq_true rfl)
set_option maxRecDepth 10000 in
theorem lc24_1 {l : Launch} {E : EE} (hl : l.stackTraces = false) (nm : String) {xs : Nat → Int32} (hx : E.2.2.2.2 0 = some (7, xs)) {h : HP} {a0 : Int32} {a1 : Int32} {a2 : Int32} {dg : Int32} (e2 : xs 2 = a0) (e3 : xs 3 = a1) (e4 : xs 4 = a2) (c0 : ¬ (a2.toInt < 1)) (c1 : 32 < a2.toInt) (o5314 : ob h 32 = some (.inr (14, [.ref 33, .ref 162, .ref 166, .int (0 : Int32), .int (0 : Int32), .int (0 : Int32), .ref 167, .ref 170, .ref 173, .ref 177, .ref 193, .ref 208, .ref 222, .ref 238, .ref 252, .ref 274, .ref 275, .ref 276, .int (0 : Int32)]))) (o5328 : ob h 277 = some (.inr (15, (RB dg)))) : XX l E (M_law nm) 1312 342628 8074320 (fun o _ => o = .inl (some (.int 1))) 1801 [some (.ref 0), some (.ref 32), some (.ref 277), some (.ref 359), some (.int (Int32.ofInt 1)), none, none, none] [] h 328 2463747 := by
  refine x_aload_n (M := (M_law nm)) dL_law_1801 rfl ?_
  refine x_aload_n (M := (M_law nm)) dL_law_1802 rfl ?_
  refine x_iload (M := (M_law nm)) dL_law_1803 rfl ?_
  refine x_iconst (M := (M_law nm)) dL_law_1805 ?_
  refine x_iadd (M := (M_law nm)) dL_law_1806 ?_
  refine x_sald (M := (M_law nm)) dL_law_1807 (by decide) hx (vp_inD (by decide +kernel)) ?_
  refine x_top (M := (M_law nm)) (y := a0) ((congrArg xs (by decide +kernel : ((Int32.ofInt 1) + (Int32.ofInt 1)).toNatClampNeg = 2)).trans e2) ?_
  refine x_aload_n (M := (M_law nm)) dL_law_1808 rfl ?_
  refine x_iload (M := (M_law nm)) dL_law_1809 rfl ?_
  refine x_iconst (M := (M_law nm)) dL_law_1811 ?_
  refine x_iadd (M := (M_law nm)) dL_law_1812 ?_
  refine x_sald (M := (M_law nm)) dL_law_1813 (by decide) hx (vp_inD (by decide +kernel)) ?_
  refine x_top (M := (M_law nm)) (y := a1) ((congrArg xs (by decide +kernel : ((Int32.ofInt 1) + (Int32.ofInt 2)).toNatClampNeg = 3)).trans e3) ?_
  refine x_aload_n (M := (M_law nm)) dL_law_1814 rfl ?_
  refine x_iload (M := (M_law nm)) dL_law_1815 rfl ?_
  refine x_iconst (M := (M_law nm)) dL_law_1817 ?_
  refine x_iadd (M := (M_law nm)) dL_law_1818 ?_
  refine x_sald (M := (M_law nm)) dL_law_1819 (by decide) hx (vp_inD (by decide +kernel)) ?_
  refine x_top (M := (M_law nm)) (y := a2) ((congrArg xs (by decide +kernel : ((Int32.ofInt 1) + (Int32.ofInt 3)).toNatClampNeg = 4)).trans e4) ?_
  refine x_aload_n (M := (M_law nm)) dL_law_1820 rfl ?_
  refine y_callSW (M := (M_law nm)) (M' := M_L_nearest) rfl rfl dL_law_1821 m_L_nearest t_2254 t_2255 (q5313 hl c0 c1 o5314) rfl rfl (Nat.le_of_ble_eq_true rfl) (Nat.le_of_ble_eq_true rfl) (Nat.le_of_ble_eq_true rfl) (Nat.le_of_ble_eq_true rfl) (fun h5315 f5316 w5317 => ?_)
  refine x_istore (M := (M_law nm)) dL_law_1824 (Nat.le_of_ble_eq_true rfl) rfl ?_
  refine x_aload_n (M := (M_law nm)) dL_law_1826 rfl ?_
  refine x_aload_n (M := (M_law nm)) dL_law_1827 rfl ?_
  refine x_iload (M := (M_law nm)) dL_law_1828 rfl ?_
  refine x_iconst (M := (M_law nm)) dL_law_1830 ?_
  refine x_iadd (M := (M_law nm)) dL_law_1831 ?_
  refine x_sald (M := (M_law nm)) dL_law_1832 (by decide) hx (vp_inD (by decide +kernel)) ?_
  refine x_top (M := (M_law nm)) (y := a0) ((congrArg xs (by decide +kernel : ((Int32.ofInt 1) + (Int32.ofInt 1)).toNatClampNeg = 2)).trans e2) ?_
  refine x_aload_n (M := (M_law nm)) dL_law_1833 rfl ?_
  refine x_iload (M := (M_law nm)) dL_law_1834 rfl ?_
  refine x_iconst (M := (M_law nm)) dL_law_1836 ?_
  refine x_iadd (M := (M_law nm)) dL_law_1837 ?_
  refine x_sald (M := (M_law nm)) dL_law_1838 (by decide) hx (vp_inD (by decide +kernel)) ?_
  refine x_top (M := (M_law nm)) (y := a1) ((congrArg xs (by decide +kernel : ((Int32.ofInt 1) + (Int32.ofInt 2)).toNatClampNeg = 3)).trans e3) ?_
  refine x_aload_n (M := (M_law nm)) dL_law_1839 rfl ?_
  refine x_iload (M := (M_law nm)) dL_law_1840 rfl ?_
  refine x_iconst (M := (M_law nm)) dL_law_1842 ?_
  refine x_iadd (M := (M_law nm)) dL_law_1843 ?_
  refine x_sald (M := (M_law nm)) dL_law_1844 (by decide) hx (vp_inD (by decide +kernel)) ?_
  refine x_top (M := (M_law nm)) (y := a2) ((congrArg xs (by decide +kernel : ((Int32.ofInt 1) + (Int32.ofInt 3)).toNatClampNeg = 4)).trans e4) ?_
  have o5329 := (f5316 277 _ (by decide) o5328)
  refine y_callVR (M := (M_law nm)) (M' := M_X12_nearest) rfl rfl dL_law_1845 m_X12_nearest t_3137 t_3138 t_3139 (q5327 hl c0 c1 o5329) rfl rfl o5329 rfl (Nat.le_of_ble_eq_true rfl) (Nat.le_of_ble_eq_true rfl) (Nat.le_of_ble_eq_true rfl) (Nat.le_of_ble_eq_true rfl) (fun h5330 f5331 w5332 => ?_)
  obtain ⟨o5333, -⟩ := w5332
  refine x_istore (M := (M_law nm)) dL_law_1848 (Nat.le_of_ble_eq_true rfl) rfl ?_
  refine x_aload_n (M := (M_law nm)) dL_law_1850 rfl ?_
  refine x_callVR (M := (M_law nm)) (M' := M_X12_thrown) rfl rfl dL_law_1851 m_X12_thrown t_2797 t_2798 t_2799 (q35 hl o5333) rfl rfl o5333 rfl (Nat.le_of_ble_eq_true rfl) (Nat.le_of_ble_eq_true rfl) (Nat.le_of_ble_eq_true rfl) (Nat.le_of_ble_eq_true rfl) ?_
  refine x_iload (M := (M_law nm)) dL_law_1854 rfl ?_
  refine x_icmp_eq (M := (M_law nm)) (tgt := 1861) dL_law_1856 (by decide) (fun _ => ?_) (fun q => absurd q (by decide +kernel))
  refine x_iload (M := (M_law nm)) dL_law_1861 rfl ?_
  refine x_if_ne (M := (M_law nm)) (tgt := 1878) dL_law_1863 (by decide) (fun _ => ?_) (fun q => absurd q (by decide +kernel))
  refine x_goto (M := (M_law nm)) (tgt := 2449) dL_law_1878 (by decide) ?_
  refine x_iinc (M := (M_law nm)) dL_law_2449 rfl (Nat.le_of_ble_eq_true rfl) rfl ?_
  refine x_lvs (M := (M_law nm)) (lv' := [some (.ref 0), some (.ref 32), some (.ref 277), some (.ref 359), some (.int (Int32.ofInt 7)), some (.int (Int32.ofInt 1)), some (.int (Int32.ofInt 0)), none]) (by rw [(by decide +kernel : (Int32.ofInt 1) + Int32.ofInt 6 = (Int32.ofInt 7))] <;> rfl) ?_
  refine x_goto (M := (M_law nm)) (tgt := 33) dL_law_2452 (by decide) ?_
  refine x_iload (M := (M_law nm)) dL_law_33 rfl ?_
  refine x_aload_n (M := (M_law nm)) dL_law_35 rfl ?_
  refine x_slen (M := (M_law nm)) dL_law_36 (by decide) hx ?_
  refine x_bipush (M := (M_law nm)) dL_law_37 ?_
  refine x_isub (M := (M_law nm)) dL_law_39 ?_
  refine x_icmp_gt (M := (M_law nm)) (tgt := 2455) dL_law_40 (by decide) (fun _ => ?_) (fun q => absurd q (by decide +kernel))
  refine x_iconst (M := (M_law nm)) dL_law_2455 ?_
  exact x_zret (M := (M_law nm)) dL_law_2456 rfl (by decide) rfl (Nat.le_of_ble_eq_true rfl) (Nat.le_of_ble_eq_true rfl)
set_option maxRecDepth 10000 in
theorem q5334 {l : Launch} {E : EE} (hl : l.stackTraces = false) {h : HP} {a0 : Int32} (c0 : a0.toInt < (-1000000000)) : en_C l E M_X11_isBeyond 0 0 0 [.int a0, .int (Int32.ofInt 1000000000)] h (pR (some (.int (Int32.ofInt 1))) h) := by
  refine en_mk m_X11_isBeyond rfl hl (Nat.le_of_ble_eq_true rfl) ?_
  refine x_iload_n (M := M_X11_isBeyond) dX11_isBeyond_0 rfl ?_
  refine x_iload_n (M := M_X11_isBeyond) dX11_isBeyond_1 rfl ?_
  refine x_ineg (M := M_X11_isBeyond) dX11_isBeyond_2 ?_
  refine x_icmp_lt (M := M_X11_isBeyond) (tgt := 11) dX11_isBeyond_3 (by decide) (fun _ => ?_) (fun q => absurd ((bi_lt rfl (by decide +kernel)).mpr (by omega : (a0.toInt < (-1000000000) : Prop))) q)
  refine x_iconst (M := M_X11_isBeyond) dX11_isBeyond_11 ?_
  refine x_goto (M := M_X11_isBeyond) (tgt := 16) dX11_isBeyond_12 (by decide) ?_
  exact x_zret (M := M_X11_isBeyond) dX11_isBeyond_16 rfl (by decide) ⟨rfl, rfl⟩ (Nat.le_of_ble_eq_true rfl) (Nat.le_of_ble_eq_true rfl)
set_option maxRecDepth 10000 in
theorem q5336 {l : Launch} {E : EE} (hl : l.stackTraces = false) {h : HP} {a0 : Int32} {a1 : Int32} {a2 : Int32} (c0 : ¬ (a2.toInt < 1)) (c1 : ¬ (32 < a2.toInt)) (c2 : a0.toInt < (-1000000000)) : en_C l E M_X11_nearest 6 1 6 [.ref 32, .int a0, .int a1, .int a2] h (pT "java/lang/IllegalArgumentException" [] h (fun _ => True)) := by
  refine en_mk m_X11_nearest rfl hl (Nat.le_of_ble_eq_true rfl) ?_
  refine x_iload_n (M := M_X11_nearest) dX11_nearest_0 rfl ?_
  refine x_iconst (M := M_X11_nearest) dX11_nearest_1 ?_
  refine x_icmp_lt (M := M_X11_nearest) (tgt := 31) dX11_nearest_2 (by decide) (fun q => absurd ((bi_lt rfl (by decide +kernel)).mp q) (by omega : ¬ (a2.toInt < 1))) (fun _ => ?_)
  refine x_iload_n (M := M_X11_nearest) dX11_nearest_5 rfl ?_
  refine x_bipush (M := M_X11_nearest) dX11_nearest_6 ?_
  refine x_icmp_gt (M := M_X11_nearest) (tgt := 31) dX11_nearest_8 (by decide) (fun q => absurd ((bi_lt (by decide +kernel) rfl).mp q) (by omega : ¬ (32 < a2.toInt))) (fun _ => ?_)
  refine x_iload_n (M := M_X11_nearest) dX11_nearest_11 rfl ?_
  refine x_ldcw (M := M_X11_nearest) dX11_nearest_12 t_2191 ?_
  refine x_norm (M := M_X11_nearest) (st' := [.int (Int32.ofInt 1000000000), .int a0]) rfl (vi_cons (by decide +kernel : (1000000000 : Int32) = (Int32.ofInt 1000000000)) rfl) rfl rfl rfl ?_
  refine x_callSR (M := M_X11_nearest) (M' := M_X11_isBeyond) rfl rfl dX11_nearest_15 m_X11_isBeyond t_2073 t_1386 (q5334 hl c2) rfl rfl (Nat.le_of_ble_eq_true rfl) (Nat.le_of_ble_eq_true rfl) (Nat.le_of_ble_eq_true rfl) (Nat.le_of_ble_eq_true rfl) ?_
  refine x_if_ne (M := M_X11_nearest) (tgt := 31) dX11_nearest_18 (by decide) (fun _ => ?_) (fun q => absurd q (by decide +kernel))
  exact x_throw (M := M_X11_nearest) (names := en_nm) rfl dX11_nearest_31 dX11_nearest_34 dX11_nearest_35 dX11_nearest_38 (by decide +kernel) en_nm_ok (Or.inl t_721) (Or.inl t_19) (at_X11_IllegalArgumentException_118) (Nat.le_of_ble_eq_true rfl) (Nat.le_of_ble_eq_true rfl) (Nat.le_of_ble_eq_true rfl) (Nat.le_of_ble_eq_true rfl) (fun n9 => ⟨rfl, (fr_tr (fr_app (List.replicate n9 none)) (fun _ h => nomatch h) fr_rf), trivial⟩)
set_option maxRecDepth 10000 in
theorem q5341 {l : Launch} {E : EE} (hl : l.stackTraces = false) {h : HP} {a0 : Int32} {a1 : Int32} {a2 : Int32} (c0 : ¬ (a2.toInt < 1)) (c1 : ¬ (32 < a2.toInt)) (c2 : a0.toInt < (-1000000000)) (o5337 : ob h 32 = some (.inr (14, [.ref 33, .ref 162, .ref 166, .int (0 : Int32), .int (0 : Int32), .int (0 : Int32), .ref 167, .ref 170, .ref 173, .ref 177, .ref 193, .ref 208, .ref 222, .ref 238, .ref 252, .ref 274, .ref 275, .ref 276, .int (0 : Int32)]))) : en_C l E M_L_nearest 7 1 6 [.ref 32, .int a0, .int a1, .int a2, .ref 359] h (pF (some (.int (Int32.ofInt 1))) [] h (fun _ => True)) := by
  refine en_mkW m_L_nearest rfl hl (Nat.le_of_ble_eq_true rfl) ?_
  refine x_aload (M := M_L_nearest) dL_nearest_0 rfl ?_
  refine x_iconst (M := M_L_nearest) dL_nearest_2 ?_
  refine x_aload_n (M := M_L_nearest) dL_nearest_3 rfl ?_
  refine x_iload_n (M := M_L_nearest) dL_nearest_4 rfl ?_
  refine x_iload_n (M := M_L_nearest) dL_nearest_5 rfl ?_
  refine x_iload_n (M := M_L_nearest) dL_nearest_6 rfl ?_
  refine y_callVHX (M := M_L_nearest) (M' := M_X11_nearest) (i9 := 5) (nx := 17) rfl dL_nearest_7 m_X11_nearest t_2257 t_2258 t_2259 o5337 rfl (q5336 hl c0 c1 c2) rfl rfl (Nat.le_of_ble_eq_true rfl) (Nat.le_of_ble_eq_true rfl) (Nat.le_of_ble_eq_true rfl) (Nat.le_of_ble_eq_true rfl) (en_hdm (k0 := 5) [] [] rfl (fun _ h => nomatch h) (by decide +kernel) (by decide) t_716 n_723 dL_nearest_15) (by decide) rfl (fun h5338 f5339 w5340 => ?_)
  refine x_iconst (M := M_L_nearest) dL_nearest_17 ?_
  exact x_iret (M := M_L_nearest) dL_nearest_18 rfl ⟨rfl, (fr_tr f5339 (fun _ h => nomatch h) fr_rf), trivial⟩ (Nat.le_of_ble_eq_true rfl) (Nat.le_of_ble_eq_true rfl)
set_option maxRecDepth 10000 in
theorem q5350 {l : Launch} {E : EE} (hl : l.stackTraces = false) {h : HP} {a2 : Int32} (c0 : ¬ (a2.toInt < 1)) (c1 : ¬ (32 < a2.toInt)) : en_C l E M_X12_in 0 0 0 [.long (a2.toInt64), .long (Int64.ofInt 1), .long (Int64.ofInt 32)] h (pR (some (.int (Int32.ofInt 1))) h) := by
  refine en_mk m_X12_in rfl hl (Nat.le_of_ble_eq_true rfl) ?_
  refine x_lload_n (M := M_X12_in) dX12_in_0 rfl ?_
  refine x_lload_n (M := M_X12_in) dX12_in_1 rfl ?_
  refine x_lcmp (M := M_X12_in) dX12_in_2 ?_
  refine x_if_lt (M := M_X12_in) (tgt := 17) dX12_in_3 (by decide) (fun q => absurd ((bc_lt (i_i2l rfl) (by decide +kernel)).mp q) (by omega : ¬ (a2.toInt < 1))) (fun _ => ?_)
  refine x_lload_n (M := M_X12_in) dX12_in_6 rfl ?_
  refine x_lload (M := M_X12_in) dX12_in_7 rfl ?_
  refine x_lcmp (M := M_X12_in) dX12_in_9 ?_
  refine x_if_gt (M := M_X12_in) (tgt := 17) dX12_in_10 (by decide) (fun q => absurd ((bc_gt (i_i2l rfl) (by decide +kernel)).mp q) (by omega : ¬ (32 < a2.toInt))) (fun _ => ?_)
  refine x_iconst (M := M_X12_in) dX12_in_13 ?_
  refine x_goto (M := M_X12_in) (tgt := 18) dX12_in_14 (by decide) ?_
  exact x_zret (M := M_X12_in) dX12_in_18 rfl (by decide) ⟨rfl, rfl⟩ (Nat.le_of_ble_eq_true rfl) (Nat.le_of_ble_eq_true rfl)
set_option maxRecDepth 10000 in
theorem q5351 {l : Launch} {E : EE} (hl : l.stackTraces = false) {h : HP} {a0 : Int32} (c0 : a0.toInt < (-1000000000)) : en_C l E M_X12_in 0 0 0 [.long (a0.toInt64), .long (Int64.ofInt (-1000000000)), .long (Int64.ofInt 1000000000)] h (pR (some (.int (Int32.ofInt 0))) h) := by
  refine en_mk m_X12_in rfl hl (Nat.le_of_ble_eq_true rfl) ?_
  refine x_lload_n (M := M_X12_in) dX12_in_0 rfl ?_
  refine x_lload_n (M := M_X12_in) dX12_in_1 rfl ?_
  refine x_lcmp (M := M_X12_in) dX12_in_2 ?_
  refine x_if_lt (M := M_X12_in) (tgt := 17) dX12_in_3 (by decide) (fun _ => ?_) (fun q => absurd ((bc_lt (i_i2l rfl) (by decide +kernel)).mpr (by omega : (a0.toInt < (-1000000000) : Prop))) q)
  refine x_iconst (M := M_X12_in) dX12_in_17 ?_
  exact x_zret (M := M_X12_in) dX12_in_18 rfl (by decide) ⟨rfl, rfl⟩ (Nat.le_of_ble_eq_true rfl) (Nat.le_of_ble_eq_true rfl)
set_option maxRecDepth 10000 in
theorem q5352 {l : Launch} {E : EE} (hl : l.stackTraces = false) {h : HP} {a0 : Int32} (c0 : a0.toInt < (-1000000000)) : en_C l E M_X12_isFar 1 0 0 [.long (a0.toInt64)] h (pR (some (.int (Int32.ofInt 0))) h) := by
  refine en_mk m_X12_isFar rfl hl (Nat.le_of_ble_eq_true rfl) ?_
  refine x_lload_n (M := M_X12_isFar) dX12_isFar_0 rfl ?_
  refine x_ldc2 (M := M_X12_isFar) dX12_isFar_1 t_3136 ?_
  refine x_ldc2 (M := M_X12_isFar) dX12_isFar_4 t_2937 ?_
  refine x_norm (M := M_X12_isFar) (st' := [.long (Int64.ofInt 1000000000), .long (Int64.ofInt (-1000000000)), .long (a0.toInt64)]) rfl (vj_cons (by decide +kernel : (1000000000 : Int64) = (Int64.ofInt 1000000000)) (vj_cons (by decide +kernel : (-1000000000 : Int64) = (Int64.ofInt (-1000000000))) rfl)) rfl rfl rfl ?_
  refine x_callSR (M := M_X12_isFar) (M' := M_X12_in) rfl rfl dX12_isFar_7 m_X12_in t_2818 t_2819 (q5351 hl c0) rfl rfl (Nat.le_of_ble_eq_true rfl) (Nat.le_of_ble_eq_true rfl) (Nat.le_of_ble_eq_true rfl) (Nat.le_of_ble_eq_true rfl) ?_
  exact x_zret (M := M_X12_isFar) dX12_isFar_10 rfl (by decide) ⟨rfl, rfl⟩ (Nat.le_of_ble_eq_true rfl) (Nat.le_of_ble_eq_true rfl)
set_option maxRecDepth 10000 in
theorem q5357 {l : Launch} {E : EE} (hl : l.stackTraces = false) {h : HP} {a0 : Int32} {a1 : Int32} {a2 : Int32} {dg : Int32} (c0 : ¬ (a2.toInt < 1)) (c1 : ¬ (32 < a2.toInt)) (c2 : a0.toInt < (-1000000000)) (o5346 : ob h 277 = some (.inr (15, (RB dg)))) : en_C l E M_X12_nearest 2 0 0 [.ref 277, .int a0, .int a1, .int a2] h (pF (some (.int (Int32.ofInt 0))) [277] h (fun h' => ob h' 277 = some (.inr (15, ((RB dg).set 0 (.int (Int32.ofInt 1))))) ∧ True)) := by
  refine en_mk m_X12_nearest rfl hl (Nat.le_of_ble_eq_true rfl) ?_
  refine x_aload_n (M := M_X12_nearest) dX12_nearest_0 rfl ?_
  refine x_iconst (M := M_X12_nearest) dX12_nearest_1 ?_
  refine y_put (M := M_X12_nearest) (ci := 15) (C := RX12) (T := TX12) (N := 135) (ty := tyX12) cl15 dX12_nearest_2 o5346 0 (by decide) t_2391 (Or.inl rfl) (Nat.le_of_ble_eq_true rfl) rfl (fun h5347 w5348 f5349 => ?_)
  refine x_aload_n (M := M_X12_nearest) dX12_nearest_5 rfl ?_
  refine x_iload_n (M := M_X12_nearest) dX12_nearest_6 rfl ?_
  refine x_i2l (M := M_X12_nearest) dX12_nearest_7 ?_
  refine x_lconst (M := M_X12_nearest) dX12_nearest_8 ?_
  refine x_ldc2 (M := M_X12_nearest) dX12_nearest_9 t_3141 ?_
  refine x_norm (M := M_X12_nearest) (st' := [.long (Int64.ofInt 32), .long (Int64.ofInt 1), .long (a2.toInt64), .ref 277]) rfl (vj_cons (by decide +kernel : (32 : Int64) = (Int64.ofInt 32)) (vj_cons (by decide +kernel : (Int64.ofNat ((1 : Fin 2) : Nat)) = (Int64.ofInt 1)) rfl)) rfl rfl rfl ?_
  refine x_callSR (M := M_X12_nearest) (M' := M_X12_in) rfl rfl dX12_nearest_12 m_X12_in t_2818 t_2819 (q5350 hl c0 c1) rfl rfl (Nat.le_of_ble_eq_true rfl) (Nat.le_of_ble_eq_true rfl) (Nat.le_of_ble_eq_true rfl) (Nat.le_of_ble_eq_true rfl) ?_
  refine x_if_eq (M := M_X12_nearest) (tgt := 34) dX12_nearest_15 (by decide) (fun q => absurd q (by decide +kernel)) (fun _ => ?_)
  refine x_iload_n (M := M_X12_nearest) dX12_nearest_18 rfl ?_
  refine x_i2l (M := M_X12_nearest) dX12_nearest_19 ?_
  refine x_callSR (M := M_X12_nearest) (M' := M_X12_isFar) rfl rfl dX12_nearest_20 m_X12_isFar t_3133 t_3134 (q5352 hl c2) rfl rfl (Nat.le_of_ble_eq_true rfl) (Nat.le_of_ble_eq_true rfl) (Nat.le_of_ble_eq_true rfl) (Nat.le_of_ble_eq_true rfl) ?_
  refine x_if_eq (M := M_X12_nearest) (tgt := 34) dX12_nearest_23 (by decide) (fun _ => ?_) (fun q => absurd q (by decide +kernel))
  refine x_iconst (M := M_X12_nearest) dX12_nearest_34 ?_
  refine x_goto (M := M_X12_nearest) (tgt := 39) dX12_nearest_35 (by decide) ?_
  refine x_iconst (M := M_X12_nearest) dX12_nearest_39 ?_
  refine y_callVR (M := M_X12_nearest) (M' := M_X12_fails) rfl rfl dX12_nearest_40 m_X12_fails t_2805 t_2807 s_157 (q22 hl w5348) rfl rfl w5348 rfl (Nat.le_of_ble_eq_true rfl) (Nat.le_of_ble_eq_true rfl) (Nat.le_of_ble_eq_true rfl) (Nat.le_of_ble_eq_true rfl) (fun h5353 f5354 w5355 => ?_)
  obtain ⟨o5356, -⟩ := w5355
  refine x_if_eq (M := M_X12_nearest) (tgt := 48) dX12_nearest_43 (by decide) (fun q => absurd q (by decide +kernel)) (fun _ => ?_)
  refine x_iconst (M := M_X12_nearest) dX12_nearest_46 ?_
  exact x_iret (M := M_X12_nearest) dX12_nearest_47 rfl ⟨rfl, (fr_tr f5354 (by decide) (fr_tr f5349 (by decide) fr_rf)), ⟨o5356, trivial⟩⟩ (Nat.le_of_ble_eq_true rfl) (Nat.le_of_ble_eq_true rfl)
set_option maxRecDepth 10000 in
theorem lc24_2 {l : Launch} {E : EE} (hl : l.stackTraces = false) (nm : String) {xs : Nat → Int32} (hx : E.2.2.2.2 0 = some (7, xs)) {h : HP} {a0 : Int32} {a1 : Int32} {a2 : Int32} {dg : Int32} (e2 : xs 2 = a0) (e3 : xs 3 = a1) (e4 : xs 4 = a2) (c0 : ¬ (a2.toInt < 1)) (c1 : ¬ (32 < a2.toInt)) (c2 : a0.toInt < (-1000000000)) (o5342 : ob h 32 = some (.inr (14, [.ref 33, .ref 162, .ref 166, .int (0 : Int32), .int (0 : Int32), .int (0 : Int32), .ref 167, .ref 170, .ref 173, .ref 177, .ref 193, .ref 208, .ref 222, .ref 238, .ref 252, .ref 274, .ref 275, .ref 276, .int (0 : Int32)]))) (o5358 : ob h 277 = some (.inr (15, (RB dg)))) : XX l E (M_law nm) 1312 342628 8074320 (fun o _ => o = .inl (some (.int 1))) 1801 [some (.ref 0), some (.ref 32), some (.ref 277), some (.ref 359), some (.int (Int32.ofInt 1)), none, none, none] [] h 328 2463747 := by
  refine x_aload_n (M := (M_law nm)) dL_law_1801 rfl ?_
  refine x_aload_n (M := (M_law nm)) dL_law_1802 rfl ?_
  refine x_iload (M := (M_law nm)) dL_law_1803 rfl ?_
  refine x_iconst (M := (M_law nm)) dL_law_1805 ?_
  refine x_iadd (M := (M_law nm)) dL_law_1806 ?_
  refine x_sald (M := (M_law nm)) dL_law_1807 (by decide) hx (vp_inD (by decide +kernel)) ?_
  refine x_top (M := (M_law nm)) (y := a0) ((congrArg xs (by decide +kernel : ((Int32.ofInt 1) + (Int32.ofInt 1)).toNatClampNeg = 2)).trans e2) ?_
  refine x_aload_n (M := (M_law nm)) dL_law_1808 rfl ?_
  refine x_iload (M := (M_law nm)) dL_law_1809 rfl ?_
  refine x_iconst (M := (M_law nm)) dL_law_1811 ?_
  refine x_iadd (M := (M_law nm)) dL_law_1812 ?_
  refine x_sald (M := (M_law nm)) dL_law_1813 (by decide) hx (vp_inD (by decide +kernel)) ?_
  refine x_top (M := (M_law nm)) (y := a1) ((congrArg xs (by decide +kernel : ((Int32.ofInt 1) + (Int32.ofInt 2)).toNatClampNeg = 3)).trans e3) ?_
  refine x_aload_n (M := (M_law nm)) dL_law_1814 rfl ?_
  refine x_iload (M := (M_law nm)) dL_law_1815 rfl ?_
  refine x_iconst (M := (M_law nm)) dL_law_1817 ?_
  refine x_iadd (M := (M_law nm)) dL_law_1818 ?_
  refine x_sald (M := (M_law nm)) dL_law_1819 (by decide) hx (vp_inD (by decide +kernel)) ?_
  refine x_top (M := (M_law nm)) (y := a2) ((congrArg xs (by decide +kernel : ((Int32.ofInt 1) + (Int32.ofInt 3)).toNatClampNeg = 4)).trans e4) ?_
  refine x_aload_n (M := (M_law nm)) dL_law_1820 rfl ?_
  refine y_callSW (M := (M_law nm)) (M' := M_L_nearest) rfl rfl dL_law_1821 m_L_nearest t_2254 t_2255 (q5341 hl c0 c1 c2 o5342) rfl rfl (Nat.le_of_ble_eq_true rfl) (Nat.le_of_ble_eq_true rfl) (Nat.le_of_ble_eq_true rfl) (Nat.le_of_ble_eq_true rfl) (fun h5343 f5344 w5345 => ?_)
  refine x_istore (M := (M_law nm)) dL_law_1824 (Nat.le_of_ble_eq_true rfl) rfl ?_
  refine x_aload_n (M := (M_law nm)) dL_law_1826 rfl ?_
  refine x_aload_n (M := (M_law nm)) dL_law_1827 rfl ?_
  refine x_iload (M := (M_law nm)) dL_law_1828 rfl ?_
  refine x_iconst (M := (M_law nm)) dL_law_1830 ?_
  refine x_iadd (M := (M_law nm)) dL_law_1831 ?_
  refine x_sald (M := (M_law nm)) dL_law_1832 (by decide) hx (vp_inD (by decide +kernel)) ?_
  refine x_top (M := (M_law nm)) (y := a0) ((congrArg xs (by decide +kernel : ((Int32.ofInt 1) + (Int32.ofInt 1)).toNatClampNeg = 2)).trans e2) ?_
  refine x_aload_n (M := (M_law nm)) dL_law_1833 rfl ?_
  refine x_iload (M := (M_law nm)) dL_law_1834 rfl ?_
  refine x_iconst (M := (M_law nm)) dL_law_1836 ?_
  refine x_iadd (M := (M_law nm)) dL_law_1837 ?_
  refine x_sald (M := (M_law nm)) dL_law_1838 (by decide) hx (vp_inD (by decide +kernel)) ?_
  refine x_top (M := (M_law nm)) (y := a1) ((congrArg xs (by decide +kernel : ((Int32.ofInt 1) + (Int32.ofInt 2)).toNatClampNeg = 3)).trans e3) ?_
  refine x_aload_n (M := (M_law nm)) dL_law_1839 rfl ?_
  refine x_iload (M := (M_law nm)) dL_law_1840 rfl ?_
  refine x_iconst (M := (M_law nm)) dL_law_1842 ?_
  refine x_iadd (M := (M_law nm)) dL_law_1843 ?_
  refine x_sald (M := (M_law nm)) dL_law_1844 (by decide) hx (vp_inD (by decide +kernel)) ?_
  refine x_top (M := (M_law nm)) (y := a2) ((congrArg xs (by decide +kernel : ((Int32.ofInt 1) + (Int32.ofInt 3)).toNatClampNeg = 4)).trans e4) ?_
  have o5359 := (f5344 277 _ (by decide) o5358)
  refine y_callVR (M := (M_law nm)) (M' := M_X12_nearest) rfl rfl dL_law_1845 m_X12_nearest t_3137 t_3138 t_3139 (q5357 hl c0 c1 c2 o5359) rfl rfl o5359 rfl (Nat.le_of_ble_eq_true rfl) (Nat.le_of_ble_eq_true rfl) (Nat.le_of_ble_eq_true rfl) (Nat.le_of_ble_eq_true rfl) (fun h5360 f5361 w5362 => ?_)
  obtain ⟨o5363, -⟩ := w5362
  refine x_istore (M := (M_law nm)) dL_law_1848 (Nat.le_of_ble_eq_true rfl) rfl ?_
  refine x_aload_n (M := (M_law nm)) dL_law_1850 rfl ?_
  refine x_callVR (M := (M_law nm)) (M' := M_X12_thrown) rfl rfl dL_law_1851 m_X12_thrown t_2797 t_2798 t_2799 (q35 hl o5363) rfl rfl o5363 rfl (Nat.le_of_ble_eq_true rfl) (Nat.le_of_ble_eq_true rfl) (Nat.le_of_ble_eq_true rfl) (Nat.le_of_ble_eq_true rfl) ?_
  refine x_iload (M := (M_law nm)) dL_law_1854 rfl ?_
  refine x_icmp_eq (M := (M_law nm)) (tgt := 1861) dL_law_1856 (by decide) (fun _ => ?_) (fun q => absurd q (by decide +kernel))
  refine x_iload (M := (M_law nm)) dL_law_1861 rfl ?_
  refine x_if_ne (M := (M_law nm)) (tgt := 1878) dL_law_1863 (by decide) (fun _ => ?_) (fun q => absurd q (by decide +kernel))
  refine x_goto (M := (M_law nm)) (tgt := 2449) dL_law_1878 (by decide) ?_
  refine x_iinc (M := (M_law nm)) dL_law_2449 rfl (Nat.le_of_ble_eq_true rfl) rfl ?_
  refine x_lvs (M := (M_law nm)) (lv' := [some (.ref 0), some (.ref 32), some (.ref 277), some (.ref 359), some (.int (Int32.ofInt 7)), some (.int (Int32.ofInt 1)), some (.int (Int32.ofInt 0)), none]) (by rw [(by decide +kernel : (Int32.ofInt 1) + Int32.ofInt 6 = (Int32.ofInt 7))] <;> rfl) ?_
  refine x_goto (M := (M_law nm)) (tgt := 33) dL_law_2452 (by decide) ?_
  refine x_iload (M := (M_law nm)) dL_law_33 rfl ?_
  refine x_aload_n (M := (M_law nm)) dL_law_35 rfl ?_
  refine x_slen (M := (M_law nm)) dL_law_36 (by decide) hx ?_
  refine x_bipush (M := (M_law nm)) dL_law_37 ?_
  refine x_isub (M := (M_law nm)) dL_law_39 ?_
  refine x_icmp_gt (M := (M_law nm)) (tgt := 2455) dL_law_40 (by decide) (fun _ => ?_) (fun q => absurd q (by decide +kernel))
  refine x_iconst (M := (M_law nm)) dL_law_2455 ?_
  exact x_zret (M := (M_law nm)) dL_law_2456 rfl (by decide) rfl (Nat.le_of_ble_eq_true rfl) (Nat.le_of_ble_eq_true rfl)
set_option maxRecDepth 10000 in
theorem q5364 {l : Launch} {E : EE} (hl : l.stackTraces = false) {h : HP} {a0 : Int32} (c0 : ¬ (a0.toInt < (-1000000000))) (c1 : 1000000000 < a0.toInt) : en_C l E M_X11_isBeyond 0 0 0 [.int a0, .int (Int32.ofInt 1000000000)] h (pR (some (.int (Int32.ofInt 1))) h) := by
  refine en_mk m_X11_isBeyond rfl hl (Nat.le_of_ble_eq_true rfl) ?_
  refine x_iload_n (M := M_X11_isBeyond) dX11_isBeyond_0 rfl ?_
  refine x_iload_n (M := M_X11_isBeyond) dX11_isBeyond_1 rfl ?_
  refine x_ineg (M := M_X11_isBeyond) dX11_isBeyond_2 ?_
  refine x_icmp_lt (M := M_X11_isBeyond) (tgt := 11) dX11_isBeyond_3 (by decide) (fun q => absurd ((bi_lt rfl (by decide +kernel)).mp q) (by omega : ¬ (a0.toInt < (-1000000000)))) (fun _ => ?_)
  refine x_iload_n (M := M_X11_isBeyond) dX11_isBeyond_6 rfl ?_
  refine x_iload_n (M := M_X11_isBeyond) dX11_isBeyond_7 rfl ?_
  refine x_icmp_le (M := M_X11_isBeyond) (tgt := 15) dX11_isBeyond_8 (by decide) (fun q => absurd ((bi_le rfl (by decide +kernel)).mp q) (by omega : ¬ (a0.toInt ≤ 1000000000))) (fun _ => ?_)
  refine x_iconst (M := M_X11_isBeyond) dX11_isBeyond_11 ?_
  refine x_goto (M := M_X11_isBeyond) (tgt := 16) dX11_isBeyond_12 (by decide) ?_
  exact x_zret (M := M_X11_isBeyond) dX11_isBeyond_16 rfl (by decide) ⟨rfl, rfl⟩ (Nat.le_of_ble_eq_true rfl) (Nat.le_of_ble_eq_true rfl)
set_option maxRecDepth 10000 in
theorem q5366 {l : Launch} {E : EE} (hl : l.stackTraces = false) {h : HP} {a0 : Int32} {a1 : Int32} {a2 : Int32} (c0 : ¬ (a2.toInt < 1)) (c1 : ¬ (32 < a2.toInt)) (c2 : ¬ (a0.toInt < (-1000000000))) (c3 : 1000000000 < a0.toInt) : en_C l E M_X11_nearest 6 1 6 [.ref 32, .int a0, .int a1, .int a2] h (pT "java/lang/IllegalArgumentException" [] h (fun _ => True)) := by
  refine en_mk m_X11_nearest rfl hl (Nat.le_of_ble_eq_true rfl) ?_
  refine x_iload_n (M := M_X11_nearest) dX11_nearest_0 rfl ?_
  refine x_iconst (M := M_X11_nearest) dX11_nearest_1 ?_
  refine x_icmp_lt (M := M_X11_nearest) (tgt := 31) dX11_nearest_2 (by decide) (fun q => absurd ((bi_lt rfl (by decide +kernel)).mp q) (by omega : ¬ (a2.toInt < 1))) (fun _ => ?_)
  refine x_iload_n (M := M_X11_nearest) dX11_nearest_5 rfl ?_
  refine x_bipush (M := M_X11_nearest) dX11_nearest_6 ?_
  refine x_icmp_gt (M := M_X11_nearest) (tgt := 31) dX11_nearest_8 (by decide) (fun q => absurd ((bi_lt (by decide +kernel) rfl).mp q) (by omega : ¬ (32 < a2.toInt))) (fun _ => ?_)
  refine x_iload_n (M := M_X11_nearest) dX11_nearest_11 rfl ?_
  refine x_ldcw (M := M_X11_nearest) dX11_nearest_12 t_2191 ?_
  refine x_norm (M := M_X11_nearest) (st' := [.int (Int32.ofInt 1000000000), .int a0]) rfl (vi_cons (by decide +kernel : (1000000000 : Int32) = (Int32.ofInt 1000000000)) rfl) rfl rfl rfl ?_
  refine x_callSR (M := M_X11_nearest) (M' := M_X11_isBeyond) rfl rfl dX11_nearest_15 m_X11_isBeyond t_2073 t_1386 (q5364 hl c2 c3) rfl rfl (Nat.le_of_ble_eq_true rfl) (Nat.le_of_ble_eq_true rfl) (Nat.le_of_ble_eq_true rfl) (Nat.le_of_ble_eq_true rfl) ?_
  refine x_if_ne (M := M_X11_nearest) (tgt := 31) dX11_nearest_18 (by decide) (fun _ => ?_) (fun q => absurd q (by decide +kernel))
  exact x_throw (M := M_X11_nearest) (names := en_nm) rfl dX11_nearest_31 dX11_nearest_34 dX11_nearest_35 dX11_nearest_38 (by decide +kernel) en_nm_ok (Or.inl t_721) (Or.inl t_19) (at_X11_IllegalArgumentException_118) (Nat.le_of_ble_eq_true rfl) (Nat.le_of_ble_eq_true rfl) (Nat.le_of_ble_eq_true rfl) (Nat.le_of_ble_eq_true rfl) (fun n9 => ⟨rfl, (fr_tr (fr_app (List.replicate n9 none)) (fun _ h => nomatch h) fr_rf), trivial⟩)
set_option maxRecDepth 10000 in
theorem q5371 {l : Launch} {E : EE} (hl : l.stackTraces = false) {h : HP} {a0 : Int32} {a1 : Int32} {a2 : Int32} (c0 : ¬ (a2.toInt < 1)) (c1 : ¬ (32 < a2.toInt)) (c2 : ¬ (a0.toInt < (-1000000000))) (c3 : 1000000000 < a0.toInt) (o5367 : ob h 32 = some (.inr (14, [.ref 33, .ref 162, .ref 166, .int (0 : Int32), .int (0 : Int32), .int (0 : Int32), .ref 167, .ref 170, .ref 173, .ref 177, .ref 193, .ref 208, .ref 222, .ref 238, .ref 252, .ref 274, .ref 275, .ref 276, .int (0 : Int32)]))) : en_C l E M_L_nearest 7 1 6 [.ref 32, .int a0, .int a1, .int a2, .ref 359] h (pF (some (.int (Int32.ofInt 1))) [] h (fun _ => True)) := by
  refine en_mkW m_L_nearest rfl hl (Nat.le_of_ble_eq_true rfl) ?_
  refine x_aload (M := M_L_nearest) dL_nearest_0 rfl ?_
  refine x_iconst (M := M_L_nearest) dL_nearest_2 ?_
  refine x_aload_n (M := M_L_nearest) dL_nearest_3 rfl ?_
  refine x_iload_n (M := M_L_nearest) dL_nearest_4 rfl ?_
  refine x_iload_n (M := M_L_nearest) dL_nearest_5 rfl ?_
  refine x_iload_n (M := M_L_nearest) dL_nearest_6 rfl ?_
  refine y_callVHX (M := M_L_nearest) (M' := M_X11_nearest) (i9 := 5) (nx := 17) rfl dL_nearest_7 m_X11_nearest t_2257 t_2258 t_2259 o5367 rfl (q5366 hl c0 c1 c2 c3) rfl rfl (Nat.le_of_ble_eq_true rfl) (Nat.le_of_ble_eq_true rfl) (Nat.le_of_ble_eq_true rfl) (Nat.le_of_ble_eq_true rfl) (en_hdm (k0 := 5) [] [] rfl (fun _ h => nomatch h) (by decide +kernel) (by decide) t_716 n_723 dL_nearest_15) (by decide) rfl (fun h5368 f5369 w5370 => ?_)
  refine x_iconst (M := M_L_nearest) dL_nearest_17 ?_
  exact x_iret (M := M_L_nearest) dL_nearest_18 rfl ⟨rfl, (fr_tr f5369 (fun _ h => nomatch h) fr_rf), trivial⟩ (Nat.le_of_ble_eq_true rfl) (Nat.le_of_ble_eq_true rfl)
set_option maxRecDepth 10000 in
theorem q5380 {l : Launch} {E : EE} (hl : l.stackTraces = false) {h : HP} {a0 : Int32} (c0 : ¬ (a0.toInt < (-1000000000))) (c1 : 1000000000 < a0.toInt) : en_C l E M_X12_in 0 0 0 [.long (a0.toInt64), .long (Int64.ofInt (-1000000000)), .long (Int64.ofInt 1000000000)] h (pR (some (.int (Int32.ofInt 0))) h) := by
  refine en_mk m_X12_in rfl hl (Nat.le_of_ble_eq_true rfl) ?_
  refine x_lload_n (M := M_X12_in) dX12_in_0 rfl ?_
  refine x_lload_n (M := M_X12_in) dX12_in_1 rfl ?_
  refine x_lcmp (M := M_X12_in) dX12_in_2 ?_
  refine x_if_lt (M := M_X12_in) (tgt := 17) dX12_in_3 (by decide) (fun q => absurd ((bc_lt (i_i2l rfl) (by decide +kernel)).mp q) (by omega : ¬ (a0.toInt < (-1000000000)))) (fun _ => ?_)
  refine x_lload_n (M := M_X12_in) dX12_in_6 rfl ?_
  refine x_lload (M := M_X12_in) dX12_in_7 rfl ?_
  refine x_lcmp (M := M_X12_in) dX12_in_9 ?_
  refine x_if_gt (M := M_X12_in) (tgt := 17) dX12_in_10 (by decide) (fun _ => ?_) (fun q => absurd ((bc_gt (i_i2l rfl) (by decide +kernel)).mpr (by omega : (1000000000 < a0.toInt : Prop))) q)
  refine x_iconst (M := M_X12_in) dX12_in_17 ?_
  exact x_zret (M := M_X12_in) dX12_in_18 rfl (by decide) ⟨rfl, rfl⟩ (Nat.le_of_ble_eq_true rfl) (Nat.le_of_ble_eq_true rfl)
set_option maxRecDepth 10000 in
theorem q5381 {l : Launch} {E : EE} (hl : l.stackTraces = false) {h : HP} {a0 : Int32} (c0 : ¬ (a0.toInt < (-1000000000))) (c1 : 1000000000 < a0.toInt) : en_C l E M_X12_isFar 1 0 0 [.long (a0.toInt64)] h (pR (some (.int (Int32.ofInt 0))) h) := by
  refine en_mk m_X12_isFar rfl hl (Nat.le_of_ble_eq_true rfl) ?_
  refine x_lload_n (M := M_X12_isFar) dX12_isFar_0 rfl ?_
  refine x_ldc2 (M := M_X12_isFar) dX12_isFar_1 t_3136 ?_
  refine x_ldc2 (M := M_X12_isFar) dX12_isFar_4 t_2937 ?_
  refine x_norm (M := M_X12_isFar) (st' := [.long (Int64.ofInt 1000000000), .long (Int64.ofInt (-1000000000)), .long (a0.toInt64)]) rfl (vj_cons (by decide +kernel : (1000000000 : Int64) = (Int64.ofInt 1000000000)) (vj_cons (by decide +kernel : (-1000000000 : Int64) = (Int64.ofInt (-1000000000))) rfl)) rfl rfl rfl ?_
  refine x_callSR (M := M_X12_isFar) (M' := M_X12_in) rfl rfl dX12_isFar_7 m_X12_in t_2818 t_2819 (q5380 hl c0 c1) rfl rfl (Nat.le_of_ble_eq_true rfl) (Nat.le_of_ble_eq_true rfl) (Nat.le_of_ble_eq_true rfl) (Nat.le_of_ble_eq_true rfl) ?_
  exact x_zret (M := M_X12_isFar) dX12_isFar_10 rfl (by decide) ⟨rfl, rfl⟩ (Nat.le_of_ble_eq_true rfl) (Nat.le_of_ble_eq_true rfl)
set_option maxRecDepth 10000 in
theorem q5386 {l : Launch} {E : EE} (hl : l.stackTraces = false) {h : HP} {a0 : Int32} {a1 : Int32} {a2 : Int32} {dg : Int32} (c0 : ¬ (a2.toInt < 1)) (c1 : ¬ (32 < a2.toInt)) (c2 : ¬ (a0.toInt < (-1000000000))) (c3 : 1000000000 < a0.toInt) (o5376 : ob h 277 = some (.inr (15, (RB dg)))) : en_C l E M_X12_nearest 2 0 0 [.ref 277, .int a0, .int a1, .int a2] h (pF (some (.int (Int32.ofInt 0))) [277] h (fun h' => ob h' 277 = some (.inr (15, ((RB dg).set 0 (.int (Int32.ofInt 1))))) ∧ True)) := by
  refine en_mk m_X12_nearest rfl hl (Nat.le_of_ble_eq_true rfl) ?_
  refine x_aload_n (M := M_X12_nearest) dX12_nearest_0 rfl ?_
  refine x_iconst (M := M_X12_nearest) dX12_nearest_1 ?_
  refine y_put (M := M_X12_nearest) (ci := 15) (C := RX12) (T := TX12) (N := 135) (ty := tyX12) cl15 dX12_nearest_2 o5376 0 (by decide) t_2391 (Or.inl rfl) (Nat.le_of_ble_eq_true rfl) rfl (fun h5377 w5378 f5379 => ?_)
  refine x_aload_n (M := M_X12_nearest) dX12_nearest_5 rfl ?_
  refine x_iload_n (M := M_X12_nearest) dX12_nearest_6 rfl ?_
  refine x_i2l (M := M_X12_nearest) dX12_nearest_7 ?_
  refine x_lconst (M := M_X12_nearest) dX12_nearest_8 ?_
  refine x_ldc2 (M := M_X12_nearest) dX12_nearest_9 t_3141 ?_
  refine x_norm (M := M_X12_nearest) (st' := [.long (Int64.ofInt 32), .long (Int64.ofInt 1), .long (a2.toInt64), .ref 277]) rfl (vj_cons (by decide +kernel : (32 : Int64) = (Int64.ofInt 32)) (vj_cons (by decide +kernel : (Int64.ofNat ((1 : Fin 2) : Nat)) = (Int64.ofInt 1)) rfl)) rfl rfl rfl ?_
  refine x_callSR (M := M_X12_nearest) (M' := M_X12_in) rfl rfl dX12_nearest_12 m_X12_in t_2818 t_2819 (q5350 hl c0 c1) rfl rfl (Nat.le_of_ble_eq_true rfl) (Nat.le_of_ble_eq_true rfl) (Nat.le_of_ble_eq_true rfl) (Nat.le_of_ble_eq_true rfl) ?_
  refine x_if_eq (M := M_X12_nearest) (tgt := 34) dX12_nearest_15 (by decide) (fun q => absurd q (by decide +kernel)) (fun _ => ?_)
  refine x_iload_n (M := M_X12_nearest) dX12_nearest_18 rfl ?_
  refine x_i2l (M := M_X12_nearest) dX12_nearest_19 ?_
  refine x_callSR (M := M_X12_nearest) (M' := M_X12_isFar) rfl rfl dX12_nearest_20 m_X12_isFar t_3133 t_3134 (q5381 hl c2 c3) rfl rfl (Nat.le_of_ble_eq_true rfl) (Nat.le_of_ble_eq_true rfl) (Nat.le_of_ble_eq_true rfl) (Nat.le_of_ble_eq_true rfl) ?_
  refine x_if_eq (M := M_X12_nearest) (tgt := 34) dX12_nearest_23 (by decide) (fun _ => ?_) (fun q => absurd q (by decide +kernel))
  refine x_iconst (M := M_X12_nearest) dX12_nearest_34 ?_
  refine x_goto (M := M_X12_nearest) (tgt := 39) dX12_nearest_35 (by decide) ?_
  refine x_iconst (M := M_X12_nearest) dX12_nearest_39 ?_
  refine y_callVR (M := M_X12_nearest) (M' := M_X12_fails) rfl rfl dX12_nearest_40 m_X12_fails t_2805 t_2807 s_157 (q22 hl w5378) rfl rfl w5378 rfl (Nat.le_of_ble_eq_true rfl) (Nat.le_of_ble_eq_true rfl) (Nat.le_of_ble_eq_true rfl) (Nat.le_of_ble_eq_true rfl) (fun h5382 f5383 w5384 => ?_)
  obtain ⟨o5385, -⟩ := w5384
  refine x_if_eq (M := M_X12_nearest) (tgt := 48) dX12_nearest_43 (by decide) (fun q => absurd q (by decide +kernel)) (fun _ => ?_)
  refine x_iconst (M := M_X12_nearest) dX12_nearest_46 ?_
  exact x_iret (M := M_X12_nearest) dX12_nearest_47 rfl ⟨rfl, (fr_tr f5383 (by decide) (fr_tr f5379 (by decide) fr_rf)), ⟨o5385, trivial⟩⟩ (Nat.le_of_ble_eq_true rfl) (Nat.le_of_ble_eq_true rfl)
set_option maxRecDepth 10000 in
theorem lc24_3 {l : Launch} {E : EE} (hl : l.stackTraces = false) (nm : String) {xs : Nat → Int32} (hx : E.2.2.2.2 0 = some (7, xs)) {h : HP} {a0 : Int32} {a1 : Int32} {a2 : Int32} {dg : Int32} (e2 : xs 2 = a0) (e3 : xs 3 = a1) (e4 : xs 4 = a2) (c0 : ¬ (a2.toInt < 1)) (c1 : ¬ (32 < a2.toInt)) (c2 : ¬ (a0.toInt < (-1000000000))) (c3 : 1000000000 < a0.toInt) (o5372 : ob h 32 = some (.inr (14, [.ref 33, .ref 162, .ref 166, .int (0 : Int32), .int (0 : Int32), .int (0 : Int32), .ref 167, .ref 170, .ref 173, .ref 177, .ref 193, .ref 208, .ref 222, .ref 238, .ref 252, .ref 274, .ref 275, .ref 276, .int (0 : Int32)]))) (o5387 : ob h 277 = some (.inr (15, (RB dg)))) : XX l E (M_law nm) 1312 342628 8074320 (fun o _ => o = .inl (some (.int 1))) 1801 [some (.ref 0), some (.ref 32), some (.ref 277), some (.ref 359), some (.int (Int32.ofInt 1)), none, none, none] [] h 328 2463747 := by
  refine x_aload_n (M := (M_law nm)) dL_law_1801 rfl ?_
  refine x_aload_n (M := (M_law nm)) dL_law_1802 rfl ?_
  refine x_iload (M := (M_law nm)) dL_law_1803 rfl ?_
  refine x_iconst (M := (M_law nm)) dL_law_1805 ?_
  refine x_iadd (M := (M_law nm)) dL_law_1806 ?_
  refine x_sald (M := (M_law nm)) dL_law_1807 (by decide) hx (vp_inD (by decide +kernel)) ?_
  refine x_top (M := (M_law nm)) (y := a0) ((congrArg xs (by decide +kernel : ((Int32.ofInt 1) + (Int32.ofInt 1)).toNatClampNeg = 2)).trans e2) ?_
  refine x_aload_n (M := (M_law nm)) dL_law_1808 rfl ?_
  refine x_iload (M := (M_law nm)) dL_law_1809 rfl ?_
  refine x_iconst (M := (M_law nm)) dL_law_1811 ?_
  refine x_iadd (M := (M_law nm)) dL_law_1812 ?_
  refine x_sald (M := (M_law nm)) dL_law_1813 (by decide) hx (vp_inD (by decide +kernel)) ?_
  refine x_top (M := (M_law nm)) (y := a1) ((congrArg xs (by decide +kernel : ((Int32.ofInt 1) + (Int32.ofInt 2)).toNatClampNeg = 3)).trans e3) ?_
  refine x_aload_n (M := (M_law nm)) dL_law_1814 rfl ?_
  refine x_iload (M := (M_law nm)) dL_law_1815 rfl ?_
  refine x_iconst (M := (M_law nm)) dL_law_1817 ?_
  refine x_iadd (M := (M_law nm)) dL_law_1818 ?_
  refine x_sald (M := (M_law nm)) dL_law_1819 (by decide) hx (vp_inD (by decide +kernel)) ?_
  refine x_top (M := (M_law nm)) (y := a2) ((congrArg xs (by decide +kernel : ((Int32.ofInt 1) + (Int32.ofInt 3)).toNatClampNeg = 4)).trans e4) ?_
  refine x_aload_n (M := (M_law nm)) dL_law_1820 rfl ?_
  refine y_callSW (M := (M_law nm)) (M' := M_L_nearest) rfl rfl dL_law_1821 m_L_nearest t_2254 t_2255 (q5371 hl c0 c1 c2 c3 o5372) rfl rfl (Nat.le_of_ble_eq_true rfl) (Nat.le_of_ble_eq_true rfl) (Nat.le_of_ble_eq_true rfl) (Nat.le_of_ble_eq_true rfl) (fun h5373 f5374 w5375 => ?_)
  refine x_istore (M := (M_law nm)) dL_law_1824 (Nat.le_of_ble_eq_true rfl) rfl ?_
  refine x_aload_n (M := (M_law nm)) dL_law_1826 rfl ?_
  refine x_aload_n (M := (M_law nm)) dL_law_1827 rfl ?_
  refine x_iload (M := (M_law nm)) dL_law_1828 rfl ?_
  refine x_iconst (M := (M_law nm)) dL_law_1830 ?_
  refine x_iadd (M := (M_law nm)) dL_law_1831 ?_
  refine x_sald (M := (M_law nm)) dL_law_1832 (by decide) hx (vp_inD (by decide +kernel)) ?_
  refine x_top (M := (M_law nm)) (y := a0) ((congrArg xs (by decide +kernel : ((Int32.ofInt 1) + (Int32.ofInt 1)).toNatClampNeg = 2)).trans e2) ?_
  refine x_aload_n (M := (M_law nm)) dL_law_1833 rfl ?_
  refine x_iload (M := (M_law nm)) dL_law_1834 rfl ?_
  refine x_iconst (M := (M_law nm)) dL_law_1836 ?_
  refine x_iadd (M := (M_law nm)) dL_law_1837 ?_
  refine x_sald (M := (M_law nm)) dL_law_1838 (by decide) hx (vp_inD (by decide +kernel)) ?_
  refine x_top (M := (M_law nm)) (y := a1) ((congrArg xs (by decide +kernel : ((Int32.ofInt 1) + (Int32.ofInt 2)).toNatClampNeg = 3)).trans e3) ?_
  refine x_aload_n (M := (M_law nm)) dL_law_1839 rfl ?_
  refine x_iload (M := (M_law nm)) dL_law_1840 rfl ?_
  refine x_iconst (M := (M_law nm)) dL_law_1842 ?_
  refine x_iadd (M := (M_law nm)) dL_law_1843 ?_
  refine x_sald (M := (M_law nm)) dL_law_1844 (by decide) hx (vp_inD (by decide +kernel)) ?_
  refine x_top (M := (M_law nm)) (y := a2) ((congrArg xs (by decide +kernel : ((Int32.ofInt 1) + (Int32.ofInt 3)).toNatClampNeg = 4)).trans e4) ?_
  have o5388 := (f5374 277 _ (by decide) o5387)
  refine y_callVR (M := (M_law nm)) (M' := M_X12_nearest) rfl rfl dL_law_1845 m_X12_nearest t_3137 t_3138 t_3139 (q5386 hl c0 c1 c2 c3 o5388) rfl rfl o5388 rfl (Nat.le_of_ble_eq_true rfl) (Nat.le_of_ble_eq_true rfl) (Nat.le_of_ble_eq_true rfl) (Nat.le_of_ble_eq_true rfl) (fun h5389 f5390 w5391 => ?_)
  obtain ⟨o5392, -⟩ := w5391
  refine x_istore (M := (M_law nm)) dL_law_1848 (Nat.le_of_ble_eq_true rfl) rfl ?_
  refine x_aload_n (M := (M_law nm)) dL_law_1850 rfl ?_
  refine x_callVR (M := (M_law nm)) (M' := M_X12_thrown) rfl rfl dL_law_1851 m_X12_thrown t_2797 t_2798 t_2799 (q35 hl o5392) rfl rfl o5392 rfl (Nat.le_of_ble_eq_true rfl) (Nat.le_of_ble_eq_true rfl) (Nat.le_of_ble_eq_true rfl) (Nat.le_of_ble_eq_true rfl) ?_
  refine x_iload (M := (M_law nm)) dL_law_1854 rfl ?_
  refine x_icmp_eq (M := (M_law nm)) (tgt := 1861) dL_law_1856 (by decide) (fun _ => ?_) (fun q => absurd q (by decide +kernel))
  refine x_iload (M := (M_law nm)) dL_law_1861 rfl ?_
  refine x_if_ne (M := (M_law nm)) (tgt := 1878) dL_law_1863 (by decide) (fun _ => ?_) (fun q => absurd q (by decide +kernel))
  refine x_goto (M := (M_law nm)) (tgt := 2449) dL_law_1878 (by decide) ?_
  refine x_iinc (M := (M_law nm)) dL_law_2449 rfl (Nat.le_of_ble_eq_true rfl) rfl ?_
  refine x_lvs (M := (M_law nm)) (lv' := [some (.ref 0), some (.ref 32), some (.ref 277), some (.ref 359), some (.int (Int32.ofInt 7)), some (.int (Int32.ofInt 1)), some (.int (Int32.ofInt 0)), none]) (by rw [(by decide +kernel : (Int32.ofInt 1) + Int32.ofInt 6 = (Int32.ofInt 7))] <;> rfl) ?_
  refine x_goto (M := (M_law nm)) (tgt := 33) dL_law_2452 (by decide) ?_
  refine x_iload (M := (M_law nm)) dL_law_33 rfl ?_
  refine x_aload_n (M := (M_law nm)) dL_law_35 rfl ?_
  refine x_slen (M := (M_law nm)) dL_law_36 (by decide) hx ?_
  refine x_bipush (M := (M_law nm)) dL_law_37 ?_
  refine x_isub (M := (M_law nm)) dL_law_39 ?_
  refine x_icmp_gt (M := (M_law nm)) (tgt := 2455) dL_law_40 (by decide) (fun _ => ?_) (fun q => absurd q (by decide +kernel))
  refine x_iconst (M := (M_law nm)) dL_law_2455 ?_
  exact x_zret (M := (M_law nm)) dL_law_2456 rfl (by decide) rfl (Nat.le_of_ble_eq_true rfl) (Nat.le_of_ble_eq_true rfl)
set_option maxRecDepth 10000 in
theorem q5393 {l : Launch} {E : EE} (hl : l.stackTraces = false) {h : HP} {a0 : Int32} (c0 : ¬ (a0.toInt < (-1000000000))) (c1 : ¬ (1000000000 < a0.toInt)) : en_C l E M_X11_isBeyond 0 0 0 [.int a0, .int (Int32.ofInt 1000000000)] h (pR (some (.int (Int32.ofInt 0))) h) := by
  refine en_mk m_X11_isBeyond rfl hl (Nat.le_of_ble_eq_true rfl) ?_
  refine x_iload_n (M := M_X11_isBeyond) dX11_isBeyond_0 rfl ?_
  refine x_iload_n (M := M_X11_isBeyond) dX11_isBeyond_1 rfl ?_
  refine x_ineg (M := M_X11_isBeyond) dX11_isBeyond_2 ?_
  refine x_icmp_lt (M := M_X11_isBeyond) (tgt := 11) dX11_isBeyond_3 (by decide) (fun q => absurd ((bi_lt rfl (by decide +kernel)).mp q) (by omega : ¬ (a0.toInt < (-1000000000)))) (fun _ => ?_)
  refine x_iload_n (M := M_X11_isBeyond) dX11_isBeyond_6 rfl ?_
  refine x_iload_n (M := M_X11_isBeyond) dX11_isBeyond_7 rfl ?_
  refine x_icmp_le (M := M_X11_isBeyond) (tgt := 15) dX11_isBeyond_8 (by decide) (fun _ => ?_) (fun q => absurd ((bi_le rfl (by decide +kernel)).mpr (by omega : (a0.toInt ≤ 1000000000 : Prop))) q)
  refine x_iconst (M := M_X11_isBeyond) dX11_isBeyond_15 ?_
  exact x_zret (M := M_X11_isBeyond) dX11_isBeyond_16 rfl (by decide) ⟨rfl, rfl⟩ (Nat.le_of_ble_eq_true rfl) (Nat.le_of_ble_eq_true rfl)
set_option maxRecDepth 10000 in
theorem q5394 {l : Launch} {E : EE} (hl : l.stackTraces = false) {h : HP} {a1 : Int32} (c0 : a1.toInt < (-1000000000)) : en_C l E M_X11_isBeyond 0 0 0 [.int a1, .int (Int32.ofInt 1000000000)] h (pR (some (.int (Int32.ofInt 1))) h) := by
  refine en_mk m_X11_isBeyond rfl hl (Nat.le_of_ble_eq_true rfl) ?_
  refine x_iload_n (M := M_X11_isBeyond) dX11_isBeyond_0 rfl ?_
  refine x_iload_n (M := M_X11_isBeyond) dX11_isBeyond_1 rfl ?_
  refine x_ineg (M := M_X11_isBeyond) dX11_isBeyond_2 ?_
  refine x_icmp_lt (M := M_X11_isBeyond) (tgt := 11) dX11_isBeyond_3 (by decide) (fun _ => ?_) (fun q => absurd ((bi_lt rfl (by decide +kernel)).mpr (by omega : (a1.toInt < (-1000000000) : Prop))) q)
  refine x_iconst (M := M_X11_isBeyond) dX11_isBeyond_11 ?_
  refine x_goto (M := M_X11_isBeyond) (tgt := 16) dX11_isBeyond_12 (by decide) ?_
  exact x_zret (M := M_X11_isBeyond) dX11_isBeyond_16 rfl (by decide) ⟨rfl, rfl⟩ (Nat.le_of_ble_eq_true rfl) (Nat.le_of_ble_eq_true rfl)
set_option maxRecDepth 10000 in
theorem q5396 {l : Launch} {E : EE} (hl : l.stackTraces = false) {h : HP} {a0 : Int32} {a1 : Int32} {a2 : Int32} (c0 : ¬ (a2.toInt < 1)) (c1 : ¬ (32 < a2.toInt)) (c2 : ¬ (a0.toInt < (-1000000000))) (c3 : ¬ (1000000000 < a0.toInt)) (c4 : a1.toInt < (-1000000000)) : en_C l E M_X11_nearest 6 1 6 [.ref 32, .int a0, .int a1, .int a2] h (pT "java/lang/IllegalArgumentException" [] h (fun _ => True)) := by
  refine en_mk m_X11_nearest rfl hl (Nat.le_of_ble_eq_true rfl) ?_
  refine x_iload_n (M := M_X11_nearest) dX11_nearest_0 rfl ?_
  refine x_iconst (M := M_X11_nearest) dX11_nearest_1 ?_
  refine x_icmp_lt (M := M_X11_nearest) (tgt := 31) dX11_nearest_2 (by decide) (fun q => absurd ((bi_lt rfl (by decide +kernel)).mp q) (by omega : ¬ (a2.toInt < 1))) (fun _ => ?_)
  refine x_iload_n (M := M_X11_nearest) dX11_nearest_5 rfl ?_
  refine x_bipush (M := M_X11_nearest) dX11_nearest_6 ?_
  refine x_icmp_gt (M := M_X11_nearest) (tgt := 31) dX11_nearest_8 (by decide) (fun q => absurd ((bi_lt (by decide +kernel) rfl).mp q) (by omega : ¬ (32 < a2.toInt))) (fun _ => ?_)
  refine x_iload_n (M := M_X11_nearest) dX11_nearest_11 rfl ?_
  refine x_ldcw (M := M_X11_nearest) dX11_nearest_12 t_2191 ?_
  refine x_norm (M := M_X11_nearest) (st' := [.int (Int32.ofInt 1000000000), .int a0]) rfl (vi_cons (by decide +kernel : (1000000000 : Int32) = (Int32.ofInt 1000000000)) rfl) rfl rfl rfl ?_
  refine x_callSR (M := M_X11_nearest) (M' := M_X11_isBeyond) rfl rfl dX11_nearest_15 m_X11_isBeyond t_2073 t_1386 (q5393 hl c2 c3) rfl rfl (Nat.le_of_ble_eq_true rfl) (Nat.le_of_ble_eq_true rfl) (Nat.le_of_ble_eq_true rfl) (Nat.le_of_ble_eq_true rfl) ?_
  refine x_if_ne (M := M_X11_nearest) (tgt := 31) dX11_nearest_18 (by decide) (fun q => absurd q (by decide +kernel)) (fun _ => ?_)
  refine x_iload_n (M := M_X11_nearest) dX11_nearest_21 rfl ?_
  refine x_ldcw (M := M_X11_nearest) dX11_nearest_22 t_2191 ?_
  refine x_norm (M := M_X11_nearest) (st' := [.int (Int32.ofInt 1000000000), .int a1]) rfl (vi_cons (by decide +kernel : (1000000000 : Int32) = (Int32.ofInt 1000000000)) rfl) rfl rfl rfl ?_
  refine x_callSR (M := M_X11_nearest) (M' := M_X11_isBeyond) rfl rfl dX11_nearest_25 m_X11_isBeyond t_2073 t_1386 (q5394 hl c4) rfl rfl (Nat.le_of_ble_eq_true rfl) (Nat.le_of_ble_eq_true rfl) (Nat.le_of_ble_eq_true rfl) (Nat.le_of_ble_eq_true rfl) ?_
  refine x_if_eq (M := M_X11_nearest) (tgt := 39) dX11_nearest_28 (by decide) (fun q => absurd q (by decide +kernel)) (fun _ => ?_)
  exact x_throw (M := M_X11_nearest) (names := en_nm) rfl dX11_nearest_31 dX11_nearest_34 dX11_nearest_35 dX11_nearest_38 (by decide +kernel) en_nm_ok (Or.inl t_721) (Or.inl t_19) (at_X11_IllegalArgumentException_118) (Nat.le_of_ble_eq_true rfl) (Nat.le_of_ble_eq_true rfl) (Nat.le_of_ble_eq_true rfl) (Nat.le_of_ble_eq_true rfl) (fun n9 => ⟨rfl, (fr_tr (fr_app (List.replicate n9 none)) (fun _ h => nomatch h) fr_rf), trivial⟩)
set_option maxRecDepth 10000 in
theorem q5401 {l : Launch} {E : EE} (hl : l.stackTraces = false) {h : HP} {a0 : Int32} {a1 : Int32} {a2 : Int32} (c0 : ¬ (a2.toInt < 1)) (c1 : ¬ (32 < a2.toInt)) (c2 : ¬ (a0.toInt < (-1000000000))) (c3 : ¬ (1000000000 < a0.toInt)) (c4 : a1.toInt < (-1000000000)) (o5397 : ob h 32 = some (.inr (14, [.ref 33, .ref 162, .ref 166, .int (0 : Int32), .int (0 : Int32), .int (0 : Int32), .ref 167, .ref 170, .ref 173, .ref 177, .ref 193, .ref 208, .ref 222, .ref 238, .ref 252, .ref 274, .ref 275, .ref 276, .int (0 : Int32)]))) : en_C l E M_L_nearest 7 1 6 [.ref 32, .int a0, .int a1, .int a2, .ref 359] h (pF (some (.int (Int32.ofInt 1))) [] h (fun _ => True)) := by
  refine en_mkW m_L_nearest rfl hl (Nat.le_of_ble_eq_true rfl) ?_
  refine x_aload (M := M_L_nearest) dL_nearest_0 rfl ?_
  refine x_iconst (M := M_L_nearest) dL_nearest_2 ?_
  refine x_aload_n (M := M_L_nearest) dL_nearest_3 rfl ?_
  refine x_iload_n (M := M_L_nearest) dL_nearest_4 rfl ?_
  refine x_iload_n (M := M_L_nearest) dL_nearest_5 rfl ?_
  refine x_iload_n (M := M_L_nearest) dL_nearest_6 rfl ?_
  refine y_callVHX (M := M_L_nearest) (M' := M_X11_nearest) (i9 := 5) (nx := 17) rfl dL_nearest_7 m_X11_nearest t_2257 t_2258 t_2259 o5397 rfl (q5396 hl c0 c1 c2 c3 c4) rfl rfl (Nat.le_of_ble_eq_true rfl) (Nat.le_of_ble_eq_true rfl) (Nat.le_of_ble_eq_true rfl) (Nat.le_of_ble_eq_true rfl) (en_hdm (k0 := 5) [] [] rfl (fun _ h => nomatch h) (by decide +kernel) (by decide) t_716 n_723 dL_nearest_15) (by decide) rfl (fun h5398 f5399 w5400 => ?_)
  refine x_iconst (M := M_L_nearest) dL_nearest_17 ?_
  exact x_iret (M := M_L_nearest) dL_nearest_18 rfl ⟨rfl, (fr_tr f5399 (fun _ h => nomatch h) fr_rf), trivial⟩ (Nat.le_of_ble_eq_true rfl) (Nat.le_of_ble_eq_true rfl)
set_option maxRecDepth 10000 in
theorem q5410 {l : Launch} {E : EE} (hl : l.stackTraces = false) {h : HP} {a0 : Int32} (c0 : ¬ (a0.toInt < (-1000000000))) (c1 : ¬ (1000000000 < a0.toInt)) : en_C l E M_X12_in 0 0 0 [.long (a0.toInt64), .long (Int64.ofInt (-1000000000)), .long (Int64.ofInt 1000000000)] h (pR (some (.int (Int32.ofInt 1))) h) := by
  refine en_mk m_X12_in rfl hl (Nat.le_of_ble_eq_true rfl) ?_
  refine x_lload_n (M := M_X12_in) dX12_in_0 rfl ?_
  refine x_lload_n (M := M_X12_in) dX12_in_1 rfl ?_
  refine x_lcmp (M := M_X12_in) dX12_in_2 ?_
  refine x_if_lt (M := M_X12_in) (tgt := 17) dX12_in_3 (by decide) (fun q => absurd ((bc_lt (i_i2l rfl) (by decide +kernel)).mp q) (by omega : ¬ (a0.toInt < (-1000000000)))) (fun _ => ?_)
  refine x_lload_n (M := M_X12_in) dX12_in_6 rfl ?_
  refine x_lload (M := M_X12_in) dX12_in_7 rfl ?_
  refine x_lcmp (M := M_X12_in) dX12_in_9 ?_
  refine x_if_gt (M := M_X12_in) (tgt := 17) dX12_in_10 (by decide) (fun q => absurd ((bc_gt (i_i2l rfl) (by decide +kernel)).mp q) (by omega : ¬ (1000000000 < a0.toInt))) (fun _ => ?_)
  refine x_iconst (M := M_X12_in) dX12_in_13 ?_
  refine x_goto (M := M_X12_in) (tgt := 18) dX12_in_14 (by decide) ?_
  exact x_zret (M := M_X12_in) dX12_in_18 rfl (by decide) ⟨rfl, rfl⟩ (Nat.le_of_ble_eq_true rfl) (Nat.le_of_ble_eq_true rfl)
set_option maxRecDepth 10000 in
theorem q5411 {l : Launch} {E : EE} (hl : l.stackTraces = false) {h : HP} {a0 : Int32} (c0 : ¬ (a0.toInt < (-1000000000))) (c1 : ¬ (1000000000 < a0.toInt)) : en_C l E M_X12_isFar 1 0 0 [.long (a0.toInt64)] h (pR (some (.int (Int32.ofInt 1))) h) := by
  refine en_mk m_X12_isFar rfl hl (Nat.le_of_ble_eq_true rfl) ?_
  refine x_lload_n (M := M_X12_isFar) dX12_isFar_0 rfl ?_
  refine x_ldc2 (M := M_X12_isFar) dX12_isFar_1 t_3136 ?_
  refine x_ldc2 (M := M_X12_isFar) dX12_isFar_4 t_2937 ?_
  refine x_norm (M := M_X12_isFar) (st' := [.long (Int64.ofInt 1000000000), .long (Int64.ofInt (-1000000000)), .long (a0.toInt64)]) rfl (vj_cons (by decide +kernel : (1000000000 : Int64) = (Int64.ofInt 1000000000)) (vj_cons (by decide +kernel : (-1000000000 : Int64) = (Int64.ofInt (-1000000000))) rfl)) rfl rfl rfl ?_
  refine x_callSR (M := M_X12_isFar) (M' := M_X12_in) rfl rfl dX12_isFar_7 m_X12_in t_2818 t_2819 (q5410 hl c0 c1) rfl rfl (Nat.le_of_ble_eq_true rfl) (Nat.le_of_ble_eq_true rfl) (Nat.le_of_ble_eq_true rfl) (Nat.le_of_ble_eq_true rfl) ?_
  exact x_zret (M := M_X12_isFar) dX12_isFar_10 rfl (by decide) ⟨rfl, rfl⟩ (Nat.le_of_ble_eq_true rfl) (Nat.le_of_ble_eq_true rfl)
set_option maxRecDepth 10000 in
theorem q5412 {l : Launch} {E : EE} (hl : l.stackTraces = false) {h : HP} {a1 : Int32} (c0 : a1.toInt < (-1000000000)) : en_C l E M_X12_in 0 0 0 [.long (a1.toInt64), .long (Int64.ofInt (-1000000000)), .long (Int64.ofInt 1000000000)] h (pR (some (.int (Int32.ofInt 0))) h) := by
  refine en_mk m_X12_in rfl hl (Nat.le_of_ble_eq_true rfl) ?_
  refine x_lload_n (M := M_X12_in) dX12_in_0 rfl ?_
  refine x_lload_n (M := M_X12_in) dX12_in_1 rfl ?_
  refine x_lcmp (M := M_X12_in) dX12_in_2 ?_
  refine x_if_lt (M := M_X12_in) (tgt := 17) dX12_in_3 (by decide) (fun _ => ?_) (fun q => absurd ((bc_lt (i_i2l rfl) (by decide +kernel)).mpr (by omega : (a1.toInt < (-1000000000) : Prop))) q)
  refine x_iconst (M := M_X12_in) dX12_in_17 ?_
  exact x_zret (M := M_X12_in) dX12_in_18 rfl (by decide) ⟨rfl, rfl⟩ (Nat.le_of_ble_eq_true rfl) (Nat.le_of_ble_eq_true rfl)
set_option maxRecDepth 10000 in
theorem q5413 {l : Launch} {E : EE} (hl : l.stackTraces = false) {h : HP} {a1 : Int32} (c0 : a1.toInt < (-1000000000)) : en_C l E M_X12_isFar 1 0 0 [.long (a1.toInt64)] h (pR (some (.int (Int32.ofInt 0))) h) := by
  refine en_mk m_X12_isFar rfl hl (Nat.le_of_ble_eq_true rfl) ?_
  refine x_lload_n (M := M_X12_isFar) dX12_isFar_0 rfl ?_
  refine x_ldc2 (M := M_X12_isFar) dX12_isFar_1 t_3136 ?_
  refine x_ldc2 (M := M_X12_isFar) dX12_isFar_4 t_2937 ?_
  refine x_norm (M := M_X12_isFar) (st' := [.long (Int64.ofInt 1000000000), .long (Int64.ofInt (-1000000000)), .long (a1.toInt64)]) rfl (vj_cons (by decide +kernel : (1000000000 : Int64) = (Int64.ofInt 1000000000)) (vj_cons (by decide +kernel : (-1000000000 : Int64) = (Int64.ofInt (-1000000000))) rfl)) rfl rfl rfl ?_
  refine x_callSR (M := M_X12_isFar) (M' := M_X12_in) rfl rfl dX12_isFar_7 m_X12_in t_2818 t_2819 (q5412 hl c0) rfl rfl (Nat.le_of_ble_eq_true rfl) (Nat.le_of_ble_eq_true rfl) (Nat.le_of_ble_eq_true rfl) (Nat.le_of_ble_eq_true rfl) ?_
  exact x_zret (M := M_X12_isFar) dX12_isFar_10 rfl (by decide) ⟨rfl, rfl⟩ (Nat.le_of_ble_eq_true rfl) (Nat.le_of_ble_eq_true rfl)
set_option maxRecDepth 10000 in
theorem q5418 {l : Launch} {E : EE} (hl : l.stackTraces = false) {h : HP} {a0 : Int32} {a1 : Int32} {a2 : Int32} {dg : Int32} (c0 : ¬ (a2.toInt < 1)) (c1 : ¬ (32 < a2.toInt)) (c2 : ¬ (a0.toInt < (-1000000000))) (c3 : ¬ (1000000000 < a0.toInt)) (c4 : a1.toInt < (-1000000000)) (o5406 : ob h 277 = some (.inr (15, (RB dg)))) : en_C l E M_X12_nearest 2 0 0 [.ref 277, .int a0, .int a1, .int a2] h (pF (some (.int (Int32.ofInt 0))) [277] h (fun h' => ob h' 277 = some (.inr (15, ((RB dg).set 0 (.int (Int32.ofInt 1))))) ∧ True)) := by
  refine en_mk m_X12_nearest rfl hl (Nat.le_of_ble_eq_true rfl) ?_
  refine x_aload_n (M := M_X12_nearest) dX12_nearest_0 rfl ?_
  refine x_iconst (M := M_X12_nearest) dX12_nearest_1 ?_
  refine y_put (M := M_X12_nearest) (ci := 15) (C := RX12) (T := TX12) (N := 135) (ty := tyX12) cl15 dX12_nearest_2 o5406 0 (by decide) t_2391 (Or.inl rfl) (Nat.le_of_ble_eq_true rfl) rfl (fun h5407 w5408 f5409 => ?_)
  refine x_aload_n (M := M_X12_nearest) dX12_nearest_5 rfl ?_
  refine x_iload_n (M := M_X12_nearest) dX12_nearest_6 rfl ?_
  refine x_i2l (M := M_X12_nearest) dX12_nearest_7 ?_
  refine x_lconst (M := M_X12_nearest) dX12_nearest_8 ?_
  refine x_ldc2 (M := M_X12_nearest) dX12_nearest_9 t_3141 ?_
  refine x_norm (M := M_X12_nearest) (st' := [.long (Int64.ofInt 32), .long (Int64.ofInt 1), .long (a2.toInt64), .ref 277]) rfl (vj_cons (by decide +kernel : (32 : Int64) = (Int64.ofInt 32)) (vj_cons (by decide +kernel : (Int64.ofNat ((1 : Fin 2) : Nat)) = (Int64.ofInt 1)) rfl)) rfl rfl rfl ?_
  refine x_callSR (M := M_X12_nearest) (M' := M_X12_in) rfl rfl dX12_nearest_12 m_X12_in t_2818 t_2819 (q5350 hl c0 c1) rfl rfl (Nat.le_of_ble_eq_true rfl) (Nat.le_of_ble_eq_true rfl) (Nat.le_of_ble_eq_true rfl) (Nat.le_of_ble_eq_true rfl) ?_
  refine x_if_eq (M := M_X12_nearest) (tgt := 34) dX12_nearest_15 (by decide) (fun q => absurd q (by decide +kernel)) (fun _ => ?_)
  refine x_iload_n (M := M_X12_nearest) dX12_nearest_18 rfl ?_
  refine x_i2l (M := M_X12_nearest) dX12_nearest_19 ?_
  refine x_callSR (M := M_X12_nearest) (M' := M_X12_isFar) rfl rfl dX12_nearest_20 m_X12_isFar t_3133 t_3134 (q5411 hl c2 c3) rfl rfl (Nat.le_of_ble_eq_true rfl) (Nat.le_of_ble_eq_true rfl) (Nat.le_of_ble_eq_true rfl) (Nat.le_of_ble_eq_true rfl) ?_
  refine x_if_eq (M := M_X12_nearest) (tgt := 34) dX12_nearest_23 (by decide) (fun q => absurd q (by decide +kernel)) (fun _ => ?_)
  refine x_iload_n (M := M_X12_nearest) dX12_nearest_26 rfl ?_
  refine x_i2l (M := M_X12_nearest) dX12_nearest_27 ?_
  refine x_callSR (M := M_X12_nearest) (M' := M_X12_isFar) rfl rfl dX12_nearest_28 m_X12_isFar t_3133 t_3134 (q5413 hl c4) rfl rfl (Nat.le_of_ble_eq_true rfl) (Nat.le_of_ble_eq_true rfl) (Nat.le_of_ble_eq_true rfl) (Nat.le_of_ble_eq_true rfl) ?_
  refine x_if_ne (M := M_X12_nearest) (tgt := 38) dX12_nearest_31 (by decide) (fun q => absurd q (by decide +kernel)) (fun _ => ?_)
  refine x_iconst (M := M_X12_nearest) dX12_nearest_34 ?_
  refine x_goto (M := M_X12_nearest) (tgt := 39) dX12_nearest_35 (by decide) ?_
  refine x_iconst (M := M_X12_nearest) dX12_nearest_39 ?_
  refine y_callVR (M := M_X12_nearest) (M' := M_X12_fails) rfl rfl dX12_nearest_40 m_X12_fails t_2805 t_2807 s_157 (q22 hl w5408) rfl rfl w5408 rfl (Nat.le_of_ble_eq_true rfl) (Nat.le_of_ble_eq_true rfl) (Nat.le_of_ble_eq_true rfl) (Nat.le_of_ble_eq_true rfl) (fun h5414 f5415 w5416 => ?_)
  obtain ⟨o5417, -⟩ := w5416
  refine x_if_eq (M := M_X12_nearest) (tgt := 48) dX12_nearest_43 (by decide) (fun q => absurd q (by decide +kernel)) (fun _ => ?_)
  refine x_iconst (M := M_X12_nearest) dX12_nearest_46 ?_
  exact x_iret (M := M_X12_nearest) dX12_nearest_47 rfl ⟨rfl, (fr_tr f5415 (by decide) (fr_tr f5409 (by decide) fr_rf)), ⟨o5417, trivial⟩⟩ (Nat.le_of_ble_eq_true rfl) (Nat.le_of_ble_eq_true rfl)
set_option maxRecDepth 10000 in
theorem lc24_4 {l : Launch} {E : EE} (hl : l.stackTraces = false) (nm : String) {xs : Nat → Int32} (hx : E.2.2.2.2 0 = some (7, xs)) {h : HP} {a0 : Int32} {a1 : Int32} {a2 : Int32} {dg : Int32} (e2 : xs 2 = a0) (e3 : xs 3 = a1) (e4 : xs 4 = a2) (c0 : ¬ (a2.toInt < 1)) (c1 : ¬ (32 < a2.toInt)) (c2 : ¬ (a0.toInt < (-1000000000))) (c3 : ¬ (1000000000 < a0.toInt)) (c4 : a1.toInt < (-1000000000)) (o5402 : ob h 32 = some (.inr (14, [.ref 33, .ref 162, .ref 166, .int (0 : Int32), .int (0 : Int32), .int (0 : Int32), .ref 167, .ref 170, .ref 173, .ref 177, .ref 193, .ref 208, .ref 222, .ref 238, .ref 252, .ref 274, .ref 275, .ref 276, .int (0 : Int32)]))) (o5419 : ob h 277 = some (.inr (15, (RB dg)))) : XX l E (M_law nm) 1312 342628 8074320 (fun o _ => o = .inl (some (.int 1))) 1801 [some (.ref 0), some (.ref 32), some (.ref 277), some (.ref 359), some (.int (Int32.ofInt 1)), none, none, none] [] h 328 2463747 := by
  refine x_aload_n (M := (M_law nm)) dL_law_1801 rfl ?_
  refine x_aload_n (M := (M_law nm)) dL_law_1802 rfl ?_
  refine x_iload (M := (M_law nm)) dL_law_1803 rfl ?_
  refine x_iconst (M := (M_law nm)) dL_law_1805 ?_
  refine x_iadd (M := (M_law nm)) dL_law_1806 ?_
  refine x_sald (M := (M_law nm)) dL_law_1807 (by decide) hx (vp_inD (by decide +kernel)) ?_
  refine x_top (M := (M_law nm)) (y := a0) ((congrArg xs (by decide +kernel : ((Int32.ofInt 1) + (Int32.ofInt 1)).toNatClampNeg = 2)).trans e2) ?_
  refine x_aload_n (M := (M_law nm)) dL_law_1808 rfl ?_
  refine x_iload (M := (M_law nm)) dL_law_1809 rfl ?_
  refine x_iconst (M := (M_law nm)) dL_law_1811 ?_
  refine x_iadd (M := (M_law nm)) dL_law_1812 ?_
  refine x_sald (M := (M_law nm)) dL_law_1813 (by decide) hx (vp_inD (by decide +kernel)) ?_
  refine x_top (M := (M_law nm)) (y := a1) ((congrArg xs (by decide +kernel : ((Int32.ofInt 1) + (Int32.ofInt 2)).toNatClampNeg = 3)).trans e3) ?_
  refine x_aload_n (M := (M_law nm)) dL_law_1814 rfl ?_
  refine x_iload (M := (M_law nm)) dL_law_1815 rfl ?_
  refine x_iconst (M := (M_law nm)) dL_law_1817 ?_
  refine x_iadd (M := (M_law nm)) dL_law_1818 ?_
  refine x_sald (M := (M_law nm)) dL_law_1819 (by decide) hx (vp_inD (by decide +kernel)) ?_
  refine x_top (M := (M_law nm)) (y := a2) ((congrArg xs (by decide +kernel : ((Int32.ofInt 1) + (Int32.ofInt 3)).toNatClampNeg = 4)).trans e4) ?_
  refine x_aload_n (M := (M_law nm)) dL_law_1820 rfl ?_
  refine y_callSW (M := (M_law nm)) (M' := M_L_nearest) rfl rfl dL_law_1821 m_L_nearest t_2254 t_2255 (q5401 hl c0 c1 c2 c3 c4 o5402) rfl rfl (Nat.le_of_ble_eq_true rfl) (Nat.le_of_ble_eq_true rfl) (Nat.le_of_ble_eq_true rfl) (Nat.le_of_ble_eq_true rfl) (fun h5403 f5404 w5405 => ?_)
  refine x_istore (M := (M_law nm)) dL_law_1824 (Nat.le_of_ble_eq_true rfl) rfl ?_
  refine x_aload_n (M := (M_law nm)) dL_law_1826 rfl ?_
  refine x_aload_n (M := (M_law nm)) dL_law_1827 rfl ?_
  refine x_iload (M := (M_law nm)) dL_law_1828 rfl ?_
  refine x_iconst (M := (M_law nm)) dL_law_1830 ?_
  refine x_iadd (M := (M_law nm)) dL_law_1831 ?_
  refine x_sald (M := (M_law nm)) dL_law_1832 (by decide) hx (vp_inD (by decide +kernel)) ?_
  refine x_top (M := (M_law nm)) (y := a0) ((congrArg xs (by decide +kernel : ((Int32.ofInt 1) + (Int32.ofInt 1)).toNatClampNeg = 2)).trans e2) ?_
  refine x_aload_n (M := (M_law nm)) dL_law_1833 rfl ?_
  refine x_iload (M := (M_law nm)) dL_law_1834 rfl ?_
  refine x_iconst (M := (M_law nm)) dL_law_1836 ?_
  refine x_iadd (M := (M_law nm)) dL_law_1837 ?_
  refine x_sald (M := (M_law nm)) dL_law_1838 (by decide) hx (vp_inD (by decide +kernel)) ?_
  refine x_top (M := (M_law nm)) (y := a1) ((congrArg xs (by decide +kernel : ((Int32.ofInt 1) + (Int32.ofInt 2)).toNatClampNeg = 3)).trans e3) ?_
  refine x_aload_n (M := (M_law nm)) dL_law_1839 rfl ?_
  refine x_iload (M := (M_law nm)) dL_law_1840 rfl ?_
  refine x_iconst (M := (M_law nm)) dL_law_1842 ?_
  refine x_iadd (M := (M_law nm)) dL_law_1843 ?_
  refine x_sald (M := (M_law nm)) dL_law_1844 (by decide) hx (vp_inD (by decide +kernel)) ?_
  refine x_top (M := (M_law nm)) (y := a2) ((congrArg xs (by decide +kernel : ((Int32.ofInt 1) + (Int32.ofInt 3)).toNatClampNeg = 4)).trans e4) ?_
  have o5420 := (f5404 277 _ (by decide) o5419)
  refine y_callVR (M := (M_law nm)) (M' := M_X12_nearest) rfl rfl dL_law_1845 m_X12_nearest t_3137 t_3138 t_3139 (q5418 hl c0 c1 c2 c3 c4 o5420) rfl rfl o5420 rfl (Nat.le_of_ble_eq_true rfl) (Nat.le_of_ble_eq_true rfl) (Nat.le_of_ble_eq_true rfl) (Nat.le_of_ble_eq_true rfl) (fun h5421 f5422 w5423 => ?_)
  obtain ⟨o5424, -⟩ := w5423
  refine x_istore (M := (M_law nm)) dL_law_1848 (Nat.le_of_ble_eq_true rfl) rfl ?_
  refine x_aload_n (M := (M_law nm)) dL_law_1850 rfl ?_
  refine x_callVR (M := (M_law nm)) (M' := M_X12_thrown) rfl rfl dL_law_1851 m_X12_thrown t_2797 t_2798 t_2799 (q35 hl o5424) rfl rfl o5424 rfl (Nat.le_of_ble_eq_true rfl) (Nat.le_of_ble_eq_true rfl) (Nat.le_of_ble_eq_true rfl) (Nat.le_of_ble_eq_true rfl) ?_
  refine x_iload (M := (M_law nm)) dL_law_1854 rfl ?_
  refine x_icmp_eq (M := (M_law nm)) (tgt := 1861) dL_law_1856 (by decide) (fun _ => ?_) (fun q => absurd q (by decide +kernel))
  refine x_iload (M := (M_law nm)) dL_law_1861 rfl ?_
  refine x_if_ne (M := (M_law nm)) (tgt := 1878) dL_law_1863 (by decide) (fun _ => ?_) (fun q => absurd q (by decide +kernel))
  refine x_goto (M := (M_law nm)) (tgt := 2449) dL_law_1878 (by decide) ?_
  refine x_iinc (M := (M_law nm)) dL_law_2449 rfl (Nat.le_of_ble_eq_true rfl) rfl ?_
  refine x_lvs (M := (M_law nm)) (lv' := [some (.ref 0), some (.ref 32), some (.ref 277), some (.ref 359), some (.int (Int32.ofInt 7)), some (.int (Int32.ofInt 1)), some (.int (Int32.ofInt 0)), none]) (by rw [(by decide +kernel : (Int32.ofInt 1) + Int32.ofInt 6 = (Int32.ofInt 7))] <;> rfl) ?_
  refine x_goto (M := (M_law nm)) (tgt := 33) dL_law_2452 (by decide) ?_
  refine x_iload (M := (M_law nm)) dL_law_33 rfl ?_
  refine x_aload_n (M := (M_law nm)) dL_law_35 rfl ?_
  refine x_slen (M := (M_law nm)) dL_law_36 (by decide) hx ?_
  refine x_bipush (M := (M_law nm)) dL_law_37 ?_
  refine x_isub (M := (M_law nm)) dL_law_39 ?_
  refine x_icmp_gt (M := (M_law nm)) (tgt := 2455) dL_law_40 (by decide) (fun _ => ?_) (fun q => absurd q (by decide +kernel))
  refine x_iconst (M := (M_law nm)) dL_law_2455 ?_
  exact x_zret (M := (M_law nm)) dL_law_2456 rfl (by decide) rfl (Nat.le_of_ble_eq_true rfl) (Nat.le_of_ble_eq_true rfl)
set_option maxRecDepth 10000 in
theorem q5425 {l : Launch} {E : EE} (hl : l.stackTraces = false) {h : HP} {a1 : Int32} (c0 : ¬ (a1.toInt < (-1000000000))) (c1 : 1000000000 < a1.toInt) : en_C l E M_X11_isBeyond 0 0 0 [.int a1, .int (Int32.ofInt 1000000000)] h (pR (some (.int (Int32.ofInt 1))) h) := by
  refine en_mk m_X11_isBeyond rfl hl (Nat.le_of_ble_eq_true rfl) ?_
  refine x_iload_n (M := M_X11_isBeyond) dX11_isBeyond_0 rfl ?_
  refine x_iload_n (M := M_X11_isBeyond) dX11_isBeyond_1 rfl ?_
  refine x_ineg (M := M_X11_isBeyond) dX11_isBeyond_2 ?_
  refine x_icmp_lt (M := M_X11_isBeyond) (tgt := 11) dX11_isBeyond_3 (by decide) (fun q => absurd ((bi_lt rfl (by decide +kernel)).mp q) (by omega : ¬ (a1.toInt < (-1000000000)))) (fun _ => ?_)
  refine x_iload_n (M := M_X11_isBeyond) dX11_isBeyond_6 rfl ?_
  refine x_iload_n (M := M_X11_isBeyond) dX11_isBeyond_7 rfl ?_
  refine x_icmp_le (M := M_X11_isBeyond) (tgt := 15) dX11_isBeyond_8 (by decide) (fun q => absurd ((bi_le rfl (by decide +kernel)).mp q) (by omega : ¬ (a1.toInt ≤ 1000000000))) (fun _ => ?_)
  refine x_iconst (M := M_X11_isBeyond) dX11_isBeyond_11 ?_
  refine x_goto (M := M_X11_isBeyond) (tgt := 16) dX11_isBeyond_12 (by decide) ?_
  exact x_zret (M := M_X11_isBeyond) dX11_isBeyond_16 rfl (by decide) ⟨rfl, rfl⟩ (Nat.le_of_ble_eq_true rfl) (Nat.le_of_ble_eq_true rfl)
set_option maxRecDepth 10000 in
theorem q5427 {l : Launch} {E : EE} (hl : l.stackTraces = false) {h : HP} {a0 : Int32} {a1 : Int32} {a2 : Int32} (c0 : ¬ (a2.toInt < 1)) (c1 : ¬ (32 < a2.toInt)) (c2 : ¬ (a0.toInt < (-1000000000))) (c3 : ¬ (1000000000 < a0.toInt)) (c4 : ¬ (a1.toInt < (-1000000000))) (c5 : 1000000000 < a1.toInt) : en_C l E M_X11_nearest 6 1 6 [.ref 32, .int a0, .int a1, .int a2] h (pT "java/lang/IllegalArgumentException" [] h (fun _ => True)) := by
  refine en_mk m_X11_nearest rfl hl (Nat.le_of_ble_eq_true rfl) ?_
  refine x_iload_n (M := M_X11_nearest) dX11_nearest_0 rfl ?_
  refine x_iconst (M := M_X11_nearest) dX11_nearest_1 ?_
  refine x_icmp_lt (M := M_X11_nearest) (tgt := 31) dX11_nearest_2 (by decide) (fun q => absurd ((bi_lt rfl (by decide +kernel)).mp q) (by omega : ¬ (a2.toInt < 1))) (fun _ => ?_)
  refine x_iload_n (M := M_X11_nearest) dX11_nearest_5 rfl ?_
  refine x_bipush (M := M_X11_nearest) dX11_nearest_6 ?_
  refine x_icmp_gt (M := M_X11_nearest) (tgt := 31) dX11_nearest_8 (by decide) (fun q => absurd ((bi_lt (by decide +kernel) rfl).mp q) (by omega : ¬ (32 < a2.toInt))) (fun _ => ?_)
  refine x_iload_n (M := M_X11_nearest) dX11_nearest_11 rfl ?_
  refine x_ldcw (M := M_X11_nearest) dX11_nearest_12 t_2191 ?_
  refine x_norm (M := M_X11_nearest) (st' := [.int (Int32.ofInt 1000000000), .int a0]) rfl (vi_cons (by decide +kernel : (1000000000 : Int32) = (Int32.ofInt 1000000000)) rfl) rfl rfl rfl ?_
  refine x_callSR (M := M_X11_nearest) (M' := M_X11_isBeyond) rfl rfl dX11_nearest_15 m_X11_isBeyond t_2073 t_1386 (q5393 hl c2 c3) rfl rfl (Nat.le_of_ble_eq_true rfl) (Nat.le_of_ble_eq_true rfl) (Nat.le_of_ble_eq_true rfl) (Nat.le_of_ble_eq_true rfl) ?_
  refine x_if_ne (M := M_X11_nearest) (tgt := 31) dX11_nearest_18 (by decide) (fun q => absurd q (by decide +kernel)) (fun _ => ?_)
  refine x_iload_n (M := M_X11_nearest) dX11_nearest_21 rfl ?_
  refine x_ldcw (M := M_X11_nearest) dX11_nearest_22 t_2191 ?_
  refine x_norm (M := M_X11_nearest) (st' := [.int (Int32.ofInt 1000000000), .int a1]) rfl (vi_cons (by decide +kernel : (1000000000 : Int32) = (Int32.ofInt 1000000000)) rfl) rfl rfl rfl ?_
  refine x_callSR (M := M_X11_nearest) (M' := M_X11_isBeyond) rfl rfl dX11_nearest_25 m_X11_isBeyond t_2073 t_1386 (q5425 hl c4 c5) rfl rfl (Nat.le_of_ble_eq_true rfl) (Nat.le_of_ble_eq_true rfl) (Nat.le_of_ble_eq_true rfl) (Nat.le_of_ble_eq_true rfl) ?_
  refine x_if_eq (M := M_X11_nearest) (tgt := 39) dX11_nearest_28 (by decide) (fun q => absurd q (by decide +kernel)) (fun _ => ?_)
  exact x_throw (M := M_X11_nearest) (names := en_nm) rfl dX11_nearest_31 dX11_nearest_34 dX11_nearest_35 dX11_nearest_38 (by decide +kernel) en_nm_ok (Or.inl t_721) (Or.inl t_19) (at_X11_IllegalArgumentException_118) (Nat.le_of_ble_eq_true rfl) (Nat.le_of_ble_eq_true rfl) (Nat.le_of_ble_eq_true rfl) (Nat.le_of_ble_eq_true rfl) (fun n9 => ⟨rfl, (fr_tr (fr_app (List.replicate n9 none)) (fun _ h => nomatch h) fr_rf), trivial⟩)
set_option maxRecDepth 10000 in
theorem q5432 {l : Launch} {E : EE} (hl : l.stackTraces = false) {h : HP} {a0 : Int32} {a1 : Int32} {a2 : Int32} (c0 : ¬ (a2.toInt < 1)) (c1 : ¬ (32 < a2.toInt)) (c2 : ¬ (a0.toInt < (-1000000000))) (c3 : ¬ (1000000000 < a0.toInt)) (c4 : ¬ (a1.toInt < (-1000000000))) (c5 : 1000000000 < a1.toInt) (o5428 : ob h 32 = some (.inr (14, [.ref 33, .ref 162, .ref 166, .int (0 : Int32), .int (0 : Int32), .int (0 : Int32), .ref 167, .ref 170, .ref 173, .ref 177, .ref 193, .ref 208, .ref 222, .ref 238, .ref 252, .ref 274, .ref 275, .ref 276, .int (0 : Int32)]))) : en_C l E M_L_nearest 7 1 6 [.ref 32, .int a0, .int a1, .int a2, .ref 359] h (pF (some (.int (Int32.ofInt 1))) [] h (fun _ => True)) := by
  refine en_mkW m_L_nearest rfl hl (Nat.le_of_ble_eq_true rfl) ?_
  refine x_aload (M := M_L_nearest) dL_nearest_0 rfl ?_
  refine x_iconst (M := M_L_nearest) dL_nearest_2 ?_
  refine x_aload_n (M := M_L_nearest) dL_nearest_3 rfl ?_
  refine x_iload_n (M := M_L_nearest) dL_nearest_4 rfl ?_
  refine x_iload_n (M := M_L_nearest) dL_nearest_5 rfl ?_
  refine x_iload_n (M := M_L_nearest) dL_nearest_6 rfl ?_
  refine y_callVHX (M := M_L_nearest) (M' := M_X11_nearest) (i9 := 5) (nx := 17) rfl dL_nearest_7 m_X11_nearest t_2257 t_2258 t_2259 o5428 rfl (q5427 hl c0 c1 c2 c3 c4 c5) rfl rfl (Nat.le_of_ble_eq_true rfl) (Nat.le_of_ble_eq_true rfl) (Nat.le_of_ble_eq_true rfl) (Nat.le_of_ble_eq_true rfl) (en_hdm (k0 := 5) [] [] rfl (fun _ h => nomatch h) (by decide +kernel) (by decide) t_716 n_723 dL_nearest_15) (by decide) rfl (fun h5429 f5430 w5431 => ?_)
  refine x_iconst (M := M_L_nearest) dL_nearest_17 ?_
  exact x_iret (M := M_L_nearest) dL_nearest_18 rfl ⟨rfl, (fr_tr f5430 (fun _ h => nomatch h) fr_rf), trivial⟩ (Nat.le_of_ble_eq_true rfl) (Nat.le_of_ble_eq_true rfl)
set_option maxRecDepth 10000 in
theorem q5441 {l : Launch} {E : EE} (hl : l.stackTraces = false) {h : HP} {a1 : Int32} (c0 : ¬ (a1.toInt < (-1000000000))) (c1 : 1000000000 < a1.toInt) : en_C l E M_X12_in 0 0 0 [.long (a1.toInt64), .long (Int64.ofInt (-1000000000)), .long (Int64.ofInt 1000000000)] h (pR (some (.int (Int32.ofInt 0))) h) := by
  refine en_mk m_X12_in rfl hl (Nat.le_of_ble_eq_true rfl) ?_
  refine x_lload_n (M := M_X12_in) dX12_in_0 rfl ?_
  refine x_lload_n (M := M_X12_in) dX12_in_1 rfl ?_
  refine x_lcmp (M := M_X12_in) dX12_in_2 ?_
  refine x_if_lt (M := M_X12_in) (tgt := 17) dX12_in_3 (by decide) (fun q => absurd ((bc_lt (i_i2l rfl) (by decide +kernel)).mp q) (by omega : ¬ (a1.toInt < (-1000000000)))) (fun _ => ?_)
  refine x_lload_n (M := M_X12_in) dX12_in_6 rfl ?_
  refine x_lload (M := M_X12_in) dX12_in_7 rfl ?_
  refine x_lcmp (M := M_X12_in) dX12_in_9 ?_
  refine x_if_gt (M := M_X12_in) (tgt := 17) dX12_in_10 (by decide) (fun _ => ?_) (fun q => absurd ((bc_gt (i_i2l rfl) (by decide +kernel)).mpr (by omega : (1000000000 < a1.toInt : Prop))) q)
  refine x_iconst (M := M_X12_in) dX12_in_17 ?_
  exact x_zret (M := M_X12_in) dX12_in_18 rfl (by decide) ⟨rfl, rfl⟩ (Nat.le_of_ble_eq_true rfl) (Nat.le_of_ble_eq_true rfl)
set_option maxRecDepth 10000 in
theorem q5442 {l : Launch} {E : EE} (hl : l.stackTraces = false) {h : HP} {a1 : Int32} (c0 : ¬ (a1.toInt < (-1000000000))) (c1 : 1000000000 < a1.toInt) : en_C l E M_X12_isFar 1 0 0 [.long (a1.toInt64)] h (pR (some (.int (Int32.ofInt 0))) h) := by
  refine en_mk m_X12_isFar rfl hl (Nat.le_of_ble_eq_true rfl) ?_
  refine x_lload_n (M := M_X12_isFar) dX12_isFar_0 rfl ?_
  refine x_ldc2 (M := M_X12_isFar) dX12_isFar_1 t_3136 ?_
  refine x_ldc2 (M := M_X12_isFar) dX12_isFar_4 t_2937 ?_
  refine x_norm (M := M_X12_isFar) (st' := [.long (Int64.ofInt 1000000000), .long (Int64.ofInt (-1000000000)), .long (a1.toInt64)]) rfl (vj_cons (by decide +kernel : (1000000000 : Int64) = (Int64.ofInt 1000000000)) (vj_cons (by decide +kernel : (-1000000000 : Int64) = (Int64.ofInt (-1000000000))) rfl)) rfl rfl rfl ?_
  refine x_callSR (M := M_X12_isFar) (M' := M_X12_in) rfl rfl dX12_isFar_7 m_X12_in t_2818 t_2819 (q5441 hl c0 c1) rfl rfl (Nat.le_of_ble_eq_true rfl) (Nat.le_of_ble_eq_true rfl) (Nat.le_of_ble_eq_true rfl) (Nat.le_of_ble_eq_true rfl) ?_
  exact x_zret (M := M_X12_isFar) dX12_isFar_10 rfl (by decide) ⟨rfl, rfl⟩ (Nat.le_of_ble_eq_true rfl) (Nat.le_of_ble_eq_true rfl)
set_option maxRecDepth 10000 in
theorem q5447 {l : Launch} {E : EE} (hl : l.stackTraces = false) {h : HP} {a0 : Int32} {a1 : Int32} {a2 : Int32} {dg : Int32} (c0 : ¬ (a2.toInt < 1)) (c1 : ¬ (32 < a2.toInt)) (c2 : ¬ (a0.toInt < (-1000000000))) (c3 : ¬ (1000000000 < a0.toInt)) (c4 : ¬ (a1.toInt < (-1000000000))) (c5 : 1000000000 < a1.toInt) (o5437 : ob h 277 = some (.inr (15, (RB dg)))) : en_C l E M_X12_nearest 2 0 0 [.ref 277, .int a0, .int a1, .int a2] h (pF (some (.int (Int32.ofInt 0))) [277] h (fun h' => ob h' 277 = some (.inr (15, ((RB dg).set 0 (.int (Int32.ofInt 1))))) ∧ True)) := by
  refine en_mk m_X12_nearest rfl hl (Nat.le_of_ble_eq_true rfl) ?_
  refine x_aload_n (M := M_X12_nearest) dX12_nearest_0 rfl ?_
  refine x_iconst (M := M_X12_nearest) dX12_nearest_1 ?_
  refine y_put (M := M_X12_nearest) (ci := 15) (C := RX12) (T := TX12) (N := 135) (ty := tyX12) cl15 dX12_nearest_2 o5437 0 (by decide) t_2391 (Or.inl rfl) (Nat.le_of_ble_eq_true rfl) rfl (fun h5438 w5439 f5440 => ?_)
  refine x_aload_n (M := M_X12_nearest) dX12_nearest_5 rfl ?_
  refine x_iload_n (M := M_X12_nearest) dX12_nearest_6 rfl ?_
  refine x_i2l (M := M_X12_nearest) dX12_nearest_7 ?_
  refine x_lconst (M := M_X12_nearest) dX12_nearest_8 ?_
  refine x_ldc2 (M := M_X12_nearest) dX12_nearest_9 t_3141 ?_
  refine x_norm (M := M_X12_nearest) (st' := [.long (Int64.ofInt 32), .long (Int64.ofInt 1), .long (a2.toInt64), .ref 277]) rfl (vj_cons (by decide +kernel : (32 : Int64) = (Int64.ofInt 32)) (vj_cons (by decide +kernel : (Int64.ofNat ((1 : Fin 2) : Nat)) = (Int64.ofInt 1)) rfl)) rfl rfl rfl ?_
  refine x_callSR (M := M_X12_nearest) (M' := M_X12_in) rfl rfl dX12_nearest_12 m_X12_in t_2818 t_2819 (q5350 hl c0 c1) rfl rfl (Nat.le_of_ble_eq_true rfl) (Nat.le_of_ble_eq_true rfl) (Nat.le_of_ble_eq_true rfl) (Nat.le_of_ble_eq_true rfl) ?_
  refine x_if_eq (M := M_X12_nearest) (tgt := 34) dX12_nearest_15 (by decide) (fun q => absurd q (by decide +kernel)) (fun _ => ?_)
  refine x_iload_n (M := M_X12_nearest) dX12_nearest_18 rfl ?_
  refine x_i2l (M := M_X12_nearest) dX12_nearest_19 ?_
  refine x_callSR (M := M_X12_nearest) (M' := M_X12_isFar) rfl rfl dX12_nearest_20 m_X12_isFar t_3133 t_3134 (q5411 hl c2 c3) rfl rfl (Nat.le_of_ble_eq_true rfl) (Nat.le_of_ble_eq_true rfl) (Nat.le_of_ble_eq_true rfl) (Nat.le_of_ble_eq_true rfl) ?_
  refine x_if_eq (M := M_X12_nearest) (tgt := 34) dX12_nearest_23 (by decide) (fun q => absurd q (by decide +kernel)) (fun _ => ?_)
  refine x_iload_n (M := M_X12_nearest) dX12_nearest_26 rfl ?_
  refine x_i2l (M := M_X12_nearest) dX12_nearest_27 ?_
  refine x_callSR (M := M_X12_nearest) (M' := M_X12_isFar) rfl rfl dX12_nearest_28 m_X12_isFar t_3133 t_3134 (q5442 hl c4 c5) rfl rfl (Nat.le_of_ble_eq_true rfl) (Nat.le_of_ble_eq_true rfl) (Nat.le_of_ble_eq_true rfl) (Nat.le_of_ble_eq_true rfl) ?_
  refine x_if_ne (M := M_X12_nearest) (tgt := 38) dX12_nearest_31 (by decide) (fun q => absurd q (by decide +kernel)) (fun _ => ?_)
  refine x_iconst (M := M_X12_nearest) dX12_nearest_34 ?_
  refine x_goto (M := M_X12_nearest) (tgt := 39) dX12_nearest_35 (by decide) ?_
  refine x_iconst (M := M_X12_nearest) dX12_nearest_39 ?_
  refine y_callVR (M := M_X12_nearest) (M' := M_X12_fails) rfl rfl dX12_nearest_40 m_X12_fails t_2805 t_2807 s_157 (q22 hl w5439) rfl rfl w5439 rfl (Nat.le_of_ble_eq_true rfl) (Nat.le_of_ble_eq_true rfl) (Nat.le_of_ble_eq_true rfl) (Nat.le_of_ble_eq_true rfl) (fun h5443 f5444 w5445 => ?_)
  obtain ⟨o5446, -⟩ := w5445
  refine x_if_eq (M := M_X12_nearest) (tgt := 48) dX12_nearest_43 (by decide) (fun q => absurd q (by decide +kernel)) (fun _ => ?_)
  refine x_iconst (M := M_X12_nearest) dX12_nearest_46 ?_
  exact x_iret (M := M_X12_nearest) dX12_nearest_47 rfl ⟨rfl, (fr_tr f5444 (by decide) (fr_tr f5440 (by decide) fr_rf)), ⟨o5446, trivial⟩⟩ (Nat.le_of_ble_eq_true rfl) (Nat.le_of_ble_eq_true rfl)
set_option maxRecDepth 10000 in
theorem lc24_5 {l : Launch} {E : EE} (hl : l.stackTraces = false) (nm : String) {xs : Nat → Int32} (hx : E.2.2.2.2 0 = some (7, xs)) {h : HP} {a0 : Int32} {a1 : Int32} {a2 : Int32} {dg : Int32} (e2 : xs 2 = a0) (e3 : xs 3 = a1) (e4 : xs 4 = a2) (c0 : ¬ (a2.toInt < 1)) (c1 : ¬ (32 < a2.toInt)) (c2 : ¬ (a0.toInt < (-1000000000))) (c3 : ¬ (1000000000 < a0.toInt)) (c4 : ¬ (a1.toInt < (-1000000000))) (c5 : 1000000000 < a1.toInt) (o5433 : ob h 32 = some (.inr (14, [.ref 33, .ref 162, .ref 166, .int (0 : Int32), .int (0 : Int32), .int (0 : Int32), .ref 167, .ref 170, .ref 173, .ref 177, .ref 193, .ref 208, .ref 222, .ref 238, .ref 252, .ref 274, .ref 275, .ref 276, .int (0 : Int32)]))) (o5448 : ob h 277 = some (.inr (15, (RB dg)))) : XX l E (M_law nm) 1312 342628 8074320 (fun o _ => o = .inl (some (.int 1))) 1801 [some (.ref 0), some (.ref 32), some (.ref 277), some (.ref 359), some (.int (Int32.ofInt 1)), none, none, none] [] h 328 2463747 := by
  refine x_aload_n (M := (M_law nm)) dL_law_1801 rfl ?_
  refine x_aload_n (M := (M_law nm)) dL_law_1802 rfl ?_
  refine x_iload (M := (M_law nm)) dL_law_1803 rfl ?_
  refine x_iconst (M := (M_law nm)) dL_law_1805 ?_
  refine x_iadd (M := (M_law nm)) dL_law_1806 ?_
  refine x_sald (M := (M_law nm)) dL_law_1807 (by decide) hx (vp_inD (by decide +kernel)) ?_
  refine x_top (M := (M_law nm)) (y := a0) ((congrArg xs (by decide +kernel : ((Int32.ofInt 1) + (Int32.ofInt 1)).toNatClampNeg = 2)).trans e2) ?_
  refine x_aload_n (M := (M_law nm)) dL_law_1808 rfl ?_
  refine x_iload (M := (M_law nm)) dL_law_1809 rfl ?_
  refine x_iconst (M := (M_law nm)) dL_law_1811 ?_
  refine x_iadd (M := (M_law nm)) dL_law_1812 ?_
  refine x_sald (M := (M_law nm)) dL_law_1813 (by decide) hx (vp_inD (by decide +kernel)) ?_
  refine x_top (M := (M_law nm)) (y := a1) ((congrArg xs (by decide +kernel : ((Int32.ofInt 1) + (Int32.ofInt 2)).toNatClampNeg = 3)).trans e3) ?_
  refine x_aload_n (M := (M_law nm)) dL_law_1814 rfl ?_
  refine x_iload (M := (M_law nm)) dL_law_1815 rfl ?_
  refine x_iconst (M := (M_law nm)) dL_law_1817 ?_
  refine x_iadd (M := (M_law nm)) dL_law_1818 ?_
  refine x_sald (M := (M_law nm)) dL_law_1819 (by decide) hx (vp_inD (by decide +kernel)) ?_
  refine x_top (M := (M_law nm)) (y := a2) ((congrArg xs (by decide +kernel : ((Int32.ofInt 1) + (Int32.ofInt 3)).toNatClampNeg = 4)).trans e4) ?_
  refine x_aload_n (M := (M_law nm)) dL_law_1820 rfl ?_
  refine y_callSW (M := (M_law nm)) (M' := M_L_nearest) rfl rfl dL_law_1821 m_L_nearest t_2254 t_2255 (q5432 hl c0 c1 c2 c3 c4 c5 o5433) rfl rfl (Nat.le_of_ble_eq_true rfl) (Nat.le_of_ble_eq_true rfl) (Nat.le_of_ble_eq_true rfl) (Nat.le_of_ble_eq_true rfl) (fun h5434 f5435 w5436 => ?_)
  refine x_istore (M := (M_law nm)) dL_law_1824 (Nat.le_of_ble_eq_true rfl) rfl ?_
  refine x_aload_n (M := (M_law nm)) dL_law_1826 rfl ?_
  refine x_aload_n (M := (M_law nm)) dL_law_1827 rfl ?_
  refine x_iload (M := (M_law nm)) dL_law_1828 rfl ?_
  refine x_iconst (M := (M_law nm)) dL_law_1830 ?_
  refine x_iadd (M := (M_law nm)) dL_law_1831 ?_
  refine x_sald (M := (M_law nm)) dL_law_1832 (by decide) hx (vp_inD (by decide +kernel)) ?_
  refine x_top (M := (M_law nm)) (y := a0) ((congrArg xs (by decide +kernel : ((Int32.ofInt 1) + (Int32.ofInt 1)).toNatClampNeg = 2)).trans e2) ?_
  refine x_aload_n (M := (M_law nm)) dL_law_1833 rfl ?_
  refine x_iload (M := (M_law nm)) dL_law_1834 rfl ?_
  refine x_iconst (M := (M_law nm)) dL_law_1836 ?_
  refine x_iadd (M := (M_law nm)) dL_law_1837 ?_
  refine x_sald (M := (M_law nm)) dL_law_1838 (by decide) hx (vp_inD (by decide +kernel)) ?_
  refine x_top (M := (M_law nm)) (y := a1) ((congrArg xs (by decide +kernel : ((Int32.ofInt 1) + (Int32.ofInt 2)).toNatClampNeg = 3)).trans e3) ?_
  refine x_aload_n (M := (M_law nm)) dL_law_1839 rfl ?_
  refine x_iload (M := (M_law nm)) dL_law_1840 rfl ?_
  refine x_iconst (M := (M_law nm)) dL_law_1842 ?_
  refine x_iadd (M := (M_law nm)) dL_law_1843 ?_
  refine x_sald (M := (M_law nm)) dL_law_1844 (by decide) hx (vp_inD (by decide +kernel)) ?_
  refine x_top (M := (M_law nm)) (y := a2) ((congrArg xs (by decide +kernel : ((Int32.ofInt 1) + (Int32.ofInt 3)).toNatClampNeg = 4)).trans e4) ?_
  have o5449 := (f5435 277 _ (by decide) o5448)
  refine y_callVR (M := (M_law nm)) (M' := M_X12_nearest) rfl rfl dL_law_1845 m_X12_nearest t_3137 t_3138 t_3139 (q5447 hl c0 c1 c2 c3 c4 c5 o5449) rfl rfl o5449 rfl (Nat.le_of_ble_eq_true rfl) (Nat.le_of_ble_eq_true rfl) (Nat.le_of_ble_eq_true rfl) (Nat.le_of_ble_eq_true rfl) (fun h5450 f5451 w5452 => ?_)
  obtain ⟨o5453, -⟩ := w5452
  refine x_istore (M := (M_law nm)) dL_law_1848 (Nat.le_of_ble_eq_true rfl) rfl ?_
  refine x_aload_n (M := (M_law nm)) dL_law_1850 rfl ?_
  refine x_callVR (M := (M_law nm)) (M' := M_X12_thrown) rfl rfl dL_law_1851 m_X12_thrown t_2797 t_2798 t_2799 (q35 hl o5453) rfl rfl o5453 rfl (Nat.le_of_ble_eq_true rfl) (Nat.le_of_ble_eq_true rfl) (Nat.le_of_ble_eq_true rfl) (Nat.le_of_ble_eq_true rfl) ?_
  refine x_iload (M := (M_law nm)) dL_law_1854 rfl ?_
  refine x_icmp_eq (M := (M_law nm)) (tgt := 1861) dL_law_1856 (by decide) (fun _ => ?_) (fun q => absurd q (by decide +kernel))
  refine x_iload (M := (M_law nm)) dL_law_1861 rfl ?_
  refine x_if_ne (M := (M_law nm)) (tgt := 1878) dL_law_1863 (by decide) (fun _ => ?_) (fun q => absurd q (by decide +kernel))
  refine x_goto (M := (M_law nm)) (tgt := 2449) dL_law_1878 (by decide) ?_
  refine x_iinc (M := (M_law nm)) dL_law_2449 rfl (Nat.le_of_ble_eq_true rfl) rfl ?_
  refine x_lvs (M := (M_law nm)) (lv' := [some (.ref 0), some (.ref 32), some (.ref 277), some (.ref 359), some (.int (Int32.ofInt 7)), some (.int (Int32.ofInt 1)), some (.int (Int32.ofInt 0)), none]) (by rw [(by decide +kernel : (Int32.ofInt 1) + Int32.ofInt 6 = (Int32.ofInt 7))] <;> rfl) ?_
  refine x_goto (M := (M_law nm)) (tgt := 33) dL_law_2452 (by decide) ?_
  refine x_iload (M := (M_law nm)) dL_law_33 rfl ?_
  refine x_aload_n (M := (M_law nm)) dL_law_35 rfl ?_
  refine x_slen (M := (M_law nm)) dL_law_36 (by decide) hx ?_
  refine x_bipush (M := (M_law nm)) dL_law_37 ?_
  refine x_isub (M := (M_law nm)) dL_law_39 ?_
  refine x_icmp_gt (M := (M_law nm)) (tgt := 2455) dL_law_40 (by decide) (fun _ => ?_) (fun q => absurd q (by decide +kernel))
  refine x_iconst (M := (M_law nm)) dL_law_2455 ?_
  exact x_zret (M := (M_law nm)) dL_law_2456 rfl (by decide) rfl (Nat.le_of_ble_eq_true rfl) (Nat.le_of_ble_eq_true rfl)
set_option maxRecDepth 10000 in
theorem q5454 {l : Launch} {E : EE} (hl : l.stackTraces = false) {h : HP} {a1 : Int32} (c0 : ¬ (a1.toInt < (-1000000000))) (c1 : ¬ (1000000000 < a1.toInt)) : en_C l E M_X11_isBeyond 0 0 0 [.int a1, .int (Int32.ofInt 1000000000)] h (pR (some (.int (Int32.ofInt 0))) h) := by
  refine en_mk m_X11_isBeyond rfl hl (Nat.le_of_ble_eq_true rfl) ?_
  refine x_iload_n (M := M_X11_isBeyond) dX11_isBeyond_0 rfl ?_
  refine x_iload_n (M := M_X11_isBeyond) dX11_isBeyond_1 rfl ?_
  refine x_ineg (M := M_X11_isBeyond) dX11_isBeyond_2 ?_
  refine x_icmp_lt (M := M_X11_isBeyond) (tgt := 11) dX11_isBeyond_3 (by decide) (fun q => absurd ((bi_lt rfl (by decide +kernel)).mp q) (by omega : ¬ (a1.toInt < (-1000000000)))) (fun _ => ?_)
  refine x_iload_n (M := M_X11_isBeyond) dX11_isBeyond_6 rfl ?_
  refine x_iload_n (M := M_X11_isBeyond) dX11_isBeyond_7 rfl ?_
  refine x_icmp_le (M := M_X11_isBeyond) (tgt := 15) dX11_isBeyond_8 (by decide) (fun _ => ?_) (fun q => absurd ((bi_le rfl (by decide +kernel)).mpr (by omega : (a1.toInt ≤ 1000000000 : Prop))) q)
  refine x_iconst (M := M_X11_isBeyond) dX11_isBeyond_15 ?_
  exact x_zret (M := M_X11_isBeyond) dX11_isBeyond_16 rfl (by decide) ⟨rfl, rfl⟩ (Nat.le_of_ble_eq_true rfl) (Nat.le_of_ble_eq_true rfl)
set_option maxRecDepth 10000 in
theorem q5458 {l : Launch} {E : EE} (hl : l.stackTraces = false) {h : HP} (o5457 : ob h 34 = some (.inr (9, [.ref 35, .ref 36, .ref 37, .int (0 : Int32), .int (0 : Int32)]))) : en_C l E M_X6_putBox 0 0 0 [.ref 34, .ref 274] h (pR (some (.int (Int32.ofInt 0))) h) := by
  refine en_mk m_X6_putBox rfl hl (Nat.le_of_ble_eq_true rfl) ?_
  refine x_iconst (M := M_X6_putBox) dX6_putBox_0 ?_
  refine x_istore_n (M := M_X6_putBox) dX6_putBox_1 (Nat.le_of_ble_eq_true rfl) rfl ?_
  refine x_iload_n (M := M_X6_putBox) dX6_putBox_2 rfl ?_
  refine x_aload_n (M := M_X6_putBox) dX6_putBox_3 rfl ?_
  refine x_getf (M := M_X6_putBox) (ci := 9) (C := RX6) (T := TX6) (N := 5) (ty := tyX6) cl9 dX6_putBox_4 o5457 4 (by decide) t_83 (v := .int (0 : Int32)) rfl ?_
  refine x_icmp_ge (M := M_X6_putBox) (tgt := 128) dX6_putBox_7 (by decide) (fun _ => ?_) (fun q => absurd q (by decide +kernel))
  refine x_aload_n (M := M_X6_putBox) dX6_putBox_128 rfl ?_
  refine x_getf (M := M_X6_putBox) (ci := 9) (C := RX6) (T := TX6) (N := 5) (ty := tyX6) cl9 dX6_putBox_129 o5457 4 (by decide) t_83 (v := .int (0 : Int32)) rfl ?_
  refine x_if_le (M := M_X6_putBox) (tgt := 139) dX6_putBox_132 (by decide) (fun _ => ?_) (fun q => absurd q (by decide +kernel))
  refine x_iconst (M := M_X6_putBox) dX6_putBox_139 ?_
  exact x_zret (M := M_X6_putBox) dX6_putBox_140 rfl (by decide) ⟨rfl, rfl⟩ (Nat.le_of_ble_eq_true rfl) (Nat.le_of_ble_eq_true rfl)
set_option maxRecDepth 10000 in
theorem q5461 {l : Launch} {E : EE} (hl : l.stackTraces = false) {h : HP} (o5460 : ob h 38 = some (.inr (9, [.ref 39, .ref 40, .ref 41, .int (0 : Int32), .int (0 : Int32)]))) : en_C l E M_X6_putBox 0 0 0 [.ref 38, .ref 274] h (pR (some (.int (Int32.ofInt 0))) h) := by
  refine en_mk m_X6_putBox rfl hl (Nat.le_of_ble_eq_true rfl) ?_
  refine x_iconst (M := M_X6_putBox) dX6_putBox_0 ?_
  refine x_istore_n (M := M_X6_putBox) dX6_putBox_1 (Nat.le_of_ble_eq_true rfl) rfl ?_
  refine x_iload_n (M := M_X6_putBox) dX6_putBox_2 rfl ?_
  refine x_aload_n (M := M_X6_putBox) dX6_putBox_3 rfl ?_
  refine x_getf (M := M_X6_putBox) (ci := 9) (C := RX6) (T := TX6) (N := 5) (ty := tyX6) cl9 dX6_putBox_4 o5460 4 (by decide) t_83 (v := .int (0 : Int32)) rfl ?_
  refine x_icmp_ge (M := M_X6_putBox) (tgt := 128) dX6_putBox_7 (by decide) (fun _ => ?_) (fun q => absurd q (by decide +kernel))
  refine x_aload_n (M := M_X6_putBox) dX6_putBox_128 rfl ?_
  refine x_getf (M := M_X6_putBox) (ci := 9) (C := RX6) (T := TX6) (N := 5) (ty := tyX6) cl9 dX6_putBox_129 o5460 4 (by decide) t_83 (v := .int (0 : Int32)) rfl ?_
  refine x_if_le (M := M_X6_putBox) (tgt := 139) dX6_putBox_132 (by decide) (fun _ => ?_) (fun q => absurd q (by decide +kernel))
  refine x_iconst (M := M_X6_putBox) dX6_putBox_139 ?_
  exact x_zret (M := M_X6_putBox) dX6_putBox_140 rfl (by decide) ⟨rfl, rfl⟩ (Nat.le_of_ble_eq_true rfl) (Nat.le_of_ble_eq_true rfl)
set_option maxRecDepth 10000 in
theorem q5464 {l : Launch} {E : EE} (hl : l.stackTraces = false) {h : HP} (o5463 : ob h 42 = some (.inr (9, [.ref 43, .ref 44, .ref 45, .int (0 : Int32), .int (0 : Int32)]))) : en_C l E M_X6_putBox 0 0 0 [.ref 42, .ref 274] h (pR (some (.int (Int32.ofInt 0))) h) := by
  refine en_mk m_X6_putBox rfl hl (Nat.le_of_ble_eq_true rfl) ?_
  refine x_iconst (M := M_X6_putBox) dX6_putBox_0 ?_
  refine x_istore_n (M := M_X6_putBox) dX6_putBox_1 (Nat.le_of_ble_eq_true rfl) rfl ?_
  refine x_iload_n (M := M_X6_putBox) dX6_putBox_2 rfl ?_
  refine x_aload_n (M := M_X6_putBox) dX6_putBox_3 rfl ?_
  refine x_getf (M := M_X6_putBox) (ci := 9) (C := RX6) (T := TX6) (N := 5) (ty := tyX6) cl9 dX6_putBox_4 o5463 4 (by decide) t_83 (v := .int (0 : Int32)) rfl ?_
  refine x_icmp_ge (M := M_X6_putBox) (tgt := 128) dX6_putBox_7 (by decide) (fun _ => ?_) (fun q => absurd q (by decide +kernel))
  refine x_aload_n (M := M_X6_putBox) dX6_putBox_128 rfl ?_
  refine x_getf (M := M_X6_putBox) (ci := 9) (C := RX6) (T := TX6) (N := 5) (ty := tyX6) cl9 dX6_putBox_129 o5463 4 (by decide) t_83 (v := .int (0 : Int32)) rfl ?_
  refine x_if_le (M := M_X6_putBox) (tgt := 139) dX6_putBox_132 (by decide) (fun _ => ?_) (fun q => absurd q (by decide +kernel))
  refine x_iconst (M := M_X6_putBox) dX6_putBox_139 ?_
  exact x_zret (M := M_X6_putBox) dX6_putBox_140 rfl (by decide) ⟨rfl, rfl⟩ (Nat.le_of_ble_eq_true rfl) (Nat.le_of_ble_eq_true rfl)
set_option maxRecDepth 10000 in
theorem q5467 {l : Launch} {E : EE} (hl : l.stackTraces = false) {h : HP} (o5466 : ob h 46 = some (.inr (9, [.ref 47, .ref 48, .ref 49, .int (0 : Int32), .int (0 : Int32)]))) : en_C l E M_X6_putBox 0 0 0 [.ref 46, .ref 274] h (pR (some (.int (Int32.ofInt 0))) h) := by
  refine en_mk m_X6_putBox rfl hl (Nat.le_of_ble_eq_true rfl) ?_
  refine x_iconst (M := M_X6_putBox) dX6_putBox_0 ?_
  refine x_istore_n (M := M_X6_putBox) dX6_putBox_1 (Nat.le_of_ble_eq_true rfl) rfl ?_
  refine x_iload_n (M := M_X6_putBox) dX6_putBox_2 rfl ?_
  refine x_aload_n (M := M_X6_putBox) dX6_putBox_3 rfl ?_
  refine x_getf (M := M_X6_putBox) (ci := 9) (C := RX6) (T := TX6) (N := 5) (ty := tyX6) cl9 dX6_putBox_4 o5466 4 (by decide) t_83 (v := .int (0 : Int32)) rfl ?_
  refine x_icmp_ge (M := M_X6_putBox) (tgt := 128) dX6_putBox_7 (by decide) (fun _ => ?_) (fun q => absurd q (by decide +kernel))
  refine x_aload_n (M := M_X6_putBox) dX6_putBox_128 rfl ?_
  refine x_getf (M := M_X6_putBox) (ci := 9) (C := RX6) (T := TX6) (N := 5) (ty := tyX6) cl9 dX6_putBox_129 o5466 4 (by decide) t_83 (v := .int (0 : Int32)) rfl ?_
  refine x_if_le (M := M_X6_putBox) (tgt := 139) dX6_putBox_132 (by decide) (fun _ => ?_) (fun q => absurd q (by decide +kernel))
  refine x_iconst (M := M_X6_putBox) dX6_putBox_139 ?_
  exact x_zret (M := M_X6_putBox) dX6_putBox_140 rfl (by decide) ⟨rfl, rfl⟩ (Nat.le_of_ble_eq_true rfl) (Nat.le_of_ble_eq_true rfl)
set_option maxRecDepth 10000 in
theorem q5470 {l : Launch} {E : EE} (hl : l.stackTraces = false) {h : HP} (o5469 : ob h 50 = some (.inr (9, [.ref 51, .ref 52, .ref 53, .int (0 : Int32), .int (0 : Int32)]))) : en_C l E M_X6_putBox 0 0 0 [.ref 50, .ref 274] h (pR (some (.int (Int32.ofInt 0))) h) := by
  refine en_mk m_X6_putBox rfl hl (Nat.le_of_ble_eq_true rfl) ?_
  refine x_iconst (M := M_X6_putBox) dX6_putBox_0 ?_
  refine x_istore_n (M := M_X6_putBox) dX6_putBox_1 (Nat.le_of_ble_eq_true rfl) rfl ?_
  refine x_iload_n (M := M_X6_putBox) dX6_putBox_2 rfl ?_
  refine x_aload_n (M := M_X6_putBox) dX6_putBox_3 rfl ?_
  refine x_getf (M := M_X6_putBox) (ci := 9) (C := RX6) (T := TX6) (N := 5) (ty := tyX6) cl9 dX6_putBox_4 o5469 4 (by decide) t_83 (v := .int (0 : Int32)) rfl ?_
  refine x_icmp_ge (M := M_X6_putBox) (tgt := 128) dX6_putBox_7 (by decide) (fun _ => ?_) (fun q => absurd q (by decide +kernel))
  refine x_aload_n (M := M_X6_putBox) dX6_putBox_128 rfl ?_
  refine x_getf (M := M_X6_putBox) (ci := 9) (C := RX6) (T := TX6) (N := 5) (ty := tyX6) cl9 dX6_putBox_129 o5469 4 (by decide) t_83 (v := .int (0 : Int32)) rfl ?_
  refine x_if_le (M := M_X6_putBox) (tgt := 139) dX6_putBox_132 (by decide) (fun _ => ?_) (fun q => absurd q (by decide +kernel))
  refine x_iconst (M := M_X6_putBox) dX6_putBox_139 ?_
  exact x_zret (M := M_X6_putBox) dX6_putBox_140 rfl (by decide) ⟨rfl, rfl⟩ (Nat.le_of_ble_eq_true rfl) (Nat.le_of_ble_eq_true rfl)
set_option maxRecDepth 10000 in
theorem q5473 {l : Launch} {E : EE} (hl : l.stackTraces = false) {h : HP} (o5472 : ob h 54 = some (.inr (9, [.ref 55, .ref 56, .ref 57, .int (0 : Int32), .int (0 : Int32)]))) : en_C l E M_X6_putBox 0 0 0 [.ref 54, .ref 274] h (pR (some (.int (Int32.ofInt 0))) h) := by
  refine en_mk m_X6_putBox rfl hl (Nat.le_of_ble_eq_true rfl) ?_
  refine x_iconst (M := M_X6_putBox) dX6_putBox_0 ?_
  refine x_istore_n (M := M_X6_putBox) dX6_putBox_1 (Nat.le_of_ble_eq_true rfl) rfl ?_
  refine x_iload_n (M := M_X6_putBox) dX6_putBox_2 rfl ?_
  refine x_aload_n (M := M_X6_putBox) dX6_putBox_3 rfl ?_
  refine x_getf (M := M_X6_putBox) (ci := 9) (C := RX6) (T := TX6) (N := 5) (ty := tyX6) cl9 dX6_putBox_4 o5472 4 (by decide) t_83 (v := .int (0 : Int32)) rfl ?_
  refine x_icmp_ge (M := M_X6_putBox) (tgt := 128) dX6_putBox_7 (by decide) (fun _ => ?_) (fun q => absurd q (by decide +kernel))
  refine x_aload_n (M := M_X6_putBox) dX6_putBox_128 rfl ?_
  refine x_getf (M := M_X6_putBox) (ci := 9) (C := RX6) (T := TX6) (N := 5) (ty := tyX6) cl9 dX6_putBox_129 o5472 4 (by decide) t_83 (v := .int (0 : Int32)) rfl ?_
  refine x_if_le (M := M_X6_putBox) (tgt := 139) dX6_putBox_132 (by decide) (fun _ => ?_) (fun q => absurd q (by decide +kernel))
  refine x_iconst (M := M_X6_putBox) dX6_putBox_139 ?_
  exact x_zret (M := M_X6_putBox) dX6_putBox_140 rfl (by decide) ⟨rfl, rfl⟩ (Nat.le_of_ble_eq_true rfl) (Nat.le_of_ble_eq_true rfl)
set_option maxRecDepth 10000 in
theorem q5476 {l : Launch} {E : EE} (hl : l.stackTraces = false) {h : HP} (o5475 : ob h 58 = some (.inr (9, [.ref 59, .ref 60, .ref 61, .int (0 : Int32), .int (0 : Int32)]))) : en_C l E M_X6_putBox 0 0 0 [.ref 58, .ref 274] h (pR (some (.int (Int32.ofInt 0))) h) := by
  refine en_mk m_X6_putBox rfl hl (Nat.le_of_ble_eq_true rfl) ?_
  refine x_iconst (M := M_X6_putBox) dX6_putBox_0 ?_
  refine x_istore_n (M := M_X6_putBox) dX6_putBox_1 (Nat.le_of_ble_eq_true rfl) rfl ?_
  refine x_iload_n (M := M_X6_putBox) dX6_putBox_2 rfl ?_
  refine x_aload_n (M := M_X6_putBox) dX6_putBox_3 rfl ?_
  refine x_getf (M := M_X6_putBox) (ci := 9) (C := RX6) (T := TX6) (N := 5) (ty := tyX6) cl9 dX6_putBox_4 o5475 4 (by decide) t_83 (v := .int (0 : Int32)) rfl ?_
  refine x_icmp_ge (M := M_X6_putBox) (tgt := 128) dX6_putBox_7 (by decide) (fun _ => ?_) (fun q => absurd q (by decide +kernel))
  refine x_aload_n (M := M_X6_putBox) dX6_putBox_128 rfl ?_
  refine x_getf (M := M_X6_putBox) (ci := 9) (C := RX6) (T := TX6) (N := 5) (ty := tyX6) cl9 dX6_putBox_129 o5475 4 (by decide) t_83 (v := .int (0 : Int32)) rfl ?_
  refine x_if_le (M := M_X6_putBox) (tgt := 139) dX6_putBox_132 (by decide) (fun _ => ?_) (fun q => absurd q (by decide +kernel))
  refine x_iconst (M := M_X6_putBox) dX6_putBox_139 ?_
  exact x_zret (M := M_X6_putBox) dX6_putBox_140 rfl (by decide) ⟨rfl, rfl⟩ (Nat.le_of_ble_eq_true rfl) (Nat.le_of_ble_eq_true rfl)
set_option maxRecDepth 10000 in
theorem q5479 {l : Launch} {E : EE} (hl : l.stackTraces = false) {h : HP} (o5478 : ob h 62 = some (.inr (9, [.ref 63, .ref 64, .ref 65, .int (0 : Int32), .int (0 : Int32)]))) : en_C l E M_X6_putBox 0 0 0 [.ref 62, .ref 274] h (pR (some (.int (Int32.ofInt 0))) h) := by
  refine en_mk m_X6_putBox rfl hl (Nat.le_of_ble_eq_true rfl) ?_
  refine x_iconst (M := M_X6_putBox) dX6_putBox_0 ?_
  refine x_istore_n (M := M_X6_putBox) dX6_putBox_1 (Nat.le_of_ble_eq_true rfl) rfl ?_
  refine x_iload_n (M := M_X6_putBox) dX6_putBox_2 rfl ?_
  refine x_aload_n (M := M_X6_putBox) dX6_putBox_3 rfl ?_
  refine x_getf (M := M_X6_putBox) (ci := 9) (C := RX6) (T := TX6) (N := 5) (ty := tyX6) cl9 dX6_putBox_4 o5478 4 (by decide) t_83 (v := .int (0 : Int32)) rfl ?_
  refine x_icmp_ge (M := M_X6_putBox) (tgt := 128) dX6_putBox_7 (by decide) (fun _ => ?_) (fun q => absurd q (by decide +kernel))
  refine x_aload_n (M := M_X6_putBox) dX6_putBox_128 rfl ?_
  refine x_getf (M := M_X6_putBox) (ci := 9) (C := RX6) (T := TX6) (N := 5) (ty := tyX6) cl9 dX6_putBox_129 o5478 4 (by decide) t_83 (v := .int (0 : Int32)) rfl ?_
  refine x_if_le (M := M_X6_putBox) (tgt := 139) dX6_putBox_132 (by decide) (fun _ => ?_) (fun q => absurd q (by decide +kernel))
  refine x_iconst (M := M_X6_putBox) dX6_putBox_139 ?_
  exact x_zret (M := M_X6_putBox) dX6_putBox_140 rfl (by decide) ⟨rfl, rfl⟩ (Nat.le_of_ble_eq_true rfl) (Nat.le_of_ble_eq_true rfl)
set_option maxRecDepth 10000 in
theorem q5482 {l : Launch} {E : EE} (hl : l.stackTraces = false) {h : HP} (o5481 : ob h 66 = some (.inr (9, [.ref 67, .ref 68, .ref 69, .int (0 : Int32), .int (0 : Int32)]))) : en_C l E M_X6_putBox 0 0 0 [.ref 66, .ref 274] h (pR (some (.int (Int32.ofInt 0))) h) := by
  refine en_mk m_X6_putBox rfl hl (Nat.le_of_ble_eq_true rfl) ?_
  refine x_iconst (M := M_X6_putBox) dX6_putBox_0 ?_
  refine x_istore_n (M := M_X6_putBox) dX6_putBox_1 (Nat.le_of_ble_eq_true rfl) rfl ?_
  refine x_iload_n (M := M_X6_putBox) dX6_putBox_2 rfl ?_
  refine x_aload_n (M := M_X6_putBox) dX6_putBox_3 rfl ?_
  refine x_getf (M := M_X6_putBox) (ci := 9) (C := RX6) (T := TX6) (N := 5) (ty := tyX6) cl9 dX6_putBox_4 o5481 4 (by decide) t_83 (v := .int (0 : Int32)) rfl ?_
  refine x_icmp_ge (M := M_X6_putBox) (tgt := 128) dX6_putBox_7 (by decide) (fun _ => ?_) (fun q => absurd q (by decide +kernel))
  refine x_aload_n (M := M_X6_putBox) dX6_putBox_128 rfl ?_
  refine x_getf (M := M_X6_putBox) (ci := 9) (C := RX6) (T := TX6) (N := 5) (ty := tyX6) cl9 dX6_putBox_129 o5481 4 (by decide) t_83 (v := .int (0 : Int32)) rfl ?_
  refine x_if_le (M := M_X6_putBox) (tgt := 139) dX6_putBox_132 (by decide) (fun _ => ?_) (fun q => absurd q (by decide +kernel))
  refine x_iconst (M := M_X6_putBox) dX6_putBox_139 ?_
  exact x_zret (M := M_X6_putBox) dX6_putBox_140 rfl (by decide) ⟨rfl, rfl⟩ (Nat.le_of_ble_eq_true rfl) (Nat.le_of_ble_eq_true rfl)
set_option maxRecDepth 10000 in
theorem q5485 {l : Launch} {E : EE} (hl : l.stackTraces = false) {h : HP} (o5484 : ob h 70 = some (.inr (9, [.ref 71, .ref 72, .ref 73, .int (0 : Int32), .int (0 : Int32)]))) : en_C l E M_X6_putBox 0 0 0 [.ref 70, .ref 274] h (pR (some (.int (Int32.ofInt 0))) h) := by
  refine en_mk m_X6_putBox rfl hl (Nat.le_of_ble_eq_true rfl) ?_
  refine x_iconst (M := M_X6_putBox) dX6_putBox_0 ?_
  refine x_istore_n (M := M_X6_putBox) dX6_putBox_1 (Nat.le_of_ble_eq_true rfl) rfl ?_
  refine x_iload_n (M := M_X6_putBox) dX6_putBox_2 rfl ?_
  refine x_aload_n (M := M_X6_putBox) dX6_putBox_3 rfl ?_
  refine x_getf (M := M_X6_putBox) (ci := 9) (C := RX6) (T := TX6) (N := 5) (ty := tyX6) cl9 dX6_putBox_4 o5484 4 (by decide) t_83 (v := .int (0 : Int32)) rfl ?_
  refine x_icmp_ge (M := M_X6_putBox) (tgt := 128) dX6_putBox_7 (by decide) (fun _ => ?_) (fun q => absurd q (by decide +kernel))
  refine x_aload_n (M := M_X6_putBox) dX6_putBox_128 rfl ?_
  refine x_getf (M := M_X6_putBox) (ci := 9) (C := RX6) (T := TX6) (N := 5) (ty := tyX6) cl9 dX6_putBox_129 o5484 4 (by decide) t_83 (v := .int (0 : Int32)) rfl ?_
  refine x_if_le (M := M_X6_putBox) (tgt := 139) dX6_putBox_132 (by decide) (fun _ => ?_) (fun q => absurd q (by decide +kernel))
  refine x_iconst (M := M_X6_putBox) dX6_putBox_139 ?_
  exact x_zret (M := M_X6_putBox) dX6_putBox_140 rfl (by decide) ⟨rfl, rfl⟩ (Nat.le_of_ble_eq_true rfl) (Nat.le_of_ble_eq_true rfl)
set_option maxRecDepth 10000 in
theorem q5488 {l : Launch} {E : EE} (hl : l.stackTraces = false) {h : HP} (o5487 : ob h 74 = some (.inr (9, [.ref 75, .ref 76, .ref 77, .int (0 : Int32), .int (0 : Int32)]))) : en_C l E M_X6_putBox 0 0 0 [.ref 74, .ref 274] h (pR (some (.int (Int32.ofInt 0))) h) := by
  refine en_mk m_X6_putBox rfl hl (Nat.le_of_ble_eq_true rfl) ?_
  refine x_iconst (M := M_X6_putBox) dX6_putBox_0 ?_
  refine x_istore_n (M := M_X6_putBox) dX6_putBox_1 (Nat.le_of_ble_eq_true rfl) rfl ?_
  refine x_iload_n (M := M_X6_putBox) dX6_putBox_2 rfl ?_
  refine x_aload_n (M := M_X6_putBox) dX6_putBox_3 rfl ?_
  refine x_getf (M := M_X6_putBox) (ci := 9) (C := RX6) (T := TX6) (N := 5) (ty := tyX6) cl9 dX6_putBox_4 o5487 4 (by decide) t_83 (v := .int (0 : Int32)) rfl ?_
  refine x_icmp_ge (M := M_X6_putBox) (tgt := 128) dX6_putBox_7 (by decide) (fun _ => ?_) (fun q => absurd q (by decide +kernel))
  refine x_aload_n (M := M_X6_putBox) dX6_putBox_128 rfl ?_
  refine x_getf (M := M_X6_putBox) (ci := 9) (C := RX6) (T := TX6) (N := 5) (ty := tyX6) cl9 dX6_putBox_129 o5487 4 (by decide) t_83 (v := .int (0 : Int32)) rfl ?_
  refine x_if_le (M := M_X6_putBox) (tgt := 139) dX6_putBox_132 (by decide) (fun _ => ?_) (fun q => absurd q (by decide +kernel))
  refine x_iconst (M := M_X6_putBox) dX6_putBox_139 ?_
  exact x_zret (M := M_X6_putBox) dX6_putBox_140 rfl (by decide) ⟨rfl, rfl⟩ (Nat.le_of_ble_eq_true rfl) (Nat.le_of_ble_eq_true rfl)
set_option maxRecDepth 10000 in
theorem q5491 {l : Launch} {E : EE} (hl : l.stackTraces = false) {h : HP} (o5490 : ob h 78 = some (.inr (9, [.ref 79, .ref 80, .ref 81, .int (0 : Int32), .int (0 : Int32)]))) : en_C l E M_X6_putBox 0 0 0 [.ref 78, .ref 274] h (pR (some (.int (Int32.ofInt 0))) h) := by
  refine en_mk m_X6_putBox rfl hl (Nat.le_of_ble_eq_true rfl) ?_
  refine x_iconst (M := M_X6_putBox) dX6_putBox_0 ?_
  refine x_istore_n (M := M_X6_putBox) dX6_putBox_1 (Nat.le_of_ble_eq_true rfl) rfl ?_
  refine x_iload_n (M := M_X6_putBox) dX6_putBox_2 rfl ?_
  refine x_aload_n (M := M_X6_putBox) dX6_putBox_3 rfl ?_
  refine x_getf (M := M_X6_putBox) (ci := 9) (C := RX6) (T := TX6) (N := 5) (ty := tyX6) cl9 dX6_putBox_4 o5490 4 (by decide) t_83 (v := .int (0 : Int32)) rfl ?_
  refine x_icmp_ge (M := M_X6_putBox) (tgt := 128) dX6_putBox_7 (by decide) (fun _ => ?_) (fun q => absurd q (by decide +kernel))
  refine x_aload_n (M := M_X6_putBox) dX6_putBox_128 rfl ?_
  refine x_getf (M := M_X6_putBox) (ci := 9) (C := RX6) (T := TX6) (N := 5) (ty := tyX6) cl9 dX6_putBox_129 o5490 4 (by decide) t_83 (v := .int (0 : Int32)) rfl ?_
  refine x_if_le (M := M_X6_putBox) (tgt := 139) dX6_putBox_132 (by decide) (fun _ => ?_) (fun q => absurd q (by decide +kernel))
  refine x_iconst (M := M_X6_putBox) dX6_putBox_139 ?_
  exact x_zret (M := M_X6_putBox) dX6_putBox_140 rfl (by decide) ⟨rfl, rfl⟩ (Nat.le_of_ble_eq_true rfl) (Nat.le_of_ble_eq_true rfl)
set_option maxRecDepth 10000 in
theorem q5494 {l : Launch} {E : EE} (hl : l.stackTraces = false) {h : HP} (o5493 : ob h 82 = some (.inr (9, [.ref 83, .ref 84, .ref 85, .int (0 : Int32), .int (0 : Int32)]))) : en_C l E M_X6_putBox 0 0 0 [.ref 82, .ref 274] h (pR (some (.int (Int32.ofInt 0))) h) := by
  refine en_mk m_X6_putBox rfl hl (Nat.le_of_ble_eq_true rfl) ?_
  refine x_iconst (M := M_X6_putBox) dX6_putBox_0 ?_
  refine x_istore_n (M := M_X6_putBox) dX6_putBox_1 (Nat.le_of_ble_eq_true rfl) rfl ?_
  refine x_iload_n (M := M_X6_putBox) dX6_putBox_2 rfl ?_
  refine x_aload_n (M := M_X6_putBox) dX6_putBox_3 rfl ?_
  refine x_getf (M := M_X6_putBox) (ci := 9) (C := RX6) (T := TX6) (N := 5) (ty := tyX6) cl9 dX6_putBox_4 o5493 4 (by decide) t_83 (v := .int (0 : Int32)) rfl ?_
  refine x_icmp_ge (M := M_X6_putBox) (tgt := 128) dX6_putBox_7 (by decide) (fun _ => ?_) (fun q => absurd q (by decide +kernel))
  refine x_aload_n (M := M_X6_putBox) dX6_putBox_128 rfl ?_
  refine x_getf (M := M_X6_putBox) (ci := 9) (C := RX6) (T := TX6) (N := 5) (ty := tyX6) cl9 dX6_putBox_129 o5493 4 (by decide) t_83 (v := .int (0 : Int32)) rfl ?_
  refine x_if_le (M := M_X6_putBox) (tgt := 139) dX6_putBox_132 (by decide) (fun _ => ?_) (fun q => absurd q (by decide +kernel))
  refine x_iconst (M := M_X6_putBox) dX6_putBox_139 ?_
  exact x_zret (M := M_X6_putBox) dX6_putBox_140 rfl (by decide) ⟨rfl, rfl⟩ (Nat.le_of_ble_eq_true rfl) (Nat.le_of_ble_eq_true rfl)
set_option maxRecDepth 10000 in
theorem q5497 {l : Launch} {E : EE} (hl : l.stackTraces = false) {h : HP} (o5496 : ob h 86 = some (.inr (9, [.ref 87, .ref 88, .ref 89, .int (0 : Int32), .int (0 : Int32)]))) : en_C l E M_X6_putBox 0 0 0 [.ref 86, .ref 274] h (pR (some (.int (Int32.ofInt 0))) h) := by
  refine en_mk m_X6_putBox rfl hl (Nat.le_of_ble_eq_true rfl) ?_
  refine x_iconst (M := M_X6_putBox) dX6_putBox_0 ?_
  refine x_istore_n (M := M_X6_putBox) dX6_putBox_1 (Nat.le_of_ble_eq_true rfl) rfl ?_
  refine x_iload_n (M := M_X6_putBox) dX6_putBox_2 rfl ?_
  refine x_aload_n (M := M_X6_putBox) dX6_putBox_3 rfl ?_
  refine x_getf (M := M_X6_putBox) (ci := 9) (C := RX6) (T := TX6) (N := 5) (ty := tyX6) cl9 dX6_putBox_4 o5496 4 (by decide) t_83 (v := .int (0 : Int32)) rfl ?_
  refine x_icmp_ge (M := M_X6_putBox) (tgt := 128) dX6_putBox_7 (by decide) (fun _ => ?_) (fun q => absurd q (by decide +kernel))
  refine x_aload_n (M := M_X6_putBox) dX6_putBox_128 rfl ?_
  refine x_getf (M := M_X6_putBox) (ci := 9) (C := RX6) (T := TX6) (N := 5) (ty := tyX6) cl9 dX6_putBox_129 o5496 4 (by decide) t_83 (v := .int (0 : Int32)) rfl ?_
  refine x_if_le (M := M_X6_putBox) (tgt := 139) dX6_putBox_132 (by decide) (fun _ => ?_) (fun q => absurd q (by decide +kernel))
  refine x_iconst (M := M_X6_putBox) dX6_putBox_139 ?_
  exact x_zret (M := M_X6_putBox) dX6_putBox_140 rfl (by decide) ⟨rfl, rfl⟩ (Nat.le_of_ble_eq_true rfl) (Nat.le_of_ble_eq_true rfl)
set_option maxRecDepth 10000 in
theorem q5500 {l : Launch} {E : EE} (hl : l.stackTraces = false) {h : HP} (o5499 : ob h 90 = some (.inr (9, [.ref 91, .ref 92, .ref 93, .int (0 : Int32), .int (0 : Int32)]))) : en_C l E M_X6_putBox 0 0 0 [.ref 90, .ref 274] h (pR (some (.int (Int32.ofInt 0))) h) := by
  refine en_mk m_X6_putBox rfl hl (Nat.le_of_ble_eq_true rfl) ?_
  refine x_iconst (M := M_X6_putBox) dX6_putBox_0 ?_
  refine x_istore_n (M := M_X6_putBox) dX6_putBox_1 (Nat.le_of_ble_eq_true rfl) rfl ?_
  refine x_iload_n (M := M_X6_putBox) dX6_putBox_2 rfl ?_
  refine x_aload_n (M := M_X6_putBox) dX6_putBox_3 rfl ?_
  refine x_getf (M := M_X6_putBox) (ci := 9) (C := RX6) (T := TX6) (N := 5) (ty := tyX6) cl9 dX6_putBox_4 o5499 4 (by decide) t_83 (v := .int (0 : Int32)) rfl ?_
  refine x_icmp_ge (M := M_X6_putBox) (tgt := 128) dX6_putBox_7 (by decide) (fun _ => ?_) (fun q => absurd q (by decide +kernel))
  refine x_aload_n (M := M_X6_putBox) dX6_putBox_128 rfl ?_
  refine x_getf (M := M_X6_putBox) (ci := 9) (C := RX6) (T := TX6) (N := 5) (ty := tyX6) cl9 dX6_putBox_129 o5499 4 (by decide) t_83 (v := .int (0 : Int32)) rfl ?_
  refine x_if_le (M := M_X6_putBox) (tgt := 139) dX6_putBox_132 (by decide) (fun _ => ?_) (fun q => absurd q (by decide +kernel))
  refine x_iconst (M := M_X6_putBox) dX6_putBox_139 ?_
  exact x_zret (M := M_X6_putBox) dX6_putBox_140 rfl (by decide) ⟨rfl, rfl⟩ (Nat.le_of_ble_eq_true rfl) (Nat.le_of_ble_eq_true rfl)
set_option maxRecDepth 10000 in
theorem q5503 {l : Launch} {E : EE} (hl : l.stackTraces = false) {h : HP} (o5502 : ob h 94 = some (.inr (9, [.ref 95, .ref 96, .ref 97, .int (0 : Int32), .int (0 : Int32)]))) : en_C l E M_X6_putBox 0 0 0 [.ref 94, .ref 274] h (pR (some (.int (Int32.ofInt 0))) h) := by
  refine en_mk m_X6_putBox rfl hl (Nat.le_of_ble_eq_true rfl) ?_
  refine x_iconst (M := M_X6_putBox) dX6_putBox_0 ?_
  refine x_istore_n (M := M_X6_putBox) dX6_putBox_1 (Nat.le_of_ble_eq_true rfl) rfl ?_
  refine x_iload_n (M := M_X6_putBox) dX6_putBox_2 rfl ?_
  refine x_aload_n (M := M_X6_putBox) dX6_putBox_3 rfl ?_
  refine x_getf (M := M_X6_putBox) (ci := 9) (C := RX6) (T := TX6) (N := 5) (ty := tyX6) cl9 dX6_putBox_4 o5502 4 (by decide) t_83 (v := .int (0 : Int32)) rfl ?_
  refine x_icmp_ge (M := M_X6_putBox) (tgt := 128) dX6_putBox_7 (by decide) (fun _ => ?_) (fun q => absurd q (by decide +kernel))
  refine x_aload_n (M := M_X6_putBox) dX6_putBox_128 rfl ?_
  refine x_getf (M := M_X6_putBox) (ci := 9) (C := RX6) (T := TX6) (N := 5) (ty := tyX6) cl9 dX6_putBox_129 o5502 4 (by decide) t_83 (v := .int (0 : Int32)) rfl ?_
  refine x_if_le (M := M_X6_putBox) (tgt := 139) dX6_putBox_132 (by decide) (fun _ => ?_) (fun q => absurd q (by decide +kernel))
  refine x_iconst (M := M_X6_putBox) dX6_putBox_139 ?_
  exact x_zret (M := M_X6_putBox) dX6_putBox_140 rfl (by decide) ⟨rfl, rfl⟩ (Nat.le_of_ble_eq_true rfl) (Nat.le_of_ble_eq_true rfl)
set_option maxRecDepth 10000 in
theorem q5506 {l : Launch} {E : EE} (hl : l.stackTraces = false) {h : HP} (o5505 : ob h 98 = some (.inr (9, [.ref 99, .ref 100, .ref 101, .int (0 : Int32), .int (0 : Int32)]))) : en_C l E M_X6_putBox 0 0 0 [.ref 98, .ref 274] h (pR (some (.int (Int32.ofInt 0))) h) := by
  refine en_mk m_X6_putBox rfl hl (Nat.le_of_ble_eq_true rfl) ?_
  refine x_iconst (M := M_X6_putBox) dX6_putBox_0 ?_
  refine x_istore_n (M := M_X6_putBox) dX6_putBox_1 (Nat.le_of_ble_eq_true rfl) rfl ?_
  refine x_iload_n (M := M_X6_putBox) dX6_putBox_2 rfl ?_
  refine x_aload_n (M := M_X6_putBox) dX6_putBox_3 rfl ?_
  refine x_getf (M := M_X6_putBox) (ci := 9) (C := RX6) (T := TX6) (N := 5) (ty := tyX6) cl9 dX6_putBox_4 o5505 4 (by decide) t_83 (v := .int (0 : Int32)) rfl ?_
  refine x_icmp_ge (M := M_X6_putBox) (tgt := 128) dX6_putBox_7 (by decide) (fun _ => ?_) (fun q => absurd q (by decide +kernel))
  refine x_aload_n (M := M_X6_putBox) dX6_putBox_128 rfl ?_
  refine x_getf (M := M_X6_putBox) (ci := 9) (C := RX6) (T := TX6) (N := 5) (ty := tyX6) cl9 dX6_putBox_129 o5505 4 (by decide) t_83 (v := .int (0 : Int32)) rfl ?_
  refine x_if_le (M := M_X6_putBox) (tgt := 139) dX6_putBox_132 (by decide) (fun _ => ?_) (fun q => absurd q (by decide +kernel))
  refine x_iconst (M := M_X6_putBox) dX6_putBox_139 ?_
  exact x_zret (M := M_X6_putBox) dX6_putBox_140 rfl (by decide) ⟨rfl, rfl⟩ (Nat.le_of_ble_eq_true rfl) (Nat.le_of_ble_eq_true rfl)
set_option maxRecDepth 10000 in
theorem q5509 {l : Launch} {E : EE} (hl : l.stackTraces = false) {h : HP} (o5508 : ob h 102 = some (.inr (9, [.ref 103, .ref 104, .ref 105, .int (0 : Int32), .int (0 : Int32)]))) : en_C l E M_X6_putBox 0 0 0 [.ref 102, .ref 274] h (pR (some (.int (Int32.ofInt 0))) h) := by
  refine en_mk m_X6_putBox rfl hl (Nat.le_of_ble_eq_true rfl) ?_
  refine x_iconst (M := M_X6_putBox) dX6_putBox_0 ?_
  refine x_istore_n (M := M_X6_putBox) dX6_putBox_1 (Nat.le_of_ble_eq_true rfl) rfl ?_
  refine x_iload_n (M := M_X6_putBox) dX6_putBox_2 rfl ?_
  refine x_aload_n (M := M_X6_putBox) dX6_putBox_3 rfl ?_
  refine x_getf (M := M_X6_putBox) (ci := 9) (C := RX6) (T := TX6) (N := 5) (ty := tyX6) cl9 dX6_putBox_4 o5508 4 (by decide) t_83 (v := .int (0 : Int32)) rfl ?_
  refine x_icmp_ge (M := M_X6_putBox) (tgt := 128) dX6_putBox_7 (by decide) (fun _ => ?_) (fun q => absurd q (by decide +kernel))
  refine x_aload_n (M := M_X6_putBox) dX6_putBox_128 rfl ?_
  refine x_getf (M := M_X6_putBox) (ci := 9) (C := RX6) (T := TX6) (N := 5) (ty := tyX6) cl9 dX6_putBox_129 o5508 4 (by decide) t_83 (v := .int (0 : Int32)) rfl ?_
  refine x_if_le (M := M_X6_putBox) (tgt := 139) dX6_putBox_132 (by decide) (fun _ => ?_) (fun q => absurd q (by decide +kernel))
  refine x_iconst (M := M_X6_putBox) dX6_putBox_139 ?_
  exact x_zret (M := M_X6_putBox) dX6_putBox_140 rfl (by decide) ⟨rfl, rfl⟩ (Nat.le_of_ble_eq_true rfl) (Nat.le_of_ble_eq_true rfl)
set_option maxRecDepth 10000 in
theorem q5512 {l : Launch} {E : EE} (hl : l.stackTraces = false) {h : HP} (o5511 : ob h 106 = some (.inr (9, [.ref 107, .ref 108, .ref 109, .int (0 : Int32), .int (0 : Int32)]))) : en_C l E M_X6_putBox 0 0 0 [.ref 106, .ref 274] h (pR (some (.int (Int32.ofInt 0))) h) := by
  refine en_mk m_X6_putBox rfl hl (Nat.le_of_ble_eq_true rfl) ?_
  refine x_iconst (M := M_X6_putBox) dX6_putBox_0 ?_
  refine x_istore_n (M := M_X6_putBox) dX6_putBox_1 (Nat.le_of_ble_eq_true rfl) rfl ?_
  refine x_iload_n (M := M_X6_putBox) dX6_putBox_2 rfl ?_
  refine x_aload_n (M := M_X6_putBox) dX6_putBox_3 rfl ?_
  refine x_getf (M := M_X6_putBox) (ci := 9) (C := RX6) (T := TX6) (N := 5) (ty := tyX6) cl9 dX6_putBox_4 o5511 4 (by decide) t_83 (v := .int (0 : Int32)) rfl ?_
  refine x_icmp_ge (M := M_X6_putBox) (tgt := 128) dX6_putBox_7 (by decide) (fun _ => ?_) (fun q => absurd q (by decide +kernel))
  refine x_aload_n (M := M_X6_putBox) dX6_putBox_128 rfl ?_
  refine x_getf (M := M_X6_putBox) (ci := 9) (C := RX6) (T := TX6) (N := 5) (ty := tyX6) cl9 dX6_putBox_129 o5511 4 (by decide) t_83 (v := .int (0 : Int32)) rfl ?_
  refine x_if_le (M := M_X6_putBox) (tgt := 139) dX6_putBox_132 (by decide) (fun _ => ?_) (fun q => absurd q (by decide +kernel))
  refine x_iconst (M := M_X6_putBox) dX6_putBox_139 ?_
  exact x_zret (M := M_X6_putBox) dX6_putBox_140 rfl (by decide) ⟨rfl, rfl⟩ (Nat.le_of_ble_eq_true rfl) (Nat.le_of_ble_eq_true rfl)
set_option maxRecDepth 10000 in
theorem q5515 {l : Launch} {E : EE} (hl : l.stackTraces = false) {h : HP} (o5514 : ob h 110 = some (.inr (9, [.ref 111, .ref 112, .ref 113, .int (0 : Int32), .int (0 : Int32)]))) : en_C l E M_X6_putBox 0 0 0 [.ref 110, .ref 274] h (pR (some (.int (Int32.ofInt 0))) h) := by
  refine en_mk m_X6_putBox rfl hl (Nat.le_of_ble_eq_true rfl) ?_
  refine x_iconst (M := M_X6_putBox) dX6_putBox_0 ?_
  refine x_istore_n (M := M_X6_putBox) dX6_putBox_1 (Nat.le_of_ble_eq_true rfl) rfl ?_
  refine x_iload_n (M := M_X6_putBox) dX6_putBox_2 rfl ?_
  refine x_aload_n (M := M_X6_putBox) dX6_putBox_3 rfl ?_
  refine x_getf (M := M_X6_putBox) (ci := 9) (C := RX6) (T := TX6) (N := 5) (ty := tyX6) cl9 dX6_putBox_4 o5514 4 (by decide) t_83 (v := .int (0 : Int32)) rfl ?_
  refine x_icmp_ge (M := M_X6_putBox) (tgt := 128) dX6_putBox_7 (by decide) (fun _ => ?_) (fun q => absurd q (by decide +kernel))
  refine x_aload_n (M := M_X6_putBox) dX6_putBox_128 rfl ?_
  refine x_getf (M := M_X6_putBox) (ci := 9) (C := RX6) (T := TX6) (N := 5) (ty := tyX6) cl9 dX6_putBox_129 o5514 4 (by decide) t_83 (v := .int (0 : Int32)) rfl ?_
  refine x_if_le (M := M_X6_putBox) (tgt := 139) dX6_putBox_132 (by decide) (fun _ => ?_) (fun q => absurd q (by decide +kernel))
  refine x_iconst (M := M_X6_putBox) dX6_putBox_139 ?_
  exact x_zret (M := M_X6_putBox) dX6_putBox_140 rfl (by decide) ⟨rfl, rfl⟩ (Nat.le_of_ble_eq_true rfl) (Nat.le_of_ble_eq_true rfl)
set_option maxRecDepth 10000 in
theorem q5518 {l : Launch} {E : EE} (hl : l.stackTraces = false) {h : HP} (o5517 : ob h 114 = some (.inr (9, [.ref 115, .ref 116, .ref 117, .int (0 : Int32), .int (0 : Int32)]))) : en_C l E M_X6_putBox 0 0 0 [.ref 114, .ref 274] h (pR (some (.int (Int32.ofInt 0))) h) := by
  refine en_mk m_X6_putBox rfl hl (Nat.le_of_ble_eq_true rfl) ?_
  refine x_iconst (M := M_X6_putBox) dX6_putBox_0 ?_
  refine x_istore_n (M := M_X6_putBox) dX6_putBox_1 (Nat.le_of_ble_eq_true rfl) rfl ?_
  refine x_iload_n (M := M_X6_putBox) dX6_putBox_2 rfl ?_
  refine x_aload_n (M := M_X6_putBox) dX6_putBox_3 rfl ?_
  refine x_getf (M := M_X6_putBox) (ci := 9) (C := RX6) (T := TX6) (N := 5) (ty := tyX6) cl9 dX6_putBox_4 o5517 4 (by decide) t_83 (v := .int (0 : Int32)) rfl ?_
  refine x_icmp_ge (M := M_X6_putBox) (tgt := 128) dX6_putBox_7 (by decide) (fun _ => ?_) (fun q => absurd q (by decide +kernel))
  refine x_aload_n (M := M_X6_putBox) dX6_putBox_128 rfl ?_
  refine x_getf (M := M_X6_putBox) (ci := 9) (C := RX6) (T := TX6) (N := 5) (ty := tyX6) cl9 dX6_putBox_129 o5517 4 (by decide) t_83 (v := .int (0 : Int32)) rfl ?_
  refine x_if_le (M := M_X6_putBox) (tgt := 139) dX6_putBox_132 (by decide) (fun _ => ?_) (fun q => absurd q (by decide +kernel))
  refine x_iconst (M := M_X6_putBox) dX6_putBox_139 ?_
  exact x_zret (M := M_X6_putBox) dX6_putBox_140 rfl (by decide) ⟨rfl, rfl⟩ (Nat.le_of_ble_eq_true rfl) (Nat.le_of_ble_eq_true rfl)
set_option maxRecDepth 10000 in
theorem q5521 {l : Launch} {E : EE} (hl : l.stackTraces = false) {h : HP} (o5520 : ob h 118 = some (.inr (9, [.ref 119, .ref 120, .ref 121, .int (0 : Int32), .int (0 : Int32)]))) : en_C l E M_X6_putBox 0 0 0 [.ref 118, .ref 274] h (pR (some (.int (Int32.ofInt 0))) h) := by
  refine en_mk m_X6_putBox rfl hl (Nat.le_of_ble_eq_true rfl) ?_
  refine x_iconst (M := M_X6_putBox) dX6_putBox_0 ?_
  refine x_istore_n (M := M_X6_putBox) dX6_putBox_1 (Nat.le_of_ble_eq_true rfl) rfl ?_
  refine x_iload_n (M := M_X6_putBox) dX6_putBox_2 rfl ?_
  refine x_aload_n (M := M_X6_putBox) dX6_putBox_3 rfl ?_
  refine x_getf (M := M_X6_putBox) (ci := 9) (C := RX6) (T := TX6) (N := 5) (ty := tyX6) cl9 dX6_putBox_4 o5520 4 (by decide) t_83 (v := .int (0 : Int32)) rfl ?_
  refine x_icmp_ge (M := M_X6_putBox) (tgt := 128) dX6_putBox_7 (by decide) (fun _ => ?_) (fun q => absurd q (by decide +kernel))
  refine x_aload_n (M := M_X6_putBox) dX6_putBox_128 rfl ?_
  refine x_getf (M := M_X6_putBox) (ci := 9) (C := RX6) (T := TX6) (N := 5) (ty := tyX6) cl9 dX6_putBox_129 o5520 4 (by decide) t_83 (v := .int (0 : Int32)) rfl ?_
  refine x_if_le (M := M_X6_putBox) (tgt := 139) dX6_putBox_132 (by decide) (fun _ => ?_) (fun q => absurd q (by decide +kernel))
  refine x_iconst (M := M_X6_putBox) dX6_putBox_139 ?_
  exact x_zret (M := M_X6_putBox) dX6_putBox_140 rfl (by decide) ⟨rfl, rfl⟩ (Nat.le_of_ble_eq_true rfl) (Nat.le_of_ble_eq_true rfl)
set_option maxRecDepth 10000 in
theorem q5524 {l : Launch} {E : EE} (hl : l.stackTraces = false) {h : HP} (o5523 : ob h 122 = some (.inr (9, [.ref 123, .ref 124, .ref 125, .int (0 : Int32), .int (0 : Int32)]))) : en_C l E M_X6_putBox 0 0 0 [.ref 122, .ref 274] h (pR (some (.int (Int32.ofInt 0))) h) := by
  refine en_mk m_X6_putBox rfl hl (Nat.le_of_ble_eq_true rfl) ?_
  refine x_iconst (M := M_X6_putBox) dX6_putBox_0 ?_
  refine x_istore_n (M := M_X6_putBox) dX6_putBox_1 (Nat.le_of_ble_eq_true rfl) rfl ?_
  refine x_iload_n (M := M_X6_putBox) dX6_putBox_2 rfl ?_
  refine x_aload_n (M := M_X6_putBox) dX6_putBox_3 rfl ?_
  refine x_getf (M := M_X6_putBox) (ci := 9) (C := RX6) (T := TX6) (N := 5) (ty := tyX6) cl9 dX6_putBox_4 o5523 4 (by decide) t_83 (v := .int (0 : Int32)) rfl ?_
  refine x_icmp_ge (M := M_X6_putBox) (tgt := 128) dX6_putBox_7 (by decide) (fun _ => ?_) (fun q => absurd q (by decide +kernel))
  refine x_aload_n (M := M_X6_putBox) dX6_putBox_128 rfl ?_
  refine x_getf (M := M_X6_putBox) (ci := 9) (C := RX6) (T := TX6) (N := 5) (ty := tyX6) cl9 dX6_putBox_129 o5523 4 (by decide) t_83 (v := .int (0 : Int32)) rfl ?_
  refine x_if_le (M := M_X6_putBox) (tgt := 139) dX6_putBox_132 (by decide) (fun _ => ?_) (fun q => absurd q (by decide +kernel))
  refine x_iconst (M := M_X6_putBox) dX6_putBox_139 ?_
  exact x_zret (M := M_X6_putBox) dX6_putBox_140 rfl (by decide) ⟨rfl, rfl⟩ (Nat.le_of_ble_eq_true rfl) (Nat.le_of_ble_eq_true rfl)
set_option maxRecDepth 10000 in
theorem q5527 {l : Launch} {E : EE} (hl : l.stackTraces = false) {h : HP} (o5526 : ob h 126 = some (.inr (9, [.ref 127, .ref 128, .ref 129, .int (0 : Int32), .int (0 : Int32)]))) : en_C l E M_X6_putBox 0 0 0 [.ref 126, .ref 274] h (pR (some (.int (Int32.ofInt 0))) h) := by
  refine en_mk m_X6_putBox rfl hl (Nat.le_of_ble_eq_true rfl) ?_
  refine x_iconst (M := M_X6_putBox) dX6_putBox_0 ?_
  refine x_istore_n (M := M_X6_putBox) dX6_putBox_1 (Nat.le_of_ble_eq_true rfl) rfl ?_
  refine x_iload_n (M := M_X6_putBox) dX6_putBox_2 rfl ?_
  refine x_aload_n (M := M_X6_putBox) dX6_putBox_3 rfl ?_
  refine x_getf (M := M_X6_putBox) (ci := 9) (C := RX6) (T := TX6) (N := 5) (ty := tyX6) cl9 dX6_putBox_4 o5526 4 (by decide) t_83 (v := .int (0 : Int32)) rfl ?_
  refine x_icmp_ge (M := M_X6_putBox) (tgt := 128) dX6_putBox_7 (by decide) (fun _ => ?_) (fun q => absurd q (by decide +kernel))
  refine x_aload_n (M := M_X6_putBox) dX6_putBox_128 rfl ?_
  refine x_getf (M := M_X6_putBox) (ci := 9) (C := RX6) (T := TX6) (N := 5) (ty := tyX6) cl9 dX6_putBox_129 o5526 4 (by decide) t_83 (v := .int (0 : Int32)) rfl ?_
  refine x_if_le (M := M_X6_putBox) (tgt := 139) dX6_putBox_132 (by decide) (fun _ => ?_) (fun q => absurd q (by decide +kernel))
  refine x_iconst (M := M_X6_putBox) dX6_putBox_139 ?_
  exact x_zret (M := M_X6_putBox) dX6_putBox_140 rfl (by decide) ⟨rfl, rfl⟩ (Nat.le_of_ble_eq_true rfl) (Nat.le_of_ble_eq_true rfl)
set_option maxRecDepth 10000 in
theorem q5530 {l : Launch} {E : EE} (hl : l.stackTraces = false) {h : HP} (o5529 : ob h 130 = some (.inr (9, [.ref 131, .ref 132, .ref 133, .int (0 : Int32), .int (0 : Int32)]))) : en_C l E M_X6_putBox 0 0 0 [.ref 130, .ref 274] h (pR (some (.int (Int32.ofInt 0))) h) := by
  refine en_mk m_X6_putBox rfl hl (Nat.le_of_ble_eq_true rfl) ?_
  refine x_iconst (M := M_X6_putBox) dX6_putBox_0 ?_
  refine x_istore_n (M := M_X6_putBox) dX6_putBox_1 (Nat.le_of_ble_eq_true rfl) rfl ?_
  refine x_iload_n (M := M_X6_putBox) dX6_putBox_2 rfl ?_
  refine x_aload_n (M := M_X6_putBox) dX6_putBox_3 rfl ?_
  refine x_getf (M := M_X6_putBox) (ci := 9) (C := RX6) (T := TX6) (N := 5) (ty := tyX6) cl9 dX6_putBox_4 o5529 4 (by decide) t_83 (v := .int (0 : Int32)) rfl ?_
  refine x_icmp_ge (M := M_X6_putBox) (tgt := 128) dX6_putBox_7 (by decide) (fun _ => ?_) (fun q => absurd q (by decide +kernel))
  refine x_aload_n (M := M_X6_putBox) dX6_putBox_128 rfl ?_
  refine x_getf (M := M_X6_putBox) (ci := 9) (C := RX6) (T := TX6) (N := 5) (ty := tyX6) cl9 dX6_putBox_129 o5529 4 (by decide) t_83 (v := .int (0 : Int32)) rfl ?_
  refine x_if_le (M := M_X6_putBox) (tgt := 139) dX6_putBox_132 (by decide) (fun _ => ?_) (fun q => absurd q (by decide +kernel))
  refine x_iconst (M := M_X6_putBox) dX6_putBox_139 ?_
  exact x_zret (M := M_X6_putBox) dX6_putBox_140 rfl (by decide) ⟨rfl, rfl⟩ (Nat.le_of_ble_eq_true rfl) (Nat.le_of_ble_eq_true rfl)
set_option maxRecDepth 10000 in
theorem q5533 {l : Launch} {E : EE} (hl : l.stackTraces = false) {h : HP} (o5532 : ob h 134 = some (.inr (9, [.ref 135, .ref 136, .ref 137, .int (0 : Int32), .int (0 : Int32)]))) : en_C l E M_X6_putBox 0 0 0 [.ref 134, .ref 274] h (pR (some (.int (Int32.ofInt 0))) h) := by
  refine en_mk m_X6_putBox rfl hl (Nat.le_of_ble_eq_true rfl) ?_
  refine x_iconst (M := M_X6_putBox) dX6_putBox_0 ?_
  refine x_istore_n (M := M_X6_putBox) dX6_putBox_1 (Nat.le_of_ble_eq_true rfl) rfl ?_
  refine x_iload_n (M := M_X6_putBox) dX6_putBox_2 rfl ?_
  refine x_aload_n (M := M_X6_putBox) dX6_putBox_3 rfl ?_
  refine x_getf (M := M_X6_putBox) (ci := 9) (C := RX6) (T := TX6) (N := 5) (ty := tyX6) cl9 dX6_putBox_4 o5532 4 (by decide) t_83 (v := .int (0 : Int32)) rfl ?_
  refine x_icmp_ge (M := M_X6_putBox) (tgt := 128) dX6_putBox_7 (by decide) (fun _ => ?_) (fun q => absurd q (by decide +kernel))
  refine x_aload_n (M := M_X6_putBox) dX6_putBox_128 rfl ?_
  refine x_getf (M := M_X6_putBox) (ci := 9) (C := RX6) (T := TX6) (N := 5) (ty := tyX6) cl9 dX6_putBox_129 o5532 4 (by decide) t_83 (v := .int (0 : Int32)) rfl ?_
  refine x_if_le (M := M_X6_putBox) (tgt := 139) dX6_putBox_132 (by decide) (fun _ => ?_) (fun q => absurd q (by decide +kernel))
  refine x_iconst (M := M_X6_putBox) dX6_putBox_139 ?_
  exact x_zret (M := M_X6_putBox) dX6_putBox_140 rfl (by decide) ⟨rfl, rfl⟩ (Nat.le_of_ble_eq_true rfl) (Nat.le_of_ble_eq_true rfl)
set_option maxRecDepth 10000 in
theorem q5536 {l : Launch} {E : EE} (hl : l.stackTraces = false) {h : HP} (o5535 : ob h 138 = some (.inr (9, [.ref 139, .ref 140, .ref 141, .int (0 : Int32), .int (0 : Int32)]))) : en_C l E M_X6_putBox 0 0 0 [.ref 138, .ref 274] h (pR (some (.int (Int32.ofInt 0))) h) := by
  refine en_mk m_X6_putBox rfl hl (Nat.le_of_ble_eq_true rfl) ?_
  refine x_iconst (M := M_X6_putBox) dX6_putBox_0 ?_
  refine x_istore_n (M := M_X6_putBox) dX6_putBox_1 (Nat.le_of_ble_eq_true rfl) rfl ?_
  refine x_iload_n (M := M_X6_putBox) dX6_putBox_2 rfl ?_
  refine x_aload_n (M := M_X6_putBox) dX6_putBox_3 rfl ?_
  refine x_getf (M := M_X6_putBox) (ci := 9) (C := RX6) (T := TX6) (N := 5) (ty := tyX6) cl9 dX6_putBox_4 o5535 4 (by decide) t_83 (v := .int (0 : Int32)) rfl ?_
  refine x_icmp_ge (M := M_X6_putBox) (tgt := 128) dX6_putBox_7 (by decide) (fun _ => ?_) (fun q => absurd q (by decide +kernel))
  refine x_aload_n (M := M_X6_putBox) dX6_putBox_128 rfl ?_
  refine x_getf (M := M_X6_putBox) (ci := 9) (C := RX6) (T := TX6) (N := 5) (ty := tyX6) cl9 dX6_putBox_129 o5535 4 (by decide) t_83 (v := .int (0 : Int32)) rfl ?_
  refine x_if_le (M := M_X6_putBox) (tgt := 139) dX6_putBox_132 (by decide) (fun _ => ?_) (fun q => absurd q (by decide +kernel))
  refine x_iconst (M := M_X6_putBox) dX6_putBox_139 ?_
  exact x_zret (M := M_X6_putBox) dX6_putBox_140 rfl (by decide) ⟨rfl, rfl⟩ (Nat.le_of_ble_eq_true rfl) (Nat.le_of_ble_eq_true rfl)
set_option maxRecDepth 10000 in
theorem q5539 {l : Launch} {E : EE} (hl : l.stackTraces = false) {h : HP} (o5538 : ob h 142 = some (.inr (9, [.ref 143, .ref 144, .ref 145, .int (0 : Int32), .int (0 : Int32)]))) : en_C l E M_X6_putBox 0 0 0 [.ref 142, .ref 274] h (pR (some (.int (Int32.ofInt 0))) h) := by
  refine en_mk m_X6_putBox rfl hl (Nat.le_of_ble_eq_true rfl) ?_
  refine x_iconst (M := M_X6_putBox) dX6_putBox_0 ?_
  refine x_istore_n (M := M_X6_putBox) dX6_putBox_1 (Nat.le_of_ble_eq_true rfl) rfl ?_
  refine x_iload_n (M := M_X6_putBox) dX6_putBox_2 rfl ?_
  refine x_aload_n (M := M_X6_putBox) dX6_putBox_3 rfl ?_
  refine x_getf (M := M_X6_putBox) (ci := 9) (C := RX6) (T := TX6) (N := 5) (ty := tyX6) cl9 dX6_putBox_4 o5538 4 (by decide) t_83 (v := .int (0 : Int32)) rfl ?_
  refine x_icmp_ge (M := M_X6_putBox) (tgt := 128) dX6_putBox_7 (by decide) (fun _ => ?_) (fun q => absurd q (by decide +kernel))
  refine x_aload_n (M := M_X6_putBox) dX6_putBox_128 rfl ?_
  refine x_getf (M := M_X6_putBox) (ci := 9) (C := RX6) (T := TX6) (N := 5) (ty := tyX6) cl9 dX6_putBox_129 o5538 4 (by decide) t_83 (v := .int (0 : Int32)) rfl ?_
  refine x_if_le (M := M_X6_putBox) (tgt := 139) dX6_putBox_132 (by decide) (fun _ => ?_) (fun q => absurd q (by decide +kernel))
  refine x_iconst (M := M_X6_putBox) dX6_putBox_139 ?_
  exact x_zret (M := M_X6_putBox) dX6_putBox_140 rfl (by decide) ⟨rfl, rfl⟩ (Nat.le_of_ble_eq_true rfl) (Nat.le_of_ble_eq_true rfl)
set_option maxRecDepth 10000 in
theorem q5542 {l : Launch} {E : EE} (hl : l.stackTraces = false) {h : HP} (o5541 : ob h 146 = some (.inr (9, [.ref 147, .ref 148, .ref 149, .int (0 : Int32), .int (0 : Int32)]))) : en_C l E M_X6_putBox 0 0 0 [.ref 146, .ref 274] h (pR (some (.int (Int32.ofInt 0))) h) := by
  refine en_mk m_X6_putBox rfl hl (Nat.le_of_ble_eq_true rfl) ?_
  refine x_iconst (M := M_X6_putBox) dX6_putBox_0 ?_
  refine x_istore_n (M := M_X6_putBox) dX6_putBox_1 (Nat.le_of_ble_eq_true rfl) rfl ?_
  refine x_iload_n (M := M_X6_putBox) dX6_putBox_2 rfl ?_
  refine x_aload_n (M := M_X6_putBox) dX6_putBox_3 rfl ?_
  refine x_getf (M := M_X6_putBox) (ci := 9) (C := RX6) (T := TX6) (N := 5) (ty := tyX6) cl9 dX6_putBox_4 o5541 4 (by decide) t_83 (v := .int (0 : Int32)) rfl ?_
  refine x_icmp_ge (M := M_X6_putBox) (tgt := 128) dX6_putBox_7 (by decide) (fun _ => ?_) (fun q => absurd q (by decide +kernel))
  refine x_aload_n (M := M_X6_putBox) dX6_putBox_128 rfl ?_
  refine x_getf (M := M_X6_putBox) (ci := 9) (C := RX6) (T := TX6) (N := 5) (ty := tyX6) cl9 dX6_putBox_129 o5541 4 (by decide) t_83 (v := .int (0 : Int32)) rfl ?_
  refine x_if_le (M := M_X6_putBox) (tgt := 139) dX6_putBox_132 (by decide) (fun _ => ?_) (fun q => absurd q (by decide +kernel))
  refine x_iconst (M := M_X6_putBox) dX6_putBox_139 ?_
  exact x_zret (M := M_X6_putBox) dX6_putBox_140 rfl (by decide) ⟨rfl, rfl⟩ (Nat.le_of_ble_eq_true rfl) (Nat.le_of_ble_eq_true rfl)
set_option maxRecDepth 10000 in
theorem q5545 {l : Launch} {E : EE} (hl : l.stackTraces = false) {h : HP} (o5544 : ob h 150 = some (.inr (9, [.ref 151, .ref 152, .ref 153, .int (0 : Int32), .int (0 : Int32)]))) : en_C l E M_X6_putBox 0 0 0 [.ref 150, .ref 274] h (pR (some (.int (Int32.ofInt 0))) h) := by
  refine en_mk m_X6_putBox rfl hl (Nat.le_of_ble_eq_true rfl) ?_
  refine x_iconst (M := M_X6_putBox) dX6_putBox_0 ?_
  refine x_istore_n (M := M_X6_putBox) dX6_putBox_1 (Nat.le_of_ble_eq_true rfl) rfl ?_
  refine x_iload_n (M := M_X6_putBox) dX6_putBox_2 rfl ?_
  refine x_aload_n (M := M_X6_putBox) dX6_putBox_3 rfl ?_
  refine x_getf (M := M_X6_putBox) (ci := 9) (C := RX6) (T := TX6) (N := 5) (ty := tyX6) cl9 dX6_putBox_4 o5544 4 (by decide) t_83 (v := .int (0 : Int32)) rfl ?_
  refine x_icmp_ge (M := M_X6_putBox) (tgt := 128) dX6_putBox_7 (by decide) (fun _ => ?_) (fun q => absurd q (by decide +kernel))
  refine x_aload_n (M := M_X6_putBox) dX6_putBox_128 rfl ?_
  refine x_getf (M := M_X6_putBox) (ci := 9) (C := RX6) (T := TX6) (N := 5) (ty := tyX6) cl9 dX6_putBox_129 o5544 4 (by decide) t_83 (v := .int (0 : Int32)) rfl ?_
  refine x_if_le (M := M_X6_putBox) (tgt := 139) dX6_putBox_132 (by decide) (fun _ => ?_) (fun q => absurd q (by decide +kernel))
  refine x_iconst (M := M_X6_putBox) dX6_putBox_139 ?_
  exact x_zret (M := M_X6_putBox) dX6_putBox_140 rfl (by decide) ⟨rfl, rfl⟩ (Nat.le_of_ble_eq_true rfl) (Nat.le_of_ble_eq_true rfl)
set_option maxRecDepth 10000 in
theorem q5548 {l : Launch} {E : EE} (hl : l.stackTraces = false) {h : HP} (o5547 : ob h 154 = some (.inr (9, [.ref 155, .ref 156, .ref 157, .int (0 : Int32), .int (0 : Int32)]))) : en_C l E M_X6_putBox 0 0 0 [.ref 154, .ref 274] h (pR (some (.int (Int32.ofInt 0))) h) := by
  refine en_mk m_X6_putBox rfl hl (Nat.le_of_ble_eq_true rfl) ?_
  refine x_iconst (M := M_X6_putBox) dX6_putBox_0 ?_
  refine x_istore_n (M := M_X6_putBox) dX6_putBox_1 (Nat.le_of_ble_eq_true rfl) rfl ?_
  refine x_iload_n (M := M_X6_putBox) dX6_putBox_2 rfl ?_
  refine x_aload_n (M := M_X6_putBox) dX6_putBox_3 rfl ?_
  refine x_getf (M := M_X6_putBox) (ci := 9) (C := RX6) (T := TX6) (N := 5) (ty := tyX6) cl9 dX6_putBox_4 o5547 4 (by decide) t_83 (v := .int (0 : Int32)) rfl ?_
  refine x_icmp_ge (M := M_X6_putBox) (tgt := 128) dX6_putBox_7 (by decide) (fun _ => ?_) (fun q => absurd q (by decide +kernel))
  refine x_aload_n (M := M_X6_putBox) dX6_putBox_128 rfl ?_
  refine x_getf (M := M_X6_putBox) (ci := 9) (C := RX6) (T := TX6) (N := 5) (ty := tyX6) cl9 dX6_putBox_129 o5547 4 (by decide) t_83 (v := .int (0 : Int32)) rfl ?_
  refine x_if_le (M := M_X6_putBox) (tgt := 139) dX6_putBox_132 (by decide) (fun _ => ?_) (fun q => absurd q (by decide +kernel))
  refine x_iconst (M := M_X6_putBox) dX6_putBox_139 ?_
  exact x_zret (M := M_X6_putBox) dX6_putBox_140 rfl (by decide) ⟨rfl, rfl⟩ (Nat.le_of_ble_eq_true rfl) (Nat.le_of_ble_eq_true rfl)
set_option maxRecDepth 10000 in
theorem q5551 {l : Launch} {E : EE} (hl : l.stackTraces = false) {h : HP} (o5550 : ob h 158 = some (.inr (9, [.ref 159, .ref 160, .ref 161, .int (0 : Int32), .int (0 : Int32)]))) : en_C l E M_X6_putBox 0 0 0 [.ref 158, .ref 274] h (pR (some (.int (Int32.ofInt 0))) h) := by
  refine en_mk m_X6_putBox rfl hl (Nat.le_of_ble_eq_true rfl) ?_
  refine x_iconst (M := M_X6_putBox) dX6_putBox_0 ?_
  refine x_istore_n (M := M_X6_putBox) dX6_putBox_1 (Nat.le_of_ble_eq_true rfl) rfl ?_
  refine x_iload_n (M := M_X6_putBox) dX6_putBox_2 rfl ?_
  refine x_aload_n (M := M_X6_putBox) dX6_putBox_3 rfl ?_
  refine x_getf (M := M_X6_putBox) (ci := 9) (C := RX6) (T := TX6) (N := 5) (ty := tyX6) cl9 dX6_putBox_4 o5550 4 (by decide) t_83 (v := .int (0 : Int32)) rfl ?_
  refine x_icmp_ge (M := M_X6_putBox) (tgt := 128) dX6_putBox_7 (by decide) (fun _ => ?_) (fun q => absurd q (by decide +kernel))
  refine x_aload_n (M := M_X6_putBox) dX6_putBox_128 rfl ?_
  refine x_getf (M := M_X6_putBox) (ci := 9) (C := RX6) (T := TX6) (N := 5) (ty := tyX6) cl9 dX6_putBox_129 o5550 4 (by decide) t_83 (v := .int (0 : Int32)) rfl ?_
  refine x_if_le (M := M_X6_putBox) (tgt := 139) dX6_putBox_132 (by decide) (fun _ => ?_) (fun q => absurd q (by decide +kernel))
  refine x_iconst (M := M_X6_putBox) dX6_putBox_139 ?_
  exact x_zret (M := M_X6_putBox) dX6_putBox_140 rfl (by decide) ⟨rfl, rfl⟩ (Nat.le_of_ble_eq_true rfl) (Nat.le_of_ble_eq_true rfl)
set_option maxRecDepth 10000 in
theorem q5556 {l : Launch} {E : EE} (hl : l.stackTraces = false) {h : HP} {a0 : Int32} {a1 : Int32} {a2 : Int32} (c0 : ¬ (a2.toInt < 1)) (c1 : ¬ (32 < a2.toInt)) (c2 : ¬ (a0.toInt < (-1000000000))) (c3 : ¬ (1000000000 < a0.toInt)) (c4 : ¬ (a1.toInt < (-1000000000))) (c5 : ¬ (1000000000 < a1.toInt)) (o5455 : ob h 32 = some (.inr (14, [.ref 33, .ref 162, .ref 166, .int (0 : Int32), .int (0 : Int32), .int (0 : Int32), .ref 167, .ref 170, .ref 173, .ref 177, .ref 193, .ref 208, .ref 222, .ref 238, .ref 252, .ref 274, .ref 275, .ref 276, .int (0 : Int32)]))) (o5456 : ob h 33 = some (.inl (4, 32, .inr (.inr (.inr (.inr (shf 1 32))))))) (o5459 : ob h 34 = some (.inr (9, [.ref 35, .ref 36, .ref 37, .int (0 : Int32), .int (0 : Int32)]))) (o5462 : ob h 38 = some (.inr (9, [.ref 39, .ref 40, .ref 41, .int (0 : Int32), .int (0 : Int32)]))) (o5465 : ob h 42 = some (.inr (9, [.ref 43, .ref 44, .ref 45, .int (0 : Int32), .int (0 : Int32)]))) (o5468 : ob h 46 = some (.inr (9, [.ref 47, .ref 48, .ref 49, .int (0 : Int32), .int (0 : Int32)]))) (o5471 : ob h 50 = some (.inr (9, [.ref 51, .ref 52, .ref 53, .int (0 : Int32), .int (0 : Int32)]))) (o5474 : ob h 54 = some (.inr (9, [.ref 55, .ref 56, .ref 57, .int (0 : Int32), .int (0 : Int32)]))) (o5477 : ob h 58 = some (.inr (9, [.ref 59, .ref 60, .ref 61, .int (0 : Int32), .int (0 : Int32)]))) (o5480 : ob h 62 = some (.inr (9, [.ref 63, .ref 64, .ref 65, .int (0 : Int32), .int (0 : Int32)]))) (o5483 : ob h 66 = some (.inr (9, [.ref 67, .ref 68, .ref 69, .int (0 : Int32), .int (0 : Int32)]))) (o5486 : ob h 70 = some (.inr (9, [.ref 71, .ref 72, .ref 73, .int (0 : Int32), .int (0 : Int32)]))) (o5489 : ob h 74 = some (.inr (9, [.ref 75, .ref 76, .ref 77, .int (0 : Int32), .int (0 : Int32)]))) (o5492 : ob h 78 = some (.inr (9, [.ref 79, .ref 80, .ref 81, .int (0 : Int32), .int (0 : Int32)]))) (o5495 : ob h 82 = some (.inr (9, [.ref 83, .ref 84, .ref 85, .int (0 : Int32), .int (0 : Int32)]))) (o5498 : ob h 86 = some (.inr (9, [.ref 87, .ref 88, .ref 89, .int (0 : Int32), .int (0 : Int32)]))) (o5501 : ob h 90 = some (.inr (9, [.ref 91, .ref 92, .ref 93, .int (0 : Int32), .int (0 : Int32)]))) (o5504 : ob h 94 = some (.inr (9, [.ref 95, .ref 96, .ref 97, .int (0 : Int32), .int (0 : Int32)]))) (o5507 : ob h 98 = some (.inr (9, [.ref 99, .ref 100, .ref 101, .int (0 : Int32), .int (0 : Int32)]))) (o5510 : ob h 102 = some (.inr (9, [.ref 103, .ref 104, .ref 105, .int (0 : Int32), .int (0 : Int32)]))) (o5513 : ob h 106 = some (.inr (9, [.ref 107, .ref 108, .ref 109, .int (0 : Int32), .int (0 : Int32)]))) (o5516 : ob h 110 = some (.inr (9, [.ref 111, .ref 112, .ref 113, .int (0 : Int32), .int (0 : Int32)]))) (o5519 : ob h 114 = some (.inr (9, [.ref 115, .ref 116, .ref 117, .int (0 : Int32), .int (0 : Int32)]))) (o5522 : ob h 118 = some (.inr (9, [.ref 119, .ref 120, .ref 121, .int (0 : Int32), .int (0 : Int32)]))) (o5525 : ob h 122 = some (.inr (9, [.ref 123, .ref 124, .ref 125, .int (0 : Int32), .int (0 : Int32)]))) (o5528 : ob h 126 = some (.inr (9, [.ref 127, .ref 128, .ref 129, .int (0 : Int32), .int (0 : Int32)]))) (o5531 : ob h 130 = some (.inr (9, [.ref 131, .ref 132, .ref 133, .int (0 : Int32), .int (0 : Int32)]))) (o5534 : ob h 134 = some (.inr (9, [.ref 135, .ref 136, .ref 137, .int (0 : Int32), .int (0 : Int32)]))) (o5537 : ob h 138 = some (.inr (9, [.ref 139, .ref 140, .ref 141, .int (0 : Int32), .int (0 : Int32)]))) (o5540 : ob h 142 = some (.inr (9, [.ref 143, .ref 144, .ref 145, .int (0 : Int32), .int (0 : Int32)]))) (o5543 : ob h 146 = some (.inr (9, [.ref 147, .ref 148, .ref 149, .int (0 : Int32), .int (0 : Int32)]))) (o5546 : ob h 150 = some (.inr (9, [.ref 151, .ref 152, .ref 153, .int (0 : Int32), .int (0 : Int32)]))) (o5549 : ob h 154 = some (.inr (9, [.ref 155, .ref 156, .ref 157, .int (0 : Int32), .int (0 : Int32)]))) (o5552 : ob h 158 = some (.inr (9, [.ref 159, .ref 160, .ref 161, .int (0 : Int32), .int (0 : Int32)]))) : en_C l E M_X11_nearest 1 0 0 [.ref 32, .int a0, .int a1, .int a2] h (pF (some (.int (Int32.ofInt 0))) [32] h (fun h' => ob h' 32 = some (.inr (14, [.ref 33, .ref 162, .ref 166, .int (0 : Int32), .int (0 : Int32), .int (0 : Int32), .ref 167, .ref 170, .ref 173, .ref 177, .ref 193, .ref 208, .ref 222, .ref 238, .ref 252, .ref 274, .ref 275, .ref 276, .int (Int32.ofInt 0)])) ∧ True)) := by
  refine en_mk m_X11_nearest rfl hl (Nat.le_of_ble_eq_true rfl) ?_
  refine x_iload_n (M := M_X11_nearest) dX11_nearest_0 rfl ?_
  refine x_iconst (M := M_X11_nearest) dX11_nearest_1 ?_
  refine x_icmp_lt (M := M_X11_nearest) (tgt := 31) dX11_nearest_2 (by decide) (fun q => absurd ((bi_lt rfl (by decide +kernel)).mp q) (by omega : ¬ (a2.toInt < 1))) (fun _ => ?_)
  refine x_iload_n (M := M_X11_nearest) dX11_nearest_5 rfl ?_
  refine x_bipush (M := M_X11_nearest) dX11_nearest_6 ?_
  refine x_icmp_gt (M := M_X11_nearest) (tgt := 31) dX11_nearest_8 (by decide) (fun q => absurd ((bi_lt (by decide +kernel) rfl).mp q) (by omega : ¬ (32 < a2.toInt))) (fun _ => ?_)
  refine x_iload_n (M := M_X11_nearest) dX11_nearest_11 rfl ?_
  refine x_ldcw (M := M_X11_nearest) dX11_nearest_12 t_2191 ?_
  refine x_norm (M := M_X11_nearest) (st' := [.int (Int32.ofInt 1000000000), .int a0]) rfl (vi_cons (by decide +kernel : (1000000000 : Int32) = (Int32.ofInt 1000000000)) rfl) rfl rfl rfl ?_
  refine x_callSR (M := M_X11_nearest) (M' := M_X11_isBeyond) rfl rfl dX11_nearest_15 m_X11_isBeyond t_2073 t_1386 (q5393 hl c2 c3) rfl rfl (Nat.le_of_ble_eq_true rfl) (Nat.le_of_ble_eq_true rfl) (Nat.le_of_ble_eq_true rfl) (Nat.le_of_ble_eq_true rfl) ?_
  refine x_if_ne (M := M_X11_nearest) (tgt := 31) dX11_nearest_18 (by decide) (fun q => absurd q (by decide +kernel)) (fun _ => ?_)
  refine x_iload_n (M := M_X11_nearest) dX11_nearest_21 rfl ?_
  refine x_ldcw (M := M_X11_nearest) dX11_nearest_22 t_2191 ?_
  refine x_norm (M := M_X11_nearest) (st' := [.int (Int32.ofInt 1000000000), .int a1]) rfl (vi_cons (by decide +kernel : (1000000000 : Int32) = (Int32.ofInt 1000000000)) rfl) rfl rfl rfl ?_
  refine x_callSR (M := M_X11_nearest) (M' := M_X11_isBeyond) rfl rfl dX11_nearest_25 m_X11_isBeyond t_2073 t_1386 (q5454 hl c4 c5) rfl rfl (Nat.le_of_ble_eq_true rfl) (Nat.le_of_ble_eq_true rfl) (Nat.le_of_ble_eq_true rfl) (Nat.le_of_ble_eq_true rfl) ?_
  refine x_if_eq (M := M_X11_nearest) (tgt := 39) dX11_nearest_28 (by decide) (fun _ => ?_) (fun q => absurd q (by decide +kernel))
  refine x_iconst (M := M_X11_nearest) dX11_nearest_39 ?_
  refine x_istore (M := M_X11_nearest) dX11_nearest_40 (Nat.le_of_ble_eq_true rfl) rfl ?_
  refine x_iconst (M := M_X11_nearest) dX11_nearest_42 ?_
  refine x_istore (M := M_X11_nearest) dX11_nearest_43 (Nat.le_of_ble_eq_true rfl) rfl ?_
  refine x_iload (M := M_X11_nearest) dX11_nearest_45 rfl ?_
  refine x_bipush (M := M_X11_nearest) dX11_nearest_47 ?_
  refine x_icmp_ge (M := M_X11_nearest) (tgt := 92) dX11_nearest_49 (by decide) (fun q => absurd q (by decide +kernel)) (fun _ => ?_)
  refine x_aload_n (M := M_X11_nearest) dX11_nearest_52 rfl ?_
  refine x_getf (M := M_X11_nearest) (ci := 14) (C := RX11) (T := TX11) (N := 19) (ty := tyX11) cl14 dX11_nearest_53 o5455 0 (by decide) t_563 (v := .ref 33) rfl ?_
  refine x_iload (M := M_X11_nearest) dX11_nearest_56 rfl ?_
  refine x_aald (M := M_X11_nearest) (b := 34) dX11_nearest_58 o5456 (vp_inD (by decide +kernel)) (by decide +kernel) ?_
  refine x_aload_n (M := M_X11_nearest) dX11_nearest_59 rfl ?_
  refine x_getf (M := M_X11_nearest) (ci := 14) (C := RX11) (T := TX11) (N := 19) (ty := tyX11) cl14 dX11_nearest_60 o5455 15 (by decide) t_578 (v := .ref 274) rfl ?_
  refine x_callVR (M := M_X11_nearest) (M' := M_X6_putBox) rfl rfl dX11_nearest_63 m_X6_putBox t_2236 t_2237 t_2238 (q5458 hl o5459) rfl rfl o5459 rfl (Nat.le_of_ble_eq_true rfl) (Nat.le_of_ble_eq_true rfl) (Nat.le_of_ble_eq_true rfl) (Nat.le_of_ble_eq_true rfl) ?_
  refine x_if_eq (M := M_X11_nearest) (tgt := 86) dX11_nearest_66 (by decide) (fun _ => ?_) (fun q => absurd q (by decide +kernel))
  refine x_iinc (M := M_X11_nearest) dX11_nearest_86 rfl (Nat.le_of_ble_eq_true rfl) rfl ?_
  refine x_lvs (M := M_X11_nearest) (lv' := [some (.ref 32), some (.int a0), some (.int a1), some (.int a2), some (.int (Int32.ofInt 0)), some (.int (Int32.ofInt 1))]) (by rw [(by decide +kernel : (Int32.ofInt 0) + Int32.ofInt 1 = (Int32.ofInt 1))] <;> rfl) ?_
  refine x_goto (M := M_X11_nearest) (tgt := 45) dX11_nearest_89 (by decide) ?_
  refine x_iload (M := M_X11_nearest) dX11_nearest_45 rfl ?_
  refine x_bipush (M := M_X11_nearest) dX11_nearest_47 ?_
  refine x_icmp_ge (M := M_X11_nearest) (tgt := 92) dX11_nearest_49 (by decide) (fun q => absurd q (by decide +kernel)) (fun _ => ?_)
  refine x_aload_n (M := M_X11_nearest) dX11_nearest_52 rfl ?_
  refine x_getf (M := M_X11_nearest) (ci := 14) (C := RX11) (T := TX11) (N := 19) (ty := tyX11) cl14 dX11_nearest_53 o5455 0 (by decide) t_563 (v := .ref 33) rfl ?_
  refine x_iload (M := M_X11_nearest) dX11_nearest_56 rfl ?_
  refine x_aald (M := M_X11_nearest) (b := 38) dX11_nearest_58 o5456 (vp_inD (by decide +kernel)) (by decide +kernel) ?_
  refine x_aload_n (M := M_X11_nearest) dX11_nearest_59 rfl ?_
  refine x_getf (M := M_X11_nearest) (ci := 14) (C := RX11) (T := TX11) (N := 19) (ty := tyX11) cl14 dX11_nearest_60 o5455 15 (by decide) t_578 (v := .ref 274) rfl ?_
  refine x_callVR (M := M_X11_nearest) (M' := M_X6_putBox) rfl rfl dX11_nearest_63 m_X6_putBox t_2236 t_2237 t_2238 (q5461 hl o5462) rfl rfl o5462 rfl (Nat.le_of_ble_eq_true rfl) (Nat.le_of_ble_eq_true rfl) (Nat.le_of_ble_eq_true rfl) (Nat.le_of_ble_eq_true rfl) ?_
  refine x_if_eq (M := M_X11_nearest) (tgt := 86) dX11_nearest_66 (by decide) (fun _ => ?_) (fun q => absurd q (by decide +kernel))
  refine x_iinc (M := M_X11_nearest) dX11_nearest_86 rfl (Nat.le_of_ble_eq_true rfl) rfl ?_
  refine x_lvs (M := M_X11_nearest) (lv' := [some (.ref 32), some (.int a0), some (.int a1), some (.int a2), some (.int (Int32.ofInt 0)), some (.int (Int32.ofInt 2))]) (by rw [(by decide +kernel : (Int32.ofInt 1) + Int32.ofInt 1 = (Int32.ofInt 2))] <;> rfl) ?_
  refine x_goto (M := M_X11_nearest) (tgt := 45) dX11_nearest_89 (by decide) ?_
  refine x_iload (M := M_X11_nearest) dX11_nearest_45 rfl ?_
  refine x_bipush (M := M_X11_nearest) dX11_nearest_47 ?_
  refine x_icmp_ge (M := M_X11_nearest) (tgt := 92) dX11_nearest_49 (by decide) (fun q => absurd q (by decide +kernel)) (fun _ => ?_)
  refine x_aload_n (M := M_X11_nearest) dX11_nearest_52 rfl ?_
  refine x_getf (M := M_X11_nearest) (ci := 14) (C := RX11) (T := TX11) (N := 19) (ty := tyX11) cl14 dX11_nearest_53 o5455 0 (by decide) t_563 (v := .ref 33) rfl ?_
  refine x_iload (M := M_X11_nearest) dX11_nearest_56 rfl ?_
  refine x_aald (M := M_X11_nearest) (b := 42) dX11_nearest_58 o5456 (vp_inD (by decide +kernel)) (by decide +kernel) ?_
  refine x_aload_n (M := M_X11_nearest) dX11_nearest_59 rfl ?_
  refine x_getf (M := M_X11_nearest) (ci := 14) (C := RX11) (T := TX11) (N := 19) (ty := tyX11) cl14 dX11_nearest_60 o5455 15 (by decide) t_578 (v := .ref 274) rfl ?_
  refine x_callVR (M := M_X11_nearest) (M' := M_X6_putBox) rfl rfl dX11_nearest_63 m_X6_putBox t_2236 t_2237 t_2238 (q5464 hl o5465) rfl rfl o5465 rfl (Nat.le_of_ble_eq_true rfl) (Nat.le_of_ble_eq_true rfl) (Nat.le_of_ble_eq_true rfl) (Nat.le_of_ble_eq_true rfl) ?_
  refine x_if_eq (M := M_X11_nearest) (tgt := 86) dX11_nearest_66 (by decide) (fun _ => ?_) (fun q => absurd q (by decide +kernel))
  refine x_iinc (M := M_X11_nearest) dX11_nearest_86 rfl (Nat.le_of_ble_eq_true rfl) rfl ?_
  refine x_lvs (M := M_X11_nearest) (lv' := [some (.ref 32), some (.int a0), some (.int a1), some (.int a2), some (.int (Int32.ofInt 0)), some (.int (Int32.ofInt 3))]) (by rw [(by decide +kernel : (Int32.ofInt 2) + Int32.ofInt 1 = (Int32.ofInt 3))] <;> rfl) ?_
  refine x_goto (M := M_X11_nearest) (tgt := 45) dX11_nearest_89 (by decide) ?_
  refine x_iload (M := M_X11_nearest) dX11_nearest_45 rfl ?_
  refine x_bipush (M := M_X11_nearest) dX11_nearest_47 ?_
  refine x_icmp_ge (M := M_X11_nearest) (tgt := 92) dX11_nearest_49 (by decide) (fun q => absurd q (by decide +kernel)) (fun _ => ?_)
  refine x_aload_n (M := M_X11_nearest) dX11_nearest_52 rfl ?_
  refine x_getf (M := M_X11_nearest) (ci := 14) (C := RX11) (T := TX11) (N := 19) (ty := tyX11) cl14 dX11_nearest_53 o5455 0 (by decide) t_563 (v := .ref 33) rfl ?_
  refine x_iload (M := M_X11_nearest) dX11_nearest_56 rfl ?_
  refine x_aald (M := M_X11_nearest) (b := 46) dX11_nearest_58 o5456 (vp_inD (by decide +kernel)) (by decide +kernel) ?_
  refine x_aload_n (M := M_X11_nearest) dX11_nearest_59 rfl ?_
  refine x_getf (M := M_X11_nearest) (ci := 14) (C := RX11) (T := TX11) (N := 19) (ty := tyX11) cl14 dX11_nearest_60 o5455 15 (by decide) t_578 (v := .ref 274) rfl ?_
  refine x_callVR (M := M_X11_nearest) (M' := M_X6_putBox) rfl rfl dX11_nearest_63 m_X6_putBox t_2236 t_2237 t_2238 (q5467 hl o5468) rfl rfl o5468 rfl (Nat.le_of_ble_eq_true rfl) (Nat.le_of_ble_eq_true rfl) (Nat.le_of_ble_eq_true rfl) (Nat.le_of_ble_eq_true rfl) ?_
  refine x_if_eq (M := M_X11_nearest) (tgt := 86) dX11_nearest_66 (by decide) (fun _ => ?_) (fun q => absurd q (by decide +kernel))
  refine x_iinc (M := M_X11_nearest) dX11_nearest_86 rfl (Nat.le_of_ble_eq_true rfl) rfl ?_
  refine x_lvs (M := M_X11_nearest) (lv' := [some (.ref 32), some (.int a0), some (.int a1), some (.int a2), some (.int (Int32.ofInt 0)), some (.int (Int32.ofInt 4))]) (by rw [(by decide +kernel : (Int32.ofInt 3) + Int32.ofInt 1 = (Int32.ofInt 4))] <;> rfl) ?_
  refine x_goto (M := M_X11_nearest) (tgt := 45) dX11_nearest_89 (by decide) ?_
  refine x_iload (M := M_X11_nearest) dX11_nearest_45 rfl ?_
  refine x_bipush (M := M_X11_nearest) dX11_nearest_47 ?_
  refine x_icmp_ge (M := M_X11_nearest) (tgt := 92) dX11_nearest_49 (by decide) (fun q => absurd q (by decide +kernel)) (fun _ => ?_)
  refine x_aload_n (M := M_X11_nearest) dX11_nearest_52 rfl ?_
  refine x_getf (M := M_X11_nearest) (ci := 14) (C := RX11) (T := TX11) (N := 19) (ty := tyX11) cl14 dX11_nearest_53 o5455 0 (by decide) t_563 (v := .ref 33) rfl ?_
  refine x_iload (M := M_X11_nearest) dX11_nearest_56 rfl ?_
  refine x_aald (M := M_X11_nearest) (b := 50) dX11_nearest_58 o5456 (vp_inD (by decide +kernel)) (by decide +kernel) ?_
  refine x_aload_n (M := M_X11_nearest) dX11_nearest_59 rfl ?_
  refine x_getf (M := M_X11_nearest) (ci := 14) (C := RX11) (T := TX11) (N := 19) (ty := tyX11) cl14 dX11_nearest_60 o5455 15 (by decide) t_578 (v := .ref 274) rfl ?_
  refine x_callVR (M := M_X11_nearest) (M' := M_X6_putBox) rfl rfl dX11_nearest_63 m_X6_putBox t_2236 t_2237 t_2238 (q5470 hl o5471) rfl rfl o5471 rfl (Nat.le_of_ble_eq_true rfl) (Nat.le_of_ble_eq_true rfl) (Nat.le_of_ble_eq_true rfl) (Nat.le_of_ble_eq_true rfl) ?_
  refine x_if_eq (M := M_X11_nearest) (tgt := 86) dX11_nearest_66 (by decide) (fun _ => ?_) (fun q => absurd q (by decide +kernel))
  refine x_iinc (M := M_X11_nearest) dX11_nearest_86 rfl (Nat.le_of_ble_eq_true rfl) rfl ?_
  refine x_lvs (M := M_X11_nearest) (lv' := [some (.ref 32), some (.int a0), some (.int a1), some (.int a2), some (.int (Int32.ofInt 0)), some (.int (Int32.ofInt 5))]) (by rw [(by decide +kernel : (Int32.ofInt 4) + Int32.ofInt 1 = (Int32.ofInt 5))] <;> rfl) ?_
  refine x_goto (M := M_X11_nearest) (tgt := 45) dX11_nearest_89 (by decide) ?_
  refine x_iload (M := M_X11_nearest) dX11_nearest_45 rfl ?_
  refine x_bipush (M := M_X11_nearest) dX11_nearest_47 ?_
  refine x_icmp_ge (M := M_X11_nearest) (tgt := 92) dX11_nearest_49 (by decide) (fun q => absurd q (by decide +kernel)) (fun _ => ?_)
  refine x_aload_n (M := M_X11_nearest) dX11_nearest_52 rfl ?_
  refine x_getf (M := M_X11_nearest) (ci := 14) (C := RX11) (T := TX11) (N := 19) (ty := tyX11) cl14 dX11_nearest_53 o5455 0 (by decide) t_563 (v := .ref 33) rfl ?_
  refine x_iload (M := M_X11_nearest) dX11_nearest_56 rfl ?_
  refine x_aald (M := M_X11_nearest) (b := 54) dX11_nearest_58 o5456 (vp_inD (by decide +kernel)) (by decide +kernel) ?_
  refine x_aload_n (M := M_X11_nearest) dX11_nearest_59 rfl ?_
  refine x_getf (M := M_X11_nearest) (ci := 14) (C := RX11) (T := TX11) (N := 19) (ty := tyX11) cl14 dX11_nearest_60 o5455 15 (by decide) t_578 (v := .ref 274) rfl ?_
  refine x_callVR (M := M_X11_nearest) (M' := M_X6_putBox) rfl rfl dX11_nearest_63 m_X6_putBox t_2236 t_2237 t_2238 (q5473 hl o5474) rfl rfl o5474 rfl (Nat.le_of_ble_eq_true rfl) (Nat.le_of_ble_eq_true rfl) (Nat.le_of_ble_eq_true rfl) (Nat.le_of_ble_eq_true rfl) ?_
  refine x_if_eq (M := M_X11_nearest) (tgt := 86) dX11_nearest_66 (by decide) (fun _ => ?_) (fun q => absurd q (by decide +kernel))
  refine x_iinc (M := M_X11_nearest) dX11_nearest_86 rfl (Nat.le_of_ble_eq_true rfl) rfl ?_
  refine x_lvs (M := M_X11_nearest) (lv' := [some (.ref 32), some (.int a0), some (.int a1), some (.int a2), some (.int (Int32.ofInt 0)), some (.int (Int32.ofInt 6))]) (by rw [(by decide +kernel : (Int32.ofInt 5) + Int32.ofInt 1 = (Int32.ofInt 6))] <;> rfl) ?_
  refine x_goto (M := M_X11_nearest) (tgt := 45) dX11_nearest_89 (by decide) ?_
  refine x_iload (M := M_X11_nearest) dX11_nearest_45 rfl ?_
  refine x_bipush (M := M_X11_nearest) dX11_nearest_47 ?_
  refine x_icmp_ge (M := M_X11_nearest) (tgt := 92) dX11_nearest_49 (by decide) (fun q => absurd q (by decide +kernel)) (fun _ => ?_)
  refine x_aload_n (M := M_X11_nearest) dX11_nearest_52 rfl ?_
  refine x_getf (M := M_X11_nearest) (ci := 14) (C := RX11) (T := TX11) (N := 19) (ty := tyX11) cl14 dX11_nearest_53 o5455 0 (by decide) t_563 (v := .ref 33) rfl ?_
  refine x_iload (M := M_X11_nearest) dX11_nearest_56 rfl ?_
  refine x_aald (M := M_X11_nearest) (b := 58) dX11_nearest_58 o5456 (vp_inD (by decide +kernel)) (by decide +kernel) ?_
  refine x_aload_n (M := M_X11_nearest) dX11_nearest_59 rfl ?_
  refine x_getf (M := M_X11_nearest) (ci := 14) (C := RX11) (T := TX11) (N := 19) (ty := tyX11) cl14 dX11_nearest_60 o5455 15 (by decide) t_578 (v := .ref 274) rfl ?_
  refine x_callVR (M := M_X11_nearest) (M' := M_X6_putBox) rfl rfl dX11_nearest_63 m_X6_putBox t_2236 t_2237 t_2238 (q5476 hl o5477) rfl rfl o5477 rfl (Nat.le_of_ble_eq_true rfl) (Nat.le_of_ble_eq_true rfl) (Nat.le_of_ble_eq_true rfl) (Nat.le_of_ble_eq_true rfl) ?_
  refine x_if_eq (M := M_X11_nearest) (tgt := 86) dX11_nearest_66 (by decide) (fun _ => ?_) (fun q => absurd q (by decide +kernel))
  refine x_iinc (M := M_X11_nearest) dX11_nearest_86 rfl (Nat.le_of_ble_eq_true rfl) rfl ?_
  refine x_lvs (M := M_X11_nearest) (lv' := [some (.ref 32), some (.int a0), some (.int a1), some (.int a2), some (.int (Int32.ofInt 0)), some (.int (Int32.ofInt 7))]) (by rw [(by decide +kernel : (Int32.ofInt 6) + Int32.ofInt 1 = (Int32.ofInt 7))] <;> rfl) ?_
  refine x_goto (M := M_X11_nearest) (tgt := 45) dX11_nearest_89 (by decide) ?_
  refine x_iload (M := M_X11_nearest) dX11_nearest_45 rfl ?_
  refine x_bipush (M := M_X11_nearest) dX11_nearest_47 ?_
  refine x_icmp_ge (M := M_X11_nearest) (tgt := 92) dX11_nearest_49 (by decide) (fun q => absurd q (by decide +kernel)) (fun _ => ?_)
  refine x_aload_n (M := M_X11_nearest) dX11_nearest_52 rfl ?_
  refine x_getf (M := M_X11_nearest) (ci := 14) (C := RX11) (T := TX11) (N := 19) (ty := tyX11) cl14 dX11_nearest_53 o5455 0 (by decide) t_563 (v := .ref 33) rfl ?_
  refine x_iload (M := M_X11_nearest) dX11_nearest_56 rfl ?_
  refine x_aald (M := M_X11_nearest) (b := 62) dX11_nearest_58 o5456 (vp_inD (by decide +kernel)) (by decide +kernel) ?_
  refine x_aload_n (M := M_X11_nearest) dX11_nearest_59 rfl ?_
  refine x_getf (M := M_X11_nearest) (ci := 14) (C := RX11) (T := TX11) (N := 19) (ty := tyX11) cl14 dX11_nearest_60 o5455 15 (by decide) t_578 (v := .ref 274) rfl ?_
  refine x_callVR (M := M_X11_nearest) (M' := M_X6_putBox) rfl rfl dX11_nearest_63 m_X6_putBox t_2236 t_2237 t_2238 (q5479 hl o5480) rfl rfl o5480 rfl (Nat.le_of_ble_eq_true rfl) (Nat.le_of_ble_eq_true rfl) (Nat.le_of_ble_eq_true rfl) (Nat.le_of_ble_eq_true rfl) ?_
  refine x_if_eq (M := M_X11_nearest) (tgt := 86) dX11_nearest_66 (by decide) (fun _ => ?_) (fun q => absurd q (by decide +kernel))
  refine x_iinc (M := M_X11_nearest) dX11_nearest_86 rfl (Nat.le_of_ble_eq_true rfl) rfl ?_
  refine x_lvs (M := M_X11_nearest) (lv' := [some (.ref 32), some (.int a0), some (.int a1), some (.int a2), some (.int (Int32.ofInt 0)), some (.int (Int32.ofInt 8))]) (by rw [(by decide +kernel : (Int32.ofInt 7) + Int32.ofInt 1 = (Int32.ofInt 8))] <;> rfl) ?_
  refine x_goto (M := M_X11_nearest) (tgt := 45) dX11_nearest_89 (by decide) ?_
  refine x_iload (M := M_X11_nearest) dX11_nearest_45 rfl ?_
  refine x_bipush (M := M_X11_nearest) dX11_nearest_47 ?_
  refine x_icmp_ge (M := M_X11_nearest) (tgt := 92) dX11_nearest_49 (by decide) (fun q => absurd q (by decide +kernel)) (fun _ => ?_)
  refine x_aload_n (M := M_X11_nearest) dX11_nearest_52 rfl ?_
  refine x_getf (M := M_X11_nearest) (ci := 14) (C := RX11) (T := TX11) (N := 19) (ty := tyX11) cl14 dX11_nearest_53 o5455 0 (by decide) t_563 (v := .ref 33) rfl ?_
  refine x_iload (M := M_X11_nearest) dX11_nearest_56 rfl ?_
  refine x_aald (M := M_X11_nearest) (b := 66) dX11_nearest_58 o5456 (vp_inD (by decide +kernel)) (by decide +kernel) ?_
  refine x_aload_n (M := M_X11_nearest) dX11_nearest_59 rfl ?_
  refine x_getf (M := M_X11_nearest) (ci := 14) (C := RX11) (T := TX11) (N := 19) (ty := tyX11) cl14 dX11_nearest_60 o5455 15 (by decide) t_578 (v := .ref 274) rfl ?_
  refine x_callVR (M := M_X11_nearest) (M' := M_X6_putBox) rfl rfl dX11_nearest_63 m_X6_putBox t_2236 t_2237 t_2238 (q5482 hl o5483) rfl rfl o5483 rfl (Nat.le_of_ble_eq_true rfl) (Nat.le_of_ble_eq_true rfl) (Nat.le_of_ble_eq_true rfl) (Nat.le_of_ble_eq_true rfl) ?_
  refine x_if_eq (M := M_X11_nearest) (tgt := 86) dX11_nearest_66 (by decide) (fun _ => ?_) (fun q => absurd q (by decide +kernel))
  refine x_iinc (M := M_X11_nearest) dX11_nearest_86 rfl (Nat.le_of_ble_eq_true rfl) rfl ?_
  refine x_lvs (M := M_X11_nearest) (lv' := [some (.ref 32), some (.int a0), some (.int a1), some (.int a2), some (.int (Int32.ofInt 0)), some (.int (Int32.ofInt 9))]) (by rw [(by decide +kernel : (Int32.ofInt 8) + Int32.ofInt 1 = (Int32.ofInt 9))] <;> rfl) ?_
  refine x_goto (M := M_X11_nearest) (tgt := 45) dX11_nearest_89 (by decide) ?_
  refine x_iload (M := M_X11_nearest) dX11_nearest_45 rfl ?_
  refine x_bipush (M := M_X11_nearest) dX11_nearest_47 ?_
  refine x_icmp_ge (M := M_X11_nearest) (tgt := 92) dX11_nearest_49 (by decide) (fun q => absurd q (by decide +kernel)) (fun _ => ?_)
  refine x_aload_n (M := M_X11_nearest) dX11_nearest_52 rfl ?_
  refine x_getf (M := M_X11_nearest) (ci := 14) (C := RX11) (T := TX11) (N := 19) (ty := tyX11) cl14 dX11_nearest_53 o5455 0 (by decide) t_563 (v := .ref 33) rfl ?_
  refine x_iload (M := M_X11_nearest) dX11_nearest_56 rfl ?_
  refine x_aald (M := M_X11_nearest) (b := 70) dX11_nearest_58 o5456 (vp_inD (by decide +kernel)) (by decide +kernel) ?_
  refine x_aload_n (M := M_X11_nearest) dX11_nearest_59 rfl ?_
  refine x_getf (M := M_X11_nearest) (ci := 14) (C := RX11) (T := TX11) (N := 19) (ty := tyX11) cl14 dX11_nearest_60 o5455 15 (by decide) t_578 (v := .ref 274) rfl ?_
  refine x_callVR (M := M_X11_nearest) (M' := M_X6_putBox) rfl rfl dX11_nearest_63 m_X6_putBox t_2236 t_2237 t_2238 (q5485 hl o5486) rfl rfl o5486 rfl (Nat.le_of_ble_eq_true rfl) (Nat.le_of_ble_eq_true rfl) (Nat.le_of_ble_eq_true rfl) (Nat.le_of_ble_eq_true rfl) ?_
  refine x_if_eq (M := M_X11_nearest) (tgt := 86) dX11_nearest_66 (by decide) (fun _ => ?_) (fun q => absurd q (by decide +kernel))
  refine x_iinc (M := M_X11_nearest) dX11_nearest_86 rfl (Nat.le_of_ble_eq_true rfl) rfl ?_
  refine x_lvs (M := M_X11_nearest) (lv' := [some (.ref 32), some (.int a0), some (.int a1), some (.int a2), some (.int (Int32.ofInt 0)), some (.int (Int32.ofInt 10))]) (by rw [(by decide +kernel : (Int32.ofInt 9) + Int32.ofInt 1 = (Int32.ofInt 10))] <;> rfl) ?_
  refine x_goto (M := M_X11_nearest) (tgt := 45) dX11_nearest_89 (by decide) ?_
  refine x_iload (M := M_X11_nearest) dX11_nearest_45 rfl ?_
  refine x_bipush (M := M_X11_nearest) dX11_nearest_47 ?_
  refine x_icmp_ge (M := M_X11_nearest) (tgt := 92) dX11_nearest_49 (by decide) (fun q => absurd q (by decide +kernel)) (fun _ => ?_)
  refine x_aload_n (M := M_X11_nearest) dX11_nearest_52 rfl ?_
  refine x_getf (M := M_X11_nearest) (ci := 14) (C := RX11) (T := TX11) (N := 19) (ty := tyX11) cl14 dX11_nearest_53 o5455 0 (by decide) t_563 (v := .ref 33) rfl ?_
  refine x_iload (M := M_X11_nearest) dX11_nearest_56 rfl ?_
  refine x_aald (M := M_X11_nearest) (b := 74) dX11_nearest_58 o5456 (vp_inD (by decide +kernel)) (by decide +kernel) ?_
  refine x_aload_n (M := M_X11_nearest) dX11_nearest_59 rfl ?_
  refine x_getf (M := M_X11_nearest) (ci := 14) (C := RX11) (T := TX11) (N := 19) (ty := tyX11) cl14 dX11_nearest_60 o5455 15 (by decide) t_578 (v := .ref 274) rfl ?_
  refine x_callVR (M := M_X11_nearest) (M' := M_X6_putBox) rfl rfl dX11_nearest_63 m_X6_putBox t_2236 t_2237 t_2238 (q5488 hl o5489) rfl rfl o5489 rfl (Nat.le_of_ble_eq_true rfl) (Nat.le_of_ble_eq_true rfl) (Nat.le_of_ble_eq_true rfl) (Nat.le_of_ble_eq_true rfl) ?_
  refine x_if_eq (M := M_X11_nearest) (tgt := 86) dX11_nearest_66 (by decide) (fun _ => ?_) (fun q => absurd q (by decide +kernel))
  refine x_iinc (M := M_X11_nearest) dX11_nearest_86 rfl (Nat.le_of_ble_eq_true rfl) rfl ?_
  refine x_lvs (M := M_X11_nearest) (lv' := [some (.ref 32), some (.int a0), some (.int a1), some (.int a2), some (.int (Int32.ofInt 0)), some (.int (Int32.ofInt 11))]) (by rw [(by decide +kernel : (Int32.ofInt 10) + Int32.ofInt 1 = (Int32.ofInt 11))] <;> rfl) ?_
  refine x_goto (M := M_X11_nearest) (tgt := 45) dX11_nearest_89 (by decide) ?_
  refine x_iload (M := M_X11_nearest) dX11_nearest_45 rfl ?_
  refine x_bipush (M := M_X11_nearest) dX11_nearest_47 ?_
  refine x_icmp_ge (M := M_X11_nearest) (tgt := 92) dX11_nearest_49 (by decide) (fun q => absurd q (by decide +kernel)) (fun _ => ?_)
  refine x_aload_n (M := M_X11_nearest) dX11_nearest_52 rfl ?_
  refine x_getf (M := M_X11_nearest) (ci := 14) (C := RX11) (T := TX11) (N := 19) (ty := tyX11) cl14 dX11_nearest_53 o5455 0 (by decide) t_563 (v := .ref 33) rfl ?_
  refine x_iload (M := M_X11_nearest) dX11_nearest_56 rfl ?_
  refine x_aald (M := M_X11_nearest) (b := 78) dX11_nearest_58 o5456 (vp_inD (by decide +kernel)) (by decide +kernel) ?_
  refine x_aload_n (M := M_X11_nearest) dX11_nearest_59 rfl ?_
  refine x_getf (M := M_X11_nearest) (ci := 14) (C := RX11) (T := TX11) (N := 19) (ty := tyX11) cl14 dX11_nearest_60 o5455 15 (by decide) t_578 (v := .ref 274) rfl ?_
  refine x_callVR (M := M_X11_nearest) (M' := M_X6_putBox) rfl rfl dX11_nearest_63 m_X6_putBox t_2236 t_2237 t_2238 (q5491 hl o5492) rfl rfl o5492 rfl (Nat.le_of_ble_eq_true rfl) (Nat.le_of_ble_eq_true rfl) (Nat.le_of_ble_eq_true rfl) (Nat.le_of_ble_eq_true rfl) ?_
  refine x_if_eq (M := M_X11_nearest) (tgt := 86) dX11_nearest_66 (by decide) (fun _ => ?_) (fun q => absurd q (by decide +kernel))
  refine x_iinc (M := M_X11_nearest) dX11_nearest_86 rfl (Nat.le_of_ble_eq_true rfl) rfl ?_
  refine x_lvs (M := M_X11_nearest) (lv' := [some (.ref 32), some (.int a0), some (.int a1), some (.int a2), some (.int (Int32.ofInt 0)), some (.int (Int32.ofInt 12))]) (by rw [(by decide +kernel : (Int32.ofInt 11) + Int32.ofInt 1 = (Int32.ofInt 12))] <;> rfl) ?_
  refine x_goto (M := M_X11_nearest) (tgt := 45) dX11_nearest_89 (by decide) ?_
  refine x_iload (M := M_X11_nearest) dX11_nearest_45 rfl ?_
  refine x_bipush (M := M_X11_nearest) dX11_nearest_47 ?_
  refine x_icmp_ge (M := M_X11_nearest) (tgt := 92) dX11_nearest_49 (by decide) (fun q => absurd q (by decide +kernel)) (fun _ => ?_)
  refine x_aload_n (M := M_X11_nearest) dX11_nearest_52 rfl ?_
  refine x_getf (M := M_X11_nearest) (ci := 14) (C := RX11) (T := TX11) (N := 19) (ty := tyX11) cl14 dX11_nearest_53 o5455 0 (by decide) t_563 (v := .ref 33) rfl ?_
  refine x_iload (M := M_X11_nearest) dX11_nearest_56 rfl ?_
  refine x_aald (M := M_X11_nearest) (b := 82) dX11_nearest_58 o5456 (vp_inD (by decide +kernel)) (by decide +kernel) ?_
  refine x_aload_n (M := M_X11_nearest) dX11_nearest_59 rfl ?_
  refine x_getf (M := M_X11_nearest) (ci := 14) (C := RX11) (T := TX11) (N := 19) (ty := tyX11) cl14 dX11_nearest_60 o5455 15 (by decide) t_578 (v := .ref 274) rfl ?_
  refine x_callVR (M := M_X11_nearest) (M' := M_X6_putBox) rfl rfl dX11_nearest_63 m_X6_putBox t_2236 t_2237 t_2238 (q5494 hl o5495) rfl rfl o5495 rfl (Nat.le_of_ble_eq_true rfl) (Nat.le_of_ble_eq_true rfl) (Nat.le_of_ble_eq_true rfl) (Nat.le_of_ble_eq_true rfl) ?_
  refine x_if_eq (M := M_X11_nearest) (tgt := 86) dX11_nearest_66 (by decide) (fun _ => ?_) (fun q => absurd q (by decide +kernel))
  refine x_iinc (M := M_X11_nearest) dX11_nearest_86 rfl (Nat.le_of_ble_eq_true rfl) rfl ?_
  refine x_lvs (M := M_X11_nearest) (lv' := [some (.ref 32), some (.int a0), some (.int a1), some (.int a2), some (.int (Int32.ofInt 0)), some (.int (Int32.ofInt 13))]) (by rw [(by decide +kernel : (Int32.ofInt 12) + Int32.ofInt 1 = (Int32.ofInt 13))] <;> rfl) ?_
  refine x_goto (M := M_X11_nearest) (tgt := 45) dX11_nearest_89 (by decide) ?_
  refine x_iload (M := M_X11_nearest) dX11_nearest_45 rfl ?_
  refine x_bipush (M := M_X11_nearest) dX11_nearest_47 ?_
  refine x_icmp_ge (M := M_X11_nearest) (tgt := 92) dX11_nearest_49 (by decide) (fun q => absurd q (by decide +kernel)) (fun _ => ?_)
  refine x_aload_n (M := M_X11_nearest) dX11_nearest_52 rfl ?_
  refine x_getf (M := M_X11_nearest) (ci := 14) (C := RX11) (T := TX11) (N := 19) (ty := tyX11) cl14 dX11_nearest_53 o5455 0 (by decide) t_563 (v := .ref 33) rfl ?_
  refine x_iload (M := M_X11_nearest) dX11_nearest_56 rfl ?_
  refine x_aald (M := M_X11_nearest) (b := 86) dX11_nearest_58 o5456 (vp_inD (by decide +kernel)) (by decide +kernel) ?_
  refine x_aload_n (M := M_X11_nearest) dX11_nearest_59 rfl ?_
  refine x_getf (M := M_X11_nearest) (ci := 14) (C := RX11) (T := TX11) (N := 19) (ty := tyX11) cl14 dX11_nearest_60 o5455 15 (by decide) t_578 (v := .ref 274) rfl ?_
  refine x_callVR (M := M_X11_nearest) (M' := M_X6_putBox) rfl rfl dX11_nearest_63 m_X6_putBox t_2236 t_2237 t_2238 (q5497 hl o5498) rfl rfl o5498 rfl (Nat.le_of_ble_eq_true rfl) (Nat.le_of_ble_eq_true rfl) (Nat.le_of_ble_eq_true rfl) (Nat.le_of_ble_eq_true rfl) ?_
  refine x_if_eq (M := M_X11_nearest) (tgt := 86) dX11_nearest_66 (by decide) (fun _ => ?_) (fun q => absurd q (by decide +kernel))
  refine x_iinc (M := M_X11_nearest) dX11_nearest_86 rfl (Nat.le_of_ble_eq_true rfl) rfl ?_
  refine x_lvs (M := M_X11_nearest) (lv' := [some (.ref 32), some (.int a0), some (.int a1), some (.int a2), some (.int (Int32.ofInt 0)), some (.int (Int32.ofInt 14))]) (by rw [(by decide +kernel : (Int32.ofInt 13) + Int32.ofInt 1 = (Int32.ofInt 14))] <;> rfl) ?_
  refine x_goto (M := M_X11_nearest) (tgt := 45) dX11_nearest_89 (by decide) ?_
  refine x_iload (M := M_X11_nearest) dX11_nearest_45 rfl ?_
  refine x_bipush (M := M_X11_nearest) dX11_nearest_47 ?_
  refine x_icmp_ge (M := M_X11_nearest) (tgt := 92) dX11_nearest_49 (by decide) (fun q => absurd q (by decide +kernel)) (fun _ => ?_)
  refine x_aload_n (M := M_X11_nearest) dX11_nearest_52 rfl ?_
  refine x_getf (M := M_X11_nearest) (ci := 14) (C := RX11) (T := TX11) (N := 19) (ty := tyX11) cl14 dX11_nearest_53 o5455 0 (by decide) t_563 (v := .ref 33) rfl ?_
  refine x_iload (M := M_X11_nearest) dX11_nearest_56 rfl ?_
  refine x_aald (M := M_X11_nearest) (b := 90) dX11_nearest_58 o5456 (vp_inD (by decide +kernel)) (by decide +kernel) ?_
  refine x_aload_n (M := M_X11_nearest) dX11_nearest_59 rfl ?_
  refine x_getf (M := M_X11_nearest) (ci := 14) (C := RX11) (T := TX11) (N := 19) (ty := tyX11) cl14 dX11_nearest_60 o5455 15 (by decide) t_578 (v := .ref 274) rfl ?_
  refine x_callVR (M := M_X11_nearest) (M' := M_X6_putBox) rfl rfl dX11_nearest_63 m_X6_putBox t_2236 t_2237 t_2238 (q5500 hl o5501) rfl rfl o5501 rfl (Nat.le_of_ble_eq_true rfl) (Nat.le_of_ble_eq_true rfl) (Nat.le_of_ble_eq_true rfl) (Nat.le_of_ble_eq_true rfl) ?_
  refine x_if_eq (M := M_X11_nearest) (tgt := 86) dX11_nearest_66 (by decide) (fun _ => ?_) (fun q => absurd q (by decide +kernel))
  refine x_iinc (M := M_X11_nearest) dX11_nearest_86 rfl (Nat.le_of_ble_eq_true rfl) rfl ?_
  refine x_lvs (M := M_X11_nearest) (lv' := [some (.ref 32), some (.int a0), some (.int a1), some (.int a2), some (.int (Int32.ofInt 0)), some (.int (Int32.ofInt 15))]) (by rw [(by decide +kernel : (Int32.ofInt 14) + Int32.ofInt 1 = (Int32.ofInt 15))] <;> rfl) ?_
  refine x_goto (M := M_X11_nearest) (tgt := 45) dX11_nearest_89 (by decide) ?_
  refine x_iload (M := M_X11_nearest) dX11_nearest_45 rfl ?_
  refine x_bipush (M := M_X11_nearest) dX11_nearest_47 ?_
  refine x_icmp_ge (M := M_X11_nearest) (tgt := 92) dX11_nearest_49 (by decide) (fun q => absurd q (by decide +kernel)) (fun _ => ?_)
  refine x_aload_n (M := M_X11_nearest) dX11_nearest_52 rfl ?_
  refine x_getf (M := M_X11_nearest) (ci := 14) (C := RX11) (T := TX11) (N := 19) (ty := tyX11) cl14 dX11_nearest_53 o5455 0 (by decide) t_563 (v := .ref 33) rfl ?_
  refine x_iload (M := M_X11_nearest) dX11_nearest_56 rfl ?_
  refine x_aald (M := M_X11_nearest) (b := 94) dX11_nearest_58 o5456 (vp_inD (by decide +kernel)) (by decide +kernel) ?_
  refine x_aload_n (M := M_X11_nearest) dX11_nearest_59 rfl ?_
  refine x_getf (M := M_X11_nearest) (ci := 14) (C := RX11) (T := TX11) (N := 19) (ty := tyX11) cl14 dX11_nearest_60 o5455 15 (by decide) t_578 (v := .ref 274) rfl ?_
  refine x_callVR (M := M_X11_nearest) (M' := M_X6_putBox) rfl rfl dX11_nearest_63 m_X6_putBox t_2236 t_2237 t_2238 (q5503 hl o5504) rfl rfl o5504 rfl (Nat.le_of_ble_eq_true rfl) (Nat.le_of_ble_eq_true rfl) (Nat.le_of_ble_eq_true rfl) (Nat.le_of_ble_eq_true rfl) ?_
  refine x_if_eq (M := M_X11_nearest) (tgt := 86) dX11_nearest_66 (by decide) (fun _ => ?_) (fun q => absurd q (by decide +kernel))
  refine x_iinc (M := M_X11_nearest) dX11_nearest_86 rfl (Nat.le_of_ble_eq_true rfl) rfl ?_
  refine x_lvs (M := M_X11_nearest) (lv' := [some (.ref 32), some (.int a0), some (.int a1), some (.int a2), some (.int (Int32.ofInt 0)), some (.int (Int32.ofInt 16))]) (by rw [(by decide +kernel : (Int32.ofInt 15) + Int32.ofInt 1 = (Int32.ofInt 16))] <;> rfl) ?_
  refine x_goto (M := M_X11_nearest) (tgt := 45) dX11_nearest_89 (by decide) ?_
  refine x_iload (M := M_X11_nearest) dX11_nearest_45 rfl ?_
  refine x_bipush (M := M_X11_nearest) dX11_nearest_47 ?_
  refine x_icmp_ge (M := M_X11_nearest) (tgt := 92) dX11_nearest_49 (by decide) (fun q => absurd q (by decide +kernel)) (fun _ => ?_)
  refine x_aload_n (M := M_X11_nearest) dX11_nearest_52 rfl ?_
  refine x_getf (M := M_X11_nearest) (ci := 14) (C := RX11) (T := TX11) (N := 19) (ty := tyX11) cl14 dX11_nearest_53 o5455 0 (by decide) t_563 (v := .ref 33) rfl ?_
  refine x_iload (M := M_X11_nearest) dX11_nearest_56 rfl ?_
  refine x_aald (M := M_X11_nearest) (b := 98) dX11_nearest_58 o5456 (vp_inD (by decide +kernel)) (by decide +kernel) ?_
  refine x_aload_n (M := M_X11_nearest) dX11_nearest_59 rfl ?_
  refine x_getf (M := M_X11_nearest) (ci := 14) (C := RX11) (T := TX11) (N := 19) (ty := tyX11) cl14 dX11_nearest_60 o5455 15 (by decide) t_578 (v := .ref 274) rfl ?_
  refine x_callVR (M := M_X11_nearest) (M' := M_X6_putBox) rfl rfl dX11_nearest_63 m_X6_putBox t_2236 t_2237 t_2238 (q5506 hl o5507) rfl rfl o5507 rfl (Nat.le_of_ble_eq_true rfl) (Nat.le_of_ble_eq_true rfl) (Nat.le_of_ble_eq_true rfl) (Nat.le_of_ble_eq_true rfl) ?_
  refine x_if_eq (M := M_X11_nearest) (tgt := 86) dX11_nearest_66 (by decide) (fun _ => ?_) (fun q => absurd q (by decide +kernel))
  refine x_iinc (M := M_X11_nearest) dX11_nearest_86 rfl (Nat.le_of_ble_eq_true rfl) rfl ?_
  refine x_lvs (M := M_X11_nearest) (lv' := [some (.ref 32), some (.int a0), some (.int a1), some (.int a2), some (.int (Int32.ofInt 0)), some (.int (Int32.ofInt 17))]) (by rw [(by decide +kernel : (Int32.ofInt 16) + Int32.ofInt 1 = (Int32.ofInt 17))] <;> rfl) ?_
  refine x_goto (M := M_X11_nearest) (tgt := 45) dX11_nearest_89 (by decide) ?_
  refine x_iload (M := M_X11_nearest) dX11_nearest_45 rfl ?_
  refine x_bipush (M := M_X11_nearest) dX11_nearest_47 ?_
  refine x_icmp_ge (M := M_X11_nearest) (tgt := 92) dX11_nearest_49 (by decide) (fun q => absurd q (by decide +kernel)) (fun _ => ?_)
  refine x_aload_n (M := M_X11_nearest) dX11_nearest_52 rfl ?_
  refine x_getf (M := M_X11_nearest) (ci := 14) (C := RX11) (T := TX11) (N := 19) (ty := tyX11) cl14 dX11_nearest_53 o5455 0 (by decide) t_563 (v := .ref 33) rfl ?_
  refine x_iload (M := M_X11_nearest) dX11_nearest_56 rfl ?_
  refine x_aald (M := M_X11_nearest) (b := 102) dX11_nearest_58 o5456 (vp_inD (by decide +kernel)) (by decide +kernel) ?_
  refine x_aload_n (M := M_X11_nearest) dX11_nearest_59 rfl ?_
  refine x_getf (M := M_X11_nearest) (ci := 14) (C := RX11) (T := TX11) (N := 19) (ty := tyX11) cl14 dX11_nearest_60 o5455 15 (by decide) t_578 (v := .ref 274) rfl ?_
  refine x_callVR (M := M_X11_nearest) (M' := M_X6_putBox) rfl rfl dX11_nearest_63 m_X6_putBox t_2236 t_2237 t_2238 (q5509 hl o5510) rfl rfl o5510 rfl (Nat.le_of_ble_eq_true rfl) (Nat.le_of_ble_eq_true rfl) (Nat.le_of_ble_eq_true rfl) (Nat.le_of_ble_eq_true rfl) ?_
  refine x_if_eq (M := M_X11_nearest) (tgt := 86) dX11_nearest_66 (by decide) (fun _ => ?_) (fun q => absurd q (by decide +kernel))
  refine x_iinc (M := M_X11_nearest) dX11_nearest_86 rfl (Nat.le_of_ble_eq_true rfl) rfl ?_
  refine x_lvs (M := M_X11_nearest) (lv' := [some (.ref 32), some (.int a0), some (.int a1), some (.int a2), some (.int (Int32.ofInt 0)), some (.int (Int32.ofInt 18))]) (by rw [(by decide +kernel : (Int32.ofInt 17) + Int32.ofInt 1 = (Int32.ofInt 18))] <;> rfl) ?_
  refine x_goto (M := M_X11_nearest) (tgt := 45) dX11_nearest_89 (by decide) ?_
  refine x_iload (M := M_X11_nearest) dX11_nearest_45 rfl ?_
  refine x_bipush (M := M_X11_nearest) dX11_nearest_47 ?_
  refine x_icmp_ge (M := M_X11_nearest) (tgt := 92) dX11_nearest_49 (by decide) (fun q => absurd q (by decide +kernel)) (fun _ => ?_)
  refine x_aload_n (M := M_X11_nearest) dX11_nearest_52 rfl ?_
  refine x_getf (M := M_X11_nearest) (ci := 14) (C := RX11) (T := TX11) (N := 19) (ty := tyX11) cl14 dX11_nearest_53 o5455 0 (by decide) t_563 (v := .ref 33) rfl ?_
  refine x_iload (M := M_X11_nearest) dX11_nearest_56 rfl ?_
  refine x_aald (M := M_X11_nearest) (b := 106) dX11_nearest_58 o5456 (vp_inD (by decide +kernel)) (by decide +kernel) ?_
  refine x_aload_n (M := M_X11_nearest) dX11_nearest_59 rfl ?_
  refine x_getf (M := M_X11_nearest) (ci := 14) (C := RX11) (T := TX11) (N := 19) (ty := tyX11) cl14 dX11_nearest_60 o5455 15 (by decide) t_578 (v := .ref 274) rfl ?_
  refine x_callVR (M := M_X11_nearest) (M' := M_X6_putBox) rfl rfl dX11_nearest_63 m_X6_putBox t_2236 t_2237 t_2238 (q5512 hl o5513) rfl rfl o5513 rfl (Nat.le_of_ble_eq_true rfl) (Nat.le_of_ble_eq_true rfl) (Nat.le_of_ble_eq_true rfl) (Nat.le_of_ble_eq_true rfl) ?_
  refine x_if_eq (M := M_X11_nearest) (tgt := 86) dX11_nearest_66 (by decide) (fun _ => ?_) (fun q => absurd q (by decide +kernel))
  refine x_iinc (M := M_X11_nearest) dX11_nearest_86 rfl (Nat.le_of_ble_eq_true rfl) rfl ?_
  refine x_lvs (M := M_X11_nearest) (lv' := [some (.ref 32), some (.int a0), some (.int a1), some (.int a2), some (.int (Int32.ofInt 0)), some (.int (Int32.ofInt 19))]) (by rw [(by decide +kernel : (Int32.ofInt 18) + Int32.ofInt 1 = (Int32.ofInt 19))] <;> rfl) ?_
  refine x_goto (M := M_X11_nearest) (tgt := 45) dX11_nearest_89 (by decide) ?_
  refine x_iload (M := M_X11_nearest) dX11_nearest_45 rfl ?_
  refine x_bipush (M := M_X11_nearest) dX11_nearest_47 ?_
  refine x_icmp_ge (M := M_X11_nearest) (tgt := 92) dX11_nearest_49 (by decide) (fun q => absurd q (by decide +kernel)) (fun _ => ?_)
  refine x_aload_n (M := M_X11_nearest) dX11_nearest_52 rfl ?_
  refine x_getf (M := M_X11_nearest) (ci := 14) (C := RX11) (T := TX11) (N := 19) (ty := tyX11) cl14 dX11_nearest_53 o5455 0 (by decide) t_563 (v := .ref 33) rfl ?_
  refine x_iload (M := M_X11_nearest) dX11_nearest_56 rfl ?_
  refine x_aald (M := M_X11_nearest) (b := 110) dX11_nearest_58 o5456 (vp_inD (by decide +kernel)) (by decide +kernel) ?_
  refine x_aload_n (M := M_X11_nearest) dX11_nearest_59 rfl ?_
  refine x_getf (M := M_X11_nearest) (ci := 14) (C := RX11) (T := TX11) (N := 19) (ty := tyX11) cl14 dX11_nearest_60 o5455 15 (by decide) t_578 (v := .ref 274) rfl ?_
  refine x_callVR (M := M_X11_nearest) (M' := M_X6_putBox) rfl rfl dX11_nearest_63 m_X6_putBox t_2236 t_2237 t_2238 (q5515 hl o5516) rfl rfl o5516 rfl (Nat.le_of_ble_eq_true rfl) (Nat.le_of_ble_eq_true rfl) (Nat.le_of_ble_eq_true rfl) (Nat.le_of_ble_eq_true rfl) ?_
  refine x_if_eq (M := M_X11_nearest) (tgt := 86) dX11_nearest_66 (by decide) (fun _ => ?_) (fun q => absurd q (by decide +kernel))
  refine x_iinc (M := M_X11_nearest) dX11_nearest_86 rfl (Nat.le_of_ble_eq_true rfl) rfl ?_
  refine x_lvs (M := M_X11_nearest) (lv' := [some (.ref 32), some (.int a0), some (.int a1), some (.int a2), some (.int (Int32.ofInt 0)), some (.int (Int32.ofInt 20))]) (by rw [(by decide +kernel : (Int32.ofInt 19) + Int32.ofInt 1 = (Int32.ofInt 20))] <;> rfl) ?_
  refine x_goto (M := M_X11_nearest) (tgt := 45) dX11_nearest_89 (by decide) ?_
  refine x_iload (M := M_X11_nearest) dX11_nearest_45 rfl ?_
  refine x_bipush (M := M_X11_nearest) dX11_nearest_47 ?_
  refine x_icmp_ge (M := M_X11_nearest) (tgt := 92) dX11_nearest_49 (by decide) (fun q => absurd q (by decide +kernel)) (fun _ => ?_)
  refine x_aload_n (M := M_X11_nearest) dX11_nearest_52 rfl ?_
  refine x_getf (M := M_X11_nearest) (ci := 14) (C := RX11) (T := TX11) (N := 19) (ty := tyX11) cl14 dX11_nearest_53 o5455 0 (by decide) t_563 (v := .ref 33) rfl ?_
  refine x_iload (M := M_X11_nearest) dX11_nearest_56 rfl ?_
  refine x_aald (M := M_X11_nearest) (b := 114) dX11_nearest_58 o5456 (vp_inD (by decide +kernel)) (by decide +kernel) ?_
  refine x_aload_n (M := M_X11_nearest) dX11_nearest_59 rfl ?_
  refine x_getf (M := M_X11_nearest) (ci := 14) (C := RX11) (T := TX11) (N := 19) (ty := tyX11) cl14 dX11_nearest_60 o5455 15 (by decide) t_578 (v := .ref 274) rfl ?_
  refine x_callVR (M := M_X11_nearest) (M' := M_X6_putBox) rfl rfl dX11_nearest_63 m_X6_putBox t_2236 t_2237 t_2238 (q5518 hl o5519) rfl rfl o5519 rfl (Nat.le_of_ble_eq_true rfl) (Nat.le_of_ble_eq_true rfl) (Nat.le_of_ble_eq_true rfl) (Nat.le_of_ble_eq_true rfl) ?_
  refine x_if_eq (M := M_X11_nearest) (tgt := 86) dX11_nearest_66 (by decide) (fun _ => ?_) (fun q => absurd q (by decide +kernel))
  refine x_iinc (M := M_X11_nearest) dX11_nearest_86 rfl (Nat.le_of_ble_eq_true rfl) rfl ?_
  refine x_lvs (M := M_X11_nearest) (lv' := [some (.ref 32), some (.int a0), some (.int a1), some (.int a2), some (.int (Int32.ofInt 0)), some (.int (Int32.ofInt 21))]) (by rw [(by decide +kernel : (Int32.ofInt 20) + Int32.ofInt 1 = (Int32.ofInt 21))] <;> rfl) ?_
  refine x_goto (M := M_X11_nearest) (tgt := 45) dX11_nearest_89 (by decide) ?_
  refine x_iload (M := M_X11_nearest) dX11_nearest_45 rfl ?_
  refine x_bipush (M := M_X11_nearest) dX11_nearest_47 ?_
  refine x_icmp_ge (M := M_X11_nearest) (tgt := 92) dX11_nearest_49 (by decide) (fun q => absurd q (by decide +kernel)) (fun _ => ?_)
  refine x_aload_n (M := M_X11_nearest) dX11_nearest_52 rfl ?_
  refine x_getf (M := M_X11_nearest) (ci := 14) (C := RX11) (T := TX11) (N := 19) (ty := tyX11) cl14 dX11_nearest_53 o5455 0 (by decide) t_563 (v := .ref 33) rfl ?_
  refine x_iload (M := M_X11_nearest) dX11_nearest_56 rfl ?_
  refine x_aald (M := M_X11_nearest) (b := 118) dX11_nearest_58 o5456 (vp_inD (by decide +kernel)) (by decide +kernel) ?_
  refine x_aload_n (M := M_X11_nearest) dX11_nearest_59 rfl ?_
  refine x_getf (M := M_X11_nearest) (ci := 14) (C := RX11) (T := TX11) (N := 19) (ty := tyX11) cl14 dX11_nearest_60 o5455 15 (by decide) t_578 (v := .ref 274) rfl ?_
  refine x_callVR (M := M_X11_nearest) (M' := M_X6_putBox) rfl rfl dX11_nearest_63 m_X6_putBox t_2236 t_2237 t_2238 (q5521 hl o5522) rfl rfl o5522 rfl (Nat.le_of_ble_eq_true rfl) (Nat.le_of_ble_eq_true rfl) (Nat.le_of_ble_eq_true rfl) (Nat.le_of_ble_eq_true rfl) ?_
  refine x_if_eq (M := M_X11_nearest) (tgt := 86) dX11_nearest_66 (by decide) (fun _ => ?_) (fun q => absurd q (by decide +kernel))
  refine x_iinc (M := M_X11_nearest) dX11_nearest_86 rfl (Nat.le_of_ble_eq_true rfl) rfl ?_
  refine x_lvs (M := M_X11_nearest) (lv' := [some (.ref 32), some (.int a0), some (.int a1), some (.int a2), some (.int (Int32.ofInt 0)), some (.int (Int32.ofInt 22))]) (by rw [(by decide +kernel : (Int32.ofInt 21) + Int32.ofInt 1 = (Int32.ofInt 22))] <;> rfl) ?_
  refine x_goto (M := M_X11_nearest) (tgt := 45) dX11_nearest_89 (by decide) ?_
  refine x_iload (M := M_X11_nearest) dX11_nearest_45 rfl ?_
  refine x_bipush (M := M_X11_nearest) dX11_nearest_47 ?_
  refine x_icmp_ge (M := M_X11_nearest) (tgt := 92) dX11_nearest_49 (by decide) (fun q => absurd q (by decide +kernel)) (fun _ => ?_)
  refine x_aload_n (M := M_X11_nearest) dX11_nearest_52 rfl ?_
  refine x_getf (M := M_X11_nearest) (ci := 14) (C := RX11) (T := TX11) (N := 19) (ty := tyX11) cl14 dX11_nearest_53 o5455 0 (by decide) t_563 (v := .ref 33) rfl ?_
  refine x_iload (M := M_X11_nearest) dX11_nearest_56 rfl ?_
  refine x_aald (M := M_X11_nearest) (b := 122) dX11_nearest_58 o5456 (vp_inD (by decide +kernel)) (by decide +kernel) ?_
  refine x_aload_n (M := M_X11_nearest) dX11_nearest_59 rfl ?_
  refine x_getf (M := M_X11_nearest) (ci := 14) (C := RX11) (T := TX11) (N := 19) (ty := tyX11) cl14 dX11_nearest_60 o5455 15 (by decide) t_578 (v := .ref 274) rfl ?_
  refine x_callVR (M := M_X11_nearest) (M' := M_X6_putBox) rfl rfl dX11_nearest_63 m_X6_putBox t_2236 t_2237 t_2238 (q5524 hl o5525) rfl rfl o5525 rfl (Nat.le_of_ble_eq_true rfl) (Nat.le_of_ble_eq_true rfl) (Nat.le_of_ble_eq_true rfl) (Nat.le_of_ble_eq_true rfl) ?_
  refine x_if_eq (M := M_X11_nearest) (tgt := 86) dX11_nearest_66 (by decide) (fun _ => ?_) (fun q => absurd q (by decide +kernel))
  refine x_iinc (M := M_X11_nearest) dX11_nearest_86 rfl (Nat.le_of_ble_eq_true rfl) rfl ?_
  refine x_lvs (M := M_X11_nearest) (lv' := [some (.ref 32), some (.int a0), some (.int a1), some (.int a2), some (.int (Int32.ofInt 0)), some (.int (Int32.ofInt 23))]) (by rw [(by decide +kernel : (Int32.ofInt 22) + Int32.ofInt 1 = (Int32.ofInt 23))] <;> rfl) ?_
  refine x_goto (M := M_X11_nearest) (tgt := 45) dX11_nearest_89 (by decide) ?_
  refine x_iload (M := M_X11_nearest) dX11_nearest_45 rfl ?_
  refine x_bipush (M := M_X11_nearest) dX11_nearest_47 ?_
  refine x_icmp_ge (M := M_X11_nearest) (tgt := 92) dX11_nearest_49 (by decide) (fun q => absurd q (by decide +kernel)) (fun _ => ?_)
  refine x_aload_n (M := M_X11_nearest) dX11_nearest_52 rfl ?_
  refine x_getf (M := M_X11_nearest) (ci := 14) (C := RX11) (T := TX11) (N := 19) (ty := tyX11) cl14 dX11_nearest_53 o5455 0 (by decide) t_563 (v := .ref 33) rfl ?_
  refine x_iload (M := M_X11_nearest) dX11_nearest_56 rfl ?_
  refine x_aald (M := M_X11_nearest) (b := 126) dX11_nearest_58 o5456 (vp_inD (by decide +kernel)) (by decide +kernel) ?_
  refine x_aload_n (M := M_X11_nearest) dX11_nearest_59 rfl ?_
  refine x_getf (M := M_X11_nearest) (ci := 14) (C := RX11) (T := TX11) (N := 19) (ty := tyX11) cl14 dX11_nearest_60 o5455 15 (by decide) t_578 (v := .ref 274) rfl ?_
  refine x_callVR (M := M_X11_nearest) (M' := M_X6_putBox) rfl rfl dX11_nearest_63 m_X6_putBox t_2236 t_2237 t_2238 (q5527 hl o5528) rfl rfl o5528 rfl (Nat.le_of_ble_eq_true rfl) (Nat.le_of_ble_eq_true rfl) (Nat.le_of_ble_eq_true rfl) (Nat.le_of_ble_eq_true rfl) ?_
  refine x_if_eq (M := M_X11_nearest) (tgt := 86) dX11_nearest_66 (by decide) (fun _ => ?_) (fun q => absurd q (by decide +kernel))
  refine x_iinc (M := M_X11_nearest) dX11_nearest_86 rfl (Nat.le_of_ble_eq_true rfl) rfl ?_
  refine x_lvs (M := M_X11_nearest) (lv' := [some (.ref 32), some (.int a0), some (.int a1), some (.int a2), some (.int (Int32.ofInt 0)), some (.int (Int32.ofInt 24))]) (by rw [(by decide +kernel : (Int32.ofInt 23) + Int32.ofInt 1 = (Int32.ofInt 24))] <;> rfl) ?_
  refine x_goto (M := M_X11_nearest) (tgt := 45) dX11_nearest_89 (by decide) ?_
  refine x_iload (M := M_X11_nearest) dX11_nearest_45 rfl ?_
  refine x_bipush (M := M_X11_nearest) dX11_nearest_47 ?_
  refine x_icmp_ge (M := M_X11_nearest) (tgt := 92) dX11_nearest_49 (by decide) (fun q => absurd q (by decide +kernel)) (fun _ => ?_)
  refine x_aload_n (M := M_X11_nearest) dX11_nearest_52 rfl ?_
  refine x_getf (M := M_X11_nearest) (ci := 14) (C := RX11) (T := TX11) (N := 19) (ty := tyX11) cl14 dX11_nearest_53 o5455 0 (by decide) t_563 (v := .ref 33) rfl ?_
  refine x_iload (M := M_X11_nearest) dX11_nearest_56 rfl ?_
  refine x_aald (M := M_X11_nearest) (b := 130) dX11_nearest_58 o5456 (vp_inD (by decide +kernel)) (by decide +kernel) ?_
  refine x_aload_n (M := M_X11_nearest) dX11_nearest_59 rfl ?_
  refine x_getf (M := M_X11_nearest) (ci := 14) (C := RX11) (T := TX11) (N := 19) (ty := tyX11) cl14 dX11_nearest_60 o5455 15 (by decide) t_578 (v := .ref 274) rfl ?_
  refine x_callVR (M := M_X11_nearest) (M' := M_X6_putBox) rfl rfl dX11_nearest_63 m_X6_putBox t_2236 t_2237 t_2238 (q5530 hl o5531) rfl rfl o5531 rfl (Nat.le_of_ble_eq_true rfl) (Nat.le_of_ble_eq_true rfl) (Nat.le_of_ble_eq_true rfl) (Nat.le_of_ble_eq_true rfl) ?_
  refine x_if_eq (M := M_X11_nearest) (tgt := 86) dX11_nearest_66 (by decide) (fun _ => ?_) (fun q => absurd q (by decide +kernel))
  refine x_iinc (M := M_X11_nearest) dX11_nearest_86 rfl (Nat.le_of_ble_eq_true rfl) rfl ?_
  refine x_lvs (M := M_X11_nearest) (lv' := [some (.ref 32), some (.int a0), some (.int a1), some (.int a2), some (.int (Int32.ofInt 0)), some (.int (Int32.ofInt 25))]) (by rw [(by decide +kernel : (Int32.ofInt 24) + Int32.ofInt 1 = (Int32.ofInt 25))] <;> rfl) ?_
  refine x_goto (M := M_X11_nearest) (tgt := 45) dX11_nearest_89 (by decide) ?_
  refine x_iload (M := M_X11_nearest) dX11_nearest_45 rfl ?_
  refine x_bipush (M := M_X11_nearest) dX11_nearest_47 ?_
  refine x_icmp_ge (M := M_X11_nearest) (tgt := 92) dX11_nearest_49 (by decide) (fun q => absurd q (by decide +kernel)) (fun _ => ?_)
  refine x_aload_n (M := M_X11_nearest) dX11_nearest_52 rfl ?_
  refine x_getf (M := M_X11_nearest) (ci := 14) (C := RX11) (T := TX11) (N := 19) (ty := tyX11) cl14 dX11_nearest_53 o5455 0 (by decide) t_563 (v := .ref 33) rfl ?_
  refine x_iload (M := M_X11_nearest) dX11_nearest_56 rfl ?_
  refine x_aald (M := M_X11_nearest) (b := 134) dX11_nearest_58 o5456 (vp_inD (by decide +kernel)) (by decide +kernel) ?_
  refine x_aload_n (M := M_X11_nearest) dX11_nearest_59 rfl ?_
  refine x_getf (M := M_X11_nearest) (ci := 14) (C := RX11) (T := TX11) (N := 19) (ty := tyX11) cl14 dX11_nearest_60 o5455 15 (by decide) t_578 (v := .ref 274) rfl ?_
  refine x_callVR (M := M_X11_nearest) (M' := M_X6_putBox) rfl rfl dX11_nearest_63 m_X6_putBox t_2236 t_2237 t_2238 (q5533 hl o5534) rfl rfl o5534 rfl (Nat.le_of_ble_eq_true rfl) (Nat.le_of_ble_eq_true rfl) (Nat.le_of_ble_eq_true rfl) (Nat.le_of_ble_eq_true rfl) ?_
  refine x_if_eq (M := M_X11_nearest) (tgt := 86) dX11_nearest_66 (by decide) (fun _ => ?_) (fun q => absurd q (by decide +kernel))
  refine x_iinc (M := M_X11_nearest) dX11_nearest_86 rfl (Nat.le_of_ble_eq_true rfl) rfl ?_
  refine x_lvs (M := M_X11_nearest) (lv' := [some (.ref 32), some (.int a0), some (.int a1), some (.int a2), some (.int (Int32.ofInt 0)), some (.int (Int32.ofInt 26))]) (by rw [(by decide +kernel : (Int32.ofInt 25) + Int32.ofInt 1 = (Int32.ofInt 26))] <;> rfl) ?_
  refine x_goto (M := M_X11_nearest) (tgt := 45) dX11_nearest_89 (by decide) ?_
  refine x_iload (M := M_X11_nearest) dX11_nearest_45 rfl ?_
  refine x_bipush (M := M_X11_nearest) dX11_nearest_47 ?_
  refine x_icmp_ge (M := M_X11_nearest) (tgt := 92) dX11_nearest_49 (by decide) (fun q => absurd q (by decide +kernel)) (fun _ => ?_)
  refine x_aload_n (M := M_X11_nearest) dX11_nearest_52 rfl ?_
  refine x_getf (M := M_X11_nearest) (ci := 14) (C := RX11) (T := TX11) (N := 19) (ty := tyX11) cl14 dX11_nearest_53 o5455 0 (by decide) t_563 (v := .ref 33) rfl ?_
  refine x_iload (M := M_X11_nearest) dX11_nearest_56 rfl ?_
  refine x_aald (M := M_X11_nearest) (b := 138) dX11_nearest_58 o5456 (vp_inD (by decide +kernel)) (by decide +kernel) ?_
  refine x_aload_n (M := M_X11_nearest) dX11_nearest_59 rfl ?_
  refine x_getf (M := M_X11_nearest) (ci := 14) (C := RX11) (T := TX11) (N := 19) (ty := tyX11) cl14 dX11_nearest_60 o5455 15 (by decide) t_578 (v := .ref 274) rfl ?_
  refine x_callVR (M := M_X11_nearest) (M' := M_X6_putBox) rfl rfl dX11_nearest_63 m_X6_putBox t_2236 t_2237 t_2238 (q5536 hl o5537) rfl rfl o5537 rfl (Nat.le_of_ble_eq_true rfl) (Nat.le_of_ble_eq_true rfl) (Nat.le_of_ble_eq_true rfl) (Nat.le_of_ble_eq_true rfl) ?_
  refine x_if_eq (M := M_X11_nearest) (tgt := 86) dX11_nearest_66 (by decide) (fun _ => ?_) (fun q => absurd q (by decide +kernel))
  refine x_iinc (M := M_X11_nearest) dX11_nearest_86 rfl (Nat.le_of_ble_eq_true rfl) rfl ?_
  refine x_lvs (M := M_X11_nearest) (lv' := [some (.ref 32), some (.int a0), some (.int a1), some (.int a2), some (.int (Int32.ofInt 0)), some (.int (Int32.ofInt 27))]) (by rw [(by decide +kernel : (Int32.ofInt 26) + Int32.ofInt 1 = (Int32.ofInt 27))] <;> rfl) ?_
  refine x_goto (M := M_X11_nearest) (tgt := 45) dX11_nearest_89 (by decide) ?_
  refine x_iload (M := M_X11_nearest) dX11_nearest_45 rfl ?_
  refine x_bipush (M := M_X11_nearest) dX11_nearest_47 ?_
  refine x_icmp_ge (M := M_X11_nearest) (tgt := 92) dX11_nearest_49 (by decide) (fun q => absurd q (by decide +kernel)) (fun _ => ?_)
  refine x_aload_n (M := M_X11_nearest) dX11_nearest_52 rfl ?_
  refine x_getf (M := M_X11_nearest) (ci := 14) (C := RX11) (T := TX11) (N := 19) (ty := tyX11) cl14 dX11_nearest_53 o5455 0 (by decide) t_563 (v := .ref 33) rfl ?_
  refine x_iload (M := M_X11_nearest) dX11_nearest_56 rfl ?_
  refine x_aald (M := M_X11_nearest) (b := 142) dX11_nearest_58 o5456 (vp_inD (by decide +kernel)) (by decide +kernel) ?_
  refine x_aload_n (M := M_X11_nearest) dX11_nearest_59 rfl ?_
  refine x_getf (M := M_X11_nearest) (ci := 14) (C := RX11) (T := TX11) (N := 19) (ty := tyX11) cl14 dX11_nearest_60 o5455 15 (by decide) t_578 (v := .ref 274) rfl ?_
  refine x_callVR (M := M_X11_nearest) (M' := M_X6_putBox) rfl rfl dX11_nearest_63 m_X6_putBox t_2236 t_2237 t_2238 (q5539 hl o5540) rfl rfl o5540 rfl (Nat.le_of_ble_eq_true rfl) (Nat.le_of_ble_eq_true rfl) (Nat.le_of_ble_eq_true rfl) (Nat.le_of_ble_eq_true rfl) ?_
  refine x_if_eq (M := M_X11_nearest) (tgt := 86) dX11_nearest_66 (by decide) (fun _ => ?_) (fun q => absurd q (by decide +kernel))
  refine x_iinc (M := M_X11_nearest) dX11_nearest_86 rfl (Nat.le_of_ble_eq_true rfl) rfl ?_
  refine x_lvs (M := M_X11_nearest) (lv' := [some (.ref 32), some (.int a0), some (.int a1), some (.int a2), some (.int (Int32.ofInt 0)), some (.int (Int32.ofInt 28))]) (by rw [(by decide +kernel : (Int32.ofInt 27) + Int32.ofInt 1 = (Int32.ofInt 28))] <;> rfl) ?_
  refine x_goto (M := M_X11_nearest) (tgt := 45) dX11_nearest_89 (by decide) ?_
  refine x_iload (M := M_X11_nearest) dX11_nearest_45 rfl ?_
  refine x_bipush (M := M_X11_nearest) dX11_nearest_47 ?_
  refine x_icmp_ge (M := M_X11_nearest) (tgt := 92) dX11_nearest_49 (by decide) (fun q => absurd q (by decide +kernel)) (fun _ => ?_)
  refine x_aload_n (M := M_X11_nearest) dX11_nearest_52 rfl ?_
  refine x_getf (M := M_X11_nearest) (ci := 14) (C := RX11) (T := TX11) (N := 19) (ty := tyX11) cl14 dX11_nearest_53 o5455 0 (by decide) t_563 (v := .ref 33) rfl ?_
  refine x_iload (M := M_X11_nearest) dX11_nearest_56 rfl ?_
  refine x_aald (M := M_X11_nearest) (b := 146) dX11_nearest_58 o5456 (vp_inD (by decide +kernel)) (by decide +kernel) ?_
  refine x_aload_n (M := M_X11_nearest) dX11_nearest_59 rfl ?_
  refine x_getf (M := M_X11_nearest) (ci := 14) (C := RX11) (T := TX11) (N := 19) (ty := tyX11) cl14 dX11_nearest_60 o5455 15 (by decide) t_578 (v := .ref 274) rfl ?_
  refine x_callVR (M := M_X11_nearest) (M' := M_X6_putBox) rfl rfl dX11_nearest_63 m_X6_putBox t_2236 t_2237 t_2238 (q5542 hl o5543) rfl rfl o5543 rfl (Nat.le_of_ble_eq_true rfl) (Nat.le_of_ble_eq_true rfl) (Nat.le_of_ble_eq_true rfl) (Nat.le_of_ble_eq_true rfl) ?_
  refine x_if_eq (M := M_X11_nearest) (tgt := 86) dX11_nearest_66 (by decide) (fun _ => ?_) (fun q => absurd q (by decide +kernel))
  refine x_iinc (M := M_X11_nearest) dX11_nearest_86 rfl (Nat.le_of_ble_eq_true rfl) rfl ?_
  refine x_lvs (M := M_X11_nearest) (lv' := [some (.ref 32), some (.int a0), some (.int a1), some (.int a2), some (.int (Int32.ofInt 0)), some (.int (Int32.ofInt 29))]) (by rw [(by decide +kernel : (Int32.ofInt 28) + Int32.ofInt 1 = (Int32.ofInt 29))] <;> rfl) ?_
  refine x_goto (M := M_X11_nearest) (tgt := 45) dX11_nearest_89 (by decide) ?_
  refine x_iload (M := M_X11_nearest) dX11_nearest_45 rfl ?_
  refine x_bipush (M := M_X11_nearest) dX11_nearest_47 ?_
  refine x_icmp_ge (M := M_X11_nearest) (tgt := 92) dX11_nearest_49 (by decide) (fun q => absurd q (by decide +kernel)) (fun _ => ?_)
  refine x_aload_n (M := M_X11_nearest) dX11_nearest_52 rfl ?_
  refine x_getf (M := M_X11_nearest) (ci := 14) (C := RX11) (T := TX11) (N := 19) (ty := tyX11) cl14 dX11_nearest_53 o5455 0 (by decide) t_563 (v := .ref 33) rfl ?_
  refine x_iload (M := M_X11_nearest) dX11_nearest_56 rfl ?_
  refine x_aald (M := M_X11_nearest) (b := 150) dX11_nearest_58 o5456 (vp_inD (by decide +kernel)) (by decide +kernel) ?_
  refine x_aload_n (M := M_X11_nearest) dX11_nearest_59 rfl ?_
  refine x_getf (M := M_X11_nearest) (ci := 14) (C := RX11) (T := TX11) (N := 19) (ty := tyX11) cl14 dX11_nearest_60 o5455 15 (by decide) t_578 (v := .ref 274) rfl ?_
  refine x_callVR (M := M_X11_nearest) (M' := M_X6_putBox) rfl rfl dX11_nearest_63 m_X6_putBox t_2236 t_2237 t_2238 (q5545 hl o5546) rfl rfl o5546 rfl (Nat.le_of_ble_eq_true rfl) (Nat.le_of_ble_eq_true rfl) (Nat.le_of_ble_eq_true rfl) (Nat.le_of_ble_eq_true rfl) ?_
  refine x_if_eq (M := M_X11_nearest) (tgt := 86) dX11_nearest_66 (by decide) (fun _ => ?_) (fun q => absurd q (by decide +kernel))
  refine x_iinc (M := M_X11_nearest) dX11_nearest_86 rfl (Nat.le_of_ble_eq_true rfl) rfl ?_
  refine x_lvs (M := M_X11_nearest) (lv' := [some (.ref 32), some (.int a0), some (.int a1), some (.int a2), some (.int (Int32.ofInt 0)), some (.int (Int32.ofInt 30))]) (by rw [(by decide +kernel : (Int32.ofInt 29) + Int32.ofInt 1 = (Int32.ofInt 30))] <;> rfl) ?_
  refine x_goto (M := M_X11_nearest) (tgt := 45) dX11_nearest_89 (by decide) ?_
  refine x_iload (M := M_X11_nearest) dX11_nearest_45 rfl ?_
  refine x_bipush (M := M_X11_nearest) dX11_nearest_47 ?_
  refine x_icmp_ge (M := M_X11_nearest) (tgt := 92) dX11_nearest_49 (by decide) (fun q => absurd q (by decide +kernel)) (fun _ => ?_)
  refine x_aload_n (M := M_X11_nearest) dX11_nearest_52 rfl ?_
  refine x_getf (M := M_X11_nearest) (ci := 14) (C := RX11) (T := TX11) (N := 19) (ty := tyX11) cl14 dX11_nearest_53 o5455 0 (by decide) t_563 (v := .ref 33) rfl ?_
  refine x_iload (M := M_X11_nearest) dX11_nearest_56 rfl ?_
  refine x_aald (M := M_X11_nearest) (b := 154) dX11_nearest_58 o5456 (vp_inD (by decide +kernel)) (by decide +kernel) ?_
  refine x_aload_n (M := M_X11_nearest) dX11_nearest_59 rfl ?_
  refine x_getf (M := M_X11_nearest) (ci := 14) (C := RX11) (T := TX11) (N := 19) (ty := tyX11) cl14 dX11_nearest_60 o5455 15 (by decide) t_578 (v := .ref 274) rfl ?_
  refine x_callVR (M := M_X11_nearest) (M' := M_X6_putBox) rfl rfl dX11_nearest_63 m_X6_putBox t_2236 t_2237 t_2238 (q5548 hl o5549) rfl rfl o5549 rfl (Nat.le_of_ble_eq_true rfl) (Nat.le_of_ble_eq_true rfl) (Nat.le_of_ble_eq_true rfl) (Nat.le_of_ble_eq_true rfl) ?_
  refine x_if_eq (M := M_X11_nearest) (tgt := 86) dX11_nearest_66 (by decide) (fun _ => ?_) (fun q => absurd q (by decide +kernel))
  refine x_iinc (M := M_X11_nearest) dX11_nearest_86 rfl (Nat.le_of_ble_eq_true rfl) rfl ?_
  refine x_lvs (M := M_X11_nearest) (lv' := [some (.ref 32), some (.int a0), some (.int a1), some (.int a2), some (.int (Int32.ofInt 0)), some (.int (Int32.ofInt 31))]) (by rw [(by decide +kernel : (Int32.ofInt 30) + Int32.ofInt 1 = (Int32.ofInt 31))] <;> rfl) ?_
  refine x_goto (M := M_X11_nearest) (tgt := 45) dX11_nearest_89 (by decide) ?_
  refine x_iload (M := M_X11_nearest) dX11_nearest_45 rfl ?_
  refine x_bipush (M := M_X11_nearest) dX11_nearest_47 ?_
  refine x_icmp_ge (M := M_X11_nearest) (tgt := 92) dX11_nearest_49 (by decide) (fun q => absurd q (by decide +kernel)) (fun _ => ?_)
  refine x_aload_n (M := M_X11_nearest) dX11_nearest_52 rfl ?_
  refine x_getf (M := M_X11_nearest) (ci := 14) (C := RX11) (T := TX11) (N := 19) (ty := tyX11) cl14 dX11_nearest_53 o5455 0 (by decide) t_563 (v := .ref 33) rfl ?_
  refine x_iload (M := M_X11_nearest) dX11_nearest_56 rfl ?_
  refine x_aald (M := M_X11_nearest) (b := 158) dX11_nearest_58 o5456 (vp_inD (by decide +kernel)) (by decide +kernel) ?_
  refine x_aload_n (M := M_X11_nearest) dX11_nearest_59 rfl ?_
  refine x_getf (M := M_X11_nearest) (ci := 14) (C := RX11) (T := TX11) (N := 19) (ty := tyX11) cl14 dX11_nearest_60 o5455 15 (by decide) t_578 (v := .ref 274) rfl ?_
  refine x_callVR (M := M_X11_nearest) (M' := M_X6_putBox) rfl rfl dX11_nearest_63 m_X6_putBox t_2236 t_2237 t_2238 (q5551 hl o5552) rfl rfl o5552 rfl (Nat.le_of_ble_eq_true rfl) (Nat.le_of_ble_eq_true rfl) (Nat.le_of_ble_eq_true rfl) (Nat.le_of_ble_eq_true rfl) ?_
  refine x_if_eq (M := M_X11_nearest) (tgt := 86) dX11_nearest_66 (by decide) (fun _ => ?_) (fun q => absurd q (by decide +kernel))
  refine x_iinc (M := M_X11_nearest) dX11_nearest_86 rfl (Nat.le_of_ble_eq_true rfl) rfl ?_
  refine x_lvs (M := M_X11_nearest) (lv' := [some (.ref 32), some (.int a0), some (.int a1), some (.int a2), some (.int (Int32.ofInt 0)), some (.int (Int32.ofInt 32))]) (by rw [(by decide +kernel : (Int32.ofInt 31) + Int32.ofInt 1 = (Int32.ofInt 32))] <;> rfl) ?_
  refine x_goto (M := M_X11_nearest) (tgt := 45) dX11_nearest_89 (by decide) ?_
  refine x_iload (M := M_X11_nearest) dX11_nearest_45 rfl ?_
  refine x_bipush (M := M_X11_nearest) dX11_nearest_47 ?_
  refine x_icmp_ge (M := M_X11_nearest) (tgt := 92) dX11_nearest_49 (by decide) (fun _ => ?_) (fun q => absurd q (by decide +kernel))
  refine x_aload_n (M := M_X11_nearest) dX11_nearest_92 rfl ?_
  refine x_iload_n (M := M_X11_nearest) dX11_nearest_93 rfl ?_
  refine x_iload (M := M_X11_nearest) dX11_nearest_94 rfl ?_
  refine x_mmin (M := M_X11_nearest) dX11_nearest_96 t_625 t_626 t_20 t_627 (Nat.le_of_ble_eq_true rfl) (Nat.le_of_ble_eq_true rfl) (Nat.le_of_ble_eq_true rfl) (Nat.le_of_ble_eq_true rfl) ?_
  refine x_top (M := M_X11_nearest) (y := (Int32.ofInt 0)) (if_pos ((bi_lt (by decide +kernel) rfl).mpr (by omega : (0 < a2.toInt : Prop)))) ?_
  refine y_put (M := M_X11_nearest) (ci := 14) (C := RX11) (T := TX11) (N := 19) (ty := tyX11) cl14 dX11_nearest_99 o5455 18 (by decide) t_581 (Or.inl rfl) (Nat.le_of_ble_eq_true rfl) rfl (fun h5553 (w5554 : ob h5553 32 = some (.inr (14, [.ref 33, .ref 162, .ref 166, .int (0 : Int32), .int (0 : Int32), .int (0 : Int32), .ref 167, .ref 170, .ref 173, .ref 177, .ref 193, .ref 208, .ref 222, .ref 238, .ref 252, .ref 274, .ref 275, .ref 276, .int (Int32.ofInt 0)]))) f5555 => ?_)
  refine x_aload_n (M := M_X11_nearest) dX11_nearest_102 rfl ?_
  refine x_getf (M := M_X11_nearest) (ci := 14) (C := RX11) (T := TX11) (N := 19) (ty := tyX11) cl14 dX11_nearest_103 w5554 18 (by decide) t_581 (v := .int (Int32.ofInt 0)) rfl ?_
  exact x_iret (M := M_X11_nearest) dX11_nearest_106 rfl ⟨rfl, (fr_tr f5555 (by decide) fr_rf), ⟨w5554, trivial⟩⟩ (Nat.le_of_ble_eq_true rfl) (Nat.le_of_ble_eq_true rfl)
set_option maxRecDepth 10000 in
theorem q5601 {l : Launch} {E : EE} (hl : l.stackTraces = false) {h : HP} {a0 : Int32} {a1 : Int32} {a2 : Int32} (c0 : ¬ (a2.toInt < 1)) (c1 : ¬ (32 < a2.toInt)) (c2 : ¬ (a0.toInt < (-1000000000))) (c3 : ¬ (1000000000 < a0.toInt)) (c4 : ¬ (a1.toInt < (-1000000000))) (c5 : ¬ (1000000000 < a1.toInt)) (o5557 : ob h 32 = some (.inr (14, [.ref 33, .ref 162, .ref 166, .int (0 : Int32), .int (0 : Int32), .int (0 : Int32), .ref 167, .ref 170, .ref 173, .ref 177, .ref 193, .ref 208, .ref 222, .ref 238, .ref 252, .ref 274, .ref 275, .ref 276, .int (0 : Int32)]))) (o5558 : ob h 33 = some (.inl (4, 32, .inr (.inr (.inr (.inr (shf 1 32))))))) (o5559 : ob h 34 = some (.inr (9, [.ref 35, .ref 36, .ref 37, .int (0 : Int32), .int (0 : Int32)]))) (o5560 : ob h 38 = some (.inr (9, [.ref 39, .ref 40, .ref 41, .int (0 : Int32), .int (0 : Int32)]))) (o5561 : ob h 42 = some (.inr (9, [.ref 43, .ref 44, .ref 45, .int (0 : Int32), .int (0 : Int32)]))) (o5562 : ob h 46 = some (.inr (9, [.ref 47, .ref 48, .ref 49, .int (0 : Int32), .int (0 : Int32)]))) (o5563 : ob h 50 = some (.inr (9, [.ref 51, .ref 52, .ref 53, .int (0 : Int32), .int (0 : Int32)]))) (o5564 : ob h 54 = some (.inr (9, [.ref 55, .ref 56, .ref 57, .int (0 : Int32), .int (0 : Int32)]))) (o5565 : ob h 58 = some (.inr (9, [.ref 59, .ref 60, .ref 61, .int (0 : Int32), .int (0 : Int32)]))) (o5566 : ob h 62 = some (.inr (9, [.ref 63, .ref 64, .ref 65, .int (0 : Int32), .int (0 : Int32)]))) (o5567 : ob h 66 = some (.inr (9, [.ref 67, .ref 68, .ref 69, .int (0 : Int32), .int (0 : Int32)]))) (o5568 : ob h 70 = some (.inr (9, [.ref 71, .ref 72, .ref 73, .int (0 : Int32), .int (0 : Int32)]))) (o5569 : ob h 74 = some (.inr (9, [.ref 75, .ref 76, .ref 77, .int (0 : Int32), .int (0 : Int32)]))) (o5570 : ob h 78 = some (.inr (9, [.ref 79, .ref 80, .ref 81, .int (0 : Int32), .int (0 : Int32)]))) (o5571 : ob h 82 = some (.inr (9, [.ref 83, .ref 84, .ref 85, .int (0 : Int32), .int (0 : Int32)]))) (o5572 : ob h 86 = some (.inr (9, [.ref 87, .ref 88, .ref 89, .int (0 : Int32), .int (0 : Int32)]))) (o5573 : ob h 90 = some (.inr (9, [.ref 91, .ref 92, .ref 93, .int (0 : Int32), .int (0 : Int32)]))) (o5574 : ob h 94 = some (.inr (9, [.ref 95, .ref 96, .ref 97, .int (0 : Int32), .int (0 : Int32)]))) (o5575 : ob h 98 = some (.inr (9, [.ref 99, .ref 100, .ref 101, .int (0 : Int32), .int (0 : Int32)]))) (o5576 : ob h 102 = some (.inr (9, [.ref 103, .ref 104, .ref 105, .int (0 : Int32), .int (0 : Int32)]))) (o5577 : ob h 106 = some (.inr (9, [.ref 107, .ref 108, .ref 109, .int (0 : Int32), .int (0 : Int32)]))) (o5578 : ob h 110 = some (.inr (9, [.ref 111, .ref 112, .ref 113, .int (0 : Int32), .int (0 : Int32)]))) (o5579 : ob h 114 = some (.inr (9, [.ref 115, .ref 116, .ref 117, .int (0 : Int32), .int (0 : Int32)]))) (o5580 : ob h 118 = some (.inr (9, [.ref 119, .ref 120, .ref 121, .int (0 : Int32), .int (0 : Int32)]))) (o5581 : ob h 122 = some (.inr (9, [.ref 123, .ref 124, .ref 125, .int (0 : Int32), .int (0 : Int32)]))) (o5582 : ob h 126 = some (.inr (9, [.ref 127, .ref 128, .ref 129, .int (0 : Int32), .int (0 : Int32)]))) (o5583 : ob h 130 = some (.inr (9, [.ref 131, .ref 132, .ref 133, .int (0 : Int32), .int (0 : Int32)]))) (o5584 : ob h 134 = some (.inr (9, [.ref 135, .ref 136, .ref 137, .int (0 : Int32), .int (0 : Int32)]))) (o5585 : ob h 138 = some (.inr (9, [.ref 139, .ref 140, .ref 141, .int (0 : Int32), .int (0 : Int32)]))) (o5586 : ob h 142 = some (.inr (9, [.ref 143, .ref 144, .ref 145, .int (0 : Int32), .int (0 : Int32)]))) (o5587 : ob h 146 = some (.inr (9, [.ref 147, .ref 148, .ref 149, .int (0 : Int32), .int (0 : Int32)]))) (o5588 : ob h 150 = some (.inr (9, [.ref 151, .ref 152, .ref 153, .int (0 : Int32), .int (0 : Int32)]))) (o5589 : ob h 154 = some (.inr (9, [.ref 155, .ref 156, .ref 157, .int (0 : Int32), .int (0 : Int32)]))) (o5590 : ob h 158 = some (.inr (9, [.ref 159, .ref 160, .ref 161, .int (0 : Int32), .int (0 : Int32)]))) (o5595 : ob h 359 = some (.inl (1, 1, .inr (.inl (fun _ => 0))))) : en_C l E M_L_nearest 2 0 0 [.ref 32, .int a0, .int a1, .int a2, .ref 359] h (pF (some (.int (Int32.ofInt 0))) [32, 359] h (fun h' => ob h' 359 = some (.inl (1, 1, .inr (.inl (fun _ => 0)))) ∧ True)) := by
  refine en_mkW m_L_nearest rfl hl (Nat.le_of_ble_eq_true rfl) ?_
  refine x_aload (M := M_L_nearest) dL_nearest_0 rfl ?_
  refine x_iconst (M := M_L_nearest) dL_nearest_2 ?_
  refine x_aload_n (M := M_L_nearest) dL_nearest_3 rfl ?_
  refine x_iload_n (M := M_L_nearest) dL_nearest_4 rfl ?_
  refine x_iload_n (M := M_L_nearest) dL_nearest_5 rfl ?_
  refine x_iload_n (M := M_L_nearest) dL_nearest_6 rfl ?_
  refine y_callVHR (M := M_L_nearest) (M' := M_X11_nearest) rfl dL_nearest_7 m_X11_nearest t_2257 t_2258 t_2259 o5557 rfl (q5556 hl c0 c1 c2 c3 c4 c5 o5557 o5558 o5559 o5560 o5561 o5562 o5563 o5564 o5565 o5566 o5567 o5568 o5569 o5570 o5571 o5572 o5573 o5574 o5575 o5576 o5577 o5578 o5579 o5580 o5581 o5582 o5583 o5584 o5585 o5586 o5587 o5588 o5589 o5590) rfl rfl (Nat.le_of_ble_eq_true rfl) (Nat.le_of_ble_eq_true rfl) (Nat.le_of_ble_eq_true rfl) (Nat.le_of_ble_eq_true rfl) (fun h5591 f5592 w5593 => ?_)
  obtain ⟨o5594, -⟩ := w5593
  refine x_i2l (M := M_L_nearest) dL_nearest_10 ?_
  refine x_norm (M := M_L_nearest) (st' := [.long (Int64.ofInt 0), .int (Int32.ofInt 0), .ref 359]) rfl (vj_cons (by decide +kernel : ((Int32.ofInt 0).toInt64) = (Int64.ofInt 0)) rfl) rfl rfl rfl ?_
  have o5596 := (f5592 359 _ (by decide) o5595)
  refine y_last (M := M_L_nearest) (k := 0) dL_nearest_11 o5596 (vp_inD (by decide +kernel)) (by decide +kernel) (fun h5597 w5598 f5599 => ?_)
  have w5600 : ob h5597 359 = some (.inl (1, 1, .inr (.inl (fun _ => 0)))) := by rw [w5598, uq_z (k := 0)]
  refine x_goto (M := M_L_nearest) (tgt := 19) dL_nearest_12 (by decide) ?_
  refine x_iconst (M := M_L_nearest) dL_nearest_19 ?_
  exact x_iret (M := M_L_nearest) dL_nearest_20 rfl ⟨rfl, (fr_tr f5599 (by decide) (fr_tr f5592 (by decide) fr_rf)), ⟨w5600, trivial⟩⟩ (Nat.le_of_ble_eq_true rfl) (Nat.le_of_ble_eq_true rfl)
set_option maxRecDepth 10000 in
theorem q5645 {l : Launch} {E : EE} (hl : l.stackTraces = false) {h : HP} {a1 : Int32} (c0 : ¬ (a1.toInt < (-1000000000))) (c1 : ¬ (1000000000 < a1.toInt)) : en_C l E M_X12_in 0 0 0 [.long (a1.toInt64), .long (Int64.ofInt (-1000000000)), .long (Int64.ofInt 1000000000)] h (pR (some (.int (Int32.ofInt 1))) h) := by
  refine en_mk m_X12_in rfl hl (Nat.le_of_ble_eq_true rfl) ?_
  refine x_lload_n (M := M_X12_in) dX12_in_0 rfl ?_
  refine x_lload_n (M := M_X12_in) dX12_in_1 rfl ?_
  refine x_lcmp (M := M_X12_in) dX12_in_2 ?_
  refine x_if_lt (M := M_X12_in) (tgt := 17) dX12_in_3 (by decide) (fun q => absurd ((bc_lt (i_i2l rfl) (by decide +kernel)).mp q) (by omega : ¬ (a1.toInt < (-1000000000)))) (fun _ => ?_)
  refine x_lload_n (M := M_X12_in) dX12_in_6 rfl ?_
  refine x_lload (M := M_X12_in) dX12_in_7 rfl ?_
  refine x_lcmp (M := M_X12_in) dX12_in_9 ?_
  refine x_if_gt (M := M_X12_in) (tgt := 17) dX12_in_10 (by decide) (fun q => absurd ((bc_gt (i_i2l rfl) (by decide +kernel)).mp q) (by omega : ¬ (1000000000 < a1.toInt))) (fun _ => ?_)
  refine x_iconst (M := M_X12_in) dX12_in_13 ?_
  refine x_goto (M := M_X12_in) (tgt := 18) dX12_in_14 (by decide) ?_
  exact x_zret (M := M_X12_in) dX12_in_18 rfl (by decide) ⟨rfl, rfl⟩ (Nat.le_of_ble_eq_true rfl) (Nat.le_of_ble_eq_true rfl)
set_option maxRecDepth 10000 in
theorem q5646 {l : Launch} {E : EE} (hl : l.stackTraces = false) {h : HP} {a1 : Int32} (c0 : ¬ (a1.toInt < (-1000000000))) (c1 : ¬ (1000000000 < a1.toInt)) : en_C l E M_X12_isFar 1 0 0 [.long (a1.toInt64)] h (pR (some (.int (Int32.ofInt 1))) h) := by
  refine en_mk m_X12_isFar rfl hl (Nat.le_of_ble_eq_true rfl) ?_
  refine x_lload_n (M := M_X12_isFar) dX12_isFar_0 rfl ?_
  refine x_ldc2 (M := M_X12_isFar) dX12_isFar_1 t_3136 ?_
  refine x_ldc2 (M := M_X12_isFar) dX12_isFar_4 t_2937 ?_
  refine x_norm (M := M_X12_isFar) (st' := [.long (Int64.ofInt 1000000000), .long (Int64.ofInt (-1000000000)), .long (a1.toInt64)]) rfl (vj_cons (by decide +kernel : (1000000000 : Int64) = (Int64.ofInt 1000000000)) (vj_cons (by decide +kernel : (-1000000000 : Int64) = (Int64.ofInt (-1000000000))) rfl)) rfl rfl rfl ?_
  refine x_callSR (M := M_X12_isFar) (M' := M_X12_in) rfl rfl dX12_isFar_7 m_X12_in t_2818 t_2819 (q5645 hl c0 c1) rfl rfl (Nat.le_of_ble_eq_true rfl) (Nat.le_of_ble_eq_true rfl) (Nat.le_of_ble_eq_true rfl) (Nat.le_of_ble_eq_true rfl) ?_
  exact x_zret (M := M_X12_isFar) dX12_isFar_10 rfl (by decide) ⟨rfl, rfl⟩ (Nat.le_of_ble_eq_true rfl) (Nat.le_of_ble_eq_true rfl)
set_option maxRecDepth 10000 in
theorem q5656 {l : Launch} {E : EE} (hl : l.stackTraces = false) {h : HP} {dg : Int32} (o5654 : ob h 277 = some (.inr (15, (((RB dg).set 0 (.int (Int32.ofInt 0))).set 16 (.int (Int32.ofInt 0)))))) (o5655 : ob h 282 = some (.inl (0, 33, .inl (fun _ => 0)))) : en_C l E M_X12_box 0 0 0 [.ref 277, .int (Int32.ofInt 0)] h (pR (some (.int (Int32.ofInt 0))) h) := by
  refine en_mk m_X12_box rfl hl (Nat.le_of_ble_eq_true rfl) ?_
  refine x_aload_n (M := M_X12_box) dX12_box_0 rfl ?_
  refine x_getf (M := M_X12_box) (ci := 15) (C := RX12) (T := TX12) (N := 135) (ty := tyX12) cl15 dX12_box_1 o5654 11 (by decide) t_2402 (v := .ref 282) rfl ?_
  refine x_iload_n (M := M_X12_box) dX12_box_4 rfl ?_
  refine x_iald (M := M_X12_box) dX12_box_5 o5655 (vp_inD (by decide +kernel)) ?_
  refine x_top (M := M_X12_box) (y := (Int32.ofInt 0)) (by decide +kernel) ?_
  refine x_if_ne (M := M_X12_box) (tgt := 11) dX12_box_6 (by decide) (fun q => absurd q (by decide +kernel)) (fun _ => ?_)
  refine x_iconst (M := M_X12_box) dX12_box_9 ?_
  exact x_zret (M := M_X12_box) dX12_box_10 rfl (by decide) ⟨rfl, rfl⟩ (Nat.le_of_ble_eq_true rfl) (Nat.le_of_ble_eq_true rfl)
set_option maxRecDepth 10000 in
theorem q5661 {l : Launch} {E : EE} (hl : l.stackTraces = false) {h : HP} {dg : Int32} (o5659 : ob h 277 = some (.inr (15, (((RB dg).set 0 (.int (Int32.ofInt 0))).set 16 (.int (Int32.ofInt 0)))))) (o5660 : ob h 282 = some (.inl (0, 33, .inl (fun _ => 0)))) : en_C l E M_X12_box 0 0 0 [.ref 277, .int (Int32.ofInt 1)] h (pR (some (.int (Int32.ofInt 0))) h) := by
  refine en_mk m_X12_box rfl hl (Nat.le_of_ble_eq_true rfl) ?_
  refine x_aload_n (M := M_X12_box) dX12_box_0 rfl ?_
  refine x_getf (M := M_X12_box) (ci := 15) (C := RX12) (T := TX12) (N := 135) (ty := tyX12) cl15 dX12_box_1 o5659 11 (by decide) t_2402 (v := .ref 282) rfl ?_
  refine x_iload_n (M := M_X12_box) dX12_box_4 rfl ?_
  refine x_iald (M := M_X12_box) dX12_box_5 o5660 (vp_inD (by decide +kernel)) ?_
  refine x_top (M := M_X12_box) (y := (Int32.ofInt 0)) (by decide +kernel) ?_
  refine x_if_ne (M := M_X12_box) (tgt := 11) dX12_box_6 (by decide) (fun q => absurd q (by decide +kernel)) (fun _ => ?_)
  refine x_iconst (M := M_X12_box) dX12_box_9 ?_
  exact x_zret (M := M_X12_box) dX12_box_10 rfl (by decide) ⟨rfl, rfl⟩ (Nat.le_of_ble_eq_true rfl) (Nat.le_of_ble_eq_true rfl)
set_option maxRecDepth 10000 in
theorem q5664 {l : Launch} {E : EE} (hl : l.stackTraces = false) {h : HP} {dg : Int32} (o5662 : ob h 277 = some (.inr (15, (((RB dg).set 0 (.int (Int32.ofInt 0))).set 16 (.int (Int32.ofInt 0)))))) (o5663 : ob h 282 = some (.inl (0, 33, .inl (fun _ => 0)))) : en_C l E M_X12_box 0 0 0 [.ref 277, .int (Int32.ofInt 2)] h (pR (some (.int (Int32.ofInt 0))) h) := by
  refine en_mk m_X12_box rfl hl (Nat.le_of_ble_eq_true rfl) ?_
  refine x_aload_n (M := M_X12_box) dX12_box_0 rfl ?_
  refine x_getf (M := M_X12_box) (ci := 15) (C := RX12) (T := TX12) (N := 135) (ty := tyX12) cl15 dX12_box_1 o5662 11 (by decide) t_2402 (v := .ref 282) rfl ?_
  refine x_iload_n (M := M_X12_box) dX12_box_4 rfl ?_
  refine x_iald (M := M_X12_box) dX12_box_5 o5663 (vp_inD (by decide +kernel)) ?_
  refine x_top (M := M_X12_box) (y := (Int32.ofInt 0)) (by decide +kernel) ?_
  refine x_if_ne (M := M_X12_box) (tgt := 11) dX12_box_6 (by decide) (fun q => absurd q (by decide +kernel)) (fun _ => ?_)
  refine x_iconst (M := M_X12_box) dX12_box_9 ?_
  exact x_zret (M := M_X12_box) dX12_box_10 rfl (by decide) ⟨rfl, rfl⟩ (Nat.le_of_ble_eq_true rfl) (Nat.le_of_ble_eq_true rfl)
set_option maxRecDepth 10000 in
theorem q5667 {l : Launch} {E : EE} (hl : l.stackTraces = false) {h : HP} {dg : Int32} (o5665 : ob h 277 = some (.inr (15, (((RB dg).set 0 (.int (Int32.ofInt 0))).set 16 (.int (Int32.ofInt 0)))))) (o5666 : ob h 282 = some (.inl (0, 33, .inl (fun _ => 0)))) : en_C l E M_X12_box 0 0 0 [.ref 277, .int (Int32.ofInt 3)] h (pR (some (.int (Int32.ofInt 0))) h) := by
  refine en_mk m_X12_box rfl hl (Nat.le_of_ble_eq_true rfl) ?_
  refine x_aload_n (M := M_X12_box) dX12_box_0 rfl ?_
  refine x_getf (M := M_X12_box) (ci := 15) (C := RX12) (T := TX12) (N := 135) (ty := tyX12) cl15 dX12_box_1 o5665 11 (by decide) t_2402 (v := .ref 282) rfl ?_
  refine x_iload_n (M := M_X12_box) dX12_box_4 rfl ?_
  refine x_iald (M := M_X12_box) dX12_box_5 o5666 (vp_inD (by decide +kernel)) ?_
  refine x_top (M := M_X12_box) (y := (Int32.ofInt 0)) (by decide +kernel) ?_
  refine x_if_ne (M := M_X12_box) (tgt := 11) dX12_box_6 (by decide) (fun q => absurd q (by decide +kernel)) (fun _ => ?_)
  refine x_iconst (M := M_X12_box) dX12_box_9 ?_
  exact x_zret (M := M_X12_box) dX12_box_10 rfl (by decide) ⟨rfl, rfl⟩ (Nat.le_of_ble_eq_true rfl) (Nat.le_of_ble_eq_true rfl)
set_option maxRecDepth 10000 in
theorem q5670 {l : Launch} {E : EE} (hl : l.stackTraces = false) {h : HP} {dg : Int32} (o5668 : ob h 277 = some (.inr (15, (((RB dg).set 0 (.int (Int32.ofInt 0))).set 16 (.int (Int32.ofInt 0)))))) (o5669 : ob h 282 = some (.inl (0, 33, .inl (fun _ => 0)))) : en_C l E M_X12_box 0 0 0 [.ref 277, .int (Int32.ofInt 4)] h (pR (some (.int (Int32.ofInt 0))) h) := by
  refine en_mk m_X12_box rfl hl (Nat.le_of_ble_eq_true rfl) ?_
  refine x_aload_n (M := M_X12_box) dX12_box_0 rfl ?_
  refine x_getf (M := M_X12_box) (ci := 15) (C := RX12) (T := TX12) (N := 135) (ty := tyX12) cl15 dX12_box_1 o5668 11 (by decide) t_2402 (v := .ref 282) rfl ?_
  refine x_iload_n (M := M_X12_box) dX12_box_4 rfl ?_
  refine x_iald (M := M_X12_box) dX12_box_5 o5669 (vp_inD (by decide +kernel)) ?_
  refine x_top (M := M_X12_box) (y := (Int32.ofInt 0)) (by decide +kernel) ?_
  refine x_if_ne (M := M_X12_box) (tgt := 11) dX12_box_6 (by decide) (fun q => absurd q (by decide +kernel)) (fun _ => ?_)
  refine x_iconst (M := M_X12_box) dX12_box_9 ?_
  exact x_zret (M := M_X12_box) dX12_box_10 rfl (by decide) ⟨rfl, rfl⟩ (Nat.le_of_ble_eq_true rfl) (Nat.le_of_ble_eq_true rfl)
set_option maxRecDepth 10000 in
theorem q5673 {l : Launch} {E : EE} (hl : l.stackTraces = false) {h : HP} {dg : Int32} (o5671 : ob h 277 = some (.inr (15, (((RB dg).set 0 (.int (Int32.ofInt 0))).set 16 (.int (Int32.ofInt 0)))))) (o5672 : ob h 282 = some (.inl (0, 33, .inl (fun _ => 0)))) : en_C l E M_X12_box 0 0 0 [.ref 277, .int (Int32.ofInt 5)] h (pR (some (.int (Int32.ofInt 0))) h) := by
  refine en_mk m_X12_box rfl hl (Nat.le_of_ble_eq_true rfl) ?_
  refine x_aload_n (M := M_X12_box) dX12_box_0 rfl ?_
  refine x_getf (M := M_X12_box) (ci := 15) (C := RX12) (T := TX12) (N := 135) (ty := tyX12) cl15 dX12_box_1 o5671 11 (by decide) t_2402 (v := .ref 282) rfl ?_
  refine x_iload_n (M := M_X12_box) dX12_box_4 rfl ?_
  refine x_iald (M := M_X12_box) dX12_box_5 o5672 (vp_inD (by decide +kernel)) ?_
  refine x_top (M := M_X12_box) (y := (Int32.ofInt 0)) (by decide +kernel) ?_
  refine x_if_ne (M := M_X12_box) (tgt := 11) dX12_box_6 (by decide) (fun q => absurd q (by decide +kernel)) (fun _ => ?_)
  refine x_iconst (M := M_X12_box) dX12_box_9 ?_
  exact x_zret (M := M_X12_box) dX12_box_10 rfl (by decide) ⟨rfl, rfl⟩ (Nat.le_of_ble_eq_true rfl) (Nat.le_of_ble_eq_true rfl)
set_option maxRecDepth 10000 in
theorem q5676 {l : Launch} {E : EE} (hl : l.stackTraces = false) {h : HP} {dg : Int32} (o5674 : ob h 277 = some (.inr (15, (((RB dg).set 0 (.int (Int32.ofInt 0))).set 16 (.int (Int32.ofInt 0)))))) (o5675 : ob h 282 = some (.inl (0, 33, .inl (fun _ => 0)))) : en_C l E M_X12_box 0 0 0 [.ref 277, .int (Int32.ofInt 6)] h (pR (some (.int (Int32.ofInt 0))) h) := by
  refine en_mk m_X12_box rfl hl (Nat.le_of_ble_eq_true rfl) ?_
  refine x_aload_n (M := M_X12_box) dX12_box_0 rfl ?_
  refine x_getf (M := M_X12_box) (ci := 15) (C := RX12) (T := TX12) (N := 135) (ty := tyX12) cl15 dX12_box_1 o5674 11 (by decide) t_2402 (v := .ref 282) rfl ?_
  refine x_iload_n (M := M_X12_box) dX12_box_4 rfl ?_
  refine x_iald (M := M_X12_box) dX12_box_5 o5675 (vp_inD (by decide +kernel)) ?_
  refine x_top (M := M_X12_box) (y := (Int32.ofInt 0)) (by decide +kernel) ?_
  refine x_if_ne (M := M_X12_box) (tgt := 11) dX12_box_6 (by decide) (fun q => absurd q (by decide +kernel)) (fun _ => ?_)
  refine x_iconst (M := M_X12_box) dX12_box_9 ?_
  exact x_zret (M := M_X12_box) dX12_box_10 rfl (by decide) ⟨rfl, rfl⟩ (Nat.le_of_ble_eq_true rfl) (Nat.le_of_ble_eq_true rfl)
set_option maxRecDepth 10000 in
theorem q5679 {l : Launch} {E : EE} (hl : l.stackTraces = false) {h : HP} {dg : Int32} (o5677 : ob h 277 = some (.inr (15, (((RB dg).set 0 (.int (Int32.ofInt 0))).set 16 (.int (Int32.ofInt 0)))))) (o5678 : ob h 282 = some (.inl (0, 33, .inl (fun _ => 0)))) : en_C l E M_X12_box 0 0 0 [.ref 277, .int (Int32.ofInt 7)] h (pR (some (.int (Int32.ofInt 0))) h) := by
  refine en_mk m_X12_box rfl hl (Nat.le_of_ble_eq_true rfl) ?_
  refine x_aload_n (M := M_X12_box) dX12_box_0 rfl ?_
  refine x_getf (M := M_X12_box) (ci := 15) (C := RX12) (T := TX12) (N := 135) (ty := tyX12) cl15 dX12_box_1 o5677 11 (by decide) t_2402 (v := .ref 282) rfl ?_
  refine x_iload_n (M := M_X12_box) dX12_box_4 rfl ?_
  refine x_iald (M := M_X12_box) dX12_box_5 o5678 (vp_inD (by decide +kernel)) ?_
  refine x_top (M := M_X12_box) (y := (Int32.ofInt 0)) (by decide +kernel) ?_
  refine x_if_ne (M := M_X12_box) (tgt := 11) dX12_box_6 (by decide) (fun q => absurd q (by decide +kernel)) (fun _ => ?_)
  refine x_iconst (M := M_X12_box) dX12_box_9 ?_
  exact x_zret (M := M_X12_box) dX12_box_10 rfl (by decide) ⟨rfl, rfl⟩ (Nat.le_of_ble_eq_true rfl) (Nat.le_of_ble_eq_true rfl)
set_option maxRecDepth 10000 in
theorem q5682 {l : Launch} {E : EE} (hl : l.stackTraces = false) {h : HP} {dg : Int32} (o5680 : ob h 277 = some (.inr (15, (((RB dg).set 0 (.int (Int32.ofInt 0))).set 16 (.int (Int32.ofInt 0)))))) (o5681 : ob h 282 = some (.inl (0, 33, .inl (fun _ => 0)))) : en_C l E M_X12_box 0 0 0 [.ref 277, .int (Int32.ofInt 8)] h (pR (some (.int (Int32.ofInt 0))) h) := by
  refine en_mk m_X12_box rfl hl (Nat.le_of_ble_eq_true rfl) ?_
  refine x_aload_n (M := M_X12_box) dX12_box_0 rfl ?_
  refine x_getf (M := M_X12_box) (ci := 15) (C := RX12) (T := TX12) (N := 135) (ty := tyX12) cl15 dX12_box_1 o5680 11 (by decide) t_2402 (v := .ref 282) rfl ?_
  refine x_iload_n (M := M_X12_box) dX12_box_4 rfl ?_
  refine x_iald (M := M_X12_box) dX12_box_5 o5681 (vp_inD (by decide +kernel)) ?_
  refine x_top (M := M_X12_box) (y := (Int32.ofInt 0)) (by decide +kernel) ?_
  refine x_if_ne (M := M_X12_box) (tgt := 11) dX12_box_6 (by decide) (fun q => absurd q (by decide +kernel)) (fun _ => ?_)
  refine x_iconst (M := M_X12_box) dX12_box_9 ?_
  exact x_zret (M := M_X12_box) dX12_box_10 rfl (by decide) ⟨rfl, rfl⟩ (Nat.le_of_ble_eq_true rfl) (Nat.le_of_ble_eq_true rfl)
set_option maxRecDepth 10000 in
theorem q5685 {l : Launch} {E : EE} (hl : l.stackTraces = false) {h : HP} {dg : Int32} (o5683 : ob h 277 = some (.inr (15, (((RB dg).set 0 (.int (Int32.ofInt 0))).set 16 (.int (Int32.ofInt 0)))))) (o5684 : ob h 282 = some (.inl (0, 33, .inl (fun _ => 0)))) : en_C l E M_X12_box 0 0 0 [.ref 277, .int (Int32.ofInt 9)] h (pR (some (.int (Int32.ofInt 0))) h) := by
  refine en_mk m_X12_box rfl hl (Nat.le_of_ble_eq_true rfl) ?_
  refine x_aload_n (M := M_X12_box) dX12_box_0 rfl ?_
  refine x_getf (M := M_X12_box) (ci := 15) (C := RX12) (T := TX12) (N := 135) (ty := tyX12) cl15 dX12_box_1 o5683 11 (by decide) t_2402 (v := .ref 282) rfl ?_
  refine x_iload_n (M := M_X12_box) dX12_box_4 rfl ?_
  refine x_iald (M := M_X12_box) dX12_box_5 o5684 (vp_inD (by decide +kernel)) ?_
  refine x_top (M := M_X12_box) (y := (Int32.ofInt 0)) (by decide +kernel) ?_
  refine x_if_ne (M := M_X12_box) (tgt := 11) dX12_box_6 (by decide) (fun q => absurd q (by decide +kernel)) (fun _ => ?_)
  refine x_iconst (M := M_X12_box) dX12_box_9 ?_
  exact x_zret (M := M_X12_box) dX12_box_10 rfl (by decide) ⟨rfl, rfl⟩ (Nat.le_of_ble_eq_true rfl) (Nat.le_of_ble_eq_true rfl)
set_option maxRecDepth 10000 in
theorem q5688 {l : Launch} {E : EE} (hl : l.stackTraces = false) {h : HP} {dg : Int32} (o5686 : ob h 277 = some (.inr (15, (((RB dg).set 0 (.int (Int32.ofInt 0))).set 16 (.int (Int32.ofInt 0)))))) (o5687 : ob h 282 = some (.inl (0, 33, .inl (fun _ => 0)))) : en_C l E M_X12_box 0 0 0 [.ref 277, .int (Int32.ofInt 10)] h (pR (some (.int (Int32.ofInt 0))) h) := by
  refine en_mk m_X12_box rfl hl (Nat.le_of_ble_eq_true rfl) ?_
  refine x_aload_n (M := M_X12_box) dX12_box_0 rfl ?_
  refine x_getf (M := M_X12_box) (ci := 15) (C := RX12) (T := TX12) (N := 135) (ty := tyX12) cl15 dX12_box_1 o5686 11 (by decide) t_2402 (v := .ref 282) rfl ?_
  refine x_iload_n (M := M_X12_box) dX12_box_4 rfl ?_
  refine x_iald (M := M_X12_box) dX12_box_5 o5687 (vp_inD (by decide +kernel)) ?_
  refine x_top (M := M_X12_box) (y := (Int32.ofInt 0)) (by decide +kernel) ?_
  refine x_if_ne (M := M_X12_box) (tgt := 11) dX12_box_6 (by decide) (fun q => absurd q (by decide +kernel)) (fun _ => ?_)
  refine x_iconst (M := M_X12_box) dX12_box_9 ?_
  exact x_zret (M := M_X12_box) dX12_box_10 rfl (by decide) ⟨rfl, rfl⟩ (Nat.le_of_ble_eq_true rfl) (Nat.le_of_ble_eq_true rfl)
set_option maxRecDepth 10000 in
theorem q5691 {l : Launch} {E : EE} (hl : l.stackTraces = false) {h : HP} {dg : Int32} (o5689 : ob h 277 = some (.inr (15, (((RB dg).set 0 (.int (Int32.ofInt 0))).set 16 (.int (Int32.ofInt 0)))))) (o5690 : ob h 282 = some (.inl (0, 33, .inl (fun _ => 0)))) : en_C l E M_X12_box 0 0 0 [.ref 277, .int (Int32.ofInt 11)] h (pR (some (.int (Int32.ofInt 0))) h) := by
  refine en_mk m_X12_box rfl hl (Nat.le_of_ble_eq_true rfl) ?_
  refine x_aload_n (M := M_X12_box) dX12_box_0 rfl ?_
  refine x_getf (M := M_X12_box) (ci := 15) (C := RX12) (T := TX12) (N := 135) (ty := tyX12) cl15 dX12_box_1 o5689 11 (by decide) t_2402 (v := .ref 282) rfl ?_
  refine x_iload_n (M := M_X12_box) dX12_box_4 rfl ?_
  refine x_iald (M := M_X12_box) dX12_box_5 o5690 (vp_inD (by decide +kernel)) ?_
  refine x_top (M := M_X12_box) (y := (Int32.ofInt 0)) (by decide +kernel) ?_
  refine x_if_ne (M := M_X12_box) (tgt := 11) dX12_box_6 (by decide) (fun q => absurd q (by decide +kernel)) (fun _ => ?_)
  refine x_iconst (M := M_X12_box) dX12_box_9 ?_
  exact x_zret (M := M_X12_box) dX12_box_10 rfl (by decide) ⟨rfl, rfl⟩ (Nat.le_of_ble_eq_true rfl) (Nat.le_of_ble_eq_true rfl)
set_option maxRecDepth 10000 in
theorem q5694 {l : Launch} {E : EE} (hl : l.stackTraces = false) {h : HP} {dg : Int32} (o5692 : ob h 277 = some (.inr (15, (((RB dg).set 0 (.int (Int32.ofInt 0))).set 16 (.int (Int32.ofInt 0)))))) (o5693 : ob h 282 = some (.inl (0, 33, .inl (fun _ => 0)))) : en_C l E M_X12_box 0 0 0 [.ref 277, .int (Int32.ofInt 12)] h (pR (some (.int (Int32.ofInt 0))) h) := by
  refine en_mk m_X12_box rfl hl (Nat.le_of_ble_eq_true rfl) ?_
  refine x_aload_n (M := M_X12_box) dX12_box_0 rfl ?_
  refine x_getf (M := M_X12_box) (ci := 15) (C := RX12) (T := TX12) (N := 135) (ty := tyX12) cl15 dX12_box_1 o5692 11 (by decide) t_2402 (v := .ref 282) rfl ?_
  refine x_iload_n (M := M_X12_box) dX12_box_4 rfl ?_
  refine x_iald (M := M_X12_box) dX12_box_5 o5693 (vp_inD (by decide +kernel)) ?_
  refine x_top (M := M_X12_box) (y := (Int32.ofInt 0)) (by decide +kernel) ?_
  refine x_if_ne (M := M_X12_box) (tgt := 11) dX12_box_6 (by decide) (fun q => absurd q (by decide +kernel)) (fun _ => ?_)
  refine x_iconst (M := M_X12_box) dX12_box_9 ?_
  exact x_zret (M := M_X12_box) dX12_box_10 rfl (by decide) ⟨rfl, rfl⟩ (Nat.le_of_ble_eq_true rfl) (Nat.le_of_ble_eq_true rfl)
set_option maxRecDepth 10000 in
theorem q5697 {l : Launch} {E : EE} (hl : l.stackTraces = false) {h : HP} {dg : Int32} (o5695 : ob h 277 = some (.inr (15, (((RB dg).set 0 (.int (Int32.ofInt 0))).set 16 (.int (Int32.ofInt 0)))))) (o5696 : ob h 282 = some (.inl (0, 33, .inl (fun _ => 0)))) : en_C l E M_X12_box 0 0 0 [.ref 277, .int (Int32.ofInt 13)] h (pR (some (.int (Int32.ofInt 0))) h) := by
  refine en_mk m_X12_box rfl hl (Nat.le_of_ble_eq_true rfl) ?_
  refine x_aload_n (M := M_X12_box) dX12_box_0 rfl ?_
  refine x_getf (M := M_X12_box) (ci := 15) (C := RX12) (T := TX12) (N := 135) (ty := tyX12) cl15 dX12_box_1 o5695 11 (by decide) t_2402 (v := .ref 282) rfl ?_
  refine x_iload_n (M := M_X12_box) dX12_box_4 rfl ?_
  refine x_iald (M := M_X12_box) dX12_box_5 o5696 (vp_inD (by decide +kernel)) ?_
  refine x_top (M := M_X12_box) (y := (Int32.ofInt 0)) (by decide +kernel) ?_
  refine x_if_ne (M := M_X12_box) (tgt := 11) dX12_box_6 (by decide) (fun q => absurd q (by decide +kernel)) (fun _ => ?_)
  refine x_iconst (M := M_X12_box) dX12_box_9 ?_
  exact x_zret (M := M_X12_box) dX12_box_10 rfl (by decide) ⟨rfl, rfl⟩ (Nat.le_of_ble_eq_true rfl) (Nat.le_of_ble_eq_true rfl)
set_option maxRecDepth 10000 in
theorem q5700 {l : Launch} {E : EE} (hl : l.stackTraces = false) {h : HP} {dg : Int32} (o5698 : ob h 277 = some (.inr (15, (((RB dg).set 0 (.int (Int32.ofInt 0))).set 16 (.int (Int32.ofInt 0)))))) (o5699 : ob h 282 = some (.inl (0, 33, .inl (fun _ => 0)))) : en_C l E M_X12_box 0 0 0 [.ref 277, .int (Int32.ofInt 14)] h (pR (some (.int (Int32.ofInt 0))) h) := by
  refine en_mk m_X12_box rfl hl (Nat.le_of_ble_eq_true rfl) ?_
  refine x_aload_n (M := M_X12_box) dX12_box_0 rfl ?_
  refine x_getf (M := M_X12_box) (ci := 15) (C := RX12) (T := TX12) (N := 135) (ty := tyX12) cl15 dX12_box_1 o5698 11 (by decide) t_2402 (v := .ref 282) rfl ?_
  refine x_iload_n (M := M_X12_box) dX12_box_4 rfl ?_
  refine x_iald (M := M_X12_box) dX12_box_5 o5699 (vp_inD (by decide +kernel)) ?_
  refine x_top (M := M_X12_box) (y := (Int32.ofInt 0)) (by decide +kernel) ?_
  refine x_if_ne (M := M_X12_box) (tgt := 11) dX12_box_6 (by decide) (fun q => absurd q (by decide +kernel)) (fun _ => ?_)
  refine x_iconst (M := M_X12_box) dX12_box_9 ?_
  exact x_zret (M := M_X12_box) dX12_box_10 rfl (by decide) ⟨rfl, rfl⟩ (Nat.le_of_ble_eq_true rfl) (Nat.le_of_ble_eq_true rfl)
set_option maxRecDepth 10000 in
theorem q5703 {l : Launch} {E : EE} (hl : l.stackTraces = false) {h : HP} {dg : Int32} (o5701 : ob h 277 = some (.inr (15, (((RB dg).set 0 (.int (Int32.ofInt 0))).set 16 (.int (Int32.ofInt 0)))))) (o5702 : ob h 282 = some (.inl (0, 33, .inl (fun _ => 0)))) : en_C l E M_X12_box 0 0 0 [.ref 277, .int (Int32.ofInt 15)] h (pR (some (.int (Int32.ofInt 0))) h) := by
  refine en_mk m_X12_box rfl hl (Nat.le_of_ble_eq_true rfl) ?_
  refine x_aload_n (M := M_X12_box) dX12_box_0 rfl ?_
  refine x_getf (M := M_X12_box) (ci := 15) (C := RX12) (T := TX12) (N := 135) (ty := tyX12) cl15 dX12_box_1 o5701 11 (by decide) t_2402 (v := .ref 282) rfl ?_
  refine x_iload_n (M := M_X12_box) dX12_box_4 rfl ?_
  refine x_iald (M := M_X12_box) dX12_box_5 o5702 (vp_inD (by decide +kernel)) ?_
  refine x_top (M := M_X12_box) (y := (Int32.ofInt 0)) (by decide +kernel) ?_
  refine x_if_ne (M := M_X12_box) (tgt := 11) dX12_box_6 (by decide) (fun q => absurd q (by decide +kernel)) (fun _ => ?_)
  refine x_iconst (M := M_X12_box) dX12_box_9 ?_
  exact x_zret (M := M_X12_box) dX12_box_10 rfl (by decide) ⟨rfl, rfl⟩ (Nat.le_of_ble_eq_true rfl) (Nat.le_of_ble_eq_true rfl)
set_option maxRecDepth 10000 in
theorem q5706 {l : Launch} {E : EE} (hl : l.stackTraces = false) {h : HP} {dg : Int32} (o5704 : ob h 277 = some (.inr (15, (((RB dg).set 0 (.int (Int32.ofInt 0))).set 16 (.int (Int32.ofInt 0)))))) (o5705 : ob h 282 = some (.inl (0, 33, .inl (fun _ => 0)))) : en_C l E M_X12_box 0 0 0 [.ref 277, .int (Int32.ofInt 16)] h (pR (some (.int (Int32.ofInt 0))) h) := by
  refine en_mk m_X12_box rfl hl (Nat.le_of_ble_eq_true rfl) ?_
  refine x_aload_n (M := M_X12_box) dX12_box_0 rfl ?_
  refine x_getf (M := M_X12_box) (ci := 15) (C := RX12) (T := TX12) (N := 135) (ty := tyX12) cl15 dX12_box_1 o5704 11 (by decide) t_2402 (v := .ref 282) rfl ?_
  refine x_iload_n (M := M_X12_box) dX12_box_4 rfl ?_
  refine x_iald (M := M_X12_box) dX12_box_5 o5705 (vp_inD (by decide +kernel)) ?_
  refine x_top (M := M_X12_box) (y := (Int32.ofInt 0)) (by decide +kernel) ?_
  refine x_if_ne (M := M_X12_box) (tgt := 11) dX12_box_6 (by decide) (fun q => absurd q (by decide +kernel)) (fun _ => ?_)
  refine x_iconst (M := M_X12_box) dX12_box_9 ?_
  exact x_zret (M := M_X12_box) dX12_box_10 rfl (by decide) ⟨rfl, rfl⟩ (Nat.le_of_ble_eq_true rfl) (Nat.le_of_ble_eq_true rfl)
set_option maxRecDepth 10000 in
theorem q5709 {l : Launch} {E : EE} (hl : l.stackTraces = false) {h : HP} {dg : Int32} (o5707 : ob h 277 = some (.inr (15, (((RB dg).set 0 (.int (Int32.ofInt 0))).set 16 (.int (Int32.ofInt 0)))))) (o5708 : ob h 282 = some (.inl (0, 33, .inl (fun _ => 0)))) : en_C l E M_X12_box 0 0 0 [.ref 277, .int (Int32.ofInt 17)] h (pR (some (.int (Int32.ofInt 0))) h) := by
  refine en_mk m_X12_box rfl hl (Nat.le_of_ble_eq_true rfl) ?_
  refine x_aload_n (M := M_X12_box) dX12_box_0 rfl ?_
  refine x_getf (M := M_X12_box) (ci := 15) (C := RX12) (T := TX12) (N := 135) (ty := tyX12) cl15 dX12_box_1 o5707 11 (by decide) t_2402 (v := .ref 282) rfl ?_
  refine x_iload_n (M := M_X12_box) dX12_box_4 rfl ?_
  refine x_iald (M := M_X12_box) dX12_box_5 o5708 (vp_inD (by decide +kernel)) ?_
  refine x_top (M := M_X12_box) (y := (Int32.ofInt 0)) (by decide +kernel) ?_
  refine x_if_ne (M := M_X12_box) (tgt := 11) dX12_box_6 (by decide) (fun q => absurd q (by decide +kernel)) (fun _ => ?_)
  refine x_iconst (M := M_X12_box) dX12_box_9 ?_
  exact x_zret (M := M_X12_box) dX12_box_10 rfl (by decide) ⟨rfl, rfl⟩ (Nat.le_of_ble_eq_true rfl) (Nat.le_of_ble_eq_true rfl)
set_option maxRecDepth 10000 in
theorem q5712 {l : Launch} {E : EE} (hl : l.stackTraces = false) {h : HP} {dg : Int32} (o5710 : ob h 277 = some (.inr (15, (((RB dg).set 0 (.int (Int32.ofInt 0))).set 16 (.int (Int32.ofInt 0)))))) (o5711 : ob h 282 = some (.inl (0, 33, .inl (fun _ => 0)))) : en_C l E M_X12_box 0 0 0 [.ref 277, .int (Int32.ofInt 18)] h (pR (some (.int (Int32.ofInt 0))) h) := by
  refine en_mk m_X12_box rfl hl (Nat.le_of_ble_eq_true rfl) ?_
  refine x_aload_n (M := M_X12_box) dX12_box_0 rfl ?_
  refine x_getf (M := M_X12_box) (ci := 15) (C := RX12) (T := TX12) (N := 135) (ty := tyX12) cl15 dX12_box_1 o5710 11 (by decide) t_2402 (v := .ref 282) rfl ?_
  refine x_iload_n (M := M_X12_box) dX12_box_4 rfl ?_
  refine x_iald (M := M_X12_box) dX12_box_5 o5711 (vp_inD (by decide +kernel)) ?_
  refine x_top (M := M_X12_box) (y := (Int32.ofInt 0)) (by decide +kernel) ?_
  refine x_if_ne (M := M_X12_box) (tgt := 11) dX12_box_6 (by decide) (fun q => absurd q (by decide +kernel)) (fun _ => ?_)
  refine x_iconst (M := M_X12_box) dX12_box_9 ?_
  exact x_zret (M := M_X12_box) dX12_box_10 rfl (by decide) ⟨rfl, rfl⟩ (Nat.le_of_ble_eq_true rfl) (Nat.le_of_ble_eq_true rfl)
set_option maxRecDepth 10000 in
theorem q5715 {l : Launch} {E : EE} (hl : l.stackTraces = false) {h : HP} {dg : Int32} (o5713 : ob h 277 = some (.inr (15, (((RB dg).set 0 (.int (Int32.ofInt 0))).set 16 (.int (Int32.ofInt 0)))))) (o5714 : ob h 282 = some (.inl (0, 33, .inl (fun _ => 0)))) : en_C l E M_X12_box 0 0 0 [.ref 277, .int (Int32.ofInt 19)] h (pR (some (.int (Int32.ofInt 0))) h) := by
  refine en_mk m_X12_box rfl hl (Nat.le_of_ble_eq_true rfl) ?_
  refine x_aload_n (M := M_X12_box) dX12_box_0 rfl ?_
  refine x_getf (M := M_X12_box) (ci := 15) (C := RX12) (T := TX12) (N := 135) (ty := tyX12) cl15 dX12_box_1 o5713 11 (by decide) t_2402 (v := .ref 282) rfl ?_
  refine x_iload_n (M := M_X12_box) dX12_box_4 rfl ?_
  refine x_iald (M := M_X12_box) dX12_box_5 o5714 (vp_inD (by decide +kernel)) ?_
  refine x_top (M := M_X12_box) (y := (Int32.ofInt 0)) (by decide +kernel) ?_
  refine x_if_ne (M := M_X12_box) (tgt := 11) dX12_box_6 (by decide) (fun q => absurd q (by decide +kernel)) (fun _ => ?_)
  refine x_iconst (M := M_X12_box) dX12_box_9 ?_
  exact x_zret (M := M_X12_box) dX12_box_10 rfl (by decide) ⟨rfl, rfl⟩ (Nat.le_of_ble_eq_true rfl) (Nat.le_of_ble_eq_true rfl)
set_option maxRecDepth 10000 in
theorem q5718 {l : Launch} {E : EE} (hl : l.stackTraces = false) {h : HP} {dg : Int32} (o5716 : ob h 277 = some (.inr (15, (((RB dg).set 0 (.int (Int32.ofInt 0))).set 16 (.int (Int32.ofInt 0)))))) (o5717 : ob h 282 = some (.inl (0, 33, .inl (fun _ => 0)))) : en_C l E M_X12_box 0 0 0 [.ref 277, .int (Int32.ofInt 20)] h (pR (some (.int (Int32.ofInt 0))) h) := by
  refine en_mk m_X12_box rfl hl (Nat.le_of_ble_eq_true rfl) ?_
  refine x_aload_n (M := M_X12_box) dX12_box_0 rfl ?_
  refine x_getf (M := M_X12_box) (ci := 15) (C := RX12) (T := TX12) (N := 135) (ty := tyX12) cl15 dX12_box_1 o5716 11 (by decide) t_2402 (v := .ref 282) rfl ?_
  refine x_iload_n (M := M_X12_box) dX12_box_4 rfl ?_
  refine x_iald (M := M_X12_box) dX12_box_5 o5717 (vp_inD (by decide +kernel)) ?_
  refine x_top (M := M_X12_box) (y := (Int32.ofInt 0)) (by decide +kernel) ?_
  refine x_if_ne (M := M_X12_box) (tgt := 11) dX12_box_6 (by decide) (fun q => absurd q (by decide +kernel)) (fun _ => ?_)
  refine x_iconst (M := M_X12_box) dX12_box_9 ?_
  exact x_zret (M := M_X12_box) dX12_box_10 rfl (by decide) ⟨rfl, rfl⟩ (Nat.le_of_ble_eq_true rfl) (Nat.le_of_ble_eq_true rfl)
set_option maxRecDepth 10000 in
theorem q5721 {l : Launch} {E : EE} (hl : l.stackTraces = false) {h : HP} {dg : Int32} (o5719 : ob h 277 = some (.inr (15, (((RB dg).set 0 (.int (Int32.ofInt 0))).set 16 (.int (Int32.ofInt 0)))))) (o5720 : ob h 282 = some (.inl (0, 33, .inl (fun _ => 0)))) : en_C l E M_X12_box 0 0 0 [.ref 277, .int (Int32.ofInt 21)] h (pR (some (.int (Int32.ofInt 0))) h) := by
  refine en_mk m_X12_box rfl hl (Nat.le_of_ble_eq_true rfl) ?_
  refine x_aload_n (M := M_X12_box) dX12_box_0 rfl ?_
  refine x_getf (M := M_X12_box) (ci := 15) (C := RX12) (T := TX12) (N := 135) (ty := tyX12) cl15 dX12_box_1 o5719 11 (by decide) t_2402 (v := .ref 282) rfl ?_
  refine x_iload_n (M := M_X12_box) dX12_box_4 rfl ?_
  refine x_iald (M := M_X12_box) dX12_box_5 o5720 (vp_inD (by decide +kernel)) ?_
  refine x_top (M := M_X12_box) (y := (Int32.ofInt 0)) (by decide +kernel) ?_
  refine x_if_ne (M := M_X12_box) (tgt := 11) dX12_box_6 (by decide) (fun q => absurd q (by decide +kernel)) (fun _ => ?_)
  refine x_iconst (M := M_X12_box) dX12_box_9 ?_
  exact x_zret (M := M_X12_box) dX12_box_10 rfl (by decide) ⟨rfl, rfl⟩ (Nat.le_of_ble_eq_true rfl) (Nat.le_of_ble_eq_true rfl)
set_option maxRecDepth 10000 in
theorem q5724 {l : Launch} {E : EE} (hl : l.stackTraces = false) {h : HP} {dg : Int32} (o5722 : ob h 277 = some (.inr (15, (((RB dg).set 0 (.int (Int32.ofInt 0))).set 16 (.int (Int32.ofInt 0)))))) (o5723 : ob h 282 = some (.inl (0, 33, .inl (fun _ => 0)))) : en_C l E M_X12_box 0 0 0 [.ref 277, .int (Int32.ofInt 22)] h (pR (some (.int (Int32.ofInt 0))) h) := by
  refine en_mk m_X12_box rfl hl (Nat.le_of_ble_eq_true rfl) ?_
  refine x_aload_n (M := M_X12_box) dX12_box_0 rfl ?_
  refine x_getf (M := M_X12_box) (ci := 15) (C := RX12) (T := TX12) (N := 135) (ty := tyX12) cl15 dX12_box_1 o5722 11 (by decide) t_2402 (v := .ref 282) rfl ?_
  refine x_iload_n (M := M_X12_box) dX12_box_4 rfl ?_
  refine x_iald (M := M_X12_box) dX12_box_5 o5723 (vp_inD (by decide +kernel)) ?_
  refine x_top (M := M_X12_box) (y := (Int32.ofInt 0)) (by decide +kernel) ?_
  refine x_if_ne (M := M_X12_box) (tgt := 11) dX12_box_6 (by decide) (fun q => absurd q (by decide +kernel)) (fun _ => ?_)
  refine x_iconst (M := M_X12_box) dX12_box_9 ?_
  exact x_zret (M := M_X12_box) dX12_box_10 rfl (by decide) ⟨rfl, rfl⟩ (Nat.le_of_ble_eq_true rfl) (Nat.le_of_ble_eq_true rfl)
set_option maxRecDepth 10000 in
theorem q5727 {l : Launch} {E : EE} (hl : l.stackTraces = false) {h : HP} {dg : Int32} (o5725 : ob h 277 = some (.inr (15, (((RB dg).set 0 (.int (Int32.ofInt 0))).set 16 (.int (Int32.ofInt 0)))))) (o5726 : ob h 282 = some (.inl (0, 33, .inl (fun _ => 0)))) : en_C l E M_X12_box 0 0 0 [.ref 277, .int (Int32.ofInt 23)] h (pR (some (.int (Int32.ofInt 0))) h) := by
  refine en_mk m_X12_box rfl hl (Nat.le_of_ble_eq_true rfl) ?_
  refine x_aload_n (M := M_X12_box) dX12_box_0 rfl ?_
  refine x_getf (M := M_X12_box) (ci := 15) (C := RX12) (T := TX12) (N := 135) (ty := tyX12) cl15 dX12_box_1 o5725 11 (by decide) t_2402 (v := .ref 282) rfl ?_
  refine x_iload_n (M := M_X12_box) dX12_box_4 rfl ?_
  refine x_iald (M := M_X12_box) dX12_box_5 o5726 (vp_inD (by decide +kernel)) ?_
  refine x_top (M := M_X12_box) (y := (Int32.ofInt 0)) (by decide +kernel) ?_
  refine x_if_ne (M := M_X12_box) (tgt := 11) dX12_box_6 (by decide) (fun q => absurd q (by decide +kernel)) (fun _ => ?_)
  refine x_iconst (M := M_X12_box) dX12_box_9 ?_
  exact x_zret (M := M_X12_box) dX12_box_10 rfl (by decide) ⟨rfl, rfl⟩ (Nat.le_of_ble_eq_true rfl) (Nat.le_of_ble_eq_true rfl)
set_option maxRecDepth 10000 in
theorem q5730 {l : Launch} {E : EE} (hl : l.stackTraces = false) {h : HP} {dg : Int32} (o5728 : ob h 277 = some (.inr (15, (((RB dg).set 0 (.int (Int32.ofInt 0))).set 16 (.int (Int32.ofInt 0)))))) (o5729 : ob h 282 = some (.inl (0, 33, .inl (fun _ => 0)))) : en_C l E M_X12_box 0 0 0 [.ref 277, .int (Int32.ofInt 24)] h (pR (some (.int (Int32.ofInt 0))) h) := by
  refine en_mk m_X12_box rfl hl (Nat.le_of_ble_eq_true rfl) ?_
  refine x_aload_n (M := M_X12_box) dX12_box_0 rfl ?_
  refine x_getf (M := M_X12_box) (ci := 15) (C := RX12) (T := TX12) (N := 135) (ty := tyX12) cl15 dX12_box_1 o5728 11 (by decide) t_2402 (v := .ref 282) rfl ?_
  refine x_iload_n (M := M_X12_box) dX12_box_4 rfl ?_
  refine x_iald (M := M_X12_box) dX12_box_5 o5729 (vp_inD (by decide +kernel)) ?_
  refine x_top (M := M_X12_box) (y := (Int32.ofInt 0)) (by decide +kernel) ?_
  refine x_if_ne (M := M_X12_box) (tgt := 11) dX12_box_6 (by decide) (fun q => absurd q (by decide +kernel)) (fun _ => ?_)
  refine x_iconst (M := M_X12_box) dX12_box_9 ?_
  exact x_zret (M := M_X12_box) dX12_box_10 rfl (by decide) ⟨rfl, rfl⟩ (Nat.le_of_ble_eq_true rfl) (Nat.le_of_ble_eq_true rfl)
set_option maxRecDepth 10000 in
theorem q5733 {l : Launch} {E : EE} (hl : l.stackTraces = false) {h : HP} {dg : Int32} (o5731 : ob h 277 = some (.inr (15, (((RB dg).set 0 (.int (Int32.ofInt 0))).set 16 (.int (Int32.ofInt 0)))))) (o5732 : ob h 282 = some (.inl (0, 33, .inl (fun _ => 0)))) : en_C l E M_X12_box 0 0 0 [.ref 277, .int (Int32.ofInt 25)] h (pR (some (.int (Int32.ofInt 0))) h) := by
  refine en_mk m_X12_box rfl hl (Nat.le_of_ble_eq_true rfl) ?_
  refine x_aload_n (M := M_X12_box) dX12_box_0 rfl ?_
  refine x_getf (M := M_X12_box) (ci := 15) (C := RX12) (T := TX12) (N := 135) (ty := tyX12) cl15 dX12_box_1 o5731 11 (by decide) t_2402 (v := .ref 282) rfl ?_
  refine x_iload_n (M := M_X12_box) dX12_box_4 rfl ?_
  refine x_iald (M := M_X12_box) dX12_box_5 o5732 (vp_inD (by decide +kernel)) ?_
  refine x_top (M := M_X12_box) (y := (Int32.ofInt 0)) (by decide +kernel) ?_
  refine x_if_ne (M := M_X12_box) (tgt := 11) dX12_box_6 (by decide) (fun q => absurd q (by decide +kernel)) (fun _ => ?_)
  refine x_iconst (M := M_X12_box) dX12_box_9 ?_
  exact x_zret (M := M_X12_box) dX12_box_10 rfl (by decide) ⟨rfl, rfl⟩ (Nat.le_of_ble_eq_true rfl) (Nat.le_of_ble_eq_true rfl)
set_option maxRecDepth 10000 in
theorem q5736 {l : Launch} {E : EE} (hl : l.stackTraces = false) {h : HP} {dg : Int32} (o5734 : ob h 277 = some (.inr (15, (((RB dg).set 0 (.int (Int32.ofInt 0))).set 16 (.int (Int32.ofInt 0)))))) (o5735 : ob h 282 = some (.inl (0, 33, .inl (fun _ => 0)))) : en_C l E M_X12_box 0 0 0 [.ref 277, .int (Int32.ofInt 26)] h (pR (some (.int (Int32.ofInt 0))) h) := by
  refine en_mk m_X12_box rfl hl (Nat.le_of_ble_eq_true rfl) ?_
  refine x_aload_n (M := M_X12_box) dX12_box_0 rfl ?_
  refine x_getf (M := M_X12_box) (ci := 15) (C := RX12) (T := TX12) (N := 135) (ty := tyX12) cl15 dX12_box_1 o5734 11 (by decide) t_2402 (v := .ref 282) rfl ?_
  refine x_iload_n (M := M_X12_box) dX12_box_4 rfl ?_
  refine x_iald (M := M_X12_box) dX12_box_5 o5735 (vp_inD (by decide +kernel)) ?_
  refine x_top (M := M_X12_box) (y := (Int32.ofInt 0)) (by decide +kernel) ?_
  refine x_if_ne (M := M_X12_box) (tgt := 11) dX12_box_6 (by decide) (fun q => absurd q (by decide +kernel)) (fun _ => ?_)
  refine x_iconst (M := M_X12_box) dX12_box_9 ?_
  exact x_zret (M := M_X12_box) dX12_box_10 rfl (by decide) ⟨rfl, rfl⟩ (Nat.le_of_ble_eq_true rfl) (Nat.le_of_ble_eq_true rfl)
set_option maxRecDepth 10000 in
theorem q5739 {l : Launch} {E : EE} (hl : l.stackTraces = false) {h : HP} {dg : Int32} (o5737 : ob h 277 = some (.inr (15, (((RB dg).set 0 (.int (Int32.ofInt 0))).set 16 (.int (Int32.ofInt 0)))))) (o5738 : ob h 282 = some (.inl (0, 33, .inl (fun _ => 0)))) : en_C l E M_X12_box 0 0 0 [.ref 277, .int (Int32.ofInt 27)] h (pR (some (.int (Int32.ofInt 0))) h) := by
  refine en_mk m_X12_box rfl hl (Nat.le_of_ble_eq_true rfl) ?_
  refine x_aload_n (M := M_X12_box) dX12_box_0 rfl ?_
  refine x_getf (M := M_X12_box) (ci := 15) (C := RX12) (T := TX12) (N := 135) (ty := tyX12) cl15 dX12_box_1 o5737 11 (by decide) t_2402 (v := .ref 282) rfl ?_
  refine x_iload_n (M := M_X12_box) dX12_box_4 rfl ?_
  refine x_iald (M := M_X12_box) dX12_box_5 o5738 (vp_inD (by decide +kernel)) ?_
  refine x_top (M := M_X12_box) (y := (Int32.ofInt 0)) (by decide +kernel) ?_
  refine x_if_ne (M := M_X12_box) (tgt := 11) dX12_box_6 (by decide) (fun q => absurd q (by decide +kernel)) (fun _ => ?_)
  refine x_iconst (M := M_X12_box) dX12_box_9 ?_
  exact x_zret (M := M_X12_box) dX12_box_10 rfl (by decide) ⟨rfl, rfl⟩ (Nat.le_of_ble_eq_true rfl) (Nat.le_of_ble_eq_true rfl)
set_option maxRecDepth 10000 in
theorem q5742 {l : Launch} {E : EE} (hl : l.stackTraces = false) {h : HP} {dg : Int32} (o5740 : ob h 277 = some (.inr (15, (((RB dg).set 0 (.int (Int32.ofInt 0))).set 16 (.int (Int32.ofInt 0)))))) (o5741 : ob h 282 = some (.inl (0, 33, .inl (fun _ => 0)))) : en_C l E M_X12_box 0 0 0 [.ref 277, .int (Int32.ofInt 28)] h (pR (some (.int (Int32.ofInt 0))) h) := by
  refine en_mk m_X12_box rfl hl (Nat.le_of_ble_eq_true rfl) ?_
  refine x_aload_n (M := M_X12_box) dX12_box_0 rfl ?_
  refine x_getf (M := M_X12_box) (ci := 15) (C := RX12) (T := TX12) (N := 135) (ty := tyX12) cl15 dX12_box_1 o5740 11 (by decide) t_2402 (v := .ref 282) rfl ?_
  refine x_iload_n (M := M_X12_box) dX12_box_4 rfl ?_
  refine x_iald (M := M_X12_box) dX12_box_5 o5741 (vp_inD (by decide +kernel)) ?_
  refine x_top (M := M_X12_box) (y := (Int32.ofInt 0)) (by decide +kernel) ?_
  refine x_if_ne (M := M_X12_box) (tgt := 11) dX12_box_6 (by decide) (fun q => absurd q (by decide +kernel)) (fun _ => ?_)
  refine x_iconst (M := M_X12_box) dX12_box_9 ?_
  exact x_zret (M := M_X12_box) dX12_box_10 rfl (by decide) ⟨rfl, rfl⟩ (Nat.le_of_ble_eq_true rfl) (Nat.le_of_ble_eq_true rfl)
set_option maxRecDepth 10000 in
theorem q5745 {l : Launch} {E : EE} (hl : l.stackTraces = false) {h : HP} {dg : Int32} (o5743 : ob h 277 = some (.inr (15, (((RB dg).set 0 (.int (Int32.ofInt 0))).set 16 (.int (Int32.ofInt 0)))))) (o5744 : ob h 282 = some (.inl (0, 33, .inl (fun _ => 0)))) : en_C l E M_X12_box 0 0 0 [.ref 277, .int (Int32.ofInt 29)] h (pR (some (.int (Int32.ofInt 0))) h) := by
  refine en_mk m_X12_box rfl hl (Nat.le_of_ble_eq_true rfl) ?_
  refine x_aload_n (M := M_X12_box) dX12_box_0 rfl ?_
  refine x_getf (M := M_X12_box) (ci := 15) (C := RX12) (T := TX12) (N := 135) (ty := tyX12) cl15 dX12_box_1 o5743 11 (by decide) t_2402 (v := .ref 282) rfl ?_
  refine x_iload_n (M := M_X12_box) dX12_box_4 rfl ?_
  refine x_iald (M := M_X12_box) dX12_box_5 o5744 (vp_inD (by decide +kernel)) ?_
  refine x_top (M := M_X12_box) (y := (Int32.ofInt 0)) (by decide +kernel) ?_
  refine x_if_ne (M := M_X12_box) (tgt := 11) dX12_box_6 (by decide) (fun q => absurd q (by decide +kernel)) (fun _ => ?_)
  refine x_iconst (M := M_X12_box) dX12_box_9 ?_
  exact x_zret (M := M_X12_box) dX12_box_10 rfl (by decide) ⟨rfl, rfl⟩ (Nat.le_of_ble_eq_true rfl) (Nat.le_of_ble_eq_true rfl)
set_option maxRecDepth 10000 in
theorem q5748 {l : Launch} {E : EE} (hl : l.stackTraces = false) {h : HP} {dg : Int32} (o5746 : ob h 277 = some (.inr (15, (((RB dg).set 0 (.int (Int32.ofInt 0))).set 16 (.int (Int32.ofInt 0)))))) (o5747 : ob h 282 = some (.inl (0, 33, .inl (fun _ => 0)))) : en_C l E M_X12_box 0 0 0 [.ref 277, .int (Int32.ofInt 30)] h (pR (some (.int (Int32.ofInt 0))) h) := by
  refine en_mk m_X12_box rfl hl (Nat.le_of_ble_eq_true rfl) ?_
  refine x_aload_n (M := M_X12_box) dX12_box_0 rfl ?_
  refine x_getf (M := M_X12_box) (ci := 15) (C := RX12) (T := TX12) (N := 135) (ty := tyX12) cl15 dX12_box_1 o5746 11 (by decide) t_2402 (v := .ref 282) rfl ?_
  refine x_iload_n (M := M_X12_box) dX12_box_4 rfl ?_
  refine x_iald (M := M_X12_box) dX12_box_5 o5747 (vp_inD (by decide +kernel)) ?_
  refine x_top (M := M_X12_box) (y := (Int32.ofInt 0)) (by decide +kernel) ?_
  refine x_if_ne (M := M_X12_box) (tgt := 11) dX12_box_6 (by decide) (fun q => absurd q (by decide +kernel)) (fun _ => ?_)
  refine x_iconst (M := M_X12_box) dX12_box_9 ?_
  exact x_zret (M := M_X12_box) dX12_box_10 rfl (by decide) ⟨rfl, rfl⟩ (Nat.le_of_ble_eq_true rfl) (Nat.le_of_ble_eq_true rfl)
set_option maxRecDepth 10000 in
theorem q5751 {l : Launch} {E : EE} (hl : l.stackTraces = false) {h : HP} {dg : Int32} (o5749 : ob h 277 = some (.inr (15, (((RB dg).set 0 (.int (Int32.ofInt 0))).set 16 (.int (Int32.ofInt 0)))))) (o5750 : ob h 282 = some (.inl (0, 33, .inl (fun _ => 0)))) : en_C l E M_X12_box 0 0 0 [.ref 277, .int (Int32.ofInt 31)] h (pR (some (.int (Int32.ofInt 0))) h) := by
  refine en_mk m_X12_box rfl hl (Nat.le_of_ble_eq_true rfl) ?_
  refine x_aload_n (M := M_X12_box) dX12_box_0 rfl ?_
  refine x_getf (M := M_X12_box) (ci := 15) (C := RX12) (T := TX12) (N := 135) (ty := tyX12) cl15 dX12_box_1 o5749 11 (by decide) t_2402 (v := .ref 282) rfl ?_
  refine x_iload_n (M := M_X12_box) dX12_box_4 rfl ?_
  refine x_iald (M := M_X12_box) dX12_box_5 o5750 (vp_inD (by decide +kernel)) ?_
  refine x_top (M := M_X12_box) (y := (Int32.ofInt 0)) (by decide +kernel) ?_
  refine x_if_ne (M := M_X12_box) (tgt := 11) dX12_box_6 (by decide) (fun q => absurd q (by decide +kernel)) (fun _ => ?_)
  refine x_iconst (M := M_X12_box) dX12_box_9 ?_
  exact x_zret (M := M_X12_box) dX12_box_10 rfl (by decide) ⟨rfl, rfl⟩ (Nat.le_of_ble_eq_true rfl) (Nat.le_of_ble_eq_true rfl)
set_option maxRecDepth 10000 in
theorem q5752 {l : Launch} {E : EE} (hl : l.stackTraces = false) {h : HP} {a0 : Int32} {a1 : Int32} {a2 : Int32} {dg : Int32} (c0 : ¬ (a2.toInt < 1)) (c1 : ¬ (32 < a2.toInt)) (c2 : ¬ (a0.toInt < (-1000000000))) (c3 : ¬ (1000000000 < a0.toInt)) (c4 : ¬ (a1.toInt < (-1000000000))) (c5 : ¬ (1000000000 < a1.toInt)) (o5641 : ob h 277 = some (.inr (15, (RB dg)))) (o5657 : ob h 282 = some (.inl (0, 33, .inl (fun _ => 0)))) : en_C l E M_X12_nearest 2 0 0 [.ref 277, .int a0, .int a1, .int a2] h (pF (some (.int (Int32.ofInt 0))) [277] h (fun h' => ob h' 277 = some (.inr (15, (((RB dg).set 0 (.int (Int32.ofInt 0))).set 16 (.int (Int32.ofInt 0))))) ∧ True)) := by
  refine en_mk m_X12_nearest rfl hl (Nat.le_of_ble_eq_true rfl) ?_
  refine x_aload_n (M := M_X12_nearest) dX12_nearest_0 rfl ?_
  refine x_iconst (M := M_X12_nearest) dX12_nearest_1 ?_
  refine y_put (M := M_X12_nearest) (ci := 15) (C := RX12) (T := TX12) (N := 135) (ty := tyX12) cl15 dX12_nearest_2 o5641 0 (by decide) t_2391 (Or.inl rfl) (Nat.le_of_ble_eq_true rfl) rfl (fun h5642 w5643 f5644 => ?_)
  refine x_aload_n (M := M_X12_nearest) dX12_nearest_5 rfl ?_
  refine x_iload_n (M := M_X12_nearest) dX12_nearest_6 rfl ?_
  refine x_i2l (M := M_X12_nearest) dX12_nearest_7 ?_
  refine x_lconst (M := M_X12_nearest) dX12_nearest_8 ?_
  refine x_ldc2 (M := M_X12_nearest) dX12_nearest_9 t_3141 ?_
  refine x_norm (M := M_X12_nearest) (st' := [.long (Int64.ofInt 32), .long (Int64.ofInt 1), .long (a2.toInt64), .ref 277]) rfl (vj_cons (by decide +kernel : (32 : Int64) = (Int64.ofInt 32)) (vj_cons (by decide +kernel : (Int64.ofNat ((1 : Fin 2) : Nat)) = (Int64.ofInt 1)) rfl)) rfl rfl rfl ?_
  refine x_callSR (M := M_X12_nearest) (M' := M_X12_in) rfl rfl dX12_nearest_12 m_X12_in t_2818 t_2819 (q5350 hl c0 c1) rfl rfl (Nat.le_of_ble_eq_true rfl) (Nat.le_of_ble_eq_true rfl) (Nat.le_of_ble_eq_true rfl) (Nat.le_of_ble_eq_true rfl) ?_
  refine x_if_eq (M := M_X12_nearest) (tgt := 34) dX12_nearest_15 (by decide) (fun q => absurd q (by decide +kernel)) (fun _ => ?_)
  refine x_iload_n (M := M_X12_nearest) dX12_nearest_18 rfl ?_
  refine x_i2l (M := M_X12_nearest) dX12_nearest_19 ?_
  refine x_callSR (M := M_X12_nearest) (M' := M_X12_isFar) rfl rfl dX12_nearest_20 m_X12_isFar t_3133 t_3134 (q5411 hl c2 c3) rfl rfl (Nat.le_of_ble_eq_true rfl) (Nat.le_of_ble_eq_true rfl) (Nat.le_of_ble_eq_true rfl) (Nat.le_of_ble_eq_true rfl) ?_
  refine x_if_eq (M := M_X12_nearest) (tgt := 34) dX12_nearest_23 (by decide) (fun q => absurd q (by decide +kernel)) (fun _ => ?_)
  refine x_iload_n (M := M_X12_nearest) dX12_nearest_26 rfl ?_
  refine x_i2l (M := M_X12_nearest) dX12_nearest_27 ?_
  refine x_callSR (M := M_X12_nearest) (M' := M_X12_isFar) rfl rfl dX12_nearest_28 m_X12_isFar t_3133 t_3134 (q5646 hl c4 c5) rfl rfl (Nat.le_of_ble_eq_true rfl) (Nat.le_of_ble_eq_true rfl) (Nat.le_of_ble_eq_true rfl) (Nat.le_of_ble_eq_true rfl) ?_
  refine x_if_ne (M := M_X12_nearest) (tgt := 38) dX12_nearest_31 (by decide) (fun _ => ?_) (fun q => absurd q (by decide +kernel))
  refine x_iconst (M := M_X12_nearest) dX12_nearest_38 ?_
  refine x_iconst (M := M_X12_nearest) dX12_nearest_39 ?_
  refine y_callVR (M := M_X12_nearest) (M' := M_X12_fails) rfl rfl dX12_nearest_40 m_X12_fails t_2805 t_2807 s_157 (q241 hl w5643) rfl rfl w5643 rfl (Nat.le_of_ble_eq_true rfl) (Nat.le_of_ble_eq_true rfl) (Nat.le_of_ble_eq_true rfl) (Nat.le_of_ble_eq_true rfl) (fun h5647 f5648 w5649 => ?_)
  obtain ⟨o5650, -⟩ := w5649
  refine x_if_eq (M := M_X12_nearest) (tgt := 48) dX12_nearest_43 (by decide) (fun _ => ?_) (fun q => absurd q (by decide +kernel))
  refine x_aload_n (M := M_X12_nearest) dX12_nearest_48 rfl ?_
  refine x_iconst (M := M_X12_nearest) dX12_nearest_49 ?_
  refine y_put (M := M_X12_nearest) (ci := 15) (C := RX12) (T := TX12) (N := 135) (ty := tyX12) cl15 dX12_nearest_50 o5650 16 (by decide) t_2407 (Or.inl rfl) (Nat.le_of_ble_eq_true rfl) rfl (fun h5651 w5652 f5653 => ?_)
  refine x_ldc2 (M := M_X12_nearest) dX12_nearest_53 t_3142 ?_
  refine x_topl (M := M_X12_nearest) (y := (Int64.ofInt (-1))) (by decide +kernel) ?_
  refine x_lstore (M := M_X12_nearest) dX12_nearest_56 (Nat.le_of_ble_eq_true rfl) rfl ?_
  refine x_iconst (M := M_X12_nearest) dX12_nearest_58 ?_
  refine x_istore (M := M_X12_nearest) dX12_nearest_59 (Nat.le_of_ble_eq_true rfl) rfl ?_
  refine x_iconst (M := M_X12_nearest) dX12_nearest_61 ?_
  refine x_istore (M := M_X12_nearest) dX12_nearest_62 (Nat.le_of_ble_eq_true rfl) rfl ?_
  refine x_iload (M := M_X12_nearest) dX12_nearest_64 rfl ?_
  refine x_iload_n (M := M_X12_nearest) dX12_nearest_66 rfl ?_
  refine x_icmp_ge (M := M_X12_nearest) (tgt := 265) dX12_nearest_67 (by decide) (fun q => absurd ((bi_le rfl (by decide +kernel)).mp q) (by omega : ¬ (a2.toInt ≤ 0))) (fun _ => ?_)
  refine x_lconst (M := M_X12_nearest) dX12_nearest_70 ?_
  refine x_topl (M := M_X12_nearest) (y := (Int64.ofInt 0)) (by decide +kernel) ?_
  refine x_lstore (M := M_X12_nearest) dX12_nearest_71 (Nat.le_of_ble_eq_true rfl) rfl ?_
  refine x_iconst (M := M_X12_nearest) dX12_nearest_73 ?_
  refine x_istore (M := M_X12_nearest) dX12_nearest_74 (Nat.le_of_ble_eq_true rfl) rfl ?_
  refine x_lvs (M := M_X12_nearest) (lv' := [some (.ref 277), some (.int a0), some (.int a1), some (.int a2), some (.long (Int64.ofInt (-1))), none, some (.int (Int32.ofInt (-1))), some (.int (Int32.ofInt 0)), some (.long (Int64.ofInt 0)), none, some (.int (Int32.ofInt (-1))), none, none, none, none, none, none, none, none]) rfl ?_
  refine x_iconst (M := M_X12_nearest) dX12_nearest_76 ?_
  refine x_istore (M := M_X12_nearest) dX12_nearest_77 (Nat.le_of_ble_eq_true rfl) rfl ?_
  refine x_iload (M := M_X12_nearest) dX12_nearest_79 rfl ?_
  refine x_bipush (M := M_X12_nearest) dX12_nearest_81 ?_
  refine x_icmp_ge (M := M_X12_nearest) (tgt := 219) dX12_nearest_83 (by decide) (fun q => absurd q (by decide +kernel)) (fun _ => ?_)
  refine x_aload_n (M := M_X12_nearest) dX12_nearest_86 rfl ?_
  refine x_iload (M := M_X12_nearest) dX12_nearest_87 rfl ?_
  have o5658 := (f5653 282 _ (by decide) (f5648 282 _ (by decide) (f5644 282 _ (by decide) o5657)))
  refine x_callVR (M := M_X12_nearest) (M' := M_X12_box) rfl rfl dX12_nearest_89 m_X12_box t_3124 t_3126 s_210 (q5656 hl w5652 o5658) rfl rfl w5652 rfl (Nat.le_of_ble_eq_true rfl) (Nat.le_of_ble_eq_true rfl) (Nat.le_of_ble_eq_true rfl) (Nat.le_of_ble_eq_true rfl) ?_
  refine x_if_ne (M := M_X12_nearest) (tgt := 98) dX12_nearest_92 (by decide) (fun q => absurd q (by decide +kernel)) (fun _ => ?_)
  refine x_goto (M := M_X12_nearest) (tgt := 213) dX12_nearest_95 (by decide) ?_
  refine x_iinc (M := M_X12_nearest) dX12_nearest_213 rfl (Nat.le_of_ble_eq_true rfl) rfl ?_
  refine x_lvs (M := M_X12_nearest) (lv' := [some (.ref 277), some (.int a0), some (.int a1), some (.int a2), some (.long (Int64.ofInt (-1))), none, some (.int (Int32.ofInt (-1))), some (.int (Int32.ofInt 0)), some (.long (Int64.ofInt 0)), none, some (.int (Int32.ofInt (-1))), some (.int (Int32.ofInt 1)), none, none, none, none, none, none, none]) (by rw [(by decide +kernel : (Int32.ofInt 0) + Int32.ofInt 1 = (Int32.ofInt 1))] <;> rfl) ?_
  refine x_goto (M := M_X12_nearest) (tgt := 79) dX12_nearest_216 (by decide) ?_
  refine x_iload (M := M_X12_nearest) dX12_nearest_79 rfl ?_
  refine x_bipush (M := M_X12_nearest) dX12_nearest_81 ?_
  refine x_icmp_ge (M := M_X12_nearest) (tgt := 219) dX12_nearest_83 (by decide) (fun q => absurd q (by decide +kernel)) (fun _ => ?_)
  refine x_aload_n (M := M_X12_nearest) dX12_nearest_86 rfl ?_
  refine x_iload (M := M_X12_nearest) dX12_nearest_87 rfl ?_
  refine x_callVR (M := M_X12_nearest) (M' := M_X12_box) rfl rfl dX12_nearest_89 m_X12_box t_3124 t_3126 s_210 (q5661 hl w5652 o5658) rfl rfl w5652 rfl (Nat.le_of_ble_eq_true rfl) (Nat.le_of_ble_eq_true rfl) (Nat.le_of_ble_eq_true rfl) (Nat.le_of_ble_eq_true rfl) ?_
  refine x_if_ne (M := M_X12_nearest) (tgt := 98) dX12_nearest_92 (by decide) (fun q => absurd q (by decide +kernel)) (fun _ => ?_)
  refine x_goto (M := M_X12_nearest) (tgt := 213) dX12_nearest_95 (by decide) ?_
  refine x_iinc (M := M_X12_nearest) dX12_nearest_213 rfl (Nat.le_of_ble_eq_true rfl) rfl ?_
  refine x_lvs (M := M_X12_nearest) (lv' := [some (.ref 277), some (.int a0), some (.int a1), some (.int a2), some (.long (Int64.ofInt (-1))), none, some (.int (Int32.ofInt (-1))), some (.int (Int32.ofInt 0)), some (.long (Int64.ofInt 0)), none, some (.int (Int32.ofInt (-1))), some (.int (Int32.ofInt 2)), none, none, none, none, none, none, none]) (by rw [(by decide +kernel : (Int32.ofInt 1) + Int32.ofInt 1 = (Int32.ofInt 2))] <;> rfl) ?_
  refine x_goto (M := M_X12_nearest) (tgt := 79) dX12_nearest_216 (by decide) ?_
  refine x_iload (M := M_X12_nearest) dX12_nearest_79 rfl ?_
  refine x_bipush (M := M_X12_nearest) dX12_nearest_81 ?_
  refine x_icmp_ge (M := M_X12_nearest) (tgt := 219) dX12_nearest_83 (by decide) (fun q => absurd q (by decide +kernel)) (fun _ => ?_)
  refine x_aload_n (M := M_X12_nearest) dX12_nearest_86 rfl ?_
  refine x_iload (M := M_X12_nearest) dX12_nearest_87 rfl ?_
  refine x_callVR (M := M_X12_nearest) (M' := M_X12_box) rfl rfl dX12_nearest_89 m_X12_box t_3124 t_3126 s_210 (q5664 hl w5652 o5658) rfl rfl w5652 rfl (Nat.le_of_ble_eq_true rfl) (Nat.le_of_ble_eq_true rfl) (Nat.le_of_ble_eq_true rfl) (Nat.le_of_ble_eq_true rfl) ?_
  refine x_if_ne (M := M_X12_nearest) (tgt := 98) dX12_nearest_92 (by decide) (fun q => absurd q (by decide +kernel)) (fun _ => ?_)
  refine x_goto (M := M_X12_nearest) (tgt := 213) dX12_nearest_95 (by decide) ?_
  refine x_iinc (M := M_X12_nearest) dX12_nearest_213 rfl (Nat.le_of_ble_eq_true rfl) rfl ?_
  refine x_lvs (M := M_X12_nearest) (lv' := [some (.ref 277), some (.int a0), some (.int a1), some (.int a2), some (.long (Int64.ofInt (-1))), none, some (.int (Int32.ofInt (-1))), some (.int (Int32.ofInt 0)), some (.long (Int64.ofInt 0)), none, some (.int (Int32.ofInt (-1))), some (.int (Int32.ofInt 3)), none, none, none, none, none, none, none]) (by rw [(by decide +kernel : (Int32.ofInt 2) + Int32.ofInt 1 = (Int32.ofInt 3))] <;> rfl) ?_
  refine x_goto (M := M_X12_nearest) (tgt := 79) dX12_nearest_216 (by decide) ?_
  refine x_iload (M := M_X12_nearest) dX12_nearest_79 rfl ?_
  refine x_bipush (M := M_X12_nearest) dX12_nearest_81 ?_
  refine x_icmp_ge (M := M_X12_nearest) (tgt := 219) dX12_nearest_83 (by decide) (fun q => absurd q (by decide +kernel)) (fun _ => ?_)
  refine x_aload_n (M := M_X12_nearest) dX12_nearest_86 rfl ?_
  refine x_iload (M := M_X12_nearest) dX12_nearest_87 rfl ?_
  refine x_callVR (M := M_X12_nearest) (M' := M_X12_box) rfl rfl dX12_nearest_89 m_X12_box t_3124 t_3126 s_210 (q5667 hl w5652 o5658) rfl rfl w5652 rfl (Nat.le_of_ble_eq_true rfl) (Nat.le_of_ble_eq_true rfl) (Nat.le_of_ble_eq_true rfl) (Nat.le_of_ble_eq_true rfl) ?_
  refine x_if_ne (M := M_X12_nearest) (tgt := 98) dX12_nearest_92 (by decide) (fun q => absurd q (by decide +kernel)) (fun _ => ?_)
  refine x_goto (M := M_X12_nearest) (tgt := 213) dX12_nearest_95 (by decide) ?_
  refine x_iinc (M := M_X12_nearest) dX12_nearest_213 rfl (Nat.le_of_ble_eq_true rfl) rfl ?_
  refine x_lvs (M := M_X12_nearest) (lv' := [some (.ref 277), some (.int a0), some (.int a1), some (.int a2), some (.long (Int64.ofInt (-1))), none, some (.int (Int32.ofInt (-1))), some (.int (Int32.ofInt 0)), some (.long (Int64.ofInt 0)), none, some (.int (Int32.ofInt (-1))), some (.int (Int32.ofInt 4)), none, none, none, none, none, none, none]) (by rw [(by decide +kernel : (Int32.ofInt 3) + Int32.ofInt 1 = (Int32.ofInt 4))] <;> rfl) ?_
  refine x_goto (M := M_X12_nearest) (tgt := 79) dX12_nearest_216 (by decide) ?_
  refine x_iload (M := M_X12_nearest) dX12_nearest_79 rfl ?_
  refine x_bipush (M := M_X12_nearest) dX12_nearest_81 ?_
  refine x_icmp_ge (M := M_X12_nearest) (tgt := 219) dX12_nearest_83 (by decide) (fun q => absurd q (by decide +kernel)) (fun _ => ?_)
  refine x_aload_n (M := M_X12_nearest) dX12_nearest_86 rfl ?_
  refine x_iload (M := M_X12_nearest) dX12_nearest_87 rfl ?_
  refine x_callVR (M := M_X12_nearest) (M' := M_X12_box) rfl rfl dX12_nearest_89 m_X12_box t_3124 t_3126 s_210 (q5670 hl w5652 o5658) rfl rfl w5652 rfl (Nat.le_of_ble_eq_true rfl) (Nat.le_of_ble_eq_true rfl) (Nat.le_of_ble_eq_true rfl) (Nat.le_of_ble_eq_true rfl) ?_
  refine x_if_ne (M := M_X12_nearest) (tgt := 98) dX12_nearest_92 (by decide) (fun q => absurd q (by decide +kernel)) (fun _ => ?_)
  refine x_goto (M := M_X12_nearest) (tgt := 213) dX12_nearest_95 (by decide) ?_
  refine x_iinc (M := M_X12_nearest) dX12_nearest_213 rfl (Nat.le_of_ble_eq_true rfl) rfl ?_
  refine x_lvs (M := M_X12_nearest) (lv' := [some (.ref 277), some (.int a0), some (.int a1), some (.int a2), some (.long (Int64.ofInt (-1))), none, some (.int (Int32.ofInt (-1))), some (.int (Int32.ofInt 0)), some (.long (Int64.ofInt 0)), none, some (.int (Int32.ofInt (-1))), some (.int (Int32.ofInt 5)), none, none, none, none, none, none, none]) (by rw [(by decide +kernel : (Int32.ofInt 4) + Int32.ofInt 1 = (Int32.ofInt 5))] <;> rfl) ?_
  refine x_goto (M := M_X12_nearest) (tgt := 79) dX12_nearest_216 (by decide) ?_
  refine x_iload (M := M_X12_nearest) dX12_nearest_79 rfl ?_
  refine x_bipush (M := M_X12_nearest) dX12_nearest_81 ?_
  refine x_icmp_ge (M := M_X12_nearest) (tgt := 219) dX12_nearest_83 (by decide) (fun q => absurd q (by decide +kernel)) (fun _ => ?_)
  refine x_aload_n (M := M_X12_nearest) dX12_nearest_86 rfl ?_
  refine x_iload (M := M_X12_nearest) dX12_nearest_87 rfl ?_
  refine x_callVR (M := M_X12_nearest) (M' := M_X12_box) rfl rfl dX12_nearest_89 m_X12_box t_3124 t_3126 s_210 (q5673 hl w5652 o5658) rfl rfl w5652 rfl (Nat.le_of_ble_eq_true rfl) (Nat.le_of_ble_eq_true rfl) (Nat.le_of_ble_eq_true rfl) (Nat.le_of_ble_eq_true rfl) ?_
  refine x_if_ne (M := M_X12_nearest) (tgt := 98) dX12_nearest_92 (by decide) (fun q => absurd q (by decide +kernel)) (fun _ => ?_)
  refine x_goto (M := M_X12_nearest) (tgt := 213) dX12_nearest_95 (by decide) ?_
  refine x_iinc (M := M_X12_nearest) dX12_nearest_213 rfl (Nat.le_of_ble_eq_true rfl) rfl ?_
  refine x_lvs (M := M_X12_nearest) (lv' := [some (.ref 277), some (.int a0), some (.int a1), some (.int a2), some (.long (Int64.ofInt (-1))), none, some (.int (Int32.ofInt (-1))), some (.int (Int32.ofInt 0)), some (.long (Int64.ofInt 0)), none, some (.int (Int32.ofInt (-1))), some (.int (Int32.ofInt 6)), none, none, none, none, none, none, none]) (by rw [(by decide +kernel : (Int32.ofInt 5) + Int32.ofInt 1 = (Int32.ofInt 6))] <;> rfl) ?_
  refine x_goto (M := M_X12_nearest) (tgt := 79) dX12_nearest_216 (by decide) ?_
  refine x_iload (M := M_X12_nearest) dX12_nearest_79 rfl ?_
  refine x_bipush (M := M_X12_nearest) dX12_nearest_81 ?_
  refine x_icmp_ge (M := M_X12_nearest) (tgt := 219) dX12_nearest_83 (by decide) (fun q => absurd q (by decide +kernel)) (fun _ => ?_)
  refine x_aload_n (M := M_X12_nearest) dX12_nearest_86 rfl ?_
  refine x_iload (M := M_X12_nearest) dX12_nearest_87 rfl ?_
  refine x_callVR (M := M_X12_nearest) (M' := M_X12_box) rfl rfl dX12_nearest_89 m_X12_box t_3124 t_3126 s_210 (q5676 hl w5652 o5658) rfl rfl w5652 rfl (Nat.le_of_ble_eq_true rfl) (Nat.le_of_ble_eq_true rfl) (Nat.le_of_ble_eq_true rfl) (Nat.le_of_ble_eq_true rfl) ?_
  refine x_if_ne (M := M_X12_nearest) (tgt := 98) dX12_nearest_92 (by decide) (fun q => absurd q (by decide +kernel)) (fun _ => ?_)
  refine x_goto (M := M_X12_nearest) (tgt := 213) dX12_nearest_95 (by decide) ?_
  refine x_iinc (M := M_X12_nearest) dX12_nearest_213 rfl (Nat.le_of_ble_eq_true rfl) rfl ?_
  refine x_lvs (M := M_X12_nearest) (lv' := [some (.ref 277), some (.int a0), some (.int a1), some (.int a2), some (.long (Int64.ofInt (-1))), none, some (.int (Int32.ofInt (-1))), some (.int (Int32.ofInt 0)), some (.long (Int64.ofInt 0)), none, some (.int (Int32.ofInt (-1))), some (.int (Int32.ofInt 7)), none, none, none, none, none, none, none]) (by rw [(by decide +kernel : (Int32.ofInt 6) + Int32.ofInt 1 = (Int32.ofInt 7))] <;> rfl) ?_
  refine x_goto (M := M_X12_nearest) (tgt := 79) dX12_nearest_216 (by decide) ?_
  refine x_iload (M := M_X12_nearest) dX12_nearest_79 rfl ?_
  refine x_bipush (M := M_X12_nearest) dX12_nearest_81 ?_
  refine x_icmp_ge (M := M_X12_nearest) (tgt := 219) dX12_nearest_83 (by decide) (fun q => absurd q (by decide +kernel)) (fun _ => ?_)
  refine x_aload_n (M := M_X12_nearest) dX12_nearest_86 rfl ?_
  refine x_iload (M := M_X12_nearest) dX12_nearest_87 rfl ?_
  refine x_callVR (M := M_X12_nearest) (M' := M_X12_box) rfl rfl dX12_nearest_89 m_X12_box t_3124 t_3126 s_210 (q5679 hl w5652 o5658) rfl rfl w5652 rfl (Nat.le_of_ble_eq_true rfl) (Nat.le_of_ble_eq_true rfl) (Nat.le_of_ble_eq_true rfl) (Nat.le_of_ble_eq_true rfl) ?_
  refine x_if_ne (M := M_X12_nearest) (tgt := 98) dX12_nearest_92 (by decide) (fun q => absurd q (by decide +kernel)) (fun _ => ?_)
  refine x_goto (M := M_X12_nearest) (tgt := 213) dX12_nearest_95 (by decide) ?_
  refine x_iinc (M := M_X12_nearest) dX12_nearest_213 rfl (Nat.le_of_ble_eq_true rfl) rfl ?_
  refine x_lvs (M := M_X12_nearest) (lv' := [some (.ref 277), some (.int a0), some (.int a1), some (.int a2), some (.long (Int64.ofInt (-1))), none, some (.int (Int32.ofInt (-1))), some (.int (Int32.ofInt 0)), some (.long (Int64.ofInt 0)), none, some (.int (Int32.ofInt (-1))), some (.int (Int32.ofInt 8)), none, none, none, none, none, none, none]) (by rw [(by decide +kernel : (Int32.ofInt 7) + Int32.ofInt 1 = (Int32.ofInt 8))] <;> rfl) ?_
  refine x_goto (M := M_X12_nearest) (tgt := 79) dX12_nearest_216 (by decide) ?_
  refine x_iload (M := M_X12_nearest) dX12_nearest_79 rfl ?_
  refine x_bipush (M := M_X12_nearest) dX12_nearest_81 ?_
  refine x_icmp_ge (M := M_X12_nearest) (tgt := 219) dX12_nearest_83 (by decide) (fun q => absurd q (by decide +kernel)) (fun _ => ?_)
  refine x_aload_n (M := M_X12_nearest) dX12_nearest_86 rfl ?_
  refine x_iload (M := M_X12_nearest) dX12_nearest_87 rfl ?_
  refine x_callVR (M := M_X12_nearest) (M' := M_X12_box) rfl rfl dX12_nearest_89 m_X12_box t_3124 t_3126 s_210 (q5682 hl w5652 o5658) rfl rfl w5652 rfl (Nat.le_of_ble_eq_true rfl) (Nat.le_of_ble_eq_true rfl) (Nat.le_of_ble_eq_true rfl) (Nat.le_of_ble_eq_true rfl) ?_
  refine x_if_ne (M := M_X12_nearest) (tgt := 98) dX12_nearest_92 (by decide) (fun q => absurd q (by decide +kernel)) (fun _ => ?_)
  refine x_goto (M := M_X12_nearest) (tgt := 213) dX12_nearest_95 (by decide) ?_
  refine x_iinc (M := M_X12_nearest) dX12_nearest_213 rfl (Nat.le_of_ble_eq_true rfl) rfl ?_
  refine x_lvs (M := M_X12_nearest) (lv' := [some (.ref 277), some (.int a0), some (.int a1), some (.int a2), some (.long (Int64.ofInt (-1))), none, some (.int (Int32.ofInt (-1))), some (.int (Int32.ofInt 0)), some (.long (Int64.ofInt 0)), none, some (.int (Int32.ofInt (-1))), some (.int (Int32.ofInt 9)), none, none, none, none, none, none, none]) (by rw [(by decide +kernel : (Int32.ofInt 8) + Int32.ofInt 1 = (Int32.ofInt 9))] <;> rfl) ?_
  refine x_goto (M := M_X12_nearest) (tgt := 79) dX12_nearest_216 (by decide) ?_
  refine x_iload (M := M_X12_nearest) dX12_nearest_79 rfl ?_
  refine x_bipush (M := M_X12_nearest) dX12_nearest_81 ?_
  refine x_icmp_ge (M := M_X12_nearest) (tgt := 219) dX12_nearest_83 (by decide) (fun q => absurd q (by decide +kernel)) (fun _ => ?_)
  refine x_aload_n (M := M_X12_nearest) dX12_nearest_86 rfl ?_
  refine x_iload (M := M_X12_nearest) dX12_nearest_87 rfl ?_
  refine x_callVR (M := M_X12_nearest) (M' := M_X12_box) rfl rfl dX12_nearest_89 m_X12_box t_3124 t_3126 s_210 (q5685 hl w5652 o5658) rfl rfl w5652 rfl (Nat.le_of_ble_eq_true rfl) (Nat.le_of_ble_eq_true rfl) (Nat.le_of_ble_eq_true rfl) (Nat.le_of_ble_eq_true rfl) ?_
  refine x_if_ne (M := M_X12_nearest) (tgt := 98) dX12_nearest_92 (by decide) (fun q => absurd q (by decide +kernel)) (fun _ => ?_)
  refine x_goto (M := M_X12_nearest) (tgt := 213) dX12_nearest_95 (by decide) ?_
  refine x_iinc (M := M_X12_nearest) dX12_nearest_213 rfl (Nat.le_of_ble_eq_true rfl) rfl ?_
  refine x_lvs (M := M_X12_nearest) (lv' := [some (.ref 277), some (.int a0), some (.int a1), some (.int a2), some (.long (Int64.ofInt (-1))), none, some (.int (Int32.ofInt (-1))), some (.int (Int32.ofInt 0)), some (.long (Int64.ofInt 0)), none, some (.int (Int32.ofInt (-1))), some (.int (Int32.ofInt 10)), none, none, none, none, none, none, none]) (by rw [(by decide +kernel : (Int32.ofInt 9) + Int32.ofInt 1 = (Int32.ofInt 10))] <;> rfl) ?_
  refine x_goto (M := M_X12_nearest) (tgt := 79) dX12_nearest_216 (by decide) ?_
  refine x_iload (M := M_X12_nearest) dX12_nearest_79 rfl ?_
  refine x_bipush (M := M_X12_nearest) dX12_nearest_81 ?_
  refine x_icmp_ge (M := M_X12_nearest) (tgt := 219) dX12_nearest_83 (by decide) (fun q => absurd q (by decide +kernel)) (fun _ => ?_)
  refine x_aload_n (M := M_X12_nearest) dX12_nearest_86 rfl ?_
  refine x_iload (M := M_X12_nearest) dX12_nearest_87 rfl ?_
  refine x_callVR (M := M_X12_nearest) (M' := M_X12_box) rfl rfl dX12_nearest_89 m_X12_box t_3124 t_3126 s_210 (q5688 hl w5652 o5658) rfl rfl w5652 rfl (Nat.le_of_ble_eq_true rfl) (Nat.le_of_ble_eq_true rfl) (Nat.le_of_ble_eq_true rfl) (Nat.le_of_ble_eq_true rfl) ?_
  refine x_if_ne (M := M_X12_nearest) (tgt := 98) dX12_nearest_92 (by decide) (fun q => absurd q (by decide +kernel)) (fun _ => ?_)
  refine x_goto (M := M_X12_nearest) (tgt := 213) dX12_nearest_95 (by decide) ?_
  refine x_iinc (M := M_X12_nearest) dX12_nearest_213 rfl (Nat.le_of_ble_eq_true rfl) rfl ?_
  refine x_lvs (M := M_X12_nearest) (lv' := [some (.ref 277), some (.int a0), some (.int a1), some (.int a2), some (.long (Int64.ofInt (-1))), none, some (.int (Int32.ofInt (-1))), some (.int (Int32.ofInt 0)), some (.long (Int64.ofInt 0)), none, some (.int (Int32.ofInt (-1))), some (.int (Int32.ofInt 11)), none, none, none, none, none, none, none]) (by rw [(by decide +kernel : (Int32.ofInt 10) + Int32.ofInt 1 = (Int32.ofInt 11))] <;> rfl) ?_
  refine x_goto (M := M_X12_nearest) (tgt := 79) dX12_nearest_216 (by decide) ?_
  refine x_iload (M := M_X12_nearest) dX12_nearest_79 rfl ?_
  refine x_bipush (M := M_X12_nearest) dX12_nearest_81 ?_
  refine x_icmp_ge (M := M_X12_nearest) (tgt := 219) dX12_nearest_83 (by decide) (fun q => absurd q (by decide +kernel)) (fun _ => ?_)
  refine x_aload_n (M := M_X12_nearest) dX12_nearest_86 rfl ?_
  refine x_iload (M := M_X12_nearest) dX12_nearest_87 rfl ?_
  refine x_callVR (M := M_X12_nearest) (M' := M_X12_box) rfl rfl dX12_nearest_89 m_X12_box t_3124 t_3126 s_210 (q5691 hl w5652 o5658) rfl rfl w5652 rfl (Nat.le_of_ble_eq_true rfl) (Nat.le_of_ble_eq_true rfl) (Nat.le_of_ble_eq_true rfl) (Nat.le_of_ble_eq_true rfl) ?_
  refine x_if_ne (M := M_X12_nearest) (tgt := 98) dX12_nearest_92 (by decide) (fun q => absurd q (by decide +kernel)) (fun _ => ?_)
  refine x_goto (M := M_X12_nearest) (tgt := 213) dX12_nearest_95 (by decide) ?_
  refine x_iinc (M := M_X12_nearest) dX12_nearest_213 rfl (Nat.le_of_ble_eq_true rfl) rfl ?_
  refine x_lvs (M := M_X12_nearest) (lv' := [some (.ref 277), some (.int a0), some (.int a1), some (.int a2), some (.long (Int64.ofInt (-1))), none, some (.int (Int32.ofInt (-1))), some (.int (Int32.ofInt 0)), some (.long (Int64.ofInt 0)), none, some (.int (Int32.ofInt (-1))), some (.int (Int32.ofInt 12)), none, none, none, none, none, none, none]) (by rw [(by decide +kernel : (Int32.ofInt 11) + Int32.ofInt 1 = (Int32.ofInt 12))] <;> rfl) ?_
  refine x_goto (M := M_X12_nearest) (tgt := 79) dX12_nearest_216 (by decide) ?_
  refine x_iload (M := M_X12_nearest) dX12_nearest_79 rfl ?_
  refine x_bipush (M := M_X12_nearest) dX12_nearest_81 ?_
  refine x_icmp_ge (M := M_X12_nearest) (tgt := 219) dX12_nearest_83 (by decide) (fun q => absurd q (by decide +kernel)) (fun _ => ?_)
  refine x_aload_n (M := M_X12_nearest) dX12_nearest_86 rfl ?_
  refine x_iload (M := M_X12_nearest) dX12_nearest_87 rfl ?_
  refine x_callVR (M := M_X12_nearest) (M' := M_X12_box) rfl rfl dX12_nearest_89 m_X12_box t_3124 t_3126 s_210 (q5694 hl w5652 o5658) rfl rfl w5652 rfl (Nat.le_of_ble_eq_true rfl) (Nat.le_of_ble_eq_true rfl) (Nat.le_of_ble_eq_true rfl) (Nat.le_of_ble_eq_true rfl) ?_
  refine x_if_ne (M := M_X12_nearest) (tgt := 98) dX12_nearest_92 (by decide) (fun q => absurd q (by decide +kernel)) (fun _ => ?_)
  refine x_goto (M := M_X12_nearest) (tgt := 213) dX12_nearest_95 (by decide) ?_
  refine x_iinc (M := M_X12_nearest) dX12_nearest_213 rfl (Nat.le_of_ble_eq_true rfl) rfl ?_
  refine x_lvs (M := M_X12_nearest) (lv' := [some (.ref 277), some (.int a0), some (.int a1), some (.int a2), some (.long (Int64.ofInt (-1))), none, some (.int (Int32.ofInt (-1))), some (.int (Int32.ofInt 0)), some (.long (Int64.ofInt 0)), none, some (.int (Int32.ofInt (-1))), some (.int (Int32.ofInt 13)), none, none, none, none, none, none, none]) (by rw [(by decide +kernel : (Int32.ofInt 12) + Int32.ofInt 1 = (Int32.ofInt 13))] <;> rfl) ?_
  refine x_goto (M := M_X12_nearest) (tgt := 79) dX12_nearest_216 (by decide) ?_
  refine x_iload (M := M_X12_nearest) dX12_nearest_79 rfl ?_
  refine x_bipush (M := M_X12_nearest) dX12_nearest_81 ?_
  refine x_icmp_ge (M := M_X12_nearest) (tgt := 219) dX12_nearest_83 (by decide) (fun q => absurd q (by decide +kernel)) (fun _ => ?_)
  refine x_aload_n (M := M_X12_nearest) dX12_nearest_86 rfl ?_
  refine x_iload (M := M_X12_nearest) dX12_nearest_87 rfl ?_
  refine x_callVR (M := M_X12_nearest) (M' := M_X12_box) rfl rfl dX12_nearest_89 m_X12_box t_3124 t_3126 s_210 (q5697 hl w5652 o5658) rfl rfl w5652 rfl (Nat.le_of_ble_eq_true rfl) (Nat.le_of_ble_eq_true rfl) (Nat.le_of_ble_eq_true rfl) (Nat.le_of_ble_eq_true rfl) ?_
  refine x_if_ne (M := M_X12_nearest) (tgt := 98) dX12_nearest_92 (by decide) (fun q => absurd q (by decide +kernel)) (fun _ => ?_)
  refine x_goto (M := M_X12_nearest) (tgt := 213) dX12_nearest_95 (by decide) ?_
  refine x_iinc (M := M_X12_nearest) dX12_nearest_213 rfl (Nat.le_of_ble_eq_true rfl) rfl ?_
  refine x_lvs (M := M_X12_nearest) (lv' := [some (.ref 277), some (.int a0), some (.int a1), some (.int a2), some (.long (Int64.ofInt (-1))), none, some (.int (Int32.ofInt (-1))), some (.int (Int32.ofInt 0)), some (.long (Int64.ofInt 0)), none, some (.int (Int32.ofInt (-1))), some (.int (Int32.ofInt 14)), none, none, none, none, none, none, none]) (by rw [(by decide +kernel : (Int32.ofInt 13) + Int32.ofInt 1 = (Int32.ofInt 14))] <;> rfl) ?_
  refine x_goto (M := M_X12_nearest) (tgt := 79) dX12_nearest_216 (by decide) ?_
  refine x_iload (M := M_X12_nearest) dX12_nearest_79 rfl ?_
  refine x_bipush (M := M_X12_nearest) dX12_nearest_81 ?_
  refine x_icmp_ge (M := M_X12_nearest) (tgt := 219) dX12_nearest_83 (by decide) (fun q => absurd q (by decide +kernel)) (fun _ => ?_)
  refine x_aload_n (M := M_X12_nearest) dX12_nearest_86 rfl ?_
  refine x_iload (M := M_X12_nearest) dX12_nearest_87 rfl ?_
  refine x_callVR (M := M_X12_nearest) (M' := M_X12_box) rfl rfl dX12_nearest_89 m_X12_box t_3124 t_3126 s_210 (q5700 hl w5652 o5658) rfl rfl w5652 rfl (Nat.le_of_ble_eq_true rfl) (Nat.le_of_ble_eq_true rfl) (Nat.le_of_ble_eq_true rfl) (Nat.le_of_ble_eq_true rfl) ?_
  refine x_if_ne (M := M_X12_nearest) (tgt := 98) dX12_nearest_92 (by decide) (fun q => absurd q (by decide +kernel)) (fun _ => ?_)
  refine x_goto (M := M_X12_nearest) (tgt := 213) dX12_nearest_95 (by decide) ?_
  refine x_iinc (M := M_X12_nearest) dX12_nearest_213 rfl (Nat.le_of_ble_eq_true rfl) rfl ?_
  refine x_lvs (M := M_X12_nearest) (lv' := [some (.ref 277), some (.int a0), some (.int a1), some (.int a2), some (.long (Int64.ofInt (-1))), none, some (.int (Int32.ofInt (-1))), some (.int (Int32.ofInt 0)), some (.long (Int64.ofInt 0)), none, some (.int (Int32.ofInt (-1))), some (.int (Int32.ofInt 15)), none, none, none, none, none, none, none]) (by rw [(by decide +kernel : (Int32.ofInt 14) + Int32.ofInt 1 = (Int32.ofInt 15))] <;> rfl) ?_
  refine x_goto (M := M_X12_nearest) (tgt := 79) dX12_nearest_216 (by decide) ?_
  refine x_iload (M := M_X12_nearest) dX12_nearest_79 rfl ?_
  refine x_bipush (M := M_X12_nearest) dX12_nearest_81 ?_
  refine x_icmp_ge (M := M_X12_nearest) (tgt := 219) dX12_nearest_83 (by decide) (fun q => absurd q (by decide +kernel)) (fun _ => ?_)
  refine x_aload_n (M := M_X12_nearest) dX12_nearest_86 rfl ?_
  refine x_iload (M := M_X12_nearest) dX12_nearest_87 rfl ?_
  refine x_callVR (M := M_X12_nearest) (M' := M_X12_box) rfl rfl dX12_nearest_89 m_X12_box t_3124 t_3126 s_210 (q5703 hl w5652 o5658) rfl rfl w5652 rfl (Nat.le_of_ble_eq_true rfl) (Nat.le_of_ble_eq_true rfl) (Nat.le_of_ble_eq_true rfl) (Nat.le_of_ble_eq_true rfl) ?_
  refine x_if_ne (M := M_X12_nearest) (tgt := 98) dX12_nearest_92 (by decide) (fun q => absurd q (by decide +kernel)) (fun _ => ?_)
  refine x_goto (M := M_X12_nearest) (tgt := 213) dX12_nearest_95 (by decide) ?_
  refine x_iinc (M := M_X12_nearest) dX12_nearest_213 rfl (Nat.le_of_ble_eq_true rfl) rfl ?_
  refine x_lvs (M := M_X12_nearest) (lv' := [some (.ref 277), some (.int a0), some (.int a1), some (.int a2), some (.long (Int64.ofInt (-1))), none, some (.int (Int32.ofInt (-1))), some (.int (Int32.ofInt 0)), some (.long (Int64.ofInt 0)), none, some (.int (Int32.ofInt (-1))), some (.int (Int32.ofInt 16)), none, none, none, none, none, none, none]) (by rw [(by decide +kernel : (Int32.ofInt 15) + Int32.ofInt 1 = (Int32.ofInt 16))] <;> rfl) ?_
  refine x_goto (M := M_X12_nearest) (tgt := 79) dX12_nearest_216 (by decide) ?_
  refine x_iload (M := M_X12_nearest) dX12_nearest_79 rfl ?_
  refine x_bipush (M := M_X12_nearest) dX12_nearest_81 ?_
  refine x_icmp_ge (M := M_X12_nearest) (tgt := 219) dX12_nearest_83 (by decide) (fun q => absurd q (by decide +kernel)) (fun _ => ?_)
  refine x_aload_n (M := M_X12_nearest) dX12_nearest_86 rfl ?_
  refine x_iload (M := M_X12_nearest) dX12_nearest_87 rfl ?_
  refine x_callVR (M := M_X12_nearest) (M' := M_X12_box) rfl rfl dX12_nearest_89 m_X12_box t_3124 t_3126 s_210 (q5706 hl w5652 o5658) rfl rfl w5652 rfl (Nat.le_of_ble_eq_true rfl) (Nat.le_of_ble_eq_true rfl) (Nat.le_of_ble_eq_true rfl) (Nat.le_of_ble_eq_true rfl) ?_
  refine x_if_ne (M := M_X12_nearest) (tgt := 98) dX12_nearest_92 (by decide) (fun q => absurd q (by decide +kernel)) (fun _ => ?_)
  refine x_goto (M := M_X12_nearest) (tgt := 213) dX12_nearest_95 (by decide) ?_
  refine x_iinc (M := M_X12_nearest) dX12_nearest_213 rfl (Nat.le_of_ble_eq_true rfl) rfl ?_
  refine x_lvs (M := M_X12_nearest) (lv' := [some (.ref 277), some (.int a0), some (.int a1), some (.int a2), some (.long (Int64.ofInt (-1))), none, some (.int (Int32.ofInt (-1))), some (.int (Int32.ofInt 0)), some (.long (Int64.ofInt 0)), none, some (.int (Int32.ofInt (-1))), some (.int (Int32.ofInt 17)), none, none, none, none, none, none, none]) (by rw [(by decide +kernel : (Int32.ofInt 16) + Int32.ofInt 1 = (Int32.ofInt 17))] <;> rfl) ?_
  refine x_goto (M := M_X12_nearest) (tgt := 79) dX12_nearest_216 (by decide) ?_
  refine x_iload (M := M_X12_nearest) dX12_nearest_79 rfl ?_
  refine x_bipush (M := M_X12_nearest) dX12_nearest_81 ?_
  refine x_icmp_ge (M := M_X12_nearest) (tgt := 219) dX12_nearest_83 (by decide) (fun q => absurd q (by decide +kernel)) (fun _ => ?_)
  refine x_aload_n (M := M_X12_nearest) dX12_nearest_86 rfl ?_
  refine x_iload (M := M_X12_nearest) dX12_nearest_87 rfl ?_
  refine x_callVR (M := M_X12_nearest) (M' := M_X12_box) rfl rfl dX12_nearest_89 m_X12_box t_3124 t_3126 s_210 (q5709 hl w5652 o5658) rfl rfl w5652 rfl (Nat.le_of_ble_eq_true rfl) (Nat.le_of_ble_eq_true rfl) (Nat.le_of_ble_eq_true rfl) (Nat.le_of_ble_eq_true rfl) ?_
  refine x_if_ne (M := M_X12_nearest) (tgt := 98) dX12_nearest_92 (by decide) (fun q => absurd q (by decide +kernel)) (fun _ => ?_)
  refine x_goto (M := M_X12_nearest) (tgt := 213) dX12_nearest_95 (by decide) ?_
  refine x_iinc (M := M_X12_nearest) dX12_nearest_213 rfl (Nat.le_of_ble_eq_true rfl) rfl ?_
  refine x_lvs (M := M_X12_nearest) (lv' := [some (.ref 277), some (.int a0), some (.int a1), some (.int a2), some (.long (Int64.ofInt (-1))), none, some (.int (Int32.ofInt (-1))), some (.int (Int32.ofInt 0)), some (.long (Int64.ofInt 0)), none, some (.int (Int32.ofInt (-1))), some (.int (Int32.ofInt 18)), none, none, none, none, none, none, none]) (by rw [(by decide +kernel : (Int32.ofInt 17) + Int32.ofInt 1 = (Int32.ofInt 18))] <;> rfl) ?_
  refine x_goto (M := M_X12_nearest) (tgt := 79) dX12_nearest_216 (by decide) ?_
  refine x_iload (M := M_X12_nearest) dX12_nearest_79 rfl ?_
  refine x_bipush (M := M_X12_nearest) dX12_nearest_81 ?_
  refine x_icmp_ge (M := M_X12_nearest) (tgt := 219) dX12_nearest_83 (by decide) (fun q => absurd q (by decide +kernel)) (fun _ => ?_)
  refine x_aload_n (M := M_X12_nearest) dX12_nearest_86 rfl ?_
  refine x_iload (M := M_X12_nearest) dX12_nearest_87 rfl ?_
  refine x_callVR (M := M_X12_nearest) (M' := M_X12_box) rfl rfl dX12_nearest_89 m_X12_box t_3124 t_3126 s_210 (q5712 hl w5652 o5658) rfl rfl w5652 rfl (Nat.le_of_ble_eq_true rfl) (Nat.le_of_ble_eq_true rfl) (Nat.le_of_ble_eq_true rfl) (Nat.le_of_ble_eq_true rfl) ?_
  refine x_if_ne (M := M_X12_nearest) (tgt := 98) dX12_nearest_92 (by decide) (fun q => absurd q (by decide +kernel)) (fun _ => ?_)
  refine x_goto (M := M_X12_nearest) (tgt := 213) dX12_nearest_95 (by decide) ?_
  refine x_iinc (M := M_X12_nearest) dX12_nearest_213 rfl (Nat.le_of_ble_eq_true rfl) rfl ?_
  refine x_lvs (M := M_X12_nearest) (lv' := [some (.ref 277), some (.int a0), some (.int a1), some (.int a2), some (.long (Int64.ofInt (-1))), none, some (.int (Int32.ofInt (-1))), some (.int (Int32.ofInt 0)), some (.long (Int64.ofInt 0)), none, some (.int (Int32.ofInt (-1))), some (.int (Int32.ofInt 19)), none, none, none, none, none, none, none]) (by rw [(by decide +kernel : (Int32.ofInt 18) + Int32.ofInt 1 = (Int32.ofInt 19))] <;> rfl) ?_
  refine x_goto (M := M_X12_nearest) (tgt := 79) dX12_nearest_216 (by decide) ?_
  refine x_iload (M := M_X12_nearest) dX12_nearest_79 rfl ?_
  refine x_bipush (M := M_X12_nearest) dX12_nearest_81 ?_
  refine x_icmp_ge (M := M_X12_nearest) (tgt := 219) dX12_nearest_83 (by decide) (fun q => absurd q (by decide +kernel)) (fun _ => ?_)
  refine x_aload_n (M := M_X12_nearest) dX12_nearest_86 rfl ?_
  refine x_iload (M := M_X12_nearest) dX12_nearest_87 rfl ?_
  refine x_callVR (M := M_X12_nearest) (M' := M_X12_box) rfl rfl dX12_nearest_89 m_X12_box t_3124 t_3126 s_210 (q5715 hl w5652 o5658) rfl rfl w5652 rfl (Nat.le_of_ble_eq_true rfl) (Nat.le_of_ble_eq_true rfl) (Nat.le_of_ble_eq_true rfl) (Nat.le_of_ble_eq_true rfl) ?_
  refine x_if_ne (M := M_X12_nearest) (tgt := 98) dX12_nearest_92 (by decide) (fun q => absurd q (by decide +kernel)) (fun _ => ?_)
  refine x_goto (M := M_X12_nearest) (tgt := 213) dX12_nearest_95 (by decide) ?_
  refine x_iinc (M := M_X12_nearest) dX12_nearest_213 rfl (Nat.le_of_ble_eq_true rfl) rfl ?_
  refine x_lvs (M := M_X12_nearest) (lv' := [some (.ref 277), some (.int a0), some (.int a1), some (.int a2), some (.long (Int64.ofInt (-1))), none, some (.int (Int32.ofInt (-1))), some (.int (Int32.ofInt 0)), some (.long (Int64.ofInt 0)), none, some (.int (Int32.ofInt (-1))), some (.int (Int32.ofInt 20)), none, none, none, none, none, none, none]) (by rw [(by decide +kernel : (Int32.ofInt 19) + Int32.ofInt 1 = (Int32.ofInt 20))] <;> rfl) ?_
  refine x_goto (M := M_X12_nearest) (tgt := 79) dX12_nearest_216 (by decide) ?_
  refine x_iload (M := M_X12_nearest) dX12_nearest_79 rfl ?_
  refine x_bipush (M := M_X12_nearest) dX12_nearest_81 ?_
  refine x_icmp_ge (M := M_X12_nearest) (tgt := 219) dX12_nearest_83 (by decide) (fun q => absurd q (by decide +kernel)) (fun _ => ?_)
  refine x_aload_n (M := M_X12_nearest) dX12_nearest_86 rfl ?_
  refine x_iload (M := M_X12_nearest) dX12_nearest_87 rfl ?_
  refine x_callVR (M := M_X12_nearest) (M' := M_X12_box) rfl rfl dX12_nearest_89 m_X12_box t_3124 t_3126 s_210 (q5718 hl w5652 o5658) rfl rfl w5652 rfl (Nat.le_of_ble_eq_true rfl) (Nat.le_of_ble_eq_true rfl) (Nat.le_of_ble_eq_true rfl) (Nat.le_of_ble_eq_true rfl) ?_
  refine x_if_ne (M := M_X12_nearest) (tgt := 98) dX12_nearest_92 (by decide) (fun q => absurd q (by decide +kernel)) (fun _ => ?_)
  refine x_goto (M := M_X12_nearest) (tgt := 213) dX12_nearest_95 (by decide) ?_
  refine x_iinc (M := M_X12_nearest) dX12_nearest_213 rfl (Nat.le_of_ble_eq_true rfl) rfl ?_
  refine x_lvs (M := M_X12_nearest) (lv' := [some (.ref 277), some (.int a0), some (.int a1), some (.int a2), some (.long (Int64.ofInt (-1))), none, some (.int (Int32.ofInt (-1))), some (.int (Int32.ofInt 0)), some (.long (Int64.ofInt 0)), none, some (.int (Int32.ofInt (-1))), some (.int (Int32.ofInt 21)), none, none, none, none, none, none, none]) (by rw [(by decide +kernel : (Int32.ofInt 20) + Int32.ofInt 1 = (Int32.ofInt 21))] <;> rfl) ?_
  refine x_goto (M := M_X12_nearest) (tgt := 79) dX12_nearest_216 (by decide) ?_
  refine x_iload (M := M_X12_nearest) dX12_nearest_79 rfl ?_
  refine x_bipush (M := M_X12_nearest) dX12_nearest_81 ?_
  refine x_icmp_ge (M := M_X12_nearest) (tgt := 219) dX12_nearest_83 (by decide) (fun q => absurd q (by decide +kernel)) (fun _ => ?_)
  refine x_aload_n (M := M_X12_nearest) dX12_nearest_86 rfl ?_
  refine x_iload (M := M_X12_nearest) dX12_nearest_87 rfl ?_
  refine x_callVR (M := M_X12_nearest) (M' := M_X12_box) rfl rfl dX12_nearest_89 m_X12_box t_3124 t_3126 s_210 (q5721 hl w5652 o5658) rfl rfl w5652 rfl (Nat.le_of_ble_eq_true rfl) (Nat.le_of_ble_eq_true rfl) (Nat.le_of_ble_eq_true rfl) (Nat.le_of_ble_eq_true rfl) ?_
  refine x_if_ne (M := M_X12_nearest) (tgt := 98) dX12_nearest_92 (by decide) (fun q => absurd q (by decide +kernel)) (fun _ => ?_)
  refine x_goto (M := M_X12_nearest) (tgt := 213) dX12_nearest_95 (by decide) ?_
  refine x_iinc (M := M_X12_nearest) dX12_nearest_213 rfl (Nat.le_of_ble_eq_true rfl) rfl ?_
  refine x_lvs (M := M_X12_nearest) (lv' := [some (.ref 277), some (.int a0), some (.int a1), some (.int a2), some (.long (Int64.ofInt (-1))), none, some (.int (Int32.ofInt (-1))), some (.int (Int32.ofInt 0)), some (.long (Int64.ofInt 0)), none, some (.int (Int32.ofInt (-1))), some (.int (Int32.ofInt 22)), none, none, none, none, none, none, none]) (by rw [(by decide +kernel : (Int32.ofInt 21) + Int32.ofInt 1 = (Int32.ofInt 22))] <;> rfl) ?_
  refine x_goto (M := M_X12_nearest) (tgt := 79) dX12_nearest_216 (by decide) ?_
  refine x_iload (M := M_X12_nearest) dX12_nearest_79 rfl ?_
  refine x_bipush (M := M_X12_nearest) dX12_nearest_81 ?_
  refine x_icmp_ge (M := M_X12_nearest) (tgt := 219) dX12_nearest_83 (by decide) (fun q => absurd q (by decide +kernel)) (fun _ => ?_)
  refine x_aload_n (M := M_X12_nearest) dX12_nearest_86 rfl ?_
  refine x_iload (M := M_X12_nearest) dX12_nearest_87 rfl ?_
  refine x_callVR (M := M_X12_nearest) (M' := M_X12_box) rfl rfl dX12_nearest_89 m_X12_box t_3124 t_3126 s_210 (q5724 hl w5652 o5658) rfl rfl w5652 rfl (Nat.le_of_ble_eq_true rfl) (Nat.le_of_ble_eq_true rfl) (Nat.le_of_ble_eq_true rfl) (Nat.le_of_ble_eq_true rfl) ?_
  refine x_if_ne (M := M_X12_nearest) (tgt := 98) dX12_nearest_92 (by decide) (fun q => absurd q (by decide +kernel)) (fun _ => ?_)
  refine x_goto (M := M_X12_nearest) (tgt := 213) dX12_nearest_95 (by decide) ?_
  refine x_iinc (M := M_X12_nearest) dX12_nearest_213 rfl (Nat.le_of_ble_eq_true rfl) rfl ?_
  refine x_lvs (M := M_X12_nearest) (lv' := [some (.ref 277), some (.int a0), some (.int a1), some (.int a2), some (.long (Int64.ofInt (-1))), none, some (.int (Int32.ofInt (-1))), some (.int (Int32.ofInt 0)), some (.long (Int64.ofInt 0)), none, some (.int (Int32.ofInt (-1))), some (.int (Int32.ofInt 23)), none, none, none, none, none, none, none]) (by rw [(by decide +kernel : (Int32.ofInt 22) + Int32.ofInt 1 = (Int32.ofInt 23))] <;> rfl) ?_
  refine x_goto (M := M_X12_nearest) (tgt := 79) dX12_nearest_216 (by decide) ?_
  refine x_iload (M := M_X12_nearest) dX12_nearest_79 rfl ?_
  refine x_bipush (M := M_X12_nearest) dX12_nearest_81 ?_
  refine x_icmp_ge (M := M_X12_nearest) (tgt := 219) dX12_nearest_83 (by decide) (fun q => absurd q (by decide +kernel)) (fun _ => ?_)
  refine x_aload_n (M := M_X12_nearest) dX12_nearest_86 rfl ?_
  refine x_iload (M := M_X12_nearest) dX12_nearest_87 rfl ?_
  refine x_callVR (M := M_X12_nearest) (M' := M_X12_box) rfl rfl dX12_nearest_89 m_X12_box t_3124 t_3126 s_210 (q5727 hl w5652 o5658) rfl rfl w5652 rfl (Nat.le_of_ble_eq_true rfl) (Nat.le_of_ble_eq_true rfl) (Nat.le_of_ble_eq_true rfl) (Nat.le_of_ble_eq_true rfl) ?_
  refine x_if_ne (M := M_X12_nearest) (tgt := 98) dX12_nearest_92 (by decide) (fun q => absurd q (by decide +kernel)) (fun _ => ?_)
  refine x_goto (M := M_X12_nearest) (tgt := 213) dX12_nearest_95 (by decide) ?_
  refine x_iinc (M := M_X12_nearest) dX12_nearest_213 rfl (Nat.le_of_ble_eq_true rfl) rfl ?_
  refine x_lvs (M := M_X12_nearest) (lv' := [some (.ref 277), some (.int a0), some (.int a1), some (.int a2), some (.long (Int64.ofInt (-1))), none, some (.int (Int32.ofInt (-1))), some (.int (Int32.ofInt 0)), some (.long (Int64.ofInt 0)), none, some (.int (Int32.ofInt (-1))), some (.int (Int32.ofInt 24)), none, none, none, none, none, none, none]) (by rw [(by decide +kernel : (Int32.ofInt 23) + Int32.ofInt 1 = (Int32.ofInt 24))] <;> rfl) ?_
  refine x_goto (M := M_X12_nearest) (tgt := 79) dX12_nearest_216 (by decide) ?_
  refine x_iload (M := M_X12_nearest) dX12_nearest_79 rfl ?_
  refine x_bipush (M := M_X12_nearest) dX12_nearest_81 ?_
  refine x_icmp_ge (M := M_X12_nearest) (tgt := 219) dX12_nearest_83 (by decide) (fun q => absurd q (by decide +kernel)) (fun _ => ?_)
  refine x_aload_n (M := M_X12_nearest) dX12_nearest_86 rfl ?_
  refine x_iload (M := M_X12_nearest) dX12_nearest_87 rfl ?_
  refine x_callVR (M := M_X12_nearest) (M' := M_X12_box) rfl rfl dX12_nearest_89 m_X12_box t_3124 t_3126 s_210 (q5730 hl w5652 o5658) rfl rfl w5652 rfl (Nat.le_of_ble_eq_true rfl) (Nat.le_of_ble_eq_true rfl) (Nat.le_of_ble_eq_true rfl) (Nat.le_of_ble_eq_true rfl) ?_
  refine x_if_ne (M := M_X12_nearest) (tgt := 98) dX12_nearest_92 (by decide) (fun q => absurd q (by decide +kernel)) (fun _ => ?_)
  refine x_goto (M := M_X12_nearest) (tgt := 213) dX12_nearest_95 (by decide) ?_
  refine x_iinc (M := M_X12_nearest) dX12_nearest_213 rfl (Nat.le_of_ble_eq_true rfl) rfl ?_
  refine x_lvs (M := M_X12_nearest) (lv' := [some (.ref 277), some (.int a0), some (.int a1), some (.int a2), some (.long (Int64.ofInt (-1))), none, some (.int (Int32.ofInt (-1))), some (.int (Int32.ofInt 0)), some (.long (Int64.ofInt 0)), none, some (.int (Int32.ofInt (-1))), some (.int (Int32.ofInt 25)), none, none, none, none, none, none, none]) (by rw [(by decide +kernel : (Int32.ofInt 24) + Int32.ofInt 1 = (Int32.ofInt 25))] <;> rfl) ?_
  refine x_goto (M := M_X12_nearest) (tgt := 79) dX12_nearest_216 (by decide) ?_
  refine x_iload (M := M_X12_nearest) dX12_nearest_79 rfl ?_
  refine x_bipush (M := M_X12_nearest) dX12_nearest_81 ?_
  refine x_icmp_ge (M := M_X12_nearest) (tgt := 219) dX12_nearest_83 (by decide) (fun q => absurd q (by decide +kernel)) (fun _ => ?_)
  refine x_aload_n (M := M_X12_nearest) dX12_nearest_86 rfl ?_
  refine x_iload (M := M_X12_nearest) dX12_nearest_87 rfl ?_
  refine x_callVR (M := M_X12_nearest) (M' := M_X12_box) rfl rfl dX12_nearest_89 m_X12_box t_3124 t_3126 s_210 (q5733 hl w5652 o5658) rfl rfl w5652 rfl (Nat.le_of_ble_eq_true rfl) (Nat.le_of_ble_eq_true rfl) (Nat.le_of_ble_eq_true rfl) (Nat.le_of_ble_eq_true rfl) ?_
  refine x_if_ne (M := M_X12_nearest) (tgt := 98) dX12_nearest_92 (by decide) (fun q => absurd q (by decide +kernel)) (fun _ => ?_)
  refine x_goto (M := M_X12_nearest) (tgt := 213) dX12_nearest_95 (by decide) ?_
  refine x_iinc (M := M_X12_nearest) dX12_nearest_213 rfl (Nat.le_of_ble_eq_true rfl) rfl ?_
  refine x_lvs (M := M_X12_nearest) (lv' := [some (.ref 277), some (.int a0), some (.int a1), some (.int a2), some (.long (Int64.ofInt (-1))), none, some (.int (Int32.ofInt (-1))), some (.int (Int32.ofInt 0)), some (.long (Int64.ofInt 0)), none, some (.int (Int32.ofInt (-1))), some (.int (Int32.ofInt 26)), none, none, none, none, none, none, none]) (by rw [(by decide +kernel : (Int32.ofInt 25) + Int32.ofInt 1 = (Int32.ofInt 26))] <;> rfl) ?_
  refine x_goto (M := M_X12_nearest) (tgt := 79) dX12_nearest_216 (by decide) ?_
  refine x_iload (M := M_X12_nearest) dX12_nearest_79 rfl ?_
  refine x_bipush (M := M_X12_nearest) dX12_nearest_81 ?_
  refine x_icmp_ge (M := M_X12_nearest) (tgt := 219) dX12_nearest_83 (by decide) (fun q => absurd q (by decide +kernel)) (fun _ => ?_)
  refine x_aload_n (M := M_X12_nearest) dX12_nearest_86 rfl ?_
  refine x_iload (M := M_X12_nearest) dX12_nearest_87 rfl ?_
  refine x_callVR (M := M_X12_nearest) (M' := M_X12_box) rfl rfl dX12_nearest_89 m_X12_box t_3124 t_3126 s_210 (q5736 hl w5652 o5658) rfl rfl w5652 rfl (Nat.le_of_ble_eq_true rfl) (Nat.le_of_ble_eq_true rfl) (Nat.le_of_ble_eq_true rfl) (Nat.le_of_ble_eq_true rfl) ?_
  refine x_if_ne (M := M_X12_nearest) (tgt := 98) dX12_nearest_92 (by decide) (fun q => absurd q (by decide +kernel)) (fun _ => ?_)
  refine x_goto (M := M_X12_nearest) (tgt := 213) dX12_nearest_95 (by decide) ?_
  refine x_iinc (M := M_X12_nearest) dX12_nearest_213 rfl (Nat.le_of_ble_eq_true rfl) rfl ?_
  refine x_lvs (M := M_X12_nearest) (lv' := [some (.ref 277), some (.int a0), some (.int a1), some (.int a2), some (.long (Int64.ofInt (-1))), none, some (.int (Int32.ofInt (-1))), some (.int (Int32.ofInt 0)), some (.long (Int64.ofInt 0)), none, some (.int (Int32.ofInt (-1))), some (.int (Int32.ofInt 27)), none, none, none, none, none, none, none]) (by rw [(by decide +kernel : (Int32.ofInt 26) + Int32.ofInt 1 = (Int32.ofInt 27))] <;> rfl) ?_
  refine x_goto (M := M_X12_nearest) (tgt := 79) dX12_nearest_216 (by decide) ?_
  refine x_iload (M := M_X12_nearest) dX12_nearest_79 rfl ?_
  refine x_bipush (M := M_X12_nearest) dX12_nearest_81 ?_
  refine x_icmp_ge (M := M_X12_nearest) (tgt := 219) dX12_nearest_83 (by decide) (fun q => absurd q (by decide +kernel)) (fun _ => ?_)
  refine x_aload_n (M := M_X12_nearest) dX12_nearest_86 rfl ?_
  refine x_iload (M := M_X12_nearest) dX12_nearest_87 rfl ?_
  refine x_callVR (M := M_X12_nearest) (M' := M_X12_box) rfl rfl dX12_nearest_89 m_X12_box t_3124 t_3126 s_210 (q5739 hl w5652 o5658) rfl rfl w5652 rfl (Nat.le_of_ble_eq_true rfl) (Nat.le_of_ble_eq_true rfl) (Nat.le_of_ble_eq_true rfl) (Nat.le_of_ble_eq_true rfl) ?_
  refine x_if_ne (M := M_X12_nearest) (tgt := 98) dX12_nearest_92 (by decide) (fun q => absurd q (by decide +kernel)) (fun _ => ?_)
  refine x_goto (M := M_X12_nearest) (tgt := 213) dX12_nearest_95 (by decide) ?_
  refine x_iinc (M := M_X12_nearest) dX12_nearest_213 rfl (Nat.le_of_ble_eq_true rfl) rfl ?_
  refine x_lvs (M := M_X12_nearest) (lv' := [some (.ref 277), some (.int a0), some (.int a1), some (.int a2), some (.long (Int64.ofInt (-1))), none, some (.int (Int32.ofInt (-1))), some (.int (Int32.ofInt 0)), some (.long (Int64.ofInt 0)), none, some (.int (Int32.ofInt (-1))), some (.int (Int32.ofInt 28)), none, none, none, none, none, none, none]) (by rw [(by decide +kernel : (Int32.ofInt 27) + Int32.ofInt 1 = (Int32.ofInt 28))] <;> rfl) ?_
  refine x_goto (M := M_X12_nearest) (tgt := 79) dX12_nearest_216 (by decide) ?_
  refine x_iload (M := M_X12_nearest) dX12_nearest_79 rfl ?_
  refine x_bipush (M := M_X12_nearest) dX12_nearest_81 ?_
  refine x_icmp_ge (M := M_X12_nearest) (tgt := 219) dX12_nearest_83 (by decide) (fun q => absurd q (by decide +kernel)) (fun _ => ?_)
  refine x_aload_n (M := M_X12_nearest) dX12_nearest_86 rfl ?_
  refine x_iload (M := M_X12_nearest) dX12_nearest_87 rfl ?_
  refine x_callVR (M := M_X12_nearest) (M' := M_X12_box) rfl rfl dX12_nearest_89 m_X12_box t_3124 t_3126 s_210 (q5742 hl w5652 o5658) rfl rfl w5652 rfl (Nat.le_of_ble_eq_true rfl) (Nat.le_of_ble_eq_true rfl) (Nat.le_of_ble_eq_true rfl) (Nat.le_of_ble_eq_true rfl) ?_
  refine x_if_ne (M := M_X12_nearest) (tgt := 98) dX12_nearest_92 (by decide) (fun q => absurd q (by decide +kernel)) (fun _ => ?_)
  refine x_goto (M := M_X12_nearest) (tgt := 213) dX12_nearest_95 (by decide) ?_
  refine x_iinc (M := M_X12_nearest) dX12_nearest_213 rfl (Nat.le_of_ble_eq_true rfl) rfl ?_
  refine x_lvs (M := M_X12_nearest) (lv' := [some (.ref 277), some (.int a0), some (.int a1), some (.int a2), some (.long (Int64.ofInt (-1))), none, some (.int (Int32.ofInt (-1))), some (.int (Int32.ofInt 0)), some (.long (Int64.ofInt 0)), none, some (.int (Int32.ofInt (-1))), some (.int (Int32.ofInt 29)), none, none, none, none, none, none, none]) (by rw [(by decide +kernel : (Int32.ofInt 28) + Int32.ofInt 1 = (Int32.ofInt 29))] <;> rfl) ?_
  refine x_goto (M := M_X12_nearest) (tgt := 79) dX12_nearest_216 (by decide) ?_
  refine x_iload (M := M_X12_nearest) dX12_nearest_79 rfl ?_
  refine x_bipush (M := M_X12_nearest) dX12_nearest_81 ?_
  refine x_icmp_ge (M := M_X12_nearest) (tgt := 219) dX12_nearest_83 (by decide) (fun q => absurd q (by decide +kernel)) (fun _ => ?_)
  refine x_aload_n (M := M_X12_nearest) dX12_nearest_86 rfl ?_
  refine x_iload (M := M_X12_nearest) dX12_nearest_87 rfl ?_
  refine x_callVR (M := M_X12_nearest) (M' := M_X12_box) rfl rfl dX12_nearest_89 m_X12_box t_3124 t_3126 s_210 (q5745 hl w5652 o5658) rfl rfl w5652 rfl (Nat.le_of_ble_eq_true rfl) (Nat.le_of_ble_eq_true rfl) (Nat.le_of_ble_eq_true rfl) (Nat.le_of_ble_eq_true rfl) ?_
  refine x_if_ne (M := M_X12_nearest) (tgt := 98) dX12_nearest_92 (by decide) (fun q => absurd q (by decide +kernel)) (fun _ => ?_)
  refine x_goto (M := M_X12_nearest) (tgt := 213) dX12_nearest_95 (by decide) ?_
  refine x_iinc (M := M_X12_nearest) dX12_nearest_213 rfl (Nat.le_of_ble_eq_true rfl) rfl ?_
  refine x_lvs (M := M_X12_nearest) (lv' := [some (.ref 277), some (.int a0), some (.int a1), some (.int a2), some (.long (Int64.ofInt (-1))), none, some (.int (Int32.ofInt (-1))), some (.int (Int32.ofInt 0)), some (.long (Int64.ofInt 0)), none, some (.int (Int32.ofInt (-1))), some (.int (Int32.ofInt 30)), none, none, none, none, none, none, none]) (by rw [(by decide +kernel : (Int32.ofInt 29) + Int32.ofInt 1 = (Int32.ofInt 30))] <;> rfl) ?_
  refine x_goto (M := M_X12_nearest) (tgt := 79) dX12_nearest_216 (by decide) ?_
  refine x_iload (M := M_X12_nearest) dX12_nearest_79 rfl ?_
  refine x_bipush (M := M_X12_nearest) dX12_nearest_81 ?_
  refine x_icmp_ge (M := M_X12_nearest) (tgt := 219) dX12_nearest_83 (by decide) (fun q => absurd q (by decide +kernel)) (fun _ => ?_)
  refine x_aload_n (M := M_X12_nearest) dX12_nearest_86 rfl ?_
  refine x_iload (M := M_X12_nearest) dX12_nearest_87 rfl ?_
  refine x_callVR (M := M_X12_nearest) (M' := M_X12_box) rfl rfl dX12_nearest_89 m_X12_box t_3124 t_3126 s_210 (q5748 hl w5652 o5658) rfl rfl w5652 rfl (Nat.le_of_ble_eq_true rfl) (Nat.le_of_ble_eq_true rfl) (Nat.le_of_ble_eq_true rfl) (Nat.le_of_ble_eq_true rfl) ?_
  refine x_if_ne (M := M_X12_nearest) (tgt := 98) dX12_nearest_92 (by decide) (fun q => absurd q (by decide +kernel)) (fun _ => ?_)
  refine x_goto (M := M_X12_nearest) (tgt := 213) dX12_nearest_95 (by decide) ?_
  refine x_iinc (M := M_X12_nearest) dX12_nearest_213 rfl (Nat.le_of_ble_eq_true rfl) rfl ?_
  refine x_lvs (M := M_X12_nearest) (lv' := [some (.ref 277), some (.int a0), some (.int a1), some (.int a2), some (.long (Int64.ofInt (-1))), none, some (.int (Int32.ofInt (-1))), some (.int (Int32.ofInt 0)), some (.long (Int64.ofInt 0)), none, some (.int (Int32.ofInt (-1))), some (.int (Int32.ofInt 31)), none, none, none, none, none, none, none]) (by rw [(by decide +kernel : (Int32.ofInt 30) + Int32.ofInt 1 = (Int32.ofInt 31))] <;> rfl) ?_
  refine x_goto (M := M_X12_nearest) (tgt := 79) dX12_nearest_216 (by decide) ?_
  refine x_iload (M := M_X12_nearest) dX12_nearest_79 rfl ?_
  refine x_bipush (M := M_X12_nearest) dX12_nearest_81 ?_
  refine x_icmp_ge (M := M_X12_nearest) (tgt := 219) dX12_nearest_83 (by decide) (fun q => absurd q (by decide +kernel)) (fun _ => ?_)
  refine x_aload_n (M := M_X12_nearest) dX12_nearest_86 rfl ?_
  refine x_iload (M := M_X12_nearest) dX12_nearest_87 rfl ?_
  refine x_callVR (M := M_X12_nearest) (M' := M_X12_box) rfl rfl dX12_nearest_89 m_X12_box t_3124 t_3126 s_210 (q5751 hl w5652 o5658) rfl rfl w5652 rfl (Nat.le_of_ble_eq_true rfl) (Nat.le_of_ble_eq_true rfl) (Nat.le_of_ble_eq_true rfl) (Nat.le_of_ble_eq_true rfl) ?_
  refine x_if_ne (M := M_X12_nearest) (tgt := 98) dX12_nearest_92 (by decide) (fun q => absurd q (by decide +kernel)) (fun _ => ?_)
  refine x_goto (M := M_X12_nearest) (tgt := 213) dX12_nearest_95 (by decide) ?_
  refine x_iinc (M := M_X12_nearest) dX12_nearest_213 rfl (Nat.le_of_ble_eq_true rfl) rfl ?_
  refine x_lvs (M := M_X12_nearest) (lv' := [some (.ref 277), some (.int a0), some (.int a1), some (.int a2), some (.long (Int64.ofInt (-1))), none, some (.int (Int32.ofInt (-1))), some (.int (Int32.ofInt 0)), some (.long (Int64.ofInt 0)), none, some (.int (Int32.ofInt (-1))), some (.int (Int32.ofInt 32)), none, none, none, none, none, none, none]) (by rw [(by decide +kernel : (Int32.ofInt 31) + Int32.ofInt 1 = (Int32.ofInt 32))] <;> rfl) ?_
  refine x_goto (M := M_X12_nearest) (tgt := 79) dX12_nearest_216 (by decide) ?_
  refine x_iload (M := M_X12_nearest) dX12_nearest_79 rfl ?_
  refine x_bipush (M := M_X12_nearest) dX12_nearest_81 ?_
  refine x_icmp_ge (M := M_X12_nearest) (tgt := 219) dX12_nearest_83 (by decide) (fun _ => ?_) (fun q => absurd q (by decide +kernel))
  refine x_iload (M := M_X12_nearest) dX12_nearest_219 rfl ?_
  refine x_iconst (M := M_X12_nearest) dX12_nearest_221 ?_
  refine x_icmp_ne (M := M_X12_nearest) (tgt := 230) dX12_nearest_222 (by decide) (fun q => absurd q (by decide +kernel)) (fun _ => ?_)
  refine x_aload_n (M := M_X12_nearest) dX12_nearest_225 rfl ?_
  refine x_getf (M := M_X12_nearest) (ci := 15) (C := RX12) (T := TX12) (N := 135) (ty := tyX12) cl15 dX12_nearest_226 w5652 16 (by decide) t_2407 (v := .int (Int32.ofInt 0)) rfl ?_
  exact x_iret (M := M_X12_nearest) dX12_nearest_229 rfl ⟨rfl, (fr_tr f5653 (by decide) (fr_tr f5648 (by decide) (fr_tr f5644 (by decide) fr_rf))), ⟨w5652, trivial⟩⟩ (Nat.le_of_ble_eq_true rfl) (Nat.le_of_ble_eq_true rfl)
set_option maxRecDepth 10000 in
theorem q5762 {l : Launch} {E : EE} (hl : l.stackTraces = false) {h : HP} {dg : Int32} (o5761 : ob h 277 = some (.inr (15, (((RB dg).set 0 (.int (Int32.ofInt 0))).set 16 (.int (Int32.ofInt 0)))))) : en_C l E M_X12_thrown 0 0 0 [.ref 277] h (pR (some (.int (Int32.ofInt 0))) h) := by
  refine en_mk m_X12_thrown rfl hl (Nat.le_of_ble_eq_true rfl) ?_
  refine x_aload_n (M := M_X12_thrown) dX12_thrown_0 rfl ?_
  refine x_getf (M := M_X12_thrown) (ci := 15) (C := RX12) (T := TX12) (N := 135) (ty := tyX12) cl15 dX12_thrown_1 o5761 0 (by decide) t_2391 (v := .int (Int32.ofInt 0)) rfl ?_
  exact x_iret (M := M_X12_thrown) dX12_thrown_4 rfl ⟨rfl, rfl⟩ (Nat.le_of_ble_eq_true rfl) (Nat.le_of_ble_eq_true rfl)
set_option maxRecDepth 10000 in
theorem lc24_6 {l : Launch} {E : EE} (hl : l.stackTraces = false) (nm : String) {xs : Nat → Int32} (hx : E.2.2.2.2 0 = some (7, xs)) {h : HP} {a0 : Int32} {a1 : Int32} {a2 : Int32} {dg : Int32} (e2 : xs 2 = a0) (e3 : xs 3 = a1) (e4 : xs 4 = a2) (c0 : ¬ (a2.toInt < 1)) (c1 : ¬ (32 < a2.toInt)) (c2 : ¬ (a0.toInt < (-1000000000))) (c3 : ¬ (1000000000 < a0.toInt)) (c4 : ¬ (a1.toInt < (-1000000000))) (c5 : ¬ (1000000000 < a1.toInt)) (o5602 : ob h 32 = some (.inr (14, [.ref 33, .ref 162, .ref 166, .int (0 : Int32), .int (0 : Int32), .int (0 : Int32), .ref 167, .ref 170, .ref 173, .ref 177, .ref 193, .ref 208, .ref 222, .ref 238, .ref 252, .ref 274, .ref 275, .ref 276, .int (0 : Int32)]))) (o5603 : ob h 33 = some (.inl (4, 32, .inr (.inr (.inr (.inr (shf 1 32))))))) (o5604 : ob h 34 = some (.inr (9, [.ref 35, .ref 36, .ref 37, .int (0 : Int32), .int (0 : Int32)]))) (o5605 : ob h 38 = some (.inr (9, [.ref 39, .ref 40, .ref 41, .int (0 : Int32), .int (0 : Int32)]))) (o5606 : ob h 42 = some (.inr (9, [.ref 43, .ref 44, .ref 45, .int (0 : Int32), .int (0 : Int32)]))) (o5607 : ob h 46 = some (.inr (9, [.ref 47, .ref 48, .ref 49, .int (0 : Int32), .int (0 : Int32)]))) (o5608 : ob h 50 = some (.inr (9, [.ref 51, .ref 52, .ref 53, .int (0 : Int32), .int (0 : Int32)]))) (o5609 : ob h 54 = some (.inr (9, [.ref 55, .ref 56, .ref 57, .int (0 : Int32), .int (0 : Int32)]))) (o5610 : ob h 58 = some (.inr (9, [.ref 59, .ref 60, .ref 61, .int (0 : Int32), .int (0 : Int32)]))) (o5611 : ob h 62 = some (.inr (9, [.ref 63, .ref 64, .ref 65, .int (0 : Int32), .int (0 : Int32)]))) (o5612 : ob h 66 = some (.inr (9, [.ref 67, .ref 68, .ref 69, .int (0 : Int32), .int (0 : Int32)]))) (o5613 : ob h 70 = some (.inr (9, [.ref 71, .ref 72, .ref 73, .int (0 : Int32), .int (0 : Int32)]))) (o5614 : ob h 74 = some (.inr (9, [.ref 75, .ref 76, .ref 77, .int (0 : Int32), .int (0 : Int32)]))) (o5615 : ob h 78 = some (.inr (9, [.ref 79, .ref 80, .ref 81, .int (0 : Int32), .int (0 : Int32)]))) (o5616 : ob h 82 = some (.inr (9, [.ref 83, .ref 84, .ref 85, .int (0 : Int32), .int (0 : Int32)]))) (o5617 : ob h 86 = some (.inr (9, [.ref 87, .ref 88, .ref 89, .int (0 : Int32), .int (0 : Int32)]))) (o5618 : ob h 90 = some (.inr (9, [.ref 91, .ref 92, .ref 93, .int (0 : Int32), .int (0 : Int32)]))) (o5619 : ob h 94 = some (.inr (9, [.ref 95, .ref 96, .ref 97, .int (0 : Int32), .int (0 : Int32)]))) (o5620 : ob h 98 = some (.inr (9, [.ref 99, .ref 100, .ref 101, .int (0 : Int32), .int (0 : Int32)]))) (o5621 : ob h 102 = some (.inr (9, [.ref 103, .ref 104, .ref 105, .int (0 : Int32), .int (0 : Int32)]))) (o5622 : ob h 106 = some (.inr (9, [.ref 107, .ref 108, .ref 109, .int (0 : Int32), .int (0 : Int32)]))) (o5623 : ob h 110 = some (.inr (9, [.ref 111, .ref 112, .ref 113, .int (0 : Int32), .int (0 : Int32)]))) (o5624 : ob h 114 = some (.inr (9, [.ref 115, .ref 116, .ref 117, .int (0 : Int32), .int (0 : Int32)]))) (o5625 : ob h 118 = some (.inr (9, [.ref 119, .ref 120, .ref 121, .int (0 : Int32), .int (0 : Int32)]))) (o5626 : ob h 122 = some (.inr (9, [.ref 123, .ref 124, .ref 125, .int (0 : Int32), .int (0 : Int32)]))) (o5627 : ob h 126 = some (.inr (9, [.ref 127, .ref 128, .ref 129, .int (0 : Int32), .int (0 : Int32)]))) (o5628 : ob h 130 = some (.inr (9, [.ref 131, .ref 132, .ref 133, .int (0 : Int32), .int (0 : Int32)]))) (o5629 : ob h 134 = some (.inr (9, [.ref 135, .ref 136, .ref 137, .int (0 : Int32), .int (0 : Int32)]))) (o5630 : ob h 138 = some (.inr (9, [.ref 139, .ref 140, .ref 141, .int (0 : Int32), .int (0 : Int32)]))) (o5631 : ob h 142 = some (.inr (9, [.ref 143, .ref 144, .ref 145, .int (0 : Int32), .int (0 : Int32)]))) (o5632 : ob h 146 = some (.inr (9, [.ref 147, .ref 148, .ref 149, .int (0 : Int32), .int (0 : Int32)]))) (o5633 : ob h 150 = some (.inr (9, [.ref 151, .ref 152, .ref 153, .int (0 : Int32), .int (0 : Int32)]))) (o5634 : ob h 154 = some (.inr (9, [.ref 155, .ref 156, .ref 157, .int (0 : Int32), .int (0 : Int32)]))) (o5635 : ob h 158 = some (.inr (9, [.ref 159, .ref 160, .ref 161, .int (0 : Int32), .int (0 : Int32)]))) (o5636 : ob h 359 = some (.inl (1, 1, .inr (.inl (fun _ => 0))))) (o5753 : ob h 277 = some (.inr (15, (RB dg)))) (o5755 : ob h 282 = some (.inl (0, 33, .inl (fun _ => 0)))) : XX l E (M_law nm) 1312 342628 8074320 (fun o _ => o = .inl (some (.int 1))) 1801 [some (.ref 0), some (.ref 32), some (.ref 277), some (.ref 359), some (.int (Int32.ofInt 1)), none, none, none] [] h 328 2463747 := by
  refine x_aload_n (M := (M_law nm)) dL_law_1801 rfl ?_
  refine x_aload_n (M := (M_law nm)) dL_law_1802 rfl ?_
  refine x_iload (M := (M_law nm)) dL_law_1803 rfl ?_
  refine x_iconst (M := (M_law nm)) dL_law_1805 ?_
  refine x_iadd (M := (M_law nm)) dL_law_1806 ?_
  refine x_sald (M := (M_law nm)) dL_law_1807 (by decide) hx (vp_inD (by decide +kernel)) ?_
  refine x_top (M := (M_law nm)) (y := a0) ((congrArg xs (by decide +kernel : ((Int32.ofInt 1) + (Int32.ofInt 1)).toNatClampNeg = 2)).trans e2) ?_
  refine x_aload_n (M := (M_law nm)) dL_law_1808 rfl ?_
  refine x_iload (M := (M_law nm)) dL_law_1809 rfl ?_
  refine x_iconst (M := (M_law nm)) dL_law_1811 ?_
  refine x_iadd (M := (M_law nm)) dL_law_1812 ?_
  refine x_sald (M := (M_law nm)) dL_law_1813 (by decide) hx (vp_inD (by decide +kernel)) ?_
  refine x_top (M := (M_law nm)) (y := a1) ((congrArg xs (by decide +kernel : ((Int32.ofInt 1) + (Int32.ofInt 2)).toNatClampNeg = 3)).trans e3) ?_
  refine x_aload_n (M := (M_law nm)) dL_law_1814 rfl ?_
  refine x_iload (M := (M_law nm)) dL_law_1815 rfl ?_
  refine x_iconst (M := (M_law nm)) dL_law_1817 ?_
  refine x_iadd (M := (M_law nm)) dL_law_1818 ?_
  refine x_sald (M := (M_law nm)) dL_law_1819 (by decide) hx (vp_inD (by decide +kernel)) ?_
  refine x_top (M := (M_law nm)) (y := a2) ((congrArg xs (by decide +kernel : ((Int32.ofInt 1) + (Int32.ofInt 3)).toNatClampNeg = 4)).trans e4) ?_
  refine x_aload_n (M := (M_law nm)) dL_law_1820 rfl ?_
  refine y_callSW (M := (M_law nm)) (M' := M_L_nearest) rfl rfl dL_law_1821 m_L_nearest t_2254 t_2255 (q5601 hl c0 c1 c2 c3 c4 c5 o5602 o5603 o5604 o5605 o5606 o5607 o5608 o5609 o5610 o5611 o5612 o5613 o5614 o5615 o5616 o5617 o5618 o5619 o5620 o5621 o5622 o5623 o5624 o5625 o5626 o5627 o5628 o5629 o5630 o5631 o5632 o5633 o5634 o5635 o5636) rfl rfl (Nat.le_of_ble_eq_true rfl) (Nat.le_of_ble_eq_true rfl) (Nat.le_of_ble_eq_true rfl) (Nat.le_of_ble_eq_true rfl) (fun h5637 f5638 w5639 => ?_)
  obtain ⟨o5640, -⟩ := w5639
  refine x_istore (M := (M_law nm)) dL_law_1824 (Nat.le_of_ble_eq_true rfl) rfl ?_
  refine x_aload_n (M := (M_law nm)) dL_law_1826 rfl ?_
  refine x_aload_n (M := (M_law nm)) dL_law_1827 rfl ?_
  refine x_iload (M := (M_law nm)) dL_law_1828 rfl ?_
  refine x_iconst (M := (M_law nm)) dL_law_1830 ?_
  refine x_iadd (M := (M_law nm)) dL_law_1831 ?_
  refine x_sald (M := (M_law nm)) dL_law_1832 (by decide) hx (vp_inD (by decide +kernel)) ?_
  refine x_top (M := (M_law nm)) (y := a0) ((congrArg xs (by decide +kernel : ((Int32.ofInt 1) + (Int32.ofInt 1)).toNatClampNeg = 2)).trans e2) ?_
  refine x_aload_n (M := (M_law nm)) dL_law_1833 rfl ?_
  refine x_iload (M := (M_law nm)) dL_law_1834 rfl ?_
  refine x_iconst (M := (M_law nm)) dL_law_1836 ?_
  refine x_iadd (M := (M_law nm)) dL_law_1837 ?_
  refine x_sald (M := (M_law nm)) dL_law_1838 (by decide) hx (vp_inD (by decide +kernel)) ?_
  refine x_top (M := (M_law nm)) (y := a1) ((congrArg xs (by decide +kernel : ((Int32.ofInt 1) + (Int32.ofInt 2)).toNatClampNeg = 3)).trans e3) ?_
  refine x_aload_n (M := (M_law nm)) dL_law_1839 rfl ?_
  refine x_iload (M := (M_law nm)) dL_law_1840 rfl ?_
  refine x_iconst (M := (M_law nm)) dL_law_1842 ?_
  refine x_iadd (M := (M_law nm)) dL_law_1843 ?_
  refine x_sald (M := (M_law nm)) dL_law_1844 (by decide) hx (vp_inD (by decide +kernel)) ?_
  refine x_top (M := (M_law nm)) (y := a2) ((congrArg xs (by decide +kernel : ((Int32.ofInt 1) + (Int32.ofInt 3)).toNatClampNeg = 4)).trans e4) ?_
  have o5754 := (f5638 277 _ (by decide) o5753)
  have o5756 := (f5638 282 _ (by decide) o5755)
  refine y_callVR (M := (M_law nm)) (M' := M_X12_nearest) rfl rfl dL_law_1845 m_X12_nearest t_3137 t_3138 t_3139 (q5752 hl c0 c1 c2 c3 c4 c5 o5754 o5756) rfl rfl o5754 rfl (Nat.le_of_ble_eq_true rfl) (Nat.le_of_ble_eq_true rfl) (Nat.le_of_ble_eq_true rfl) (Nat.le_of_ble_eq_true rfl) (fun h5757 f5758 w5759 => ?_)
  obtain ⟨o5760, -⟩ := w5759
  refine x_istore (M := (M_law nm)) dL_law_1848 (Nat.le_of_ble_eq_true rfl) rfl ?_
  refine x_aload_n (M := (M_law nm)) dL_law_1850 rfl ?_
  refine x_callVR (M := (M_law nm)) (M' := M_X12_thrown) rfl rfl dL_law_1851 m_X12_thrown t_2797 t_2798 t_2799 (q5762 hl o5760) rfl rfl o5760 rfl (Nat.le_of_ble_eq_true rfl) (Nat.le_of_ble_eq_true rfl) (Nat.le_of_ble_eq_true rfl) (Nat.le_of_ble_eq_true rfl) ?_
  refine x_iload (M := (M_law nm)) dL_law_1854 rfl ?_
  refine x_icmp_eq (M := (M_law nm)) (tgt := 1861) dL_law_1856 (by decide) (fun _ => ?_) (fun q => absurd q (by decide +kernel))
  refine x_iload (M := (M_law nm)) dL_law_1861 rfl ?_
  refine x_if_ne (M := (M_law nm)) (tgt := 1878) dL_law_1863 (by decide) (fun q => absurd q (by decide +kernel)) (fun _ => ?_)
  refine x_aload_n (M := (M_law nm)) dL_law_1866 rfl ?_
  refine x_iconst (M := (M_law nm)) dL_law_1867 ?_
  have o5763 := (f5758 359 _ (by decide) o5640)
  refine x_lald (M := (M_law nm)) dL_law_1868 o5763 (vp_inD (by decide +kernel)) ?_
  refine x_topl (M := (M_law nm)) (y := (Int64.ofInt 0)) (by decide +kernel) ?_
  refine x_iload (M := (M_law nm)) dL_law_1869 rfl ?_
  refine x_i2l (M := (M_law nm)) dL_law_1871 ?_
  refine x_lcmp (M := (M_law nm)) dL_law_1872 ?_
  refine x_if_eq (M := (M_law nm)) (tgt := 1878) dL_law_1873 (by decide) (fun _ => ?_) (fun q => absurd q (by decide +kernel))
  refine x_goto (M := (M_law nm)) (tgt := 2449) dL_law_1878 (by decide) ?_
  refine x_iinc (M := (M_law nm)) dL_law_2449 rfl (Nat.le_of_ble_eq_true rfl) rfl ?_
  refine x_lvs (M := (M_law nm)) (lv' := [some (.ref 0), some (.ref 32), some (.ref 277), some (.ref 359), some (.int (Int32.ofInt 7)), some (.int (Int32.ofInt 0)), some (.int (Int32.ofInt 0)), none]) (by rw [(by decide +kernel : (Int32.ofInt 1) + Int32.ofInt 6 = (Int32.ofInt 7))] <;> rfl) ?_
  refine x_goto (M := (M_law nm)) (tgt := 33) dL_law_2452 (by decide) ?_
  refine x_iload (M := (M_law nm)) dL_law_33 rfl ?_
  refine x_aload_n (M := (M_law nm)) dL_law_35 rfl ?_
  refine x_slen (M := (M_law nm)) dL_law_36 (by decide) hx ?_
  refine x_bipush (M := (M_law nm)) dL_law_37 ?_
  refine x_isub (M := (M_law nm)) dL_law_39 ?_
  refine x_icmp_gt (M := (M_law nm)) (tgt := 2455) dL_law_40 (by decide) (fun _ => ?_) (fun q => absurd q (by decide +kernel))
  refine x_iconst (M := (M_law nm)) dL_law_2455 ?_
  exact x_zret (M := (M_law nm)) dL_law_2456 rfl (by decide) rfl (Nat.le_of_ble_eq_true rfl) (Nat.le_of_ble_eq_true rfl)
theorem lop24 {l : Launch} {E : EE} (hl : l.stackTraces = false) (nm : String) {xs : Nat → Int32} (hx : E.2.2.2.2 0 = some (7, xs)) (dg : Int32) : XX l E (M_law nm) 1312 342628 8074320 (fun o _ => o = .inl (some (.int 1))) 1801 [some (.ref 0), some (.ref 32), some (.ref 277), some (.ref 359), some (.int (Int32.ofInt 1)), none, none, none] [] (HH dg) 328 2463747 := by
  obtain ⟨a0, e2⟩ : ∃ a : Int32, xs 2 = a := ⟨_, rfl⟩
  obtain ⟨a1, e3⟩ : ∃ a : Int32, xs 3 = a := ⟨_, rfl⟩
  obtain ⟨a2, e4⟩ : ∃ a : Int32, xs 4 = a := ⟨_, rfl⟩
  obtain ⟨a3, e5⟩ : ∃ a : Int32, xs 5 = a := ⟨_, rfl⟩
  obtain ⟨a4, e6⟩ : ∃ a : Int32, xs 6 = a := ⟨_, rfl⟩
  by_cases c0 : a2.toInt < 1
  · exact lc24_0 hl nm hx e2 e3 e4 c0 (o_32 dg) (o_277b dg)
  · by_cases c1 : 32 < a2.toInt
    · exact lc24_1 hl nm hx e2 e3 e4 c0 c1 (o_32 dg) (o_277b dg)
    · by_cases c2 : a0.toInt < (-1000000000)
      · exact lc24_2 hl nm hx e2 e3 e4 c0 c1 c2 (o_32 dg) (o_277b dg)
      · by_cases c3 : 1000000000 < a0.toInt
        · exact lc24_3 hl nm hx e2 e3 e4 c0 c1 c2 c3 (o_32 dg) (o_277b dg)
        · by_cases c4 : a1.toInt < (-1000000000)
          · exact lc24_4 hl nm hx e2 e3 e4 c0 c1 c2 c3 c4 (o_32 dg) (o_277b dg)
          · by_cases c5 : 1000000000 < a1.toInt
            · exact lc24_5 hl nm hx e2 e3 e4 c0 c1 c2 c3 c4 c5 (o_32 dg) (o_277b dg)
            · exact lc24_6 hl nm hx e2 e3 e4 c0 c1 c2 c3 c4 c5 (o_32 dg) (o_33 dg) (o_sh dg 0 (by decide)) (o_sh dg 1 (by decide)) (o_sh dg 2 (by decide)) (o_sh dg 3 (by decide)) (o_sh dg 4 (by decide)) (o_sh dg 5 (by decide)) (o_sh dg 6 (by decide)) (o_sh dg 7 (by decide)) (o_sh dg 8 (by decide)) (o_sh dg 9 (by decide)) (o_sh dg 10 (by decide)) (o_sh dg 11 (by decide)) (o_sh dg 12 (by decide)) (o_sh dg 13 (by decide)) (o_sh dg 14 (by decide)) (o_sh dg 15 (by decide)) (o_sh dg 16 (by decide)) (o_sh dg 17 (by decide)) (o_sh dg 18 (by decide)) (o_sh dg 19 (by decide)) (o_sh dg 20 (by decide)) (o_sh dg 21 (by decide)) (o_sh dg 22 (by decide)) (o_sh dg 23 (by decide)) (o_sh dg 24 (by decide)) (o_sh dg 25 (by decide)) (o_sh dg 26 (by decide)) (o_sh dg 27 (by decide)) (o_sh dg 28 (by decide)) (o_sh dg 29 (by decide)) (o_sh dg 30 (by decide)) (o_sh dg 31 (by decide)) (o_359 dg) (o_277b dg) (oMR (dg := dg) (k := 4) rfl)
end CAS
