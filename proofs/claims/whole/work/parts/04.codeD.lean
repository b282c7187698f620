theorem dM_init_0 : decode cM_init 0 = .ok (.aload_n 0, 1) := by decide +kernel
theorem dM_init_1 : decode cM_init 1 = .ok (.invokespecial 1, 3) := by decide +kernel
theorem dM_init_4 : decode cM_init 4 = .ok (.aload_n 0, 1) := by decide +kernel
theorem dM_init_5 : decode cM_init 5 = .ok (.sipush 300, 3) := by decide +kernel
theorem dM_init_8 : decode cM_init 8 = .ok (.newarray .int, 2) := by decide +kernel
theorem dM_init_10 : decode cM_init 10 = .ok (.putfield 7, 3) := by decide +kernel
theorem dM_init_13 : decode cM_init 13 = .ok (.aload_n 0, 1) := by decide +kernel
theorem dM_init_14 : decode cM_init 14 = .ok (.sipush 300, 3) := by decide +kernel
theorem dM_init_17 : decode cM_init 17 = .ok (.newarray .int, 2) := by decide +kernel
theorem dM_init_19 : decode cM_init 19 = .ok (.putfield 13, 3) := by decide +kernel
theorem dM_init_22 : decode cM_init 22 = .ok (.aload_n 0, 1) := by decide +kernel
theorem dM_init_23 : decode cM_init 23 = .ok (.sipush 2000, 3) := by decide +kernel
theorem dM_init_26 : decode cM_init 26 = .ok (.newarray .int, 2) := by decide +kernel
theorem dM_init_28 : decode cM_init 28 = .ok (.putfield 16, 3) := by decide +kernel
theorem dM_init_31 : decode cM_init 31 = .ok (.aload_n 0, 1) := by decide +kernel
theorem dM_init_32 : decode cM_init 32 = .ok (.sipush 2000, 3) := by decide +kernel
theorem dM_init_35 : decode cM_init 35 = .ok (.newarray .int, 2) := by decide +kernel
theorem dM_init_37 : decode cM_init 37 = .ok (.putfield 19, 3) := by decide +kernel
theorem dM_init_40 : decode cM_init 40 = .ok (.aload_n 0, 1) := by decide +kernel
theorem dM_init_41 : decode cM_init 41 = .ok (.sipush 2000, 3) := by decide +kernel
theorem dM_init_44 : decode cM_init 44 = .ok (.newarray .int, 2) := by decide +kernel
theorem dM_init_46 : decode cM_init 46 = .ok (.putfield 22, 3) := by decide +kernel
theorem dM_init_49 : decode cM_init 49 = .ok (.aload_n 0, 1) := by decide +kernel
theorem dM_init_50 : decode cM_init 50 = .ok (.sipush 2000, 3) := by decide +kernel
theorem dM_init_53 : decode cM_init 53 = .ok (.newarray .boolean, 2) := by decide +kernel
theorem dM_init_55 : decode cM_init 55 = .ok (.putfield 25, 3) := by decide +kernel
theorem dM_init_58 : decode cM_init 58 = .ok (.aload_n 0, 1) := by decide +kernel
theorem dM_init_59 : decode cM_init 59 = .ok (.sipush 2000, 3) := by decide +kernel
theorem dM_init_62 : decode cM_init 62 = .ok (.newarray .long, 2) := by decide +kernel
theorem dM_init_64 : decode cM_init 64 = .ok (.putfield 29, 3) := by decide +kernel
theorem dM_init_67 : decode cM_init 67 = .ok (.aload_n 0, 1) := by decide +kernel
theorem dM_init_68 : decode cM_init 68 = .ok (.sipush 400, 3) := by decide +kernel
theorem dM_init_71 : decode cM_init 71 = .ok (.newarray .long, 2) := by decide +kernel
theorem dM_init_73 : decode cM_init 73 = .ok (.putfield 33, 3) := by decide +kernel
theorem dM_init_76 : decode cM_init 76 = .ok (.aload_n 0, 1) := by decide +kernel
theorem dM_init_77 : decode cM_init 77 = .ok (.sipush 19200, 3) := by decide +kernel
theorem dM_init_80 : decode cM_init 80 = .ok (.newarray .int, 2) := by decide +kernel
theorem dM_init_82 : decode cM_init 82 = .ok (.putfield 36, 3) := by decide +kernel
theorem dM_init_85 : decode cM_init 85 = .ok (.aload_n 0, 1) := by decide +kernel
theorem dM_init_86 : decode cM_init 86 = .ok (.sipush 1536, 3) := by decide +kernel
theorem dM_init_89 : decode cM_init 89 = .ok (.newarray .int, 2) := by decide +kernel
theorem dM_init_91 : decode cM_init 91 = .ok (.putfield 39, 3) := by decide +kernel
theorem dM_init_94 : decode cM_init 94 = .ok (.aload_n 0, 1) := by decide +kernel
theorem dM_init_95 : decode cM_init 95 = .ok (.bipush 64, 2) := by decide +kernel
theorem dM_init_97 : decode cM_init 97 = .ok (.newarray .int, 2) := by decide +kernel
theorem dM_init_99 : decode cM_init 99 = .ok (.putfield 42, 3) := by decide +kernel
theorem dM_init_102 : decode cM_init 102 = .ok (.aload_n 0, 1) := by decide +kernel
theorem dM_init_103 : decode cM_init 103 = .ok (.bipush 64, 2) := by decide +kernel
theorem dM_init_105 : decode cM_init 105 = .ok (.newarray .int, 2) := by decide +kernel
theorem dM_init_107 : decode cM_init 107 = .ok (.putfield 45, 3) := by decide +kernel
theorem dM_init_110 : decode cM_init 110 = .ok (.aload_n 0, 1) := by decide +kernel
theorem dM_init_111 : decode cM_init 111 = .ok (.bipush 8, 2) := by decide +kernel
theorem dM_init_113 : decode cM_init 113 = .ok (.newarray .int, 2) := by decide +kernel
theorem dM_init_115 : decode cM_init 115 = .ok (.putfield 48, 3) := by decide +kernel
theorem dM_init_118 : decode cM_init 118 = .ok (.aload_n 0, 1) := by decide +kernel
theorem dM_init_119 : decode cM_init 119 = .ok (.iconst 1, 1) := by decide +kernel
theorem dM_init_120 : decode cM_init 120 = .ok (.putfield 51, 3) := by decide +kernel
theorem dM_init_123 : decode cM_init 123 = .ok (.aload_n 0, 1) := by decide +kernel
theorem dM_init_124 : decode cM_init 124 = .ok (.getfield 48, 3) := by decide +kernel
theorem dM_init_127 : decode cM_init 127 = .ok (.iconst 0, 1) := by decide +kernel
theorem dM_init_128 : decode cM_init 128 = .ok (.bipush 97, 2) := by decide +kernel
theorem dM_init_130 : decode cM_init 130 = .ok (.iastore, 1) := by decide +kernel
theorem dM_init_131 : decode cM_init 131 = .ok (.return_, 1) := by decide +kernel
theorem dM_thrown_0 : decode cM_thrown 0 = .ok (.aload_n 0, 1) := by decide +kernel
theorem dM_thrown_1 : decode cM_thrown 1 = .ok (.getfield 55, 3) := by decide +kernel
theorem dM_thrown_4 : decode cM_thrown 4 = .ok (.ireturn, 1) := by decide +kernel
theorem dM_text_0 : decode cM_text 0 = .ok (.aload_n 0, 1) := by decide +kernel
theorem dM_text_1 : decode cM_text 1 = .ok (.iconst 0, 1) := by decide +kernel
theorem dM_text_2 : decode cM_text 2 = .ok (.putfield 55, 3) := by decide +kernel
theorem dM_text_5 : decode cM_text 5 = .ok (.lload_n 1, 1) := by decide +kernel
theorem dM_text_6 : decode cM_text 6 = .ok (.iload_n 3, 1) := by decide +kernel
theorem dM_text_7 : decode cM_text 7 = .ok (.invokestatic 68, 3) := by decide +kernel
theorem dM_text_10 : decode cM_text 10 = .ok (.ifCond .eq 15, 3) := by decide +kernel
theorem dM_text_13 : decode cM_text 13 = .ok (.aload_n 0, 1) := by decide +kernel
theorem dM_text_14 : decode cM_text 14 = .ok (.getfield 72, 3) := by decide +kernel
theorem dM_text_17 : decode cM_text 17 = .ok (.iload_n 3, 1) := by decide +kernel
theorem dM_text_18 : decode cM_text 18 = .ok (.iadd, 1) := by decide +kernel
theorem dM_text_19 : decode cM_text 19 = .ok (.sipush 300, 3) := by decide +kernel
theorem dM_text_22 : decode cM_text 22 = .ok (.if_icmp .le 5, 3) := by decide +kernel
theorem dM_text_25 : decode cM_text 25 = .ok (.iconst (-1), 1) := by decide +kernel
theorem dM_text_26 : decode cM_text 26 = .ok (.ireturn, 1) := by decide +kernel
theorem dM_text_27 : decode cM_text 27 = .ok (.iconst 0, 1) := by decide +kernel
theorem dM_text_28 : decode cM_text 28 = .ok (.istore 4, 2) := by decide +kernel
theorem dM_text_30 : decode cM_text 30 = .ok (.iload 4, 2) := by decide +kernel
theorem dM_text_32 : decode cM_text 32 = .ok (.iload_n 3, 1) := by decide +kernel
theorem dM_text_33 : decode cM_text 33 = .ok (.if_icmp .ge 28, 3) := by decide +kernel
theorem dM_text_36 : decode cM_text 36 = .ok (.aload_n 0, 1) := by decide +kernel
theorem dM_text_37 : decode cM_text 37 = .ok (.getfield 7, 3) := by decide +kernel
theorem dM_text_40 : decode cM_text 40 = .ok (.aload_n 0, 1) := by decide +kernel
theorem dM_text_41 : decode cM_text 41 = .ok (.getfield 72, 3) := by decide +kernel
theorem dM_text_44 : decode cM_text 44 = .ok (.iload 4, 2) := by decide +kernel
theorem dM_text_46 : decode cM_text 46 = .ok (.iadd, 1) := by decide +kernel
theorem dM_text_47 : decode cM_text 47 = .ok (.lload_n 1, 1) := by decide +kernel
theorem dM_text_48 : decode cM_text 48 = .ok (.iload_n 3, 1) := by decide +kernel
theorem dM_text_49 : decode cM_text 49 = .ok (.iload 4, 2) := by decide +kernel
theorem dM_text_51 : decode cM_text 51 = .ok (.invokestatic 60, 3) := by decide +kernel
theorem dM_text_54 : decode cM_text 54 = .ok (.iastore, 1) := by decide +kernel
theorem dM_text_55 : decode cM_text 55 = .ok (.iinc 4 1, 3) := by decide +kernel
theorem dM_text_58 : decode cM_text 58 = .ok (.goto (-28), 3) := by decide +kernel
theorem dM_text_61 : decode cM_text 61 = .ok (.aload_n 0, 1) := by decide +kernel
theorem dM_text_62 : decode cM_text 62 = .ok (.dup, 1) := by decide +kernel
theorem dM_text_63 : decode cM_text 63 = .ok (.getfield 72, 3) := by decide +kernel
theorem dM_text_66 : decode cM_text 66 = .ok (.iload_n 3, 1) := by decide +kernel
theorem dM_text_67 : decode cM_text 67 = .ok (.iadd, 1) := by decide +kernel
theorem dM_text_68 : decode cM_text 68 = .ok (.putfield 72, 3) := by decide +kernel
theorem dM_text_71 : decode cM_text 71 = .ok (.aload_n 0, 1) := by decide +kernel
theorem dM_text_72 : decode cM_text 72 = .ok (.getfield 72, 3) := by decide +kernel
theorem dM_text_75 : decode cM_text 75 = .ok (.ireturn, 1) := by decide +kernel
theorem dM_areTexts_0 : decode cM_areTexts 0 = .ok (.iload_n 2, 1) := by decide +kernel
theorem dM_areTexts_1 : decode cM_areTexts 1 = .ok (.ifCond .lt 13, 3) := by decide +kernel
theorem dM_areTexts_4 : decode cM_areTexts 4 = .ok (.iload_n 2, 1) := by decide +kernel
theorem dM_areTexts_5 : decode cM_areTexts 5 = .ok (.bipush 9, 2) := by decide +kernel
theorem dM_areTexts_7 : decode cM_areTexts 7 = .ok (.if_icmp .ge 7, 3) := by decide +kernel
theorem dM_areTexts_10 : decode cM_areTexts 10 = .ok (.iconst 1, 1) := by decide +kernel
theorem dM_areTexts_11 : decode cM_areTexts 11 = .ok (.goto 4, 3) := by decide +kernel
theorem dM_areTexts_14 : decode cM_areTexts 14 = .ok (.iconst 0, 1) := by decide +kernel
theorem dM_areTexts_15 : decode cM_areTexts 15 = .ok (.istore_n 3, 1) := by decide +kernel
theorem dM_areTexts_16 : decode cM_areTexts 16 = .ok (.iconst 0, 1) := by decide +kernel
theorem dM_areTexts_17 : decode cM_areTexts 17 = .ok (.istore 4, 2) := by decide +kernel
theorem dM_areTexts_19 : decode cM_areTexts 19 = .ok (.iload 4, 2) := by decide +kernel
theorem dM_areTexts_21 : decode cM_areTexts 21 = .ok (.iload_n 2, 1) := by decide +kernel
theorem dM_areTexts_22 : decode cM_areTexts 22 = .ok (.if_icmp .ge 24, 3) := by decide +kernel
theorem dM_areTexts_25 : decode cM_areTexts 25 = .ok (.iload_n 3, 1) := by decide +kernel
theorem dM_areTexts_26 : decode cM_areTexts 26 = .ok (.ifCond .eq 20, 3) := by decide +kernel
theorem dM_areTexts_29 : decode cM_areTexts 29 = .ok (.lload_n 0, 1) := by decide +kernel
theorem dM_areTexts_30 : decode cM_areTexts 30 = .ok (.iload_n 2, 1) := by decide +kernel
theorem dM_areTexts_31 : decode cM_areTexts 31 = .ok (.iload 4, 2) := by decide +kernel
theorem dM_areTexts_33 : decode cM_areTexts 33 = .ok (.invokestatic 60, 3) := by decide +kernel
theorem dM_areTexts_36 : decode cM_areTexts 36 = .ok (.invokestatic 64, 3) := by decide +kernel
theorem dM_areTexts_39 : decode cM_areTexts 39 = .ok (.istore_n 3, 1) := by decide +kernel
theorem dM_areTexts_40 : decode cM_areTexts 40 = .ok (.iinc 4 1, 3) := by decide +kernel
theorem dM_areTexts_43 : decode cM_areTexts 43 = .ok (.goto (-24), 3) := by decide +kernel
theorem dM_areTexts_46 : decode cM_areTexts 46 = .ok (.iload_n 3, 1) := by decide +kernel
theorem dM_areTexts_47 : decode cM_areTexts 47 = .ok (.ireturn, 1) := by decide +kernel
theorem dM_byteOf_0 : decode cM_byteOf 0 = .ok (.lload_n 0, 1) := by decide +kernel
theorem dM_byteOf_1 : decode cM_byteOf 1 = .ok (.bipush 8, 2) := by decide +kernel
theorem dM_byteOf_3 : decode cM_byteOf 3 = .ok (.iload_n 2, 1) := by decide +kernel
theorem dM_byteOf_4 : decode cM_byteOf 4 = .ok (.iconst 1, 1) := by decide +kernel
theorem dM_byteOf_5 : decode cM_byteOf 5 = .ok (.isub, 1) := by decide +kernel
theorem dM_byteOf_6 : decode cM_byteOf 6 = .ok (.iload_n 3, 1) := by decide +kernel
theorem dM_byteOf_7 : decode cM_byteOf 7 = .ok (.isub, 1) := by decide +kernel
theorem dM_byteOf_8 : decode cM_byteOf 8 = .ok (.imul, 1) := by decide +kernel
theorem dM_byteOf_9 : decode cM_byteOf 9 = .ok (.lshr, 1) := by decide +kernel
theorem dM_byteOf_10 : decode cM_byteOf 10 = .ok (.ldc2_w 58, 3) := by decide +kernel
theorem dM_byteOf_13 : decode cM_byteOf 13 = .ok (.land, 1) := by decide +kernel
theorem dM_byteOf_14 : decode cM_byteOf 14 = .ok (.l2i, 1) := by decide +kernel
theorem dM_byteOf_15 : decode cM_byteOf 15 = .ok (.ireturn, 1) := by decide +kernel
theorem dM_isText_0 : decode cM_isText 0 = .ok (.iload_n 0, 1) := by decide +kernel
theorem dM_isText_1 : decode cM_isText 1 = .ok (.bipush 9, 2) := by decide +kernel
theorem dM_isText_3 : decode cM_isText 3 = .ok (.if_icmp .eq 21, 3) := by decide +kernel
theorem dM_isText_6 : decode cM_isText 6 = .ok (.iload_n 0, 1) := by decide +kernel
theorem dM_isText_7 : decode cM_isText 7 = .ok (.bipush 10, 2) := by decide +kernel
theorem dM_isText_9 : decode cM_isText 9 = .ok (.if_icmp .eq 15, 3) := by decide +kernel
theorem dM_isText_12 : decode cM_isText 12 = .ok (.iload_n 0, 1) := by decide +kernel
theorem dM_isText_13 : decode cM_isText 13 = .ok (.bipush 31, 2) := by decide +kernel
theorem dM_isText_15 : decode cM_isText 15 = .ok (.if_icmp .le 13, 3) := by decide +kernel
theorem dM_isText_18 : decode cM_isText 18 = .ok (.iload_n 0, 1) := by decide +kernel
theorem dM_isText_19 : decode cM_isText 19 = .ok (.bipush 127, 2) := by decide +kernel
theorem dM_isText_21 : decode cM_isText 21 = .ok (.if_icmp .ge 7, 3) := by decide +kernel
theorem dM_isText_24 : decode cM_isText 24 = .ok (.iconst 1, 1) := by decide +kernel
theorem dM_isText_25 : decode cM_isText 25 = .ok (.goto 4, 3) := by decide +kernel
theorem dM_isText_28 : decode cM_isText 28 = .ok (.iconst 0, 1) := by decide +kernel
theorem dM_isText_29 : decode cM_isText 29 = .ok (.ireturn, 1) := by decide +kernel
theorem dM_name_0 : decode cM_name 0 = .ok (.aload_n 0, 1) := by decide +kernel
theorem dM_name_1 : decode cM_name 1 = .ok (.iconst 0, 1) := by decide +kernel
theorem dM_name_2 : decode cM_name 2 = .ok (.putfield 55, 3) := by decide +kernel
theorem dM_name_5 : decode cM_name 5 = .ok (.iload_n 3, 1) := by decide +kernel
theorem dM_name_6 : decode cM_name 6 = .ok (.ifCond .le 25, 3) := by decide +kernel
theorem dM_name_9 : decode cM_name 9 = .ok (.iload_n 3, 1) := by decide +kernel
theorem dM_name_10 : decode cM_name 10 = .ok (.bipush 9, 2) := by decide +kernel
theorem dM_name_12 : decode cM_name 12 = .ok (.if_icmp .ge 19, 3) := by decide +kernel
theorem dM_name_15 : decode cM_name 15 = .ok (.lload_n 1, 1) := by decide +kernel
theorem dM_name_16 : decode cM_name 16 = .ok (.iload_n 3, 1) := by decide +kernel
theorem dM_name_17 : decode cM_name 17 = .ok (.iconst 0, 1) := by decide +kernel
theorem dM_name_18 : decode cM_name 18 = .ok (.invokestatic 60, 3) := by decide +kernel
theorem dM_name_21 : decode cM_name 21 = .ok (.invokestatic 82, 3) := by decide +kernel
theorem dM_name_24 : decode cM_name 24 = .ok (.ifCond .eq 7, 3) := by decide +kernel
theorem dM_name_27 : decode cM_name 27 = .ok (.iconst 1, 1) := by decide +kernel
theorem dM_name_28 : decode cM_name 28 = .ok (.goto 4, 3) := by decide +kernel
theorem dM_name_31 : decode cM_name 31 = .ok (.iconst 0, 1) := by decide +kernel
theorem dM_name_32 : decode cM_name 32 = .ok (.istore 4, 2) := by decide +kernel
theorem dM_name_34 : decode cM_name 34 = .ok (.iconst 0, 1) := by decide +kernel
theorem dM_name_35 : decode cM_name 35 = .ok (.istore 5, 2) := by decide +kernel
theorem dM_name_37 : decode cM_name 37 = .ok (.iload 5, 2) := by decide +kernel
theorem dM_name_39 : decode cM_name 39 = .ok (.iload_n 3, 1) := by decide +kernel
theorem dM_name_40 : decode cM_name 40 = .ok (.if_icmp .ge 47, 3) := by decide +kernel
theorem dM_name_43 : decode cM_name 43 = .ok (.iload 4, 2) := by decide +kernel
theorem dM_name_45 : decode cM_name 45 = .ok (.ifCond .eq 42, 3) := by decide +kernel
theorem dM_name_48 : decode cM_name 48 = .ok (.lload_n 1, 1) := by decide +kernel
theorem dM_name_49 : decode cM_name 49 = .ok (.iload_n 3, 1) := by decide +kernel
theorem dM_name_50 : decode cM_name 50 = .ok (.iload 5, 2) := by decide +kernel
theorem dM_name_52 : decode cM_name 52 = .ok (.invokestatic 60, 3) := by decide +kernel
theorem dM_name_55 : decode cM_name 55 = .ok (.invokestatic 82, 3) := by decide +kernel
theorem dM_name_58 : decode cM_name 58 = .ok (.ifCond .ne 16, 3) := by decide +kernel
theorem dM_name_61 : decode cM_name 61 = .ok (.lload_n 1, 1) := by decide +kernel
theorem dM_name_62 : decode cM_name 62 = .ok (.iload_n 3, 1) := by decide +kernel
theorem dM_name_63 : decode cM_name 63 = .ok (.iload 5, 2) := by decide +kernel
theorem dM_name_65 : decode cM_name 65 = .ok (.invokestatic 60, 3) := by decide +kernel
theorem dM_name_68 : decode cM_name 68 = .ok (.invokestatic 85, 3) := by decide +kernel
theorem dM_name_71 : decode cM_name 71 = .ok (.ifCond .eq 7, 3) := by decide +kernel
theorem dM_name_74 : decode cM_name 74 = .ok (.iconst 1, 1) := by decide +kernel
theorem dM_name_75 : decode cM_name 75 = .ok (.goto 4, 3) := by decide +kernel
theorem dM_name_78 : decode cM_name 78 = .ok (.iconst 0, 1) := by decide +kernel
theorem dM_name_79 : decode cM_name 79 = .ok (.istore 4, 2) := by decide +kernel
theorem dM_name_81 : decode cM_name 81 = .ok (.iinc 5 1, 3) := by decide +kernel
theorem dM_name_84 : decode cM_name 84 = .ok (.goto (-47), 3) := by decide +kernel
theorem dM_name_87 : decode cM_name 87 = .ok (.iconst 0, 1) := by decide +kernel
theorem dM_name_88 : decode cM_name 88 = .ok (.istore 5, 2) := by decide +kernel
theorem dM_name_90 : decode cM_name 90 = .ok (.iload 5, 2) := by decide +kernel
theorem dM_name_92 : decode cM_name 92 = .ok (.iload_n 3, 1) := by decide +kernel
theorem dM_name_93 : decode cM_name 93 = .ok (.if_icmp .ge 28, 3) := by decide +kernel
theorem dM_name_96 : decode cM_name 96 = .ok (.iload 4, 2) := by decide +kernel
theorem dM_name_98 : decode cM_name 98 = .ok (.ifCond .eq 23, 3) := by decide +kernel
theorem dM_name_101 : decode cM_name 101 = .ok (.aload_n 0, 1) := by decide +kernel
theorem dM_name_102 : decode cM_name 102 = .ok (.getfield 48, 3) := by decide +kernel
theorem dM_name_105 : decode cM_name 105 = .ok (.iload 5, 2) := by decide +kernel
theorem dM_name_107 : decode cM_name 107 = .ok (.lload_n 1, 1) := by decide +kernel
theorem dM_name_108 : decode cM_name 108 = .ok (.iload_n 3, 1) := by decide +kernel
theorem dM_name_109 : decode cM_name 109 = .ok (.iload 5, 2) := by decide +kernel
theorem dM_name_111 : decode cM_name 111 = .ok (.invokestatic 60, 3) := by decide +kernel
theorem dM_name_114 : decode cM_name 114 = .ok (.iastore, 1) := by decide +kernel
theorem dM_name_115 : decode cM_name 115 = .ok (.iinc 5 1, 3) := by decide +kernel
theorem dM_name_118 : decode cM_name 118 = .ok (.goto (-28), 3) := by decide +kernel
theorem dM_name_121 : decode cM_name 121 = .ok (.aload_n 0, 1) := by decide +kernel
theorem dM_name_122 : decode cM_name 122 = .ok (.iload 4, 2) := by decide +kernel
theorem dM_name_124 : decode cM_name 124 = .ok (.ifCond .eq 7, 3) := by decide +kernel
theorem dM_name_127 : decode cM_name 127 = .ok (.iload_n 3, 1) := by decide +kernel
theorem dM_name_128 : decode cM_name 128 = .ok (.goto 7, 3) := by decide +kernel
theorem dM_name_131 : decode cM_name 131 = .ok (.aload_n 0, 1) := by decide +kernel
theorem dM_name_132 : decode cM_name 132 = .ok (.getfield 51, 3) := by decide +kernel
theorem dM_name_135 : decode cM_name 135 = .ok (.putfield 51, 3) := by decide +kernel
theorem dM_name_138 : decode cM_name 138 = .ok (.iload 4, 2) := by decide +kernel
theorem dM_name_140 : decode cM_name 140 = .ok (.ireturn, 1) := by decide +kernel
theorem dM_isLetter_0 : decode cM_isLetter 0 = .ok (.iload_n 0, 1) := by decide +kernel
theorem dM_isLetter_1 : decode cM_isLetter 1 = .ok (.bipush 97, 2) := by decide +kernel
theorem dM_isLetter_3 : decode cM_isLetter 3 = .ok (.if_icmp .lt 9, 3) := by decide +kernel
theorem dM_isLetter_6 : decode cM_isLetter 6 = .ok (.iload_n 0, 1) := by decide +kernel
theorem dM_isLetter_7 : decode cM_isLetter 7 = .ok (.bipush 122, 2) := by decide +kernel
theorem dM_isLetter_9 : decode cM_isLetter 9 = .ok (.if_icmp .le 21, 3) := by decide +kernel
theorem dM_isLetter_12 : decode cM_isLetter 12 = .ok (.iload_n 0, 1) := by decide +kernel
theorem dM_isLetter_13 : decode cM_isLetter 13 = .ok (.bipush 65, 2) := by decide +kernel
theorem dM_isLetter_15 : decode cM_isLetter 15 = .ok (.if_icmp .lt 9, 3) := by decide +kernel
theorem dM_isLetter_18 : decode cM_isLetter 18 = .ok (.iload_n 0, 1) := by decide +kernel
theorem dM_isLetter_19 : decode cM_isLetter 19 = .ok (.bipush 90, 2) := by decide +kernel
theorem dM_isLetter_21 : decode cM_isLetter 21 = .ok (.if_icmp .le 9, 3) := by decide +kernel
theorem dM_isLetter_24 : decode cM_isLetter 24 = .ok (.iload_n 0, 1) := by decide +kernel
theorem dM_isLetter_25 : decode cM_isLetter 25 = .ok (.bipush 95, 2) := by decide +kernel
theorem dM_isLetter_27 : decode cM_isLetter 27 = .ok (.if_icmp .ne 7, 3) := by decide +kernel
theorem dM_isLetter_30 : decode cM_isLetter 30 = .ok (.iconst 1, 1) := by decide +kernel
theorem dM_isLetter_31 : decode cM_isLetter 31 = .ok (.goto 4, 3) := by decide +kernel
theorem dM_isLetter_34 : decode cM_isLetter 34 = .ok (.iconst 0, 1) := by decide +kernel
theorem dM_isLetter_35 : decode cM_isLetter 35 = .ok (.ireturn, 1) := by decide +kernel
theorem dM_isDigit_0 : decode cM_isDigit 0 = .ok (.iload_n 0, 1) := by decide +kernel
theorem dM_isDigit_1 : decode cM_isDigit 1 = .ok (.bipush 48, 2) := by decide +kernel
theorem dM_isDigit_3 : decode cM_isDigit 3 = .ok (.if_icmp .lt 13, 3) := by decide +kernel
theorem dM_isDigit_6 : decode cM_isDigit 6 = .ok (.iload_n 0, 1) := by decide +kernel
theorem dM_isDigit_7 : decode cM_isDigit 7 = .ok (.bipush 57, 2) := by decide +kernel
theorem dM_isDigit_9 : decode cM_isDigit 9 = .ok (.if_icmp .gt 7, 3) := by decide +kernel
theorem dM_isDigit_12 : decode cM_isDigit 12 = .ok (.iconst 1, 1) := by decide +kernel
theorem dM_isDigit_13 : decode cM_isDigit 13 = .ok (.goto 4, 3) := by decide +kernel
theorem dM_isDigit_16 : decode cM_isDigit 16 = .ok (.iconst 0, 1) := by decide +kernel
theorem dM_isDigit_17 : decode cM_isDigit 17 = .ok (.ireturn, 1) := by decide +kernel
theorem dM_put_0 : decode cM_put 0 = .ok (.aload_n 0, 1) := by decide +kernel
theorem dM_put_1 : decode cM_put 1 = .ok (.iconst 0, 1) := by decide +kernel
theorem dM_put_2 : decode cM_put 2 = .ok (.putfield 55, 3) := by decide +kernel
theorem dM_put_5 : decode cM_put 5 = .ok (.lload_n 1, 1) := by decide +kernel
theorem dM_put_6 : decode cM_put 6 = .ok (.iload_n 3, 1) := by decide +kernel
theorem dM_put_7 : decode cM_put 7 = .ok (.invokestatic 68, 3) := by decide +kernel
theorem dM_put_10 : decode cM_put 10 = .ok (.ifCond .ne 5, 3) := by decide +kernel
theorem dM_put_13 : decode cM_put 13 = .ok (.iconst 0, 1) := by decide +kernel
theorem dM_put_14 : decode cM_put 14 = .ok (.ireturn, 1) := by decide +kernel
theorem dM_put_15 : decode cM_put 15 = .ok (.aload_n 0, 1) := by decide +kernel
theorem dM_put_16 : decode cM_put 16 = .ok (.aload_n 0, 1) := by decide +kernel
theorem dM_put_17 : decode cM_put 17 = .ok (.getfield 48, 3) := by decide +kernel
theorem dM_put_20 : decode cM_put 20 = .ok (.iconst 0, 1) := by decide +kernel
theorem dM_put_21 : decode cM_put 21 = .ok (.aload_n 0, 1) := by decide +kernel
theorem dM_put_22 : decode cM_put 22 = .ok (.getfield 51, 3) := by decide +kernel
theorem dM_put_25 : decode cM_put 25 = .ok (.invokevirtual 88, 3) := by decide +kernel
theorem dM_put_28 : decode cM_put 28 = .ok (.istore 4, 2) := by decide +kernel
theorem dM_put_30 : decode cM_put 30 = .ok (.iload 4, 2) := by decide +kernel
theorem dM_put_32 : decode cM_put 32 = .ok (.iconst (-1), 1) := by decide +kernel
theorem dM_put_33 : decode cM_put 33 = .ok (.if_icmp .ne 5, 3) := by decide +kernel
theorem dM_put_36 : decode cM_put 36 = .ok (.iconst 0, 1) := by decide +kernel
theorem dM_put_37 : decode cM_put 37 = .ok (.ireturn, 1) := by decide +kernel
theorem dM_put_38 : decode cM_put 38 = .ok (.aload_n 0, 1) := by decide +kernel
theorem dM_put_39 : decode cM_put 39 = .ok (.getfield 45, 3) := by decide +kernel
theorem dM_put_42 : decode cM_put 42 = .ok (.iload 4, 2) := by decide +kernel
theorem dM_put_44 : decode cM_put 44 = .ok (.iload_n 3, 1) := by decide +kernel
theorem dM_put_45 : decode cM_put 45 = .ok (.iastore, 1) := by decide +kernel
theorem dM_put_46 : decode cM_put 46 = .ok (.iconst 0, 1) := by decide +kernel
theorem dM_put_47 : decode cM_put 47 = .ok (.istore 5, 2) := by decide +kernel
theorem dM_put_49 : decode cM_put 49 = .ok (.iload 5, 2) := by decide +kernel
theorem dM_put_51 : decode cM_put 51 = .ok (.iload_n 3, 1) := by decide +kernel
theorem dM_put_52 : decode cM_put 52 = .ok (.if_icmp .ge 29, 3) := by decide +kernel
theorem dM_put_55 : decode cM_put 55 = .ok (.aload_n 0, 1) := by decide +kernel
theorem dM_put_56 : decode cM_put 56 = .ok (.getfield 39, 3) := by decide +kernel
theorem dM_put_59 : decode cM_put 59 = .ok (.bipush 24, 2) := by decide +kernel
theorem dM_put_61 : decode cM_put 61 = .ok (.iload 4, 2) := by decide +kernel
theorem dM_put_63 : decode cM_put 63 = .ok (.imul, 1) := by decide +kernel
theorem dM_put_64 : decode cM_put 64 = .ok (.iload 5, 2) := by decide +kernel
theorem dM_put_66 : decode cM_put 66 = .ok (.iadd, 1) := by decide +kernel
theorem dM_put_67 : decode cM_put 67 = .ok (.lload_n 1, 1) := by decide +kernel
theorem dM_put_68 : decode cM_put 68 = .ok (.iload_n 3, 1) := by decide +kernel
theorem dM_put_69 : decode cM_put 69 = .ok (.iload 5, 2) := by decide +kernel
theorem dM_put_71 : decode cM_put 71 = .ok (.invokestatic 60, 3) := by decide +kernel
theorem dM_put_74 : decode cM_put 74 = .ok (.iastore, 1) := by decide +kernel
theorem dM_put_75 : decode cM_put 75 = .ok (.iinc 5 1, 3) := by decide +kernel
theorem dM_put_78 : decode cM_put 78 = .ok (.goto (-29), 3) := by decide +kernel
theorem dM_put_81 : decode cM_put 81 = .ok (.iconst 1, 1) := by decide +kernel
theorem dM_put_82 : decode cM_put 82 = .ok (.ireturn, 1) := by decide +kernel
theorem dM_placeFor_0 : decode cM_placeFor 0 = .ok (.aload_n 0, 1) := by decide +kernel
theorem dM_placeFor_1 : decode cM_placeFor 1 = .ok (.aload_n 1, 1) := by decide +kernel
theorem dM_placeFor_2 : decode cM_placeFor 2 = .ok (.iload_n 2, 1) := by decide +kernel
theorem dM_placeFor_3 : decode cM_placeFor 3 = .ok (.iload_n 3, 1) := by decide +kernel
theorem dM_placeFor_4 : decode cM_placeFor 4 = .ok (.invokevirtual 75, 3) := by decide +kernel
theorem dM_placeFor_7 : decode cM_placeFor 7 = .ok (.istore 4, 2) := by decide +kernel
theorem dM_placeFor_9 : decode cM_placeFor 9 = .ok (.iload 4, 2) := by decide +kernel
theorem dM_placeFor_11 : decode cM_placeFor 11 = .ok (.iconst (-1), 1) := by decide +kernel
theorem dM_placeFor_12 : decode cM_placeFor 12 = .ok (.if_icmp .ne 12, 3) := by decide +kernel
theorem dM_placeFor_15 : decode cM_placeFor 15 = .ok (.aload_n 0, 1) := by decide +kernel
theorem dM_placeFor_16 : decode cM_placeFor 16 = .ok (.getfield 79, 3) := by decide +kernel
theorem dM_placeFor_19 : decode cM_placeFor 19 = .ok (.bipush 64, 2) := by decide +kernel
theorem dM_placeFor_21 : decode cM_placeFor 21 = .ok (.if_icmp .ne 6, 3) := by decide +kernel
theorem dM_placeFor_24 : decode cM_placeFor 24 = .ok (.iload 4, 2) := by decide +kernel
theorem dM_placeFor_26 : decode cM_placeFor 26 = .ok (.ireturn, 1) := by decide +kernel
theorem dM_placeFor_27 : decode cM_placeFor 27 = .ok (.iconst 0, 1) := by decide +kernel
theorem dM_placeFor_28 : decode cM_placeFor 28 = .ok (.istore 4, 2) := by decide +kernel
theorem dM_placeFor_30 : decode cM_placeFor 30 = .ok (.aload_n 0, 1) := by decide +kernel
theorem dM_placeFor_31 : decode cM_placeFor 31 = .ok (.getfield 42, 3) := by decide +kernel
theorem dM_placeFor_34 : decode cM_placeFor 34 = .ok (.iload 4, 2) := by decide +kernel
theorem dM_placeFor_36 : decode cM_placeFor 36 = .ok (.iaload, 1) := by decide +kernel
theorem dM_placeFor_37 : decode cM_placeFor 37 = .ok (.ifCond .le 9, 3) := by decide +kernel
theorem dM_placeFor_40 : decode cM_placeFor 40 = .ok (.iinc 4 1, 3) := by decide +kernel
theorem dM_placeFor_43 : decode cM_placeFor 43 = .ok (.goto (-13), 3) := by decide +kernel
theorem dM_placeFor_46 : decode cM_placeFor 46 = .ok (.aload_n 0, 1) := by decide +kernel
theorem dM_placeFor_47 : decode cM_placeFor 47 = .ok (.getfield 42, 3) := by decide +kernel
theorem dM_placeFor_50 : decode cM_placeFor 50 = .ok (.iload 4, 2) := by decide +kernel
theorem dM_placeFor_52 : decode cM_placeFor 52 = .ok (.iload_n 3, 1) := by decide +kernel
theorem dM_placeFor_53 : decode cM_placeFor 53 = .ok (.iastore, 1) := by decide +kernel
theorem dM_placeFor_54 : decode cM_placeFor 54 = .ok (.iconst 0, 1) := by decide +kernel
theorem dM_placeFor_55 : decode cM_placeFor 55 = .ok (.istore 5, 2) := by decide +kernel
theorem dM_placeFor_57 : decode cM_placeFor 57 = .ok (.iload 5, 2) := by decide +kernel
theorem dM_placeFor_59 : decode cM_placeFor 59 = .ok (.iload_n 3, 1) := by decide +kernel
theorem dM_placeFor_60 : decode cM_placeFor 60 = .ok (.if_icmp .ge 29, 3) := by decide +kernel
theorem dM_placeFor_63 : decode cM_placeFor 63 = .ok (.aload_n 0, 1) := by decide +kernel
theorem dM_placeFor_64 : decode cM_placeFor 64 = .ok (.getfield 36, 3) := by decide +kernel
theorem dM_placeFor_67 : decode cM_placeFor 67 = .ok (.sipush 300, 3) := by decide +kernel
theorem dM_placeFor_70 : decode cM_placeFor 70 = .ok (.iload 4, 2) := by decide +kernel
theorem dM_placeFor_72 : decode cM_placeFor 72 = .ok (.imul, 1) := by decide +kernel
theorem dM_placeFor_73 : decode cM_placeFor 73 = .ok (.iload 5, 2) := by decide +kernel
theorem dM_placeFor_75 : decode cM_placeFor 75 = .ok (.iadd, 1) := by decide +kernel
theorem dM_placeFor_76 : decode cM_placeFor 76 = .ok (.aload_n 1, 1) := by decide +kernel
theorem dM_placeFor_77 : decode cM_placeFor 77 = .ok (.iload_n 2, 1) := by decide +kernel
theorem dM_placeFor_78 : decode cM_placeFor 78 = .ok (.iload 5, 2) := by decide +kernel
theorem dM_placeFor_80 : decode cM_placeFor 80 = .ok (.iadd, 1) := by decide +kernel
theorem dM_placeFor_81 : decode cM_placeFor 81 = .ok (.iaload, 1) := by decide +kernel
theorem dM_placeFor_82 : decode cM_placeFor 82 = .ok (.iastore, 1) := by decide +kernel
theorem dM_placeFor_83 : decode cM_placeFor 83 = .ok (.iinc 5 1, 3) := by decide +kernel
theorem dM_placeFor_86 : decode cM_placeFor 86 = .ok (.goto (-29), 3) := by decide +kernel
theorem dM_placeFor_89 : decode cM_placeFor 89 = .ok (.aload_n 0, 1) := by decide +kernel
theorem dM_placeFor_90 : decode cM_placeFor 90 = .ok (.dup, 1) := by decide +kernel
theorem dM_placeFor_91 : decode cM_placeFor 91 = .ok (.getfield 79, 3) := by decide +kernel
theorem dM_placeFor_94 : decode cM_placeFor 94 = .ok (.iconst 1, 1) := by decide +kernel
theorem dM_placeFor_95 : decode cM_placeFor 95 = .ok (.iadd, 1) := by decide +kernel
theorem dM_placeFor_96 : decode cM_placeFor 96 = .ok (.putfield 79, 3) := by decide +kernel
theorem dM_placeFor_99 : decode cM_placeFor 99 = .ok (.iload 4, 2) := by decide +kernel
theorem dM_placeFor_101 : decode cM_placeFor 101 = .ok (.ireturn, 1) := by decide +kernel
theorem dM_find_0 : decode cM_find 0 = .ok (.iconst (-1), 1) := by decide +kernel
theorem dM_find_1 : decode cM_find 1 = .ok (.istore 4, 2) := by decide +kernel
theorem dM_find_3 : decode cM_find 3 = .ok (.iconst 0, 1) := by decide +kernel
theorem dM_find_4 : decode cM_find 4 = .ok (.istore 5, 2) := by decide +kernel
theorem dM_find_6 : decode cM_find 6 = .ok (.iload 5, 2) := by decide +kernel
theorem dM_find_8 : decode cM_find 8 = .ok (.bipush 64, 2) := by decide +kernel
theorem dM_find_10 : decode cM_find 10 = .ok (.if_icmp .ge 91, 3) := by decide +kernel
theorem dM_find_13 : decode cM_find 13 = .ok (.aload_n 0, 1) := by decide +kernel
theorem dM_find_14 : decode cM_find 14 = .ok (.getfield 42, 3) := by decide +kernel
theorem dM_find_17 : decode cM_find 17 = .ok (.iload 5, 2) := by decide +kernel
theorem dM_find_19 : decode cM_find 19 = .ok (.iaload, 1) := by decide +kernel
theorem dM_find_20 : decode cM_find 20 = .ok (.iload_n 3, 1) := by decide +kernel
theorem dM_find_21 : decode cM_find 21 = .ok (.if_icmp .ne 7, 3) := by decide +kernel
theorem dM_find_24 : decode cM_find 24 = .ok (.iconst 1, 1) := by decide +kernel
theorem dM_find_25 : decode cM_find 25 = .ok (.goto 4, 3) := by decide +kernel
theorem dM_find_28 : decode cM_find 28 = .ok (.iconst 0, 1) := by decide +kernel
theorem dM_find_29 : decode cM_find 29 = .ok (.istore 6, 2) := by decide +kernel
theorem dM_find_31 : decode cM_find 31 = .ok (.iconst 0, 1) := by decide +kernel
theorem dM_find_32 : decode cM_find 32 = .ok (.istore 7, 2) := by decide +kernel
theorem dM_find_34 : decode cM_find 34 = .ok (.iload 7, 2) := by decide +kernel
theorem dM_find_36 : decode cM_find 36 = .ok (.iload_n 3, 1) := by decide +kernel
theorem dM_find_37 : decode cM_find 37 = .ok (.if_icmp .ge 44, 3) := by decide +kernel
theorem dM_find_40 : decode cM_find 40 = .ok (.iload 6, 2) := by decide +kernel
theorem dM_find_42 : decode cM_find 42 = .ok (.ifCond .eq 39, 3) := by decide +kernel
theorem dM_find_45 : decode cM_find 45 = .ok (.aload_n 0, 1) := by decide +kernel
theorem dM_find_46 : decode cM_find 46 = .ok (.getfield 36, 3) := by decide +kernel
theorem dM_find_49 : decode cM_find 49 = .ok (.sipush 300, 3) := by decide +kernel
theorem dM_find_52 : decode cM_find 52 = .ok (.iload 5, 2) := by decide +kernel
theorem dM_find_54 : decode cM_find 54 = .ok (.imul, 1) := by decide +kernel
theorem dM_find_55 : decode cM_find 55 = .ok (.iload 7, 2) := by decide +kernel
theorem dM_find_57 : decode cM_find 57 = .ok (.iadd, 1) := by decide +kernel
theorem dM_find_58 : decode cM_find 58 = .ok (.iaload, 1) := by decide +kernel
theorem dM_find_59 : decode cM_find 59 = .ok (.aload_n 1, 1) := by decide +kernel
theorem dM_find_60 : decode cM_find 60 = .ok (.iload_n 2, 1) := by decide +kernel
theorem dM_find_61 : decode cM_find 61 = .ok (.iload 7, 2) := by decide +kernel
theorem dM_find_63 : decode cM_find 63 = .ok (.iadd, 1) := by decide +kernel
theorem dM_find_64 : decode cM_find 64 = .ok (.iaload, 1) := by decide +kernel
theorem dM_find_65 : decode cM_find 65 = .ok (.if_icmp .ne 7, 3) := by decide +kernel
theorem dM_find_68 : decode cM_find 68 = .ok (.iconst 1, 1) := by decide +kernel
theorem dM_find_69 : decode cM_find 69 = .ok (.goto 4, 3) := by decide +kernel
theorem dM_find_72 : decode cM_find 72 = .ok (.iconst 0, 1) := by decide +kernel
theorem dM_find_73 : decode cM_find 73 = .ok (.istore 6, 2) := by decide +kernel
theorem dM_find_75 : decode cM_find 75 = .ok (.iinc 7 1, 3) := by decide +kernel
theorem dM_find_78 : decode cM_find 78 = .ok (.goto (-44), 3) := by decide +kernel
theorem dM_find_81 : decode cM_find 81 = .ok (.iload 6, 2) := by decide +kernel
theorem dM_find_83 : decode cM_find 83 = .ok (.ifCond .eq 8, 3) := by decide +kernel
theorem dM_find_86 : decode cM_find 86 = .ok (.iload 5, 2) := by decide +kernel
theorem dM_find_88 : decode cM_find 88 = .ok (.goto 5, 3) := by decide +kernel
theorem dM_find_91 : decode cM_find 91 = .ok (.iload 4, 2) := by decide +kernel
theorem dM_find_93 : decode cM_find 93 = .ok (.istore 4, 2) := by decide +kernel
theorem dM_find_95 : decode cM_find 95 = .ok (.iinc 5 1, 3) := by decide +kernel
theorem dM_find_98 : decode cM_find 98 = .ok (.goto (-92), 3) := by decide +kernel
theorem dM_find_101 : decode cM_find 101 = .ok (.iload 4, 2) := by decide +kernel
theorem dM_find_103 : decode cM_find 103 = .ok (.ireturn, 1) := by decide +kernel
theorem dM_drop_0 : decode cM_drop 0 = .ok (.aload_n 0, 1) := by decide +kernel
theorem dM_drop_1 : decode cM_drop 1 = .ok (.iconst 0, 1) := by decide +kernel
theorem dM_drop_2 : decode cM_drop 2 = .ok (.putfield 55, 3) := by decide +kernel
theorem dM_drop_5 : decode cM_drop 5 = .ok (.aload_n 0, 1) := by decide +kernel
theorem dM_drop_6 : decode cM_drop 6 = .ok (.aload_n 0, 1) := by decide +kernel
theorem dM_drop_7 : decode cM_drop 7 = .ok (.getfield 48, 3) := by decide +kernel
theorem dM_drop_10 : decode cM_drop 10 = .ok (.iconst 0, 1) := by decide +kernel
theorem dM_drop_11 : decode cM_drop 11 = .ok (.aload_n 0, 1) := by decide +kernel
theorem dM_drop_12 : decode cM_drop 12 = .ok (.getfield 51, 3) := by decide +kernel
theorem dM_drop_15 : decode cM_drop 15 = .ok (.invokevirtual 75, 3) := by decide +kernel
theorem dM_drop_18 : decode cM_drop 18 = .ok (.istore_n 1, 1) := by decide +kernel
theorem dM_drop_19 : decode cM_drop 19 = .ok (.iload_n 1, 1) := by decide +kernel
theorem dM_drop_20 : decode cM_drop 20 = .ok (.iconst (-1), 1) := by decide +kernel
theorem dM_drop_21 : decode cM_drop 21 = .ok (.if_icmp .ne 5, 3) := by decide +kernel
theorem dM_drop_24 : decode cM_drop 24 = .ok (.iconst 0, 1) := by decide +kernel
theorem dM_drop_25 : decode cM_drop 25 = .ok (.ireturn, 1) := by decide +kernel
theorem dM_drop_26 : decode cM_drop 26 = .ok (.aload_n 0, 1) := by decide +kernel
theorem dM_drop_27 : decode cM_drop 27 = .ok (.getfield 42, 3) := by decide +kernel
theorem dM_drop_30 : decode cM_drop 30 = .ok (.iload_n 1, 1) := by decide +kernel
theorem dM_drop_31 : decode cM_drop 31 = .ok (.iconst 0, 1) := by decide +kernel
theorem dM_drop_32 : decode cM_drop 32 = .ok (.iastore, 1) := by decide +kernel
theorem dM_drop_33 : decode cM_drop 33 = .ok (.aload_n 0, 1) := by decide +kernel
theorem dM_drop_34 : decode cM_drop 34 = .ok (.dup, 1) := by decide +kernel
theorem dM_drop_35 : decode cM_drop 35 = .ok (.getfield 79, 3) := by decide +kernel
theorem dM_drop_38 : decode cM_drop 38 = .ok (.iconst 1, 1) := by decide +kernel
theorem dM_drop_39 : decode cM_drop 39 = .ok (.isub, 1) := by decide +kernel
theorem dM_drop_40 : decode cM_drop 40 = .ok (.putfield 79, 3) := by decide +kernel
theorem dM_drop_43 : decode cM_drop 43 = .ok (.iconst 1, 1) := by decide +kernel
theorem dM_drop_44 : decode cM_drop 44 = .ok (.ireturn, 1) := by decide +kernel
theorem dM_letter_0 : decode cM_letter 0 = .ok (.aload_n 0, 1) := by decide +kernel
theorem dM_letter_1 : decode cM_letter 1 = .ok (.iconst 0, 1) := by decide +kernel
theorem dM_letter_2 : decode cM_letter 2 = .ok (.putfield 55, 3) := by decide +kernel
theorem dM_letter_5 : decode cM_letter 5 = .ok (.aload_n 0, 1) := by decide +kernel
theorem dM_letter_6 : decode cM_letter 6 = .ok (.aload_n 0, 1) := by decide +kernel
theorem dM_letter_7 : decode cM_letter 7 = .ok (.getfield 48, 3) := by decide +kernel
theorem dM_letter_10 : decode cM_letter 10 = .ok (.iconst 0, 1) := by decide +kernel
theorem dM_letter_11 : decode cM_letter 11 = .ok (.aload_n 0, 1) := by decide +kernel
theorem dM_letter_12 : decode cM_letter 12 = .ok (.getfield 51, 3) := by decide +kernel
theorem dM_letter_15 : decode cM_letter 15 = .ok (.invokevirtual 75, 3) := by decide +kernel
theorem dM_letter_18 : decode cM_letter 18 = .ok (.istore_n 2, 1) := by decide +kernel
theorem dM_letter_19 : decode cM_letter 19 = .ok (.iload_n 2, 1) := by decide +kernel
theorem dM_letter_20 : decode cM_letter 20 = .ok (.iconst (-1), 1) := by decide +kernel
theorem dM_letter_21 : decode cM_letter 21 = .ok (.if_icmp .eq 31, 3) := by decide +kernel
theorem dM_letter_24 : decode cM_letter 24 = .ok (.iload_n 1, 1) := by decide +kernel
theorem dM_letter_25 : decode cM_letter 25 = .ok (.ifCond .lt 27, 3) := by decide +kernel
theorem dM_letter_28 : decode cM_letter 28 = .ok (.iload_n 1, 1) := by decide +kernel
theorem dM_letter_29 : decode cM_letter 29 = .ok (.aload_n 0, 1) := by decide +kernel
theorem dM_letter_30 : decode cM_letter 30 = .ok (.getfield 45, 3) := by decide +kernel
theorem dM_letter_33 : decode cM_letter 33 = .ok (.iload_n 2, 1) := by decide +kernel
theorem dM_letter_34 : decode cM_letter 34 = .ok (.iaload, 1) := by decide +kernel
theorem dM_letter_35 : decode cM_letter 35 = .ok (.if_icmp .ge 17, 3) := by decide +kernel
theorem dM_letter_38 : decode cM_letter 38 = .ok (.aload_n 0, 1) := by decide +kernel
theorem dM_letter_39 : decode cM_letter 39 = .ok (.getfield 39, 3) := by decide +kernel
theorem dM_letter_42 : decode cM_letter 42 = .ok (.bipush 24, 2) := by decide +kernel
theorem dM_letter_44 : decode cM_letter 44 = .ok (.iload_n 2, 1) := by decide +kernel
theorem dM_letter_45 : decode cM_letter 45 = .ok (.imul, 1) := by decide +kernel
theorem dM_letter_46 : decode cM_letter 46 = .ok (.iload_n 1, 1) := by decide +kernel
theorem dM_letter_47 : decode cM_letter 47 = .ok (.iadd, 1) := by decide +kernel
theorem dM_letter_48 : decode cM_letter 48 = .ok (.iaload, 1) := by decide +kernel
theorem dM_letter_49 : decode cM_letter 49 = .ok (.goto 4, 3) := by decide +kernel
theorem dM_letter_52 : decode cM_letter 52 = .ok (.iconst (-1), 1) := by decide +kernel
theorem dM_letter_53 : decode cM_letter 53 = .ok (.ireturn, 1) := by decide +kernel
theorem dM_sign_0 : decode cM_sign 0 = .ok (.aload_n 0, 1) := by decide +kernel
theorem dM_sign_1 : decode cM_sign 1 = .ok (.getfield 108, 3) := by decide +kernel
theorem dM_sign_4 : decode cM_sign 4 = .ok (.aload_n 0, 1) := by decide +kernel
theorem dM_sign_5 : decode cM_sign 5 = .ok (.getfield 111, 3) := by decide +kernel
theorem dM_sign_8 : decode cM_sign 8 = .ok (.if_icmp .ge 58, 3) := by decide +kernel
theorem dM_sign_11 : decode cM_sign 11 = .ok (.aload_n 0, 1) := by decide +kernel
theorem dM_sign_12 : decode cM_sign 12 = .ok (.getfield 13, 3) := by decide +kernel
theorem dM_sign_15 : decode cM_sign 15 = .ok (.aload_n 0, 1) := by decide +kernel
theorem dM_sign_16 : decode cM_sign 16 = .ok (.getfield 108, 3) := by decide +kernel
theorem dM_sign_19 : decode cM_sign 19 = .ok (.iaload, 1) := by decide +kernel
theorem dM_sign_20 : decode cM_sign 20 = .ok (.bipush 9, 2) := by decide +kernel
theorem dM_sign_22 : decode cM_sign 22 = .ok (.if_icmp .eq 31, 3) := by decide +kernel
theorem dM_sign_25 : decode cM_sign 25 = .ok (.aload_n 0, 1) := by decide +kernel
theorem dM_sign_26 : decode cM_sign 26 = .ok (.getfield 13, 3) := by decide +kernel
theorem dM_sign_29 : decode cM_sign 29 = .ok (.aload_n 0, 1) := by decide +kernel
theorem dM_sign_30 : decode cM_sign 30 = .ok (.getfield 108, 3) := by decide +kernel
theorem dM_sign_33 : decode cM_sign 33 = .ok (.iaload, 1) := by decide +kernel
theorem dM_sign_34 : decode cM_sign 34 = .ok (.bipush 10, 2) := by decide +kernel
theorem dM_sign_36 : decode cM_sign 36 = .ok (.if_icmp .eq 17, 3) := by decide +kernel
theorem dM_sign_39 : decode cM_sign 39 = .ok (.aload_n 0, 1) := by decide +kernel
theorem dM_sign_40 : decode cM_sign 40 = .ok (.getfield 13, 3) := by decide +kernel
theorem dM_sign_43 : decode cM_sign 43 = .ok (.aload_n 0, 1) := by decide +kernel
theorem dM_sign_44 : decode cM_sign 44 = .ok (.getfield 108, 3) := by decide +kernel
theorem dM_sign_47 : decode cM_sign 47 = .ok (.iaload, 1) := by decide +kernel
theorem dM_sign_48 : decode cM_sign 48 = .ok (.bipush 32, 2) := by decide +kernel
theorem dM_sign_50 : decode cM_sign 50 = .ok (.if_icmp .ne 16, 3) := by decide +kernel
theorem dM_sign_53 : decode cM_sign 53 = .ok (.aload_n 0, 1) := by decide +kernel
theorem dM_sign_54 : decode cM_sign 54 = .ok (.dup, 1) := by decide +kernel
theorem dM_sign_55 : decode cM_sign 55 = .ok (.getfield 108, 3) := by decide +kernel
theorem dM_sign_58 : decode cM_sign 58 = .ok (.iconst 1, 1) := by decide +kernel
theorem dM_sign_59 : decode cM_sign 59 = .ok (.iadd, 1) := by decide +kernel
theorem dM_sign_60 : decode cM_sign 60 = .ok (.putfield 108, 3) := by decide +kernel
theorem dM_sign_63 : decode cM_sign 63 = .ok (.goto (-63), 3) := by decide +kernel
theorem dM_sign_66 : decode cM_sign 66 = .ok (.aload_n 0, 1) := by decide +kernel
theorem dM_sign_67 : decode cM_sign 67 = .ok (.getfield 108, 3) := by decide +kernel
theorem dM_sign_70 : decode cM_sign 70 = .ok (.aload_n 0, 1) := by decide +kernel
theorem dM_sign_71 : decode cM_sign 71 = .ok (.getfield 111, 3) := by decide +kernel
theorem dM_sign_74 : decode cM_sign 74 = .ok (.if_icmp .ge 15, 3) := by decide +kernel
theorem dM_sign_77 : decode cM_sign 77 = .ok (.aload_n 0, 1) := by decide +kernel
theorem dM_sign_78 : decode cM_sign 78 = .ok (.getfield 13, 3) := by decide +kernel
theorem dM_sign_81 : decode cM_sign 81 = .ok (.aload_n 0, 1) := by decide +kernel
theorem dM_sign_82 : decode cM_sign 82 = .ok (.getfield 108, 3) := by decide +kernel
theorem dM_sign_85 : decode cM_sign 85 = .ok (.iaload, 1) := by decide +kernel
theorem dM_sign_86 : decode cM_sign 86 = .ok (.goto 4, 3) := by decide +kernel
theorem dM_sign_89 : decode cM_sign 89 = .ok (.iconst (-1), 1) := by decide +kernel
theorem dM_sign_90 : decode cM_sign 90 = .ok (.ireturn, 1) := by decide +kernel
theorem dM_plain_0 : decode cM_plain 0 = .ok (.aload_n 0, 1) := by decide +kernel
theorem dM_plain_1 : decode cM_plain 1 = .ok (.iload_n 1, 1) := by decide +kernel
theorem dM_plain_2 : decode cM_plain 2 = .ok (.iload_n 2, 1) := by decide +kernel
theorem dM_plain_3 : decode cM_plain 3 = .ok (.iconst 0, 1) := by decide +kernel
theorem dM_plain_4 : decode cM_plain 4 = .ok (.iconst 0, 1) := by decide +kernel
theorem dM_plain_5 : decode cM_plain 5 = .ok (.lconst 0, 1) := by decide +kernel
theorem dM_plain_6 : decode cM_plain 6 = .ok (.invokevirtual 117, 3) := by decide +kernel
theorem dM_plain_9 : decode cM_plain 9 = .ok (.return_, 1) := by decide +kernel
theorem dM_wait_0 : decode cM_wait 0 = .ok (.aload_n 0, 1) := by decide +kernel
theorem dM_wait_1 : decode cM_wait 1 = .ok (.getfield 16, 3) := by decide +kernel
theorem dM_wait_4 : decode cM_wait 4 = .ok (.aload_n 0, 1) := by decide +kernel
theorem dM_wait_5 : decode cM_wait 5 = .ok (.getfield 114, 3) := by decide +kernel
theorem dM_wait_8 : decode cM_wait 8 = .ok (.iload_n 1, 1) := by decide +kernel
theorem dM_wait_9 : decode cM_wait 9 = .ok (.iastore, 1) := by decide +kernel
theorem dM_wait_10 : decode cM_wait 10 = .ok (.aload_n 0, 1) := by decide +kernel
theorem dM_wait_11 : decode cM_wait 11 = .ok (.getfield 25, 3) := by decide +kernel
theorem dM_wait_14 : decode cM_wait 14 = .ok (.aload_n 0, 1) := by decide +kernel
theorem dM_wait_15 : decode cM_wait 15 = .ok (.getfield 114, 3) := by decide +kernel
theorem dM_wait_18 : decode cM_wait 18 = .ok (.iload_n 2, 1) := by decide +kernel
theorem dM_wait_19 : decode cM_wait 19 = .ok (.bastore, 1) := by decide +kernel
theorem dM_wait_20 : decode cM_wait 20 = .ok (.aload_n 0, 1) := by decide +kernel
theorem dM_wait_21 : decode cM_wait 21 = .ok (.getfield 19, 3) := by decide +kernel
theorem dM_wait_24 : decode cM_wait 24 = .ok (.aload_n 0, 1) := by decide +kernel
theorem dM_wait_25 : decode cM_wait 25 = .ok (.getfield 114, 3) := by decide +kernel
theorem dM_wait_28 : decode cM_wait 28 = .ok (.iload_n 3, 1) := by decide +kernel
theorem dM_wait_29 : decode cM_wait 29 = .ok (.iastore, 1) := by decide +kernel
theorem dM_wait_30 : decode cM_wait 30 = .ok (.aload_n 0, 1) := by decide +kernel
theorem dM_wait_31 : decode cM_wait 31 = .ok (.getfield 22, 3) := by decide +kernel
theorem dM_wait_34 : decode cM_wait 34 = .ok (.aload_n 0, 1) := by decide +kernel
theorem dM_wait_35 : decode cM_wait 35 = .ok (.getfield 114, 3) := by decide +kernel
theorem dM_wait_38 : decode cM_wait 38 = .ok (.iload 4, 2) := by decide +kernel
theorem dM_wait_40 : decode cM_wait 40 = .ok (.iastore, 1) := by decide +kernel
theorem dM_wait_41 : decode cM_wait 41 = .ok (.aload_n 0, 1) := by decide +kernel
theorem dM_wait_42 : decode cM_wait 42 = .ok (.getfield 29, 3) := by decide +kernel
theorem dM_wait_45 : decode cM_wait 45 = .ok (.aload_n 0, 1) := by decide +kernel
theorem dM_wait_46 : decode cM_wait 46 = .ok (.getfield 114, 3) := by decide +kernel
theorem dM_wait_49 : decode cM_wait 49 = .ok (.lload 5, 2) := by decide +kernel
theorem dM_wait_51 : decode cM_wait 51 = .ok (.lastore, 1) := by decide +kernel
theorem dM_wait_52 : decode cM_wait 52 = .ok (.aload_n 0, 1) := by decide +kernel
theorem dM_wait_53 : decode cM_wait 53 = .ok (.dup, 1) := by decide +kernel
theorem dM_wait_54 : decode cM_wait 54 = .ok (.getfield 114, 3) := by decide +kernel
theorem dM_wait_57 : decode cM_wait 57 = .ok (.iconst 1, 1) := by decide +kernel
theorem dM_wait_58 : decode cM_wait 58 = .ok (.iadd, 1) := by decide +kernel
theorem dM_wait_59 : decode cM_wait 59 = .ok (.putfield 114, 3) := by decide +kernel
theorem dM_wait_62 : decode cM_wait 62 = .ok (.return_, 1) := by decide +kernel
theorem dM_nameEnd_0 : decode cM_nameEnd 0 = .ok (.aload_n 0, 1) := by decide +kernel
theorem dM_nameEnd_1 : decode cM_nameEnd 1 = .ok (.getfield 108, 3) := by decide +kernel
theorem dM_nameEnd_4 : decode cM_nameEnd 4 = .ok (.istore_n 1, 1) := by decide +kernel
theorem dM_nameEnd_5 : decode cM_nameEnd 5 = .ok (.iload_n 1, 1) := by decide +kernel
theorem dM_nameEnd_6 : decode cM_nameEnd 6 = .ok (.aload_n 0, 1) := by decide +kernel
theorem dM_nameEnd_7 : decode cM_nameEnd 7 = .ok (.getfield 111, 3) := by decide +kernel
theorem dM_nameEnd_10 : decode cM_nameEnd 10 = .ok (.if_icmp .ge 33, 3) := by decide +kernel
theorem dM_nameEnd_13 : decode cM_nameEnd 13 = .ok (.aload_n 0, 1) := by decide +kernel
theorem dM_nameEnd_14 : decode cM_nameEnd 14 = .ok (.getfield 13, 3) := by decide +kernel
theorem dM_nameEnd_17 : decode cM_nameEnd 17 = .ok (.iload_n 1, 1) := by decide +kernel
theorem dM_nameEnd_18 : decode cM_nameEnd 18 = .ok (.iaload, 1) := by decide +kernel
theorem dM_nameEnd_19 : decode cM_nameEnd 19 = .ok (.invokestatic 82, 3) := by decide +kernel
theorem dM_nameEnd_22 : decode cM_nameEnd 22 = .ok (.ifCond .ne 15, 3) := by decide +kernel
theorem dM_nameEnd_25 : decode cM_nameEnd 25 = .ok (.aload_n 0, 1) := by decide +kernel
theorem dM_nameEnd_26 : decode cM_nameEnd 26 = .ok (.getfield 13, 3) := by decide +kernel
theorem dM_nameEnd_29 : decode cM_nameEnd 29 = .ok (.iload_n 1, 1) := by decide +kernel
theorem dM_nameEnd_30 : decode cM_nameEnd 30 = .ok (.iaload, 1) := by decide +kernel
theorem dM_nameEnd_31 : decode cM_nameEnd 31 = .ok (.invokestatic 85, 3) := by decide +kernel
theorem dM_nameEnd_34 : decode cM_nameEnd 34 = .ok (.ifCond .eq 9, 3) := by decide +kernel
theorem dM_nameEnd_37 : decode cM_nameEnd 37 = .ok (.iinc 1 1, 3) := by decide +kernel
theorem dM_nameEnd_40 : decode cM_nameEnd 40 = .ok (.goto (-35), 3) := by decide +kernel
theorem dM_nameEnd_43 : decode cM_nameEnd 43 = .ok (.iload_n 1, 1) := by decide +kernel
theorem dM_nameEnd_44 : decode cM_nameEnd 44 = .ok (.ireturn, 1) := by decide +kernel
theorem dM_at_0 : decode cM_at 0 = .ok (.aload_n 0, 1) := by decide +kernel
theorem dM_at_1 : decode cM_at 1 = .ok (.getfield 108, 3) := by decide +kernel
theorem dM_at_4 : decode cM_at 4 = .ok (.iload_n 1, 1) := by decide +kernel
theorem dM_at_5 : decode cM_at 5 = .ok (.iadd, 1) := by decide +kernel
theorem dM_at_6 : decode cM_at 6 = .ok (.aload_n 0, 1) := by decide +kernel
theorem dM_at_7 : decode cM_at 7 = .ok (.getfield 111, 3) := by decide +kernel
theorem dM_at_10 : decode cM_at 10 = .ok (.if_icmp .ge 17, 3) := by decide +kernel
theorem dM_at_13 : decode cM_at 13 = .ok (.aload_n 0, 1) := by decide +kernel
theorem dM_at_14 : decode cM_at 14 = .ok (.getfield 13, 3) := by decide +kernel
theorem dM_at_17 : decode cM_at 17 = .ok (.aload_n 0, 1) := by decide +kernel
theorem dM_at_18 : decode cM_at 18 = .ok (.getfield 108, 3) := by decide +kernel
theorem dM_at_21 : decode cM_at 21 = .ok (.iload_n 1, 1) := by decide +kernel
theorem dM_at_22 : decode cM_at 22 = .ok (.iadd, 1) := by decide +kernel
theorem dM_at_23 : decode cM_at 23 = .ok (.iaload, 1) := by decide +kernel
theorem dM_at_24 : decode cM_at 24 = .ok (.goto 4, 3) := by decide +kernel
theorem dM_at_27 : decode cM_at 27 = .ok (.iconst (-1), 1) := by decide +kernel
theorem dM_at_28 : decode cM_at 28 = .ok (.ireturn, 1) := by decide +kernel
theorem dM_inner_0 : decode cM_inner 0 = .ok (.aload_n 0, 1) := by decide +kernel
theorem dM_inner_1 : decode cM_inner 1 = .ok (.getfield 124, 3) := by decide +kernel
theorem dM_inner_4 : decode cM_inner 4 = .ok (.bipush 40, 2) := by decide +kernel
theorem dM_inner_6 : decode cM_inner 6 = .ok (.if_icmp .ne 8, 3) := by decide +kernel
theorem dM_inner_9 : decode cM_inner 9 = .ok (.aload_n 0, 1) := by decide +kernel
theorem dM_inner_10 : decode cM_inner 10 = .ok (.iconst 1, 1) := by decide +kernel
theorem dM_inner_11 : decode cM_inner 11 = .ok (.putfield 102, 3) := by decide +kernel
theorem dM_inner_14 : decode cM_inner 14 = .ok (.aload_n 0, 1) := by decide +kernel
theorem dM_inner_15 : decode cM_inner 15 = .ok (.dup, 1) := by decide +kernel
theorem dM_inner_16 : decode cM_inner 16 = .ok (.getfield 124, 3) := by decide +kernel
theorem dM_inner_19 : decode cM_inner 19 = .ok (.iconst 1, 1) := by decide +kernel
theorem dM_inner_20 : decode cM_inner 20 = .ok (.iadd, 1) := by decide +kernel
theorem dM_inner_21 : decode cM_inner 21 = .ok (.putfield 124, 3) := by decide +kernel
theorem dM_inner_24 : decode cM_inner 24 = .ok (.return_, 1) := by decide +kernel
theorem dM_taken_0 : decode cM_taken 0 = .ok (.aload_n 0, 1) := by decide +kernel
theorem dM_taken_1 : decode cM_taken 1 = .ok (.dup, 1) := by decide +kernel
theorem dM_taken_2 : decode cM_taken 2 = .ok (.getfield 121, 3) := by decide +kernel
theorem dM_taken_5 : decode cM_taken 5 = .ok (.iconst 1, 1) := by decide +kernel
theorem dM_taken_6 : decode cM_taken 6 = .ok (.isub, 1) := by decide +kernel
theorem dM_taken_7 : decode cM_taken 7 = .ok (.putfield 121, 3) := by decide +kernel
theorem dM_taken_10 : decode cM_taken 10 = .ok (.aload_n 0, 1) := by decide +kernel
theorem dM_taken_11 : decode cM_taken 11 = .ok (.getfield 33, 3) := by decide +kernel
theorem dM_taken_14 : decode cM_taken 14 = .ok (.aload_n 0, 1) := by decide +kernel
theorem dM_taken_15 : decode cM_taken 15 = .ok (.getfield 121, 3) := by decide +kernel
theorem dM_taken_18 : decode cM_taken 18 = .ok (.laload, 1) := by decide +kernel
theorem dM_taken_19 : decode cM_taken 19 = .ok (.lreturn, 1) := by decide +kernel
theorem dM_keep_0 : decode cM_keep 0 = .ok (.aload_n 0, 1) := by decide +kernel
theorem dM_keep_1 : decode cM_keep 1 = .ok (.getfield 33, 3) := by decide +kernel
theorem dM_keep_4 : decode cM_keep 4 = .ok (.aload_n 0, 1) := by decide +kernel
theorem dM_keep_5 : decode cM_keep 5 = .ok (.getfield 121, 3) := by decide +kernel
theorem dM_keep_8 : decode cM_keep 8 = .ok (.lload_n 1, 1) := by decide +kernel
theorem dM_keep_9 : decode cM_keep 9 = .ok (.lastore, 1) := by decide +kernel
theorem dM_keep_10 : decode cM_keep 10 = .ok (.aload_n 0, 1) := by decide +kernel
theorem dM_keep_11 : decode cM_keep 11 = .ok (.dup, 1) := by decide +kernel
theorem dM_keep_12 : decode cM_keep 12 = .ok (.getfield 121, 3) := by decide +kernel
theorem dM_keep_15 : decode cM_keep 15 = .ok (.iconst 1, 1) := by decide +kernel
theorem dM_keep_16 : decode cM_keep 16 = .ok (.iadd, 1) := by decide +kernel
theorem dM_keep_17 : decode cM_keep 17 = .ok (.putfield 121, 3) := by decide +kernel
theorem dM_keep_20 : decode cM_keep 20 = .ok (.return_, 1) := by decide +kernel
theorem dM_named_0 : decode cM_named 0 = .ok (.aload_n 0, 1) := by decide +kernel
theorem dM_named_1 : decode cM_named 1 = .ok (.aload_n 0, 1) := by decide +kernel
theorem dM_named_2 : decode cM_named 2 = .ok (.getfield 13, 3) := by decide +kernel
theorem dM_named_5 : decode cM_named 5 = .ok (.iload_n 1, 1) := by decide +kernel
theorem dM_named_6 : decode cM_named 6 = .ok (.iload_n 2, 1) := by decide +kernel
theorem dM_named_7 : decode cM_named 7 = .ok (.invokevirtual 75, 3) := by decide +kernel
theorem dM_named_10 : decode cM_named 10 = .ok (.istore_n 3, 1) := by decide +kernel
theorem dM_named_11 : decode cM_named 11 = .ok (.iload_n 3, 1) := by decide +kernel
theorem dM_named_12 : decode cM_named 12 = .ok (.iconst (-1), 1) := by decide +kernel
theorem dM_named_13 : decode cM_named 13 = .ok (.if_icmp .eq 12, 3) := by decide +kernel
theorem dM_named_16 : decode cM_named 16 = .ok (.aload_n 0, 1) := by decide +kernel
theorem dM_named_17 : decode cM_named 17 = .ok (.getfield 45, 3) := by decide +kernel
theorem dM_named_20 : decode cM_named 20 = .ok (.iload_n 3, 1) := by decide +kernel
theorem dM_named_21 : decode cM_named 21 = .ok (.iaload, 1) := by decide +kernel
theorem dM_named_22 : decode cM_named 22 = .ok (.ifCond .ne 5, 3) := by decide +kernel
theorem dM_named_25 : decode cM_named 25 = .ok (.lconst 0, 1) := by decide +kernel
theorem dM_named_26 : decode cM_named 26 = .ok (.lreturn, 1) := by decide +kernel
theorem dM_named_27 : decode cM_named 27 = .ok (.bipush 24, 2) := by decide +kernel
theorem dM_named_29 : decode cM_named 29 = .ok (.iload_n 3, 1) := by decide +kernel
theorem dM_named_30 : decode cM_named 30 = .ok (.imul, 1) := by decide +kernel
theorem dM_named_31 : decode cM_named 31 = .ok (.istore 4, 2) := by decide +kernel
theorem dM_named_33 : decode cM_named 33 = .ok (.iload 4, 2) := by decide +kernel
theorem dM_named_35 : decode cM_named 35 = .ok (.aload_n 0, 1) := by decide +kernel
theorem dM_named_36 : decode cM_named 36 = .ok (.getfield 45, 3) := by decide +kernel
theorem dM_named_39 : decode cM_named 39 = .ok (.iload_n 3, 1) := by decide +kernel
theorem dM_named_40 : decode cM_named 40 = .ok (.iaload, 1) := by decide +kernel
theorem dM_named_41 : decode cM_named 41 = .ok (.iadd, 1) := by decide +kernel
theorem dM_named_42 : decode cM_named 42 = .ok (.istore 5, 2) := by decide +kernel
theorem dM_named_44 : decode cM_named 44 = .ok (.aload_n 0, 1) := by decide +kernel
theorem dM_named_45 : decode cM_named 45 = .ok (.getfield 39, 3) := by decide +kernel
theorem dM_named_48 : decode cM_named 48 = .ok (.iload 4, 2) := by decide +kernel
theorem dM_named_50 : decode cM_named 50 = .ok (.iaload, 1) := by decide +kernel
theorem dM_named_51 : decode cM_named 51 = .ok (.bipush 45, 2) := by decide +kernel
theorem dM_named_53 : decode cM_named 53 = .ok (.if_icmp .ne 7, 3) := by decide +kernel
theorem dM_named_56 : decode cM_named 56 = .ok (.iconst 1, 1) := by decide +kernel
theorem dM_named_57 : decode cM_named 57 = .ok (.goto 4, 3) := by decide +kernel
theorem dM_named_60 : decode cM_named 60 = .ok (.iconst 0, 1) := by decide +kernel
theorem dM_named_61 : decode cM_named 61 = .ok (.istore 6, 2) := by decide +kernel
theorem dM_named_63 : decode cM_named 63 = .ok (.iload 4, 2) := by decide +kernel
theorem dM_named_65 : decode cM_named 65 = .ok (.iload 6, 2) := by decide +kernel
theorem dM_named_67 : decode cM_named 67 = .ok (.ifCond .eq 7, 3) := by decide +kernel
theorem dM_named_70 : decode cM_named 70 = .ok (.iconst 1, 1) := by decide +kernel
theorem dM_named_71 : decode cM_named 71 = .ok (.goto 4, 3) := by decide +kernel
theorem dM_named_74 : decode cM_named 74 = .ok (.iconst 0, 1) := by decide +kernel
theorem dM_named_75 : decode cM_named 75 = .ok (.iadd, 1) := by decide +kernel
theorem dM_named_76 : decode cM_named 76 = .ok (.istore 4, 2) := by decide +kernel
theorem dM_named_78 : decode cM_named 78 = .ok (.iload 4, 2) := by decide +kernel
theorem dM_named_80 : decode cM_named 80 = .ok (.iload 5, 2) := by decide +kernel
theorem dM_named_82 : decode cM_named 82 = .ok (.if_icmp .eq 33, 3) := by decide +kernel
theorem dM_named_85 : decode cM_named 85 = .ok (.aload_n 0, 1) := by decide +kernel
theorem dM_named_86 : decode cM_named 86 = .ok (.getfield 39, 3) := by decide +kernel
theorem dM_named_89 : decode cM_named 89 = .ok (.iload 4, 2) := by decide +kernel
theorem dM_named_91 : decode cM_named 91 = .ok (.iaload, 1) := by decide +kernel
theorem dM_named_92 : decode cM_named 92 = .ok (.invokestatic 85, 3) := by decide +kernel
theorem dM_named_95 : decode cM_named 95 = .ok (.ifCond .eq 20, 3) := by decide +kernel
theorem dM_named_98 : decode cM_named 98 = .ok (.aload_n 0, 1) := by decide +kernel
theorem dM_named_99 : decode cM_named 99 = .ok (.aload_n 0, 1) := by decide +kernel
theorem dM_named_100 : decode cM_named 100 = .ok (.getfield 39, 3) := by decide +kernel
theorem dM_named_103 : decode cM_named 103 = .ok (.iload 4, 2) := by decide +kernel
theorem dM_named_105 : decode cM_named 105 = .ok (.iload 5, 2) := by decide +kernel
theorem dM_named_107 : decode cM_named 107 = .ok (.invokevirtual 99, 3) := by decide +kernel
theorem dM_named_110 : decode cM_named 110 = .ok (.iload 5, 2) := by decide +kernel
theorem dM_named_112 : decode cM_named 112 = .ok (.if_icmp .eq 10, 3) := by decide +kernel
theorem dM_named_115 : decode cM_named 115 = .ok (.aload_n 0, 1) := by decide +kernel
theorem dM_named_116 : decode cM_named 116 = .ok (.iconst 1, 1) := by decide +kernel
theorem dM_named_117 : decode cM_named 117 = .ok (.putfield 102, 3) := by decide +kernel
theorem dM_named_120 : decode cM_named 120 = .ok (.lconst 0, 1) := by decide +kernel
theorem dM_named_121 : decode cM_named 121 = .ok (.lreturn, 1) := by decide +kernel
theorem dM_named_122 : decode cM_named 122 = .ok (.iload 6, 2) := by decide +kernel
theorem dM_named_124 : decode cM_named 124 = .ok (.ifCond .eq 11, 3) := by decide +kernel
theorem dM_named_127 : decode cM_named 127 = .ok (.aload_n 0, 1) := by decide +kernel
theorem dM_named_128 : decode cM_named 128 = .ok (.getfield 91, 3) := by decide +kernel
theorem dM_named_131 : decode cM_named 131 = .ok (.lneg, 1) := by decide +kernel
theorem dM_named_132 : decode cM_named 132 = .ok (.goto 7, 3) := by decide +kernel
theorem dM_named_135 : decode cM_named 135 = .ok (.aload_n 0, 1) := by decide +kernel
theorem dM_named_136 : decode cM_named 136 = .ok (.getfield 91, 3) := by decide +kernel
theorem dM_named_139 : decode cM_named 139 = .ok (.lreturn, 1) := by decide +kernel
theorem dM_numberEnd_0 : decode cM_numberEnd 0 = .ok (.aload_n 1, 1) := by decide +kernel
theorem dM_numberEnd_1 : decode cM_numberEnd 1 = .ok (.iload_n 2, 1) := by decide +kernel
theorem dM_numberEnd_2 : decode cM_numberEnd 2 = .ok (.iaload, 1) := by decide +kernel
theorem dM_numberEnd_3 : decode cM_numberEnd 3 = .ok (.bipush 48, 2) := by decide +kernel
theorem dM_numberEnd_5 : decode cM_numberEnd 5 = .ok (.if_icmp .ne 7, 3) := by decide +kernel
theorem dM_numberEnd_8 : decode cM_numberEnd 8 = .ok (.iconst 1, 1) := by decide +kernel
theorem dM_numberEnd_9 : decode cM_numberEnd 9 = .ok (.goto 4, 3) := by decide +kernel
theorem dM_numberEnd_12 : decode cM_numberEnd 12 = .ok (.iconst 0, 1) := by decide +kernel
theorem dM_numberEnd_13 : decode cM_numberEnd 13 = .ok (.istore 4, 2) := by decide +kernel
theorem dM_numberEnd_15 : decode cM_numberEnd 15 = .ok (.iload 4, 2) := by decide +kernel
theorem dM_numberEnd_17 : decode cM_numberEnd 17 = .ok (.ifCond .eq 34, 3) := by decide +kernel
theorem dM_numberEnd_20 : decode cM_numberEnd 20 = .ok (.iload_n 2, 1) := by decide +kernel
theorem dM_numberEnd_21 : decode cM_numberEnd 21 = .ok (.iconst 1, 1) := by decide +kernel
theorem dM_numberEnd_22 : decode cM_numberEnd 22 = .ok (.iadd, 1) := by decide +kernel
theorem dM_numberEnd_23 : decode cM_numberEnd 23 = .ok (.iload_n 3, 1) := by decide +kernel
theorem dM_numberEnd_24 : decode cM_numberEnd 24 = .ok (.if_icmp .ge 27, 3) := by decide +kernel
theorem dM_numberEnd_27 : decode cM_numberEnd 27 = .ok (.aload_n 1, 1) := by decide +kernel
theorem dM_numberEnd_28 : decode cM_numberEnd 28 = .ok (.iload_n 2, 1) := by decide +kernel
theorem dM_numberEnd_29 : decode cM_numberEnd 29 = .ok (.iconst 1, 1) := by decide +kernel
theorem dM_numberEnd_30 : decode cM_numberEnd 30 = .ok (.iadd, 1) := by decide +kernel
theorem dM_numberEnd_31 : decode cM_numberEnd 31 = .ok (.iaload, 1) := by decide +kernel
theorem dM_numberEnd_32 : decode cM_numberEnd 32 = .ok (.bipush 120, 2) := by decide +kernel
theorem dM_numberEnd_34 : decode cM_numberEnd 34 = .ok (.if_icmp .eq 13, 3) := by decide +kernel
theorem dM_numberEnd_37 : decode cM_numberEnd 37 = .ok (.aload_n 1, 1) := by decide +kernel
theorem dM_numberEnd_38 : decode cM_numberEnd 38 = .ok (.iload_n 2, 1) := by decide +kernel
theorem dM_numberEnd_39 : decode cM_numberEnd 39 = .ok (.iconst 1, 1) := by decide +kernel
theorem dM_numberEnd_40 : decode cM_numberEnd 40 = .ok (.iadd, 1) := by decide +kernel
theorem dM_numberEnd_41 : decode cM_numberEnd 41 = .ok (.iaload, 1) := by decide +kernel
theorem dM_numberEnd_42 : decode cM_numberEnd 42 = .ok (.bipush 88, 2) := by decide +kernel
theorem dM_numberEnd_44 : decode cM_numberEnd 44 = .ok (.if_icmp .ne 7, 3) := by decide +kernel
theorem dM_numberEnd_47 : decode cM_numberEnd 47 = .ok (.iconst 1, 1) := by decide +kernel
theorem dM_numberEnd_48 : decode cM_numberEnd 48 = .ok (.goto 4, 3) := by decide +kernel
theorem dM_numberEnd_51 : decode cM_numberEnd 51 = .ok (.iconst 0, 1) := by decide +kernel
theorem dM_numberEnd_52 : decode cM_numberEnd 52 = .ok (.istore 5, 2) := by decide +kernel
theorem dM_numberEnd_54 : decode cM_numberEnd 54 = .ok (.iload 5, 2) := by decide +kernel
theorem dM_numberEnd_56 : decode cM_numberEnd 56 = .ok (.ifCond .eq 8, 3) := by decide +kernel
theorem dM_numberEnd_59 : decode cM_numberEnd 59 = .ok (.bipush 16, 2) := by decide +kernel
theorem dM_numberEnd_61 : decode cM_numberEnd 61 = .ok (.goto 15, 3) := by decide +kernel
theorem dM_numberEnd_64 : decode cM_numberEnd 64 = .ok (.iload 4, 2) := by decide +kernel
theorem dM_numberEnd_66 : decode cM_numberEnd 66 = .ok (.ifCond .eq 8, 3) := by decide +kernel
theorem dM_numberEnd_69 : decode cM_numberEnd 69 = .ok (.bipush 8, 2) := by decide +kernel
theorem dM_numberEnd_71 : decode cM_numberEnd 71 = .ok (.goto 5, 3) := by decide +kernel
theorem dM_numberEnd_74 : decode cM_numberEnd 74 = .ok (.bipush 10, 2) := by decide +kernel
theorem dM_numberEnd_76 : decode cM_numberEnd 76 = .ok (.istore 6, 2) := by decide +kernel
theorem dM_numberEnd_78 : decode cM_numberEnd 78 = .ok (.iload 5, 2) := by decide +kernel
theorem dM_numberEnd_80 : decode cM_numberEnd 80 = .ok (.ifCond .eq 9, 3) := by decide +kernel
theorem dM_numberEnd_83 : decode cM_numberEnd 83 = .ok (.iload_n 2, 1) := by decide +kernel
theorem dM_numberEnd_84 : decode cM_numberEnd 84 = .ok (.iconst 2, 1) := by decide +kernel
theorem dM_numberEnd_85 : decode cM_numberEnd 85 = .ok (.iadd, 1) := by decide +kernel
theorem dM_numberEnd_86 : decode cM_numberEnd 86 = .ok (.goto 4, 3) := by decide +kernel
theorem dM_numberEnd_89 : decode cM_numberEnd 89 = .ok (.iload_n 2, 1) := by decide +kernel
theorem dM_numberEnd_90 : decode cM_numberEnd 90 = .ok (.istore 7, 2) := by decide +kernel
theorem dM_numberEnd_92 : decode cM_numberEnd 92 = .ok (.iload 7, 2) := by decide +kernel
theorem dM_numberEnd_94 : decode cM_numberEnd 94 = .ok (.istore 8, 2) := by decide +kernel
theorem dM_numberEnd_96 : decode cM_numberEnd 96 = .ok (.aload_n 0, 1) := by decide +kernel
theorem dM_numberEnd_97 : decode cM_numberEnd 97 = .ok (.lconst 0, 1) := by decide +kernel
theorem dM_numberEnd_98 : decode cM_numberEnd 98 = .ok (.putfield 91, 3) := by decide +kernel
theorem dM_numberEnd_101 : decode cM_numberEnd 101 = .ok (.iload 7, 2) := by decide +kernel
theorem dM_numberEnd_103 : decode cM_numberEnd 103 = .ok (.iload_n 3, 1) := by decide +kernel
theorem dM_numberEnd_104 : decode cM_numberEnd 104 = .ok (.if_icmp .ge 63, 3) := by decide +kernel
theorem dM_numberEnd_107 : decode cM_numberEnd 107 = .ok (.aload_n 1, 1) := by decide +kernel
theorem dM_numberEnd_108 : decode cM_numberEnd 108 = .ok (.iload 7, 2) := by decide +kernel
theorem dM_numberEnd_110 : decode cM_numberEnd 110 = .ok (.iaload, 1) := by decide +kernel
theorem dM_numberEnd_111 : decode cM_numberEnd 111 = .ok (.invokestatic 82, 3) := by decide +kernel
theorem dM_numberEnd_114 : decode cM_numberEnd 114 = .ok (.ifCond .ne 13, 3) := by decide +kernel
theorem dM_numberEnd_117 : decode cM_numberEnd 117 = .ok (.aload_n 1, 1) := by decide +kernel
theorem dM_numberEnd_118 : decode cM_numberEnd 118 = .ok (.iload 7, 2) := by decide +kernel
theorem dM_numberEnd_120 : decode cM_numberEnd 120 = .ok (.iaload, 1) := by decide +kernel
theorem dM_numberEnd_121 : decode cM_numberEnd 121 = .ok (.invokestatic 85, 3) := by decide +kernel
theorem dM_numberEnd_124 : decode cM_numberEnd 124 = .ok (.ifCond .eq 43, 3) := by decide +kernel
theorem dM_numberEnd_127 : decode cM_numberEnd 127 = .ok (.aload_n 1, 1) := by decide +kernel
theorem dM_numberEnd_128 : decode cM_numberEnd 128 = .ok (.iload 7, 2) := by decide +kernel
theorem dM_numberEnd_130 : decode cM_numberEnd 130 = .ok (.iaload, 1) := by decide +kernel
theorem dM_numberEnd_131 : decode cM_numberEnd 131 = .ok (.invokestatic 95, 3) := by decide +kernel
theorem dM_numberEnd_134 : decode cM_numberEnd 134 = .ok (.istore 9, 2) := by decide +kernel
theorem dM_numberEnd_136 : decode cM_numberEnd 136 = .ok (.iload 9, 2) := by decide +kernel
theorem dM_numberEnd_138 : decode cM_numberEnd 138 = .ok (.iload 6, 2) := by decide +kernel
theorem dM_numberEnd_140 : decode cM_numberEnd 140 = .ok (.if_icmp .lt 5, 3) := by decide +kernel
theorem dM_numberEnd_143 : decode cM_numberEnd 143 = .ok (.iconst (-1), 1) := by decide +kernel
theorem dM_numberEnd_144 : decode cM_numberEnd 144 = .ok (.ireturn, 1) := by decide +kernel
theorem dM_numberEnd_145 : decode cM_numberEnd 145 = .ok (.aload_n 0, 1) := by decide +kernel
theorem dM_numberEnd_146 : decode cM_numberEnd 146 = .ok (.aload_n 0, 1) := by decide +kernel
theorem dM_numberEnd_147 : decode cM_numberEnd 147 = .ok (.getfield 91, 3) := by decide +kernel
theorem dM_numberEnd_150 : decode cM_numberEnd 150 = .ok (.iload 6, 2) := by decide +kernel
theorem dM_numberEnd_152 : decode cM_numberEnd 152 = .ok (.i2l, 1) := by decide +kernel
theorem dM_numberEnd_153 : decode cM_numberEnd 153 = .ok (.lmul, 1) := by decide +kernel
theorem dM_numberEnd_154 : decode cM_numberEnd 154 = .ok (.iload 9, 2) := by decide +kernel
theorem dM_numberEnd_156 : decode cM_numberEnd 156 = .ok (.i2l, 1) := by decide +kernel
theorem dM_numberEnd_157 : decode cM_numberEnd 157 = .ok (.ladd, 1) := by decide +kernel
theorem dM_numberEnd_158 : decode cM_numberEnd 158 = .ok (.putfield 91, 3) := by decide +kernel
theorem dM_numberEnd_161 : decode cM_numberEnd 161 = .ok (.iinc 7 1, 3) := by decide +kernel
theorem dM_numberEnd_164 : decode cM_numberEnd 164 = .ok (.goto (-63), 3) := by decide +kernel
theorem dM_numberEnd_167 : decode cM_numberEnd 167 = .ok (.iload 7, 2) := by decide +kernel
theorem dM_numberEnd_169 : decode cM_numberEnd 169 = .ok (.iload 8, 2) := by decide +kernel
theorem dM_numberEnd_171 : decode cM_numberEnd 171 = .ok (.if_icmp .ne 7, 3) := by decide +kernel
theorem dM_numberEnd_174 : decode cM_numberEnd 174 = .ok (.iconst (-1), 1) := by decide +kernel
theorem dM_numberEnd_175 : decode cM_numberEnd 175 = .ok (.goto 5, 3) := by decide +kernel
theorem dM_numberEnd_178 : decode cM_numberEnd 178 = .ok (.iload 7, 2) := by decide +kernel
theorem dM_numberEnd_180 : decode cM_numberEnd 180 = .ok (.ireturn, 1) := by decide +kernel
theorem dM_digitOf_0 : decode cM_digitOf 0 = .ok (.iload_n 0, 1) := by decide +kernel
theorem dM_digitOf_1 : decode cM_digitOf 1 = .ok (.invokestatic 85, 3) := by decide +kernel
theorem dM_digitOf_4 : decode cM_digitOf 4 = .ok (.ifCond .eq 10, 3) := by decide +kernel
theorem dM_digitOf_7 : decode cM_digitOf 7 = .ok (.iload_n 0, 1) := by decide +kernel
theorem dM_digitOf_8 : decode cM_digitOf 8 = .ok (.bipush 48, 2) := by decide +kernel
theorem dM_digitOf_10 : decode cM_digitOf 10 = .ok (.isub, 1) := by decide +kernel
theorem dM_digitOf_11 : decode cM_digitOf 11 = .ok (.goto 49, 3) := by decide +kernel
theorem dM_digitOf_14 : decode cM_digitOf 14 = .ok (.iload_n 0, 1) := by decide +kernel
theorem dM_digitOf_15 : decode cM_digitOf 15 = .ok (.bipush 97, 2) := by decide +kernel
theorem dM_digitOf_17 : decode cM_digitOf 17 = .ok (.if_icmp .lt 19, 3) := by decide +kernel
theorem dM_digitOf_20 : decode cM_digitOf 20 = .ok (.iload_n 0, 1) := by decide +kernel
theorem dM_digitOf_21 : decode cM_digitOf 21 = .ok (.bipush 102, 2) := by decide +kernel
theorem dM_digitOf_23 : decode cM_digitOf 23 = .ok (.if_icmp .gt 13, 3) := by decide +kernel
theorem dM_digitOf_26 : decode cM_digitOf 26 = .ok (.iload_n 0, 1) := by decide +kernel
theorem dM_digitOf_27 : decode cM_digitOf 27 = .ok (.bipush 97, 2) := by decide +kernel
theorem dM_digitOf_29 : decode cM_digitOf 29 = .ok (.isub, 1) := by decide +kernel
theorem dM_digitOf_30 : decode cM_digitOf 30 = .ok (.bipush 10, 2) := by decide +kernel
theorem dM_digitOf_32 : decode cM_digitOf 32 = .ok (.iadd, 1) := by decide +kernel
theorem dM_digitOf_33 : decode cM_digitOf 33 = .ok (.goto 27, 3) := by decide +kernel
theorem dM_digitOf_36 : decode cM_digitOf 36 = .ok (.iload_n 0, 1) := by decide +kernel
theorem dM_digitOf_37 : decode cM_digitOf 37 = .ok (.bipush 65, 2) := by decide +kernel
theorem dM_digitOf_39 : decode cM_digitOf 39 = .ok (.if_icmp .lt 19, 3) := by decide +kernel
theorem dM_digitOf_42 : decode cM_digitOf 42 = .ok (.iload_n 0, 1) := by decide +kernel
theorem dM_digitOf_43 : decode cM_digitOf 43 = .ok (.bipush 70, 2) := by decide +kernel
theorem dM_digitOf_45 : decode cM_digitOf 45 = .ok (.if_icmp .gt 13, 3) := by decide +kernel
theorem dM_digitOf_48 : decode cM_digitOf 48 = .ok (.iload_n 0, 1) := by decide +kernel
theorem dM_digitOf_49 : decode cM_digitOf 49 = .ok (.bipush 65, 2) := by decide +kernel
theorem dM_digitOf_51 : decode cM_digitOf 51 = .ok (.isub, 1) := by decide +kernel
theorem dM_digitOf_52 : decode cM_digitOf 52 = .ok (.bipush 10, 2) := by decide +kernel
theorem dM_digitOf_54 : decode cM_digitOf 54 = .ok (.iadd, 1) := by decide +kernel
theorem dM_digitOf_55 : decode cM_digitOf 55 = .ok (.goto 5, 3) := by decide +kernel
theorem dM_digitOf_58 : decode cM_digitOf 58 = .ok (.bipush 99, 2) := by decide +kernel
theorem dM_digitOf_60 : decode cM_digitOf 60 = .ok (.ireturn, 1) := by decide +kernel
theorem dM_given_0 : decode cM_given 0 = .ok (.aload_n 0, 1) := by decide +kernel
theorem dM_given_1 : decode cM_given 1 = .ok (.invokevirtual 147, 3) := by decide +kernel
theorem dM_given_4 : decode cM_given 4 = .ok (.lstore 5, 2) := by decide +kernel
theorem dM_given_6 : decode cM_given 6 = .ok (.aload_n 0, 1) := by decide +kernel
theorem dM_given_7 : decode cM_given 7 = .ok (.dup, 1) := by decide +kernel
theorem dM_given_8 : decode cM_given 8 = .ok (.getfield 124, 3) := by decide +kernel
theorem dM_given_11 : decode cM_given 11 = .ok (.iconst 1, 1) := by decide +kernel
theorem dM_given_12 : decode cM_given 12 = .ok (.isub, 1) := by decide +kernel
theorem dM_given_13 : decode cM_given 13 = .ok (.putfield 124, 3) := by decide +kernel
theorem dM_given_16 : decode cM_given 16 = .ok (.iload 4, 2) := by decide +kernel
theorem dM_given_18 : decode cM_given 18 = .ok (.ifCond .eq 27, 3) := by decide +kernel
theorem dM_given_21 : decode cM_given 21 = .ok (.iload_n 1, 1) := by decide +kernel
theorem dM_given_22 : decode cM_given 22 = .ok (.ifCond .eq 23, 3) := by decide +kernel
theorem dM_given_25 : decode cM_given 25 = .ok (.aload_n 0, 1) := by decide +kernel
theorem dM_given_26 : decode cM_given 26 = .ok (.iload 4, 2) := by decide +kernel
theorem dM_given_28 : decode cM_given 28 = .ok (.bipush 8, 2) := by decide +kernel
theorem dM_given_30 : decode cM_given 30 = .ok (.iconst 0, 1) := by decide +kernel
theorem dM_given_31 : decode cM_given 31 = .ok (.aload_n 0, 1) := by decide +kernel
theorem dM_given_32 : decode cM_given 32 = .ok (.iload_n 2, 1) := by decide +kernel
theorem dM_given_33 : decode cM_given 33 = .ok (.iload_n 3, 1) := by decide +kernel
theorem dM_given_34 : decode cM_given 34 = .ok (.invokevirtual 151, 3) := by decide +kernel
theorem dM_given_37 : decode cM_given 37 = .ok (.lload 5, 2) := by decide +kernel
theorem dM_given_39 : decode cM_given 39 = .ok (.iconst 1, 1) := by decide +kernel
theorem dM_given_40 : decode cM_given 40 = .ok (.invokevirtual 155, 3) := by decide +kernel
theorem dM_given_43 : decode cM_given 43 = .ok (.lstore 5, 2) := by decide +kernel
theorem dM_given_45 : decode cM_given 45 = .ok (.iload_n 1, 1) := by decide +kernel
theorem dM_given_46 : decode cM_given 46 = .ok (.ifCond .eq 18, 3) := by decide +kernel
theorem dM_given_49 : decode cM_given 49 = .ok (.aload_n 0, 1) := by decide +kernel
theorem dM_given_50 : decode cM_given 50 = .ok (.getfield 102, 3) := by decide +kernel
theorem dM_given_53 : decode cM_given 53 = .ok (.ifCond .ne 11, 3) := by decide +kernel
theorem dM_given_56 : decode cM_given 56 = .ok (.aload_n 0, 1) := by decide +kernel
theorem dM_given_57 : decode cM_given 57 = .ok (.iload_n 2, 1) := by decide +kernel
theorem dM_given_58 : decode cM_given 58 = .ok (.iload_n 3, 1) := by decide +kernel
theorem dM_given_59 : decode cM_given 59 = .ok (.lload 5, 2) := by decide +kernel
theorem dM_given_61 : decode cM_given 61 = .ok (.invokevirtual 159, 3) := by decide +kernel
theorem dM_given_64 : decode cM_given 64 = .ok (.aload_n 0, 1) := by decide +kernel
theorem dM_given_65 : decode cM_given 65 = .ok (.lload 5, 2) := by decide +kernel
theorem dM_given_67 : decode cM_given 67 = .ok (.invokevirtual 163, 3) := by decide +kernel
theorem dM_given_70 : decode cM_given 70 = .ok (.return_, 1) := by decide +kernel
theorem dM_count_0 : decode cM_count 0 = .ok (.aload_n 0, 1) := by decide +kernel
theorem dM_count_1 : decode cM_count 1 = .ok (.iconst 0, 1) := by decide +kernel
theorem dM_count_2 : decode cM_count 2 = .ok (.putfield 55, 3) := by decide +kernel
theorem dM_count_5 : decode cM_count 5 = .ok (.aload_n 0, 1) := by decide +kernel
theorem dM_count_6 : decode cM_count 6 = .ok (.aload_n 0, 1) := by decide +kernel
theorem dM_count_7 : decode cM_count 7 = .ok (.getfield 48, 3) := by decide +kernel
theorem dM_count_10 : decode cM_count 10 = .ok (.iconst 0, 1) := by decide +kernel
theorem dM_count_11 : decode cM_count 11 = .ok (.aload_n 0, 1) := by decide +kernel
theorem dM_count_12 : decode cM_count 12 = .ok (.getfield 51, 3) := by decide +kernel
theorem dM_count_15 : decode cM_count 15 = .ok (.invokevirtual 75, 3) := by decide +kernel
theorem dM_count_18 : decode cM_count 18 = .ok (.istore_n 2, 1) := by decide +kernel
theorem dM_count_19 : decode cM_count 19 = .ok (.iload_n 1, 1) := by decide +kernel
theorem dM_count_20 : decode cM_count 20 = .ok (.tableswitch 72 0 4 #[36, 41, 46, 62, 67], 36) := by decide +kernel
theorem dM_count_56 : decode cM_count 56 = .ok (.aload_n 0, 1) := by decide +kernel
theorem dM_count_57 : decode cM_count 57 = .ok (.getfield 72, 3) := by decide +kernel
theorem dM_count_60 : decode cM_count 60 = .ok (.ireturn, 1) := by decide +kernel
theorem dM_count_61 : decode cM_count 61 = .ok (.aload_n 0, 1) := by decide +kernel
theorem dM_count_62 : decode cM_count 62 = .ok (.getfield 79, 3) := by decide +kernel
theorem dM_count_65 : decode cM_count 65 = .ok (.ireturn, 1) := by decide +kernel
theorem dM_count_66 : decode cM_count 66 = .ok (.iload_n 2, 1) := by decide +kernel
theorem dM_count_67 : decode cM_count 67 = .ok (.iconst (-1), 1) := by decide +kernel
theorem dM_count_68 : decode cM_count 68 = .ok (.if_icmp .ne 7, 3) := by decide +kernel
theorem dM_count_71 : decode cM_count 71 = .ok (.iconst (-1), 1) := by decide +kernel
theorem dM_count_72 : decode cM_count 72 = .ok (.goto 9, 3) := by decide +kernel
theorem dM_count_75 : decode cM_count 75 = .ok (.aload_n 0, 1) := by decide +kernel
theorem dM_count_76 : decode cM_count 76 = .ok (.getfield 45, 3) := by decide +kernel
theorem dM_count_79 : decode cM_count 79 = .ok (.iload_n 2, 1) := by decide +kernel
theorem dM_count_80 : decode cM_count 80 = .ok (.iaload, 1) := by decide +kernel
theorem dM_count_81 : decode cM_count 81 = .ok (.ireturn, 1) := by decide +kernel
theorem dM_count_82 : decode cM_count 82 = .ok (.aload_n 0, 1) := by decide +kernel
theorem dM_count_83 : decode cM_count 83 = .ok (.getfield 190, 3) := by decide +kernel
theorem dM_count_86 : decode cM_count 86 = .ok (.ireturn, 1) := by decide +kernel
theorem dM_count_87 : decode cM_count 87 = .ok (.aload_n 0, 1) := by decide +kernel
theorem dM_count_88 : decode cM_count 88 = .ok (.getfield 193, 3) := by decide +kernel
theorem dM_count_91 : decode cM_count 91 = .ok (.ireturn, 1) := by decide +kernel
theorem dM_count_92 : decode cM_count 92 = .ok (.iconst (-1), 1) := by decide +kernel
theorem dM_count_93 : decode cM_count 93 = .ok (.ireturn, 1) := by decide +kernel
