theorem dR_init_0 : decode cR_init 0 = .ok (.aload_n 0, 1) := by decide +kernel
theorem dR_init_1 : decode cR_init 1 = .ok (.invokespecial 3, 3) := by decide +kernel
theorem dR_init_4 : decode cR_init 4 = .ok (.aload_n 0, 1) := by decide +kernel
theorem dR_init_5 : decode cR_init 5 = .ok (.sipush 300, 3) := by decide +kernel
theorem dR_init_8 : decode cR_init 8 = .ok (.newarray .char, 2) := by decide +kernel
theorem dR_init_10 : decode cR_init 10 = .ok (.putfield 9, 3) := by decide +kernel
theorem dR_init_13 : decode cR_init 13 = .ok (.aload_n 0, 1) := by decide +kernel
theorem dR_init_14 : decode cR_init 14 = .ok (.new 15, 3) := by decide +kernel
theorem dR_init_17 : decode cR_init 17 = .ok (.dup, 1) := by decide +kernel
theorem dR_init_18 : decode cR_init 18 = .ok (.invokespecial 17, 3) := by decide +kernel
theorem dR_init_21 : decode cR_init 21 = .ok (.putfield 18, 3) := by decide +kernel
theorem dR_init_24 : decode cR_init 24 = .ok (.aload_n 0, 1) := by decide +kernel
theorem dR_init_25 : decode cR_init 25 = .ok (.sipush 150, 3) := by decide +kernel
theorem dR_init_28 : decode cR_init 28 = .ok (.newarray .int, 2) := by decide +kernel
theorem dR_init_30 : decode cR_init 30 = .ok (.putfield 22, 3) := by decide +kernel
theorem dR_init_33 : decode cR_init 33 = .ok (.aload_n 0, 1) := by decide +kernel
theorem dR_init_34 : decode cR_init 34 = .ok (.sipush 150, 3) := by decide +kernel
theorem dR_init_37 : decode cR_init 37 = .ok (.newarray .long, 2) := by decide +kernel
theorem dR_init_39 : decode cR_init 39 = .ok (.putfield 26, 3) := by decide +kernel
theorem dR_init_42 : decode cR_init 42 = .ok (.aload_n 0, 1) := by decide +kernel
theorem dR_init_43 : decode cR_init 43 = .ok (.iconst 0, 1) := by decide +kernel
theorem dR_init_44 : decode cR_init 44 = .ok (.putfield 30, 3) := by decide +kernel
theorem dR_init_47 : decode cR_init 47 = .ok (.aload_n 0, 1) := by decide +kernel
theorem dR_init_48 : decode cR_init 48 = .ok (.iconst 0, 1) := by decide +kernel
theorem dR_init_49 : decode cR_init 49 = .ok (.putfield 34, 3) := by decide +kernel
theorem dR_init_52 : decode cR_init 52 = .ok (.aload_n 0, 1) := by decide +kernel
theorem dR_init_53 : decode cR_init 53 = .ok (.iconst 0, 1) := by decide +kernel
theorem dR_init_54 : decode cR_init 54 = .ok (.putfield 37, 3) := by decide +kernel
theorem dR_init_57 : decode cR_init 57 = .ok (.aload_n 0, 1) := by decide +kernel
theorem dR_init_58 : decode cR_init 58 = .ok (.iconst 0, 1) := by decide +kernel
theorem dR_init_59 : decode cR_init 59 = .ok (.putfield 40, 3) := by decide +kernel
theorem dR_init_62 : decode cR_init 62 = .ok (.aload_n 0, 1) := by decide +kernel
theorem dR_init_63 : decode cR_init 63 = .ok (.lconst 0, 1) := by decide +kernel
theorem dR_init_64 : decode cR_init 64 = .ok (.putfield 43, 3) := by decide +kernel
theorem dR_init_67 : decode cR_init 67 = .ok (.return_, 1) := by decide +kernel
theorem dR_manages_0 : decode cR_manages 0 = .ok (.aload_n 0, 1) := by decide +kernel
theorem dR_manages_1 : decode cR_manages 1 = .ok (.iload_n 1, 1) := by decide +kernel
theorem dR_manages_2 : decode cR_manages 2 = .ok (.putfield 34, 3) := by decide +kernel
theorem dR_manages_5 : decode cR_manages 5 = .ok (.aload_n 0, 1) := by decide +kernel
theorem dR_manages_6 : decode cR_manages 6 = .ok (.iconst 0, 1) := by decide +kernel
theorem dR_manages_7 : decode cR_manages 7 = .ok (.putfield 37, 3) := by decide +kernel
theorem dR_manages_10 : decode cR_manages 10 = .ok (.aload_n 0, 1) := by decide +kernel
theorem dR_manages_11 : decode cR_manages 11 = .ok (.iconst 0, 1) := by decide +kernel
theorem dR_manages_12 : decode cR_manages 12 = .ok (.putfield 30, 3) := by decide +kernel
theorem dR_manages_15 : decode cR_manages 15 = .ok (.aload_n 0, 1) := by decide +kernel
theorem dR_manages_16 : decode cR_manages 16 = .ok (.iconst 0, 1) := by decide +kernel
theorem dR_manages_17 : decode cR_manages 17 = .ok (.putfield 40, 3) := by decide +kernel
theorem dR_manages_20 : decode cR_manages 20 = .ok (.aload_n 0, 1) := by decide +kernel
theorem dR_manages_21 : decode cR_manages 21 = .ok (.invokevirtual 47, 3) := by decide +kernel
theorem dR_manages_24 : decode cR_manages 24 = .ok (.aload_n 0, 1) := by decide +kernel
theorem dR_manages_25 : decode cR_manages 25 = .ok (.getfield 37, 3) := by decide +kernel
theorem dR_manages_28 : decode cR_manages 28 = .ok (.aload_n 0, 1) := by decide +kernel
theorem dR_manages_29 : decode cR_manages 29 = .ok (.getfield 34, 3) := by decide +kernel
theorem dR_manages_32 : decode cR_manages 32 = .ok (.if_icmp .lt 10, 3) := by decide +kernel
theorem dR_manages_35 : decode cR_manages 35 = .ok (.aload_n 0, 1) := by decide +kernel
theorem dR_manages_36 : decode cR_manages 36 = .ok (.lconst 0, 1) := by decide +kernel
theorem dR_manages_37 : decode cR_manages 37 = .ok (.putfield 43, 3) := by decide +kernel
theorem dR_manages_40 : decode cR_manages 40 = .ok (.iconst 1, 1) := by decide +kernel
theorem dR_manages_41 : decode cR_manages 41 = .ok (.ireturn, 1) := by decide +kernel
theorem dR_manages_42 : decode cR_manages 42 = .ok (.aload_n 0, 1) := by decide +kernel
theorem dR_manages_43 : decode cR_manages 43 = .ok (.aload_n 0, 1) := by decide +kernel
theorem dR_manages_44 : decode cR_manages 44 = .ok (.iconst 0, 1) := by decide +kernel
theorem dR_manages_45 : decode cR_manages 45 = .ok (.invokevirtual 50, 3) := by decide +kernel
theorem dR_manages_48 : decode cR_manages 48 = .ok (.putfield 43, 3) := by decide +kernel
theorem dR_manages_51 : decode cR_manages 51 = .ok (.goto 6, 3) := by decide +kernel
theorem dR_manages_54 : decode cR_manages 54 = .ok (.astore_n 2, 1) := by decide +kernel
theorem dR_manages_55 : decode cR_manages 55 = .ok (.iconst 0, 1) := by decide +kernel
theorem dR_manages_56 : decode cR_manages 56 = .ok (.ireturn, 1) := by decide +kernel
theorem dR_manages_57 : decode cR_manages 57 = .ok (.aload_n 0, 1) := by decide +kernel
theorem dR_manages_58 : decode cR_manages 58 = .ok (.invokevirtual 47, 3) := by decide +kernel
theorem dR_manages_61 : decode cR_manages 61 = .ok (.aload_n 0, 1) := by decide +kernel
theorem dR_manages_62 : decode cR_manages 62 = .ok (.getfield 37, 3) := by decide +kernel
theorem dR_manages_65 : decode cR_manages 65 = .ok (.aload_n 0, 1) := by decide +kernel
theorem dR_manages_66 : decode cR_manages 66 = .ok (.getfield 34, 3) := by decide +kernel
theorem dR_manages_69 : decode cR_manages 69 = .ok (.if_icmp .lt 7, 3) := by decide +kernel
theorem dR_manages_72 : decode cR_manages 72 = .ok (.iconst 1, 1) := by decide +kernel
theorem dR_manages_73 : decode cR_manages 73 = .ok (.goto 4, 3) := by decide +kernel
theorem dR_manages_76 : decode cR_manages 76 = .ok (.iconst 0, 1) := by decide +kernel
theorem dR_manages_77 : decode cR_manages 77 = .ok (.ireturn, 1) := by decide +kernel
theorem dR_skipBlanks_0 : decode cR_skipBlanks 0 = .ok (.aload_n 0, 1) := by decide +kernel
theorem dR_skipBlanks_1 : decode cR_skipBlanks 1 = .ok (.getfield 37, 3) := by decide +kernel
theorem dR_skipBlanks_4 : decode cR_skipBlanks 4 = .ok (.istore_n 1, 1) := by decide +kernel
theorem dR_skipBlanks_5 : decode cR_skipBlanks 5 = .ok (.iload_n 1, 1) := by decide +kernel
theorem dR_skipBlanks_6 : decode cR_skipBlanks 6 = .ok (.aload_n 0, 1) := by decide +kernel
theorem dR_skipBlanks_7 : decode cR_skipBlanks 7 = .ok (.getfield 34, 3) := by decide +kernel
theorem dR_skipBlanks_10 : decode cR_skipBlanks 10 = .ok (.if_icmp .ge 27, 3) := by decide +kernel
theorem dR_skipBlanks_13 : decode cR_skipBlanks 13 = .ok (.aload_n 0, 1) := by decide +kernel
theorem dR_skipBlanks_14 : decode cR_skipBlanks 14 = .ok (.iload_n 1, 1) := by decide +kernel
theorem dR_skipBlanks_15 : decode cR_skipBlanks 15 = .ok (.invokevirtual 56, 3) := by decide +kernel
theorem dR_skipBlanks_18 : decode cR_skipBlanks 18 = .ok (.invokestatic 168, 3) := by decide +kernel
theorem dR_skipBlanks_21 : decode cR_skipBlanks 21 = .ok (.ifCond .eq 16, 3) := by decide +kernel
theorem dR_skipBlanks_24 : decode cR_skipBlanks 24 = .ok (.aload_n 0, 1) := by decide +kernel
theorem dR_skipBlanks_25 : decode cR_skipBlanks 25 = .ok (.iload_n 1, 1) := by decide +kernel
theorem dR_skipBlanks_26 : decode cR_skipBlanks 26 = .ok (.iconst 1, 1) := by decide +kernel
theorem dR_skipBlanks_27 : decode cR_skipBlanks 27 = .ok (.iadd, 1) := by decide +kernel
theorem dR_skipBlanks_28 : decode cR_skipBlanks 28 = .ok (.putfield 37, 3) := by decide +kernel
theorem dR_skipBlanks_31 : decode cR_skipBlanks 31 = .ok (.iinc 1 1, 3) := by decide +kernel
theorem dR_skipBlanks_34 : decode cR_skipBlanks 34 = .ok (.goto (-29), 3) := by decide +kernel
theorem dR_skipBlanks_37 : decode cR_skipBlanks 37 = .ok (.return_, 1) := by decide +kernel
theorem dR_charAt_0 : decode cR_charAt 0 = .ok (.iload_n 1, 1) := by decide +kernel
theorem dR_charAt_1 : decode cR_charAt 1 = .ok (.ifCond .lt 20, 3) := by decide +kernel
theorem dR_charAt_4 : decode cR_charAt 4 = .ok (.iload_n 1, 1) := by decide +kernel
theorem dR_charAt_5 : decode cR_charAt 5 = .ok (.aload_n 0, 1) := by decide +kernel
theorem dR_charAt_6 : decode cR_charAt 6 = .ok (.getfield 34, 3) := by decide +kernel
theorem dR_charAt_9 : decode cR_charAt 9 = .ok (.if_icmp .ge 12, 3) := by decide +kernel
theorem dR_charAt_12 : decode cR_charAt 12 = .ok (.iload_n 1, 1) := by decide +kernel
theorem dR_charAt_13 : decode cR_charAt 13 = .ok (.aload_n 0, 1) := by decide +kernel
theorem dR_charAt_14 : decode cR_charAt 14 = .ok (.getfield 9, 3) := by decide +kernel
theorem dR_charAt_17 : decode cR_charAt 17 = .ok (.arraylength, 1) := by decide +kernel
theorem dR_charAt_18 : decode cR_charAt 18 = .ok (.if_icmp .lt 7, 3) := by decide +kernel
theorem dR_charAt_21 : decode cR_charAt 21 = .ok (.iconst 0, 1) := by decide +kernel
theorem dR_charAt_22 : decode cR_charAt 22 = .ok (.goto 9, 3) := by decide +kernel
theorem dR_charAt_25 : decode cR_charAt 25 = .ok (.aload_n 0, 1) := by decide +kernel
theorem dR_charAt_26 : decode cR_charAt 26 = .ok (.getfield 9, 3) := by decide +kernel
theorem dR_charAt_29 : decode cR_charAt 29 = .ok (.iload_n 1, 1) := by decide +kernel
theorem dR_charAt_30 : decode cR_charAt 30 = .ok (.caload, 1) := by decide +kernel
theorem dR_charAt_31 : decode cR_charAt 31 = .ok (.ireturn, 1) := by decide +kernel
theorem dR_expression_0 : decode cR_expression 0 = .ok (.aload_n 0, 1) := by decide +kernel
theorem dR_expression_1 : decode cR_expression 1 = .ok (.invokevirtual 47, 3) := by decide +kernel
theorem dR_expression_4 : decode cR_expression 4 = .ok (.aload_n 0, 1) := by decide +kernel
theorem dR_expression_5 : decode cR_expression 5 = .ok (.aload_n 0, 1) := by decide +kernel
theorem dR_expression_6 : decode cR_expression 6 = .ok (.getfield 37, 3) := by decide +kernel
theorem dR_expression_9 : decode cR_expression 9 = .ok (.invokevirtual 56, 3) := by decide +kernel
theorem dR_expression_12 : decode cR_expression 12 = .ok (.invokestatic 60, 3) := by decide +kernel
theorem dR_expression_15 : decode cR_expression 15 = .ok (.ifCond .eq 66, 3) := by decide +kernel
theorem dR_expression_18 : decode cR_expression 18 = .ok (.aload_n 0, 1) := by decide +kernel
theorem dR_expression_19 : decode cR_expression 19 = .ok (.getfield 37, 3) := by decide +kernel
theorem dR_expression_22 : decode cR_expression 22 = .ok (.istore_n 2, 1) := by decide +kernel
theorem dR_expression_23 : decode cR_expression 23 = .ok (.aload_n 0, 1) := by decide +kernel
theorem dR_expression_24 : decode cR_expression 24 = .ok (.invokevirtual 64, 3) := by decide +kernel
theorem dR_expression_27 : decode cR_expression 27 = .ok (.istore_n 3, 1) := by decide +kernel
theorem dR_expression_28 : decode cR_expression 28 = .ok (.aload_n 0, 1) := by decide +kernel
theorem dR_expression_29 : decode cR_expression 29 = .ok (.iload_n 3, 1) := by decide +kernel
theorem dR_expression_30 : decode cR_expression 30 = .ok (.putfield 37, 3) := by decide +kernel
theorem dR_expression_33 : decode cR_expression 33 = .ok (.aload_n 0, 1) := by decide +kernel
theorem dR_expression_34 : decode cR_expression 34 = .ok (.invokevirtual 68, 3) := by decide +kernel
theorem dR_expression_37 : decode cR_expression 37 = .ok (.istore 4, 2) := by decide +kernel
theorem dR_expression_39 : decode cR_expression 39 = .ok (.iload 4, 2) := by decide +kernel
theorem dR_expression_41 : decode cR_expression 41 = .ok (.ifCond .eq 35, 3) := by decide +kernel
theorem dR_expression_44 : decode cR_expression 44 = .ok (.aload_n 0, 1) := by decide +kernel
theorem dR_expression_45 : decode cR_expression 45 = .ok (.iload_n 1, 1) := by decide +kernel
theorem dR_expression_46 : decode cR_expression 46 = .ok (.invokestatic 71, 3) := by decide +kernel
theorem dR_expression_49 : decode cR_expression 49 = .ok (.invokevirtual 50, 3) := by decide +kernel
theorem dR_expression_52 : decode cR_expression 52 = .ok (.lstore 5, 2) := by decide +kernel
theorem dR_expression_54 : decode cR_expression 54 = .ok (.aload_n 0, 1) := by decide +kernel
theorem dR_expression_55 : decode cR_expression 55 = .ok (.getfield 40, 3) := by decide +kernel
theorem dR_expression_58 : decode cR_expression 58 = .ok (.ifCond .le 7, 3) := by decide +kernel
theorem dR_expression_61 : decode cR_expression 61 = .ok (.lconst 0, 1) := by decide +kernel
theorem dR_expression_62 : decode cR_expression 62 = .ok (.goto 13, 3) := by decide +kernel
theorem dR_expression_65 : decode cR_expression 65 = .ok (.aload_n 0, 1) := by decide +kernel
theorem dR_expression_66 : decode cR_expression 66 = .ok (.iload_n 2, 1) := by decide +kernel
theorem dR_expression_67 : decode cR_expression 67 = .ok (.iload_n 3, 1) := by decide +kernel
theorem dR_expression_68 : decode cR_expression 68 = .ok (.iload 4, 2) := by decide +kernel
theorem dR_expression_70 : decode cR_expression 70 = .ok (.lload 5, 2) := by decide +kernel
theorem dR_expression_72 : decode cR_expression 72 = .ok (.invokevirtual 75, 3) := by decide +kernel
theorem dR_expression_75 : decode cR_expression 75 = .ok (.lreturn, 1) := by decide +kernel
theorem dR_expression_76 : decode cR_expression 76 = .ok (.aload_n 0, 1) := by decide +kernel
theorem dR_expression_77 : decode cR_expression 77 = .ok (.iload_n 2, 1) := by decide +kernel
theorem dR_expression_78 : decode cR_expression 78 = .ok (.putfield 37, 3) := by decide +kernel
theorem dR_expression_81 : decode cR_expression 81 = .ok (.aload_n 0, 1) := by decide +kernel
theorem dR_expression_82 : decode cR_expression 82 = .ok (.iload_n 1, 1) := by decide +kernel
theorem dR_expression_83 : decode cR_expression 83 = .ok (.invokevirtual 79, 3) := by decide +kernel
theorem dR_expression_86 : decode cR_expression 86 = .ok (.lreturn, 1) := by decide +kernel
theorem dR_wordEnd_0 : decode cR_wordEnd 0 = .ok (.aload_n 0, 1) := by decide +kernel
theorem dR_wordEnd_1 : decode cR_wordEnd 1 = .ok (.getfield 37, 3) := by decide +kernel
theorem dR_wordEnd_4 : decode cR_wordEnd 4 = .ok (.istore_n 1, 1) := by decide +kernel
theorem dR_wordEnd_5 : decode cR_wordEnd 5 = .ok (.aload_n 0, 1) := by decide +kernel
theorem dR_wordEnd_6 : decode cR_wordEnd 6 = .ok (.getfield 37, 3) := by decide +kernel
theorem dR_wordEnd_9 : decode cR_wordEnd 9 = .ok (.istore_n 2, 1) := by decide +kernel
theorem dR_wordEnd_10 : decode cR_wordEnd 10 = .ok (.iload_n 2, 1) := by decide +kernel
theorem dR_wordEnd_11 : decode cR_wordEnd 11 = .ok (.aload_n 0, 1) := by decide +kernel
theorem dR_wordEnd_12 : decode cR_wordEnd 12 = .ok (.getfield 34, 3) := by decide +kernel
theorem dR_wordEnd_15 : decode cR_wordEnd 15 = .ok (.if_icmp .ge 24, 3) := by decide +kernel
theorem dR_wordEnd_18 : decode cR_wordEnd 18 = .ok (.aload_n 0, 1) := by decide +kernel
theorem dR_wordEnd_19 : decode cR_wordEnd 19 = .ok (.iload_n 2, 1) := by decide +kernel
theorem dR_wordEnd_20 : decode cR_wordEnd 20 = .ok (.invokevirtual 56, 3) := by decide +kernel
theorem dR_wordEnd_23 : decode cR_wordEnd 23 = .ok (.invokestatic 171, 3) := by decide +kernel
theorem dR_wordEnd_26 : decode cR_wordEnd 26 = .ok (.ifCond .eq 13, 3) := by decide +kernel
theorem dR_wordEnd_29 : decode cR_wordEnd 29 = .ok (.iload_n 2, 1) := by decide +kernel
theorem dR_wordEnd_30 : decode cR_wordEnd 30 = .ok (.iconst 1, 1) := by decide +kernel
theorem dR_wordEnd_31 : decode cR_wordEnd 31 = .ok (.iadd, 1) := by decide +kernel
theorem dR_wordEnd_32 : decode cR_wordEnd 32 = .ok (.istore_n 1, 1) := by decide +kernel
theorem dR_wordEnd_33 : decode cR_wordEnd 33 = .ok (.iinc 2 1, 3) := by decide +kernel
theorem dR_wordEnd_36 : decode cR_wordEnd 36 = .ok (.goto (-26), 3) := by decide +kernel
theorem dR_wordEnd_39 : decode cR_wordEnd 39 = .ok (.iload_n 1, 1) := by decide +kernel
theorem dR_wordEnd_40 : decode cR_wordEnd 40 = .ok (.ireturn, 1) := by decide +kernel
theorem dR_assignmentSign_0 : decode cR_assignmentSign 0 = .ok (.aload_n 0, 1) := by decide +kernel
theorem dR_assignmentSign_1 : decode cR_assignmentSign 1 = .ok (.invokevirtual 47, 3) := by decide +kernel
theorem dR_assignmentSign_4 : decode cR_assignmentSign 4 = .ok (.aload_n 0, 1) := by decide +kernel
theorem dR_assignmentSign_5 : decode cR_assignmentSign 5 = .ok (.aload_n 0, 1) := by decide +kernel
theorem dR_assignmentSign_6 : decode cR_assignmentSign 6 = .ok (.getfield 37, 3) := by decide +kernel
theorem dR_assignmentSign_9 : decode cR_assignmentSign 9 = .ok (.invokevirtual 56, 3) := by decide +kernel
theorem dR_assignmentSign_12 : decode cR_assignmentSign 12 = .ok (.istore_n 1, 1) := by decide +kernel
theorem dR_assignmentSign_13 : decode cR_assignmentSign 13 = .ok (.aload_n 0, 1) := by decide +kernel
theorem dR_assignmentSign_14 : decode cR_assignmentSign 14 = .ok (.aload_n 0, 1) := by decide +kernel
theorem dR_assignmentSign_15 : decode cR_assignmentSign 15 = .ok (.getfield 37, 3) := by decide +kernel
theorem dR_assignmentSign_18 : decode cR_assignmentSign 18 = .ok (.iconst 1, 1) := by decide +kernel
theorem dR_assignmentSign_19 : decode cR_assignmentSign 19 = .ok (.iadd, 1) := by decide +kernel
theorem dR_assignmentSign_20 : decode cR_assignmentSign 20 = .ok (.invokevirtual 56, 3) := by decide +kernel
theorem dR_assignmentSign_23 : decode cR_assignmentSign 23 = .ok (.istore_n 2, 1) := by decide +kernel
theorem dR_assignmentSign_24 : decode cR_assignmentSign 24 = .ok (.iload_n 1, 1) := by decide +kernel
theorem dR_assignmentSign_25 : decode cR_assignmentSign 25 = .ok (.bipush 8, 2) := by decide +kernel
theorem dR_assignmentSign_27 : decode cR_assignmentSign 27 = .ok (.ishl, 1) := by decide +kernel
theorem dR_assignmentSign_28 : decode cR_assignmentSign 28 = .ok (.iload_n 2, 1) := by decide +kernel
theorem dR_assignmentSign_29 : decode cR_assignmentSign 29 = .ok (.ior, 1) := by decide +kernel
theorem dR_assignmentSign_30 : decode cR_assignmentSign 30 = .ok (.istore_n 3, 1) := by decide +kernel
theorem dR_assignmentSign_31 : decode cR_assignmentSign 31 = .ok (.iload_n 1, 1) := by decide +kernel
theorem dR_assignmentSign_32 : decode cR_assignmentSign 32 = .ok (.bipush 61, 2) := by decide +kernel
theorem dR_assignmentSign_34 : decode cR_assignmentSign 34 = .ok (.if_icmp .ne 21, 3) := by decide +kernel
theorem dR_assignmentSign_37 : decode cR_assignmentSign 37 = .ok (.iload_n 2, 1) := by decide +kernel
theorem dR_assignmentSign_38 : decode cR_assignmentSign 38 = .ok (.bipush 61, 2) := by decide +kernel
theorem dR_assignmentSign_40 : decode cR_assignmentSign 40 = .ok (.if_icmp .eq 15, 3) := by decide +kernel
theorem dR_assignmentSign_43 : decode cR_assignmentSign 43 = .ok (.aload_n 0, 1) := by decide +kernel
theorem dR_assignmentSign_44 : decode cR_assignmentSign 44 = .ok (.dup, 1) := by decide +kernel
theorem dR_assignmentSign_45 : decode cR_assignmentSign 45 = .ok (.getfield 37, 3) := by decide +kernel
theorem dR_assignmentSign_48 : decode cR_assignmentSign 48 = .ok (.iconst 1, 1) := by decide +kernel
theorem dR_assignmentSign_49 : decode cR_assignmentSign 49 = .ok (.iadd, 1) := by decide +kernel
theorem dR_assignmentSign_50 : decode cR_assignmentSign 50 = .ok (.putfield 37, 3) := by decide +kernel
theorem dR_assignmentSign_53 : decode cR_assignmentSign 53 = .ok (.iload_n 1, 1) := by decide +kernel
theorem dR_assignmentSign_54 : decode cR_assignmentSign 54 = .ok (.ireturn, 1) := by decide +kernel
theorem dR_assignmentSign_55 : decode cR_assignmentSign 55 = .ok (.iload_n 3, 1) := by decide +kernel
theorem dR_assignmentSign_56 : decode cR_assignmentSign 56 = .ok (.invokestatic 162, 3) := by decide +kernel
theorem dR_assignmentSign_59 : decode cR_assignmentSign 59 = .ok (.ifCond .eq 30, 3) := by decide +kernel
theorem dR_assignmentSign_62 : decode cR_assignmentSign 62 = .ok (.aload_n 0, 1) := by decide +kernel
theorem dR_assignmentSign_63 : decode cR_assignmentSign 63 = .ok (.aload_n 0, 1) := by decide +kernel
theorem dR_assignmentSign_64 : decode cR_assignmentSign 64 = .ok (.getfield 37, 3) := by decide +kernel
theorem dR_assignmentSign_67 : decode cR_assignmentSign 67 = .ok (.iconst 2, 1) := by decide +kernel
theorem dR_assignmentSign_68 : decode cR_assignmentSign 68 = .ok (.iadd, 1) := by decide +kernel
theorem dR_assignmentSign_69 : decode cR_assignmentSign 69 = .ok (.invokevirtual 56, 3) := by decide +kernel
theorem dR_assignmentSign_72 : decode cR_assignmentSign 72 = .ok (.bipush 61, 2) := by decide +kernel
theorem dR_assignmentSign_74 : decode cR_assignmentSign 74 = .ok (.if_icmp .ne 15, 3) := by decide +kernel
theorem dR_assignmentSign_77 : decode cR_assignmentSign 77 = .ok (.aload_n 0, 1) := by decide +kernel
theorem dR_assignmentSign_78 : decode cR_assignmentSign 78 = .ok (.dup, 1) := by decide +kernel
theorem dR_assignmentSign_79 : decode cR_assignmentSign 79 = .ok (.getfield 37, 3) := by decide +kernel
theorem dR_assignmentSign_82 : decode cR_assignmentSign 82 = .ok (.iconst 3, 1) := by decide +kernel
theorem dR_assignmentSign_83 : decode cR_assignmentSign 83 = .ok (.iadd, 1) := by decide +kernel
theorem dR_assignmentSign_84 : decode cR_assignmentSign 84 = .ok (.putfield 37, 3) := by decide +kernel
theorem dR_assignmentSign_87 : decode cR_assignmentSign 87 = .ok (.iload_n 3, 1) := by decide +kernel
theorem dR_assignmentSign_88 : decode cR_assignmentSign 88 = .ok (.ireturn, 1) := by decide +kernel
theorem dR_assignmentSign_89 : decode cR_assignmentSign 89 = .ok (.iload_n 2, 1) := by decide +kernel
theorem dR_assignmentSign_90 : decode cR_assignmentSign 90 = .ok (.bipush 61, 2) := by decide +kernel
theorem dR_assignmentSign_92 : decode cR_assignmentSign 92 = .ok (.if_icmp .ne 34, 3) := by decide +kernel
theorem dR_assignmentSign_95 : decode cR_assignmentSign 95 = .ok (.iload_n 1, 1) := by decide +kernel
theorem dR_assignmentSign_96 : decode cR_assignmentSign 96 = .ok (.bipush 60, 2) := by decide +kernel
theorem dR_assignmentSign_98 : decode cR_assignmentSign 98 = .ok (.if_icmp .eq 28, 3) := by decide +kernel
theorem dR_assignmentSign_101 : decode cR_assignmentSign 101 = .ok (.iload_n 1, 1) := by decide +kernel
theorem dR_assignmentSign_102 : decode cR_assignmentSign 102 = .ok (.bipush 62, 2) := by decide +kernel
theorem dR_assignmentSign_104 : decode cR_assignmentSign 104 = .ok (.if_icmp .eq 22, 3) := by decide +kernel
theorem dR_assignmentSign_107 : decode cR_assignmentSign 107 = .ok (.iload_n 1, 1) := by decide +kernel
theorem dR_assignmentSign_108 : decode cR_assignmentSign 108 = .ok (.invokestatic 95, 3) := by decide +kernel
theorem dR_assignmentSign_111 : decode cR_assignmentSign 111 = .ok (.ifCond .le 15, 3) := by decide +kernel
theorem dR_assignmentSign_114 : decode cR_assignmentSign 114 = .ok (.aload_n 0, 1) := by decide +kernel
theorem dR_assignmentSign_115 : decode cR_assignmentSign 115 = .ok (.dup, 1) := by decide +kernel
theorem dR_assignmentSign_116 : decode cR_assignmentSign 116 = .ok (.getfield 37, 3) := by decide +kernel
theorem dR_assignmentSign_119 : decode cR_assignmentSign 119 = .ok (.iconst 2, 1) := by decide +kernel
theorem dR_assignmentSign_120 : decode cR_assignmentSign 120 = .ok (.iadd, 1) := by decide +kernel
theorem dR_assignmentSign_121 : decode cR_assignmentSign 121 = .ok (.putfield 37, 3) := by decide +kernel
theorem dR_assignmentSign_124 : decode cR_assignmentSign 124 = .ok (.iload_n 1, 1) := by decide +kernel
theorem dR_assignmentSign_125 : decode cR_assignmentSign 125 = .ok (.ireturn, 1) := by decide +kernel
theorem dR_assignmentSign_126 : decode cR_assignmentSign 126 = .ok (.iconst 0, 1) := by decide +kernel
theorem dR_assignmentSign_127 : decode cR_assignmentSign 127 = .ok (.ireturn, 1) := by decide +kernel
theorem dR_isShift_0 : decode cR_isShift 0 = .ok (.iload_n 0, 1) := by decide +kernel
theorem dR_isShift_1 : decode cR_isShift 1 = .ok (.sipush 15420, 3) := by decide +kernel
theorem dR_isShift_4 : decode cR_isShift 4 = .ok (.if_icmp .eq 10, 3) := by decide +kernel
theorem dR_isShift_7 : decode cR_isShift 7 = .ok (.iload_n 0, 1) := by decide +kernel
theorem dR_isShift_8 : decode cR_isShift 8 = .ok (.sipush 15934, 3) := by decide +kernel
theorem dR_isShift_11 : decode cR_isShift 11 = .ok (.if_icmp .ne 7, 3) := by decide +kernel
theorem dR_isShift_14 : decode cR_isShift 14 = .ok (.iconst 1, 1) := by decide +kernel
theorem dR_isShift_15 : decode cR_isShift 15 = .ok (.goto 4, 3) := by decide +kernel
theorem dR_isShift_18 : decode cR_isShift 18 = .ok (.iconst 0, 1) := by decide +kernel
theorem dR_isShift_19 : decode cR_isShift 19 = .ok (.ireturn, 1) := by decide +kernel
theorem dR_deeper_0 : decode cR_deeper 0 = .ok (.iload_n 0, 1) := by decide +kernel
theorem dR_deeper_1 : decode cR_deeper 1 = .ok (.bipush 40, 2) := by decide +kernel
theorem dR_deeper_3 : decode cR_deeper 3 = .ok (.if_icmp .lt 13, 3) := by decide +kernel
theorem dR_deeper_6 : decode cR_deeper 6 = .ok (.new 54, 3) := by decide +kernel
theorem dR_deeper_9 : decode cR_deeper 9 = .ok (.dup, 1) := by decide +kernel
theorem dR_deeper_10 : decode cR_deeper 10 = .ok (.ldc 114, 2) := by decide +kernel
theorem dR_deeper_12 : decode cR_deeper 12 = .ok (.invokespecial 116, 3) := by decide +kernel
theorem dR_deeper_15 : decode cR_deeper 15 = .ok (.athrow, 1) := by decide +kernel
theorem dR_deeper_16 : decode cR_deeper 16 = .ok (.iload_n 0, 1) := by decide +kernel
theorem dR_deeper_17 : decode cR_deeper 17 = .ok (.iconst 1, 1) := by decide +kernel
theorem dR_deeper_18 : decode cR_deeper 18 = .ok (.iadd, 1) := by decide +kernel
theorem dR_deeper_19 : decode cR_deeper 19 = .ok (.ireturn, 1) := by decide +kernel
theorem dR_assign_0 : decode cR_assign 0 = .ok (.iload_n 3, 1) := by decide +kernel
theorem dR_assign_1 : decode cR_assign 1 = .ok (.bipush 61, 2) := by decide +kernel
theorem dR_assign_3 : decode cR_assign 3 = .ok (.if_icmp .ne 8, 3) := by decide +kernel
theorem dR_assign_6 : decode cR_assign 6 = .ok (.lload 4, 2) := by decide +kernel
theorem dR_assign_8 : decode cR_assign 8 = .ok (.goto 15, 3) := by decide +kernel
theorem dR_assign_11 : decode cR_assign 11 = .ok (.iload_n 3, 1) := by decide +kernel
theorem dR_assign_12 : decode cR_assign 12 = .ok (.aload_n 0, 1) := by decide +kernel
theorem dR_assign_13 : decode cR_assign 13 = .ok (.iload_n 1, 1) := by decide +kernel
theorem dR_assign_14 : decode cR_assign 14 = .ok (.iload_n 2, 1) := by decide +kernel
theorem dR_assign_15 : decode cR_assign 15 = .ok (.invokevirtual 128, 3) := by decide +kernel
theorem dR_assign_18 : decode cR_assign 18 = .ok (.lload 4, 2) := by decide +kernel
theorem dR_assign_20 : decode cR_assign 20 = .ok (.invokestatic 140, 3) := by decide +kernel
theorem dR_assign_23 : decode cR_assign 23 = .ok (.lstore 6, 2) := by decide +kernel
theorem dR_assign_25 : decode cR_assign 25 = .ok (.aload_n 0, 1) := by decide +kernel
theorem dR_assign_26 : decode cR_assign 26 = .ok (.getfield 18, 3) := by decide +kernel
theorem dR_assign_29 : decode cR_assign 29 = .ok (.aload_n 0, 1) := by decide +kernel
theorem dR_assign_30 : decode cR_assign 30 = .ok (.getfield 9, 3) := by decide +kernel
theorem dR_assign_33 : decode cR_assign 33 = .ok (.iload_n 1, 1) := by decide +kernel
theorem dR_assign_34 : decode cR_assign 34 = .ok (.iload_n 2, 1) := by decide +kernel
theorem dR_assign_35 : decode cR_assign 35 = .ok (.invokevirtual 144, 3) := by decide +kernel
theorem dR_assign_38 : decode cR_assign 38 = .ok (.astore 8, 2) := by decide +kernel
theorem dR_assign_40 : decode cR_assign 40 = .ok (.aload 8, 2) := by decide +kernel
theorem dR_assign_42 : decode cR_assign 42 = .ok (.ifnonnull 13, 3) := by decide +kernel
theorem dR_assign_45 : decode cR_assign 45 = .ok (.new 54, 3) := by decide +kernel
theorem dR_assign_48 : decode cR_assign 48 = .ok (.dup, 1) := by decide +kernel
theorem dR_assign_49 : decode cR_assign 49 = .ok (.ldc 147, 2) := by decide +kernel
theorem dR_assign_51 : decode cR_assign 51 = .ok (.invokespecial 116, 3) := by decide +kernel
theorem dR_assign_54 : decode cR_assign 54 = .ok (.athrow, 1) := by decide +kernel
theorem dR_assign_55 : decode cR_assign 55 = .ok (.aload 8, 2) := by decide +kernel
theorem dR_assign_57 : decode cR_assign 57 = .ok (.lload 6, 2) := by decide +kernel
theorem dR_assign_59 : decode cR_assign 59 = .ok (.invokevirtual 149, 3) := by decide +kernel
theorem dR_assign_62 : decode cR_assign 62 = .ok (.lload 6, 2) := by decide +kernel
theorem dR_assign_64 : decode cR_assign 64 = .ok (.lreturn, 1) := by decide +kernel
theorem dR_nameValue_0 : decode cR_nameValue 0 = .ok (.aload_n 0, 1) := by decide +kernel
theorem dR_nameValue_1 : decode cR_nameValue 1 = .ok (.getfield 18, 3) := by decide +kernel
theorem dR_nameValue_4 : decode cR_nameValue 4 = .ok (.aload_n 0, 1) := by decide +kernel
theorem dR_nameValue_5 : decode cR_nameValue 5 = .ok (.getfield 9, 3) := by decide +kernel
theorem dR_nameValue_8 : decode cR_nameValue 8 = .ok (.iload_n 1, 1) := by decide +kernel
theorem dR_nameValue_9 : decode cR_nameValue 9 = .ok (.iload_n 2, 1) := by decide +kernel
theorem dR_nameValue_10 : decode cR_nameValue 10 = .ok (.invokevirtual 132, 3) := by decide +kernel
theorem dR_nameValue_13 : decode cR_nameValue 13 = .ok (.astore_n 3, 1) := by decide +kernel
theorem dR_nameValue_14 : decode cR_nameValue 14 = .ok (.aload_n 3, 1) := by decide +kernel
theorem dR_nameValue_15 : decode cR_nameValue 15 = .ok (.ifnull 10, 3) := by decide +kernel
theorem dR_nameValue_18 : decode cR_nameValue 18 = .ok (.aload_n 3, 1) := by decide +kernel
theorem dR_nameValue_19 : decode cR_nameValue 19 = .ok (.getfield 136, 3) := by decide +kernel
theorem dR_nameValue_22 : decode cR_nameValue 22 = .ok (.ifCond .ne 5, 3) := by decide +kernel
theorem dR_nameValue_25 : decode cR_nameValue 25 = .ok (.lconst 0, 1) := by decide +kernel
theorem dR_nameValue_26 : decode cR_nameValue 26 = .ok (.lreturn, 1) := by decide +kernel
theorem dR_nameValue_27 : decode cR_nameValue 27 = .ok (.aload_n 3, 1) := by decide +kernel
theorem dR_nameValue_28 : decode cR_nameValue 28 = .ok (.getfield 139, 3) := by decide +kernel
theorem dR_nameValue_31 : decode cR_nameValue 31 = .ok (.iconst 0, 1) := by decide +kernel
theorem dR_nameValue_32 : decode cR_nameValue 32 = .ok (.caload, 1) := by decide +kernel
theorem dR_nameValue_33 : decode cR_nameValue 33 = .ok (.bipush 45, 2) := by decide +kernel
theorem dR_nameValue_35 : decode cR_nameValue 35 = .ok (.if_icmp .ne 17, 3) := by decide +kernel
theorem dR_nameValue_38 : decode cR_nameValue 38 = .ok (.aload_n 3, 1) := by decide +kernel
theorem dR_nameValue_39 : decode cR_nameValue 39 = .ok (.getfield 139, 3) := by decide +kernel
theorem dR_nameValue_42 : decode cR_nameValue 42 = .ok (.iconst 1, 1) := by decide +kernel
theorem dR_nameValue_43 : decode cR_nameValue 43 = .ok (.aload_n 3, 1) := by decide +kernel
theorem dR_nameValue_44 : decode cR_nameValue 44 = .ok (.getfield 136, 3) := by decide +kernel
theorem dR_nameValue_47 : decode cR_nameValue 47 = .ok (.invokestatic 122, 3) := by decide +kernel
theorem dR_nameValue_50 : decode cR_nameValue 50 = .ok (.lneg, 1) := by decide +kernel
theorem dR_nameValue_51 : decode cR_nameValue 51 = .ok (.lreturn, 1) := by decide +kernel
theorem dR_nameValue_52 : decode cR_nameValue 52 = .ok (.aload_n 3, 1) := by decide +kernel
theorem dR_nameValue_53 : decode cR_nameValue 53 = .ok (.getfield 139, 3) := by decide +kernel
theorem dR_nameValue_56 : decode cR_nameValue 56 = .ok (.iconst 0, 1) := by decide +kernel
theorem dR_nameValue_57 : decode cR_nameValue 57 = .ok (.aload_n 3, 1) := by decide +kernel
theorem dR_nameValue_58 : decode cR_nameValue 58 = .ok (.getfield 136, 3) := by decide +kernel
theorem dR_nameValue_61 : decode cR_nameValue 61 = .ok (.invokestatic 122, 3) := by decide +kernel
theorem dR_nameValue_64 : decode cR_nameValue 64 = .ok (.lreturn, 1) := by decide +kernel
theorem dR_choice_0 : decode cR_choice 0 = .ok (.aload_n 0, 1) := by decide +kernel
theorem dR_choice_1 : decode cR_choice 1 = .ok (.iload_n 1, 1) := by decide +kernel
theorem dR_choice_2 : decode cR_choice 2 = .ok (.invokevirtual 82, 3) := by decide +kernel
theorem dR_choice_5 : decode cR_choice 5 = .ok (.lstore_n 2, 1) := by decide +kernel
theorem dR_choice_6 : decode cR_choice 6 = .ok (.aload_n 0, 1) := by decide +kernel
theorem dR_choice_7 : decode cR_choice 7 = .ok (.invokevirtual 47, 3) := by decide +kernel
theorem dR_choice_10 : decode cR_choice 10 = .ok (.aload_n 0, 1) := by decide +kernel
theorem dR_choice_11 : decode cR_choice 11 = .ok (.aload_n 0, 1) := by decide +kernel
theorem dR_choice_12 : decode cR_choice 12 = .ok (.getfield 37, 3) := by decide +kernel
theorem dR_choice_15 : decode cR_choice 15 = .ok (.invokevirtual 56, 3) := by decide +kernel
theorem dR_choice_18 : decode cR_choice 18 = .ok (.bipush 63, 2) := by decide +kernel
theorem dR_choice_20 : decode cR_choice 20 = .ok (.if_icmp .eq 5, 3) := by decide +kernel
theorem dR_choice_23 : decode cR_choice 23 = .ok (.lload_n 2, 1) := by decide +kernel
theorem dR_choice_24 : decode cR_choice 24 = .ok (.lreturn, 1) := by decide +kernel
theorem dR_choice_25 : decode cR_choice 25 = .ok (.aload_n 0, 1) := by decide +kernel
theorem dR_choice_26 : decode cR_choice 26 = .ok (.dup, 1) := by decide +kernel
theorem dR_choice_27 : decode cR_choice 27 = .ok (.getfield 37, 3) := by decide +kernel
theorem dR_choice_30 : decode cR_choice 30 = .ok (.iconst 1, 1) := by decide +kernel
theorem dR_choice_31 : decode cR_choice 31 = .ok (.iadd, 1) := by decide +kernel
theorem dR_choice_32 : decode cR_choice 32 = .ok (.putfield 37, 3) := by decide +kernel
theorem dR_choice_35 : decode cR_choice 35 = .ok (.iload_n 1, 1) := by decide +kernel
theorem dR_choice_36 : decode cR_choice 36 = .ok (.invokestatic 71, 3) := by decide +kernel
theorem dR_choice_39 : decode cR_choice 39 = .ok (.istore 4, 2) := by decide +kernel
theorem dR_choice_41 : decode cR_choice 41 = .ok (.lload_n 2, 1) := by decide +kernel
theorem dR_choice_42 : decode cR_choice 42 = .ok (.lconst 0, 1) := by decide +kernel
theorem dR_choice_43 : decode cR_choice 43 = .ok (.lcmp, 1) := by decide +kernel
theorem dR_choice_44 : decode cR_choice 44 = .ok (.ifCond .ne 7, 3) := by decide +kernel
theorem dR_choice_47 : decode cR_choice 47 = .ok (.iconst 1, 1) := by decide +kernel
theorem dR_choice_48 : decode cR_choice 48 = .ok (.goto 4, 3) := by decide +kernel
theorem dR_choice_51 : decode cR_choice 51 = .ok (.iconst 0, 1) := by decide +kernel
theorem dR_choice_52 : decode cR_choice 52 = .ok (.istore 5, 2) := by decide +kernel
theorem dR_choice_54 : decode cR_choice 54 = .ok (.iconst 1, 1) := by decide +kernel
theorem dR_choice_55 : decode cR_choice 55 = .ok (.iload 5, 2) := by decide +kernel
theorem dR_choice_57 : decode cR_choice 57 = .ok (.isub, 1) := by decide +kernel
theorem dR_choice_58 : decode cR_choice 58 = .ok (.istore 6, 2) := by decide +kernel
theorem dR_choice_60 : decode cR_choice 60 = .ok (.aload_n 0, 1) := by decide +kernel
theorem dR_choice_61 : decode cR_choice 61 = .ok (.dup, 1) := by decide +kernel
theorem dR_choice_62 : decode cR_choice 62 = .ok (.getfield 40, 3) := by decide +kernel
theorem dR_choice_65 : decode cR_choice 65 = .ok (.iload 5, 2) := by decide +kernel
theorem dR_choice_67 : decode cR_choice 67 = .ok (.iadd, 1) := by decide +kernel
theorem dR_choice_68 : decode cR_choice 68 = .ok (.putfield 40, 3) := by decide +kernel
theorem dR_choice_71 : decode cR_choice 71 = .ok (.aload_n 0, 1) := by decide +kernel
theorem dR_choice_72 : decode cR_choice 72 = .ok (.iload 4, 2) := by decide +kernel
theorem dR_choice_74 : decode cR_choice 74 = .ok (.invokevirtual 50, 3) := by decide +kernel
theorem dR_choice_77 : decode cR_choice 77 = .ok (.lstore 7, 2) := by decide +kernel
theorem dR_choice_79 : decode cR_choice 79 = .ok (.aload_n 0, 1) := by decide +kernel
theorem dR_choice_80 : decode cR_choice 80 = .ok (.dup, 1) := by decide +kernel
theorem dR_choice_81 : decode cR_choice 81 = .ok (.getfield 40, 3) := by decide +kernel
theorem dR_choice_84 : decode cR_choice 84 = .ok (.iload 5, 2) := by decide +kernel
theorem dR_choice_86 : decode cR_choice 86 = .ok (.isub, 1) := by decide +kernel
theorem dR_choice_87 : decode cR_choice 87 = .ok (.putfield 40, 3) := by decide +kernel
theorem dR_choice_90 : decode cR_choice 90 = .ok (.aload_n 0, 1) := by decide +kernel
theorem dR_choice_91 : decode cR_choice 91 = .ok (.bipush 58, 2) := by decide +kernel
theorem dR_choice_93 : decode cR_choice 93 = .ok (.invokevirtual 85, 3) := by decide +kernel
theorem dR_choice_96 : decode cR_choice 96 = .ok (.aload_n 0, 1) := by decide +kernel
theorem dR_choice_97 : decode cR_choice 97 = .ok (.dup, 1) := by decide +kernel
theorem dR_choice_98 : decode cR_choice 98 = .ok (.getfield 40, 3) := by decide +kernel
theorem dR_choice_101 : decode cR_choice 101 = .ok (.iload 6, 2) := by decide +kernel
theorem dR_choice_103 : decode cR_choice 103 = .ok (.iadd, 1) := by decide +kernel
theorem dR_choice_104 : decode cR_choice 104 = .ok (.putfield 40, 3) := by decide +kernel
theorem dR_choice_107 : decode cR_choice 107 = .ok (.aload_n 0, 1) := by decide +kernel
theorem dR_choice_108 : decode cR_choice 108 = .ok (.iload 4, 2) := by decide +kernel
theorem dR_choice_110 : decode cR_choice 110 = .ok (.invokevirtual 79, 3) := by decide +kernel
theorem dR_choice_113 : decode cR_choice 113 = .ok (.lstore 9, 2) := by decide +kernel
theorem dR_choice_115 : decode cR_choice 115 = .ok (.aload_n 0, 1) := by decide +kernel
theorem dR_choice_116 : decode cR_choice 116 = .ok (.dup, 1) := by decide +kernel
theorem dR_choice_117 : decode cR_choice 117 = .ok (.getfield 40, 3) := by decide +kernel
theorem dR_choice_120 : decode cR_choice 120 = .ok (.iload 6, 2) := by decide +kernel
theorem dR_choice_122 : decode cR_choice 122 = .ok (.isub, 1) := by decide +kernel
theorem dR_choice_123 : decode cR_choice 123 = .ok (.putfield 40, 3) := by decide +kernel
theorem dR_choice_126 : decode cR_choice 126 = .ok (.lload_n 2, 1) := by decide +kernel
theorem dR_choice_127 : decode cR_choice 127 = .ok (.lconst 0, 1) := by decide +kernel
theorem dR_choice_128 : decode cR_choice 128 = .ok (.lcmp, 1) := by decide +kernel
theorem dR_choice_129 : decode cR_choice 129 = .ok (.ifCond .ne 8, 3) := by decide +kernel
theorem dR_choice_132 : decode cR_choice 132 = .ok (.lload 9, 2) := by decide +kernel
theorem dR_choice_134 : decode cR_choice 134 = .ok (.goto 5, 3) := by decide +kernel
theorem dR_choice_137 : decode cR_choice 137 = .ok (.lload 7, 2) := by decide +kernel
theorem dR_choice_139 : decode cR_choice 139 = .ok (.lreturn, 1) := by decide +kernel
theorem dR_binary_0 : decode cR_binary 0 = .ok (.aload_n 0, 1) := by decide +kernel
theorem dR_binary_1 : decode cR_binary 1 = .ok (.getfield 30, 3) := by decide +kernel
theorem dR_binary_4 : decode cR_binary 4 = .ok (.istore_n 2, 1) := by decide +kernel
theorem dR_binary_5 : decode cR_binary 5 = .ok (.aload_n 0, 1) := by decide +kernel
theorem dR_binary_6 : decode cR_binary 6 = .ok (.iload_n 1, 1) := by decide +kernel
theorem dR_binary_7 : decode cR_binary 7 = .ok (.invokevirtual 89, 3) := by decide +kernel
theorem dR_binary_10 : decode cR_binary 10 = .ok (.lstore_n 3, 1) := by decide +kernel
theorem dR_binary_11 : decode cR_binary 11 = .ok (.aload_n 0, 1) := by decide +kernel
theorem dR_binary_12 : decode cR_binary 12 = .ok (.invokevirtual 92, 3) := by decide +kernel
theorem dR_binary_15 : decode cR_binary 15 = .ok (.istore 5, 2) := by decide +kernel
theorem dR_binary_17 : decode cR_binary 17 = .ok (.iconst 0, 1) := by decide +kernel
theorem dR_binary_18 : decode cR_binary 18 = .ok (.istore 6, 2) := by decide +kernel
theorem dR_binary_20 : decode cR_binary 20 = .ok (.iload 6, 2) := by decide +kernel
theorem dR_binary_22 : decode cR_binary 22 = .ok (.sipush 300, 3) := by decide +kernel
theorem dR_binary_25 : decode cR_binary 25 = .ok (.if_icmp .ge 47, 3) := by decide +kernel
theorem dR_binary_28 : decode cR_binary 28 = .ok (.iload 5, 2) := by decide +kernel
theorem dR_binary_30 : decode cR_binary 30 = .ok (.ifCond .eq 42, 3) := by decide +kernel
theorem dR_binary_33 : decode cR_binary 33 = .ok (.aload_n 0, 1) := by decide +kernel
theorem dR_binary_34 : decode cR_binary 34 = .ok (.iload_n 2, 1) := by decide +kernel
theorem dR_binary_35 : decode cR_binary 35 = .ok (.iload 5, 2) := by decide +kernel
theorem dR_binary_37 : decode cR_binary 37 = .ok (.invokestatic 95, 3) := by decide +kernel
theorem dR_binary_40 : decode cR_binary 40 = .ok (.lload_n 3, 1) := by decide +kernel
theorem dR_binary_41 : decode cR_binary 41 = .ok (.invokevirtual 100, 3) := by decide +kernel
theorem dR_binary_44 : decode cR_binary 44 = .ok (.lstore 7, 2) := by decide +kernel
theorem dR_binary_46 : decode cR_binary 46 = .ok (.aload_n 0, 1) := by decide +kernel
theorem dR_binary_47 : decode cR_binary 47 = .ok (.iload 5, 2) := by decide +kernel
theorem dR_binary_49 : decode cR_binary 49 = .ok (.lload 7, 2) := by decide +kernel
theorem dR_binary_51 : decode cR_binary 51 = .ok (.invokevirtual 104, 3) := by decide +kernel
theorem dR_binary_54 : decode cR_binary 54 = .ok (.aload_n 0, 1) := by decide +kernel
theorem dR_binary_55 : decode cR_binary 55 = .ok (.iload_n 1, 1) := by decide +kernel
theorem dR_binary_56 : decode cR_binary 56 = .ok (.invokevirtual 89, 3) := by decide +kernel
theorem dR_binary_59 : decode cR_binary 59 = .ok (.lstore_n 3, 1) := by decide +kernel
theorem dR_binary_60 : decode cR_binary 60 = .ok (.aload_n 0, 1) := by decide +kernel
theorem dR_binary_61 : decode cR_binary 61 = .ok (.invokevirtual 92, 3) := by decide +kernel
theorem dR_binary_64 : decode cR_binary 64 = .ok (.istore 5, 2) := by decide +kernel
theorem dR_binary_66 : decode cR_binary 66 = .ok (.iinc 6 1, 3) := by decide +kernel
theorem dR_binary_69 : decode cR_binary 69 = .ok (.goto (-49), 3) := by decide +kernel
theorem dR_binary_72 : decode cR_binary 72 = .ok (.aload_n 0, 1) := by decide +kernel
theorem dR_binary_73 : decode cR_binary 73 = .ok (.iload_n 2, 1) := by decide +kernel
theorem dR_binary_74 : decode cR_binary 74 = .ok (.iconst 0, 1) := by decide +kernel
theorem dR_binary_75 : decode cR_binary 75 = .ok (.lload_n 3, 1) := by decide +kernel
theorem dR_binary_76 : decode cR_binary 76 = .ok (.invokevirtual 100, 3) := by decide +kernel
theorem dR_binary_79 : decode cR_binary 79 = .ok (.lreturn, 1) := by decide +kernel
theorem dR_unary_0 : decode cR_unary 0 = .ok (.aload_n 0, 1) := by decide +kernel
theorem dR_unary_1 : decode cR_unary 1 = .ok (.invokevirtual 47, 3) := by decide +kernel
theorem dR_unary_4 : decode cR_unary 4 = .ok (.aload_n 0, 1) := by decide +kernel
theorem dR_unary_5 : decode cR_unary 5 = .ok (.aload_n 0, 1) := by decide +kernel
theorem dR_unary_6 : decode cR_unary 6 = .ok (.getfield 37, 3) := by decide +kernel
theorem dR_unary_9 : decode cR_unary 9 = .ok (.invokevirtual 56, 3) := by decide +kernel
theorem dR_unary_12 : decode cR_unary 12 = .ok (.istore_n 2, 1) := by decide +kernel
theorem dR_unary_13 : decode cR_unary 13 = .ok (.iload_n 2, 1) := by decide +kernel
theorem dR_unary_14 : decode cR_unary 14 = .ok (.lookupswitch 168 #[(33, 89), (40, 141), (43, 50), (45, 69), (126, 118)], 50) := by decide +kernel
theorem dR_unary_64 : decode cR_unary 64 = .ok (.aload_n 0, 1) := by decide +kernel
theorem dR_unary_65 : decode cR_unary 65 = .ok (.dup, 1) := by decide +kernel
theorem dR_unary_66 : decode cR_unary 66 = .ok (.getfield 37, 3) := by decide +kernel
theorem dR_unary_69 : decode cR_unary 69 = .ok (.iconst 1, 1) := by decide +kernel
theorem dR_unary_70 : decode cR_unary 70 = .ok (.iadd, 1) := by decide +kernel
theorem dR_unary_71 : decode cR_unary 71 = .ok (.putfield 37, 3) := by decide +kernel
theorem dR_unary_74 : decode cR_unary 74 = .ok (.aload_n 0, 1) := by decide +kernel
theorem dR_unary_75 : decode cR_unary 75 = .ok (.iload_n 1, 1) := by decide +kernel
theorem dR_unary_76 : decode cR_unary 76 = .ok (.invokestatic 71, 3) := by decide +kernel
theorem dR_unary_79 : decode cR_unary 79 = .ok (.invokevirtual 89, 3) := by decide +kernel
theorem dR_unary_82 : decode cR_unary 82 = .ok (.lreturn, 1) := by decide +kernel
theorem dR_unary_83 : decode cR_unary 83 = .ok (.aload_n 0, 1) := by decide +kernel
theorem dR_unary_84 : decode cR_unary 84 = .ok (.dup, 1) := by decide +kernel
theorem dR_unary_85 : decode cR_unary 85 = .ok (.getfield 37, 3) := by decide +kernel
theorem dR_unary_88 : decode cR_unary 88 = .ok (.iconst 1, 1) := by decide +kernel
theorem dR_unary_89 : decode cR_unary 89 = .ok (.iadd, 1) := by decide +kernel
theorem dR_unary_90 : decode cR_unary 90 = .ok (.putfield 37, 3) := by decide +kernel
theorem dR_unary_93 : decode cR_unary 93 = .ok (.aload_n 0, 1) := by decide +kernel
theorem dR_unary_94 : decode cR_unary 94 = .ok (.iload_n 1, 1) := by decide +kernel
theorem dR_unary_95 : decode cR_unary 95 = .ok (.invokestatic 71, 3) := by decide +kernel
theorem dR_unary_98 : decode cR_unary 98 = .ok (.invokevirtual 89, 3) := by decide +kernel
theorem dR_unary_101 : decode cR_unary 101 = .ok (.lneg, 1) := by decide +kernel
theorem dR_unary_102 : decode cR_unary 102 = .ok (.lreturn, 1) := by decide +kernel
theorem dR_unary_103 : decode cR_unary 103 = .ok (.aload_n 0, 1) := by decide +kernel
theorem dR_unary_104 : decode cR_unary 104 = .ok (.dup, 1) := by decide +kernel
theorem dR_unary_105 : decode cR_unary 105 = .ok (.getfield 37, 3) := by decide +kernel
theorem dR_unary_108 : decode cR_unary 108 = .ok (.iconst 1, 1) := by decide +kernel
theorem dR_unary_109 : decode cR_unary 109 = .ok (.iadd, 1) := by decide +kernel
theorem dR_unary_110 : decode cR_unary 110 = .ok (.putfield 37, 3) := by decide +kernel
theorem dR_unary_113 : decode cR_unary 113 = .ok (.aload_n 0, 1) := by decide +kernel
theorem dR_unary_114 : decode cR_unary 114 = .ok (.iload_n 1, 1) := by decide +kernel
theorem dR_unary_115 : decode cR_unary 115 = .ok (.invokestatic 71, 3) := by decide +kernel
theorem dR_unary_118 : decode cR_unary 118 = .ok (.invokevirtual 89, 3) := by decide +kernel
theorem dR_unary_121 : decode cR_unary 121 = .ok (.lconst 0, 1) := by decide +kernel
theorem dR_unary_122 : decode cR_unary 122 = .ok (.lcmp, 1) := by decide +kernel
theorem dR_unary_123 : decode cR_unary 123 = .ok (.ifCond .ne 7, 3) := by decide +kernel
theorem dR_unary_126 : decode cR_unary 126 = .ok (.lconst 1, 1) := by decide +kernel
theorem dR_unary_127 : decode cR_unary 127 = .ok (.goto 4, 3) := by decide +kernel
theorem dR_unary_130 : decode cR_unary 130 = .ok (.lconst 0, 1) := by decide +kernel
theorem dR_unary_131 : decode cR_unary 131 = .ok (.lreturn, 1) := by decide +kernel
theorem dR_unary_132 : decode cR_unary 132 = .ok (.aload_n 0, 1) := by decide +kernel
theorem dR_unary_133 : decode cR_unary 133 = .ok (.dup, 1) := by decide +kernel
theorem dR_unary_134 : decode cR_unary 134 = .ok (.getfield 37, 3) := by decide +kernel
theorem dR_unary_137 : decode cR_unary 137 = .ok (.iconst 1, 1) := by decide +kernel
theorem dR_unary_138 : decode cR_unary 138 = .ok (.iadd, 1) := by decide +kernel
theorem dR_unary_139 : decode cR_unary 139 = .ok (.putfield 37, 3) := by decide +kernel
theorem dR_unary_142 : decode cR_unary 142 = .ok (.aload_n 0, 1) := by decide +kernel
theorem dR_unary_143 : decode cR_unary 143 = .ok (.iload_n 1, 1) := by decide +kernel
theorem dR_unary_144 : decode cR_unary 144 = .ok (.invokestatic 71, 3) := by decide +kernel
theorem dR_unary_147 : decode cR_unary 147 = .ok (.invokevirtual 89, 3) := by decide +kernel
theorem dR_unary_150 : decode cR_unary 150 = .ok (.ldc2_w 108, 3) := by decide +kernel
theorem dR_unary_153 : decode cR_unary 153 = .ok (.lxor, 1) := by decide +kernel
theorem dR_unary_154 : decode cR_unary 154 = .ok (.lreturn, 1) := by decide +kernel
theorem dR_unary_155 : decode cR_unary 155 = .ok (.aload_n 0, 1) := by decide +kernel
theorem dR_unary_156 : decode cR_unary 156 = .ok (.dup, 1) := by decide +kernel
theorem dR_unary_157 : decode cR_unary 157 = .ok (.getfield 37, 3) := by decide +kernel
theorem dR_unary_160 : decode cR_unary 160 = .ok (.iconst 1, 1) := by decide +kernel
theorem dR_unary_161 : decode cR_unary 161 = .ok (.iadd, 1) := by decide +kernel
theorem dR_unary_162 : decode cR_unary 162 = .ok (.putfield 37, 3) := by decide +kernel
theorem dR_unary_165 : decode cR_unary 165 = .ok (.aload_n 0, 1) := by decide +kernel
theorem dR_unary_166 : decode cR_unary 166 = .ok (.iload_n 1, 1) := by decide +kernel
theorem dR_unary_167 : decode cR_unary 167 = .ok (.invokestatic 71, 3) := by decide +kernel
theorem dR_unary_170 : decode cR_unary 170 = .ok (.invokevirtual 50, 3) := by decide +kernel
theorem dR_unary_173 : decode cR_unary 173 = .ok (.lstore_n 3, 1) := by decide +kernel
theorem dR_unary_174 : decode cR_unary 174 = .ok (.aload_n 0, 1) := by decide +kernel
theorem dR_unary_175 : decode cR_unary 175 = .ok (.bipush 41, 2) := by decide +kernel
theorem dR_unary_177 : decode cR_unary 177 = .ok (.invokevirtual 85, 3) := by decide +kernel
theorem dR_unary_180 : decode cR_unary 180 = .ok (.lload_n 3, 1) := by decide +kernel
theorem dR_unary_181 : decode cR_unary 181 = .ok (.lreturn, 1) := by decide +kernel
theorem dR_unary_182 : decode cR_unary 182 = .ok (.aload_n 0, 1) := by decide +kernel
theorem dR_unary_183 : decode cR_unary 183 = .ok (.invokevirtual 110, 3) := by decide +kernel
theorem dR_unary_186 : decode cR_unary 186 = .ok (.lreturn, 1) := by decide +kernel
theorem dR_expect_0 : decode cR_expect 0 = .ok (.aload_n 0, 1) := by decide +kernel
theorem dR_expect_1 : decode cR_expect 1 = .ok (.invokevirtual 47, 3) := by decide +kernel
theorem dR_expect_4 : decode cR_expect 4 = .ok (.aload_n 0, 1) := by decide +kernel
theorem dR_expect_5 : decode cR_expect 5 = .ok (.aload_n 0, 1) := by decide +kernel
theorem dR_expect_6 : decode cR_expect 6 = .ok (.getfield 37, 3) := by decide +kernel
theorem dR_expect_9 : decode cR_expect 9 = .ok (.invokevirtual 56, 3) := by decide +kernel
theorem dR_expect_12 : decode cR_expect 12 = .ok (.iload_n 1, 1) := by decide +kernel
theorem dR_expect_13 : decode cR_expect 13 = .ok (.if_icmp .eq 13, 3) := by decide +kernel
theorem dR_expect_16 : decode cR_expect 16 = .ok (.new 54, 3) := by decide +kernel
theorem dR_expect_19 : decode cR_expect 19 = .ok (.dup, 1) := by decide +kernel
theorem dR_expect_20 : decode cR_expect 20 = .ok (.ldc 166, 2) := by decide +kernel
theorem dR_expect_22 : decode cR_expect 22 = .ok (.invokespecial 116, 3) := by decide +kernel
theorem dR_expect_25 : decode cR_expect 25 = .ok (.athrow, 1) := by decide +kernel
theorem dR_expect_26 : decode cR_expect 26 = .ok (.aload_n 0, 1) := by decide +kernel
theorem dR_expect_27 : decode cR_expect 27 = .ok (.dup, 1) := by decide +kernel
theorem dR_expect_28 : decode cR_expect 28 = .ok (.getfield 37, 3) := by decide +kernel
theorem dR_expect_31 : decode cR_expect 31 = .ok (.iconst 1, 1) := by decide +kernel
theorem dR_expect_32 : decode cR_expect 32 = .ok (.iadd, 1) := by decide +kernel
theorem dR_expect_33 : decode cR_expect 33 = .ok (.putfield 37, 3) := by decide +kernel
theorem dR_expect_36 : decode cR_expect 36 = .ok (.return_, 1) := by decide +kernel
theorem dR_word_0 : decode cR_word 0 = .ok (.aload_n 0, 1) := by decide +kernel
theorem dR_word_1 : decode cR_word 1 = .ok (.getfield 37, 3) := by decide +kernel
theorem dR_word_4 : decode cR_word 4 = .ok (.istore_n 1, 1) := by decide +kernel
theorem dR_word_5 : decode cR_word 5 = .ok (.aload_n 0, 1) := by decide +kernel
theorem dR_word_6 : decode cR_word 6 = .ok (.invokevirtual 64, 3) := by decide +kernel
theorem dR_word_9 : decode cR_word 9 = .ok (.istore_n 2, 1) := by decide +kernel
theorem dR_word_10 : decode cR_word 10 = .ok (.aload_n 0, 1) := by decide +kernel
theorem dR_word_11 : decode cR_word 11 = .ok (.iload_n 2, 1) := by decide +kernel
theorem dR_word_12 : decode cR_word 12 = .ok (.putfield 37, 3) := by decide +kernel
theorem dR_word_15 : decode cR_word 15 = .ok (.aload_n 0, 1) := by decide +kernel
theorem dR_word_16 : decode cR_word 16 = .ok (.iload_n 1, 1) := by decide +kernel
theorem dR_word_17 : decode cR_word 17 = .ok (.invokevirtual 56, 3) := by decide +kernel
theorem dR_word_20 : decode cR_word 20 = .ok (.invokestatic 119, 3) := by decide +kernel
theorem dR_word_23 : decode cR_word 23 = .ok (.ifCond .eq 13, 3) := by decide +kernel
theorem dR_word_26 : decode cR_word 26 = .ok (.aload_n 0, 1) := by decide +kernel
theorem dR_word_27 : decode cR_word 27 = .ok (.getfield 9, 3) := by decide +kernel
theorem dR_word_30 : decode cR_word 30 = .ok (.iload_n 1, 1) := by decide +kernel
theorem dR_word_31 : decode cR_word 31 = .ok (.iload_n 2, 1) := by decide +kernel
theorem dR_word_32 : decode cR_word 32 = .ok (.invokestatic 122, 3) := by decide +kernel
theorem dR_word_35 : decode cR_word 35 = .ok (.lreturn, 1) := by decide +kernel
theorem dR_word_36 : decode cR_word 36 = .ok (.aload_n 0, 1) := by decide +kernel
theorem dR_word_37 : decode cR_word 37 = .ok (.iload_n 1, 1) := by decide +kernel
theorem dR_word_38 : decode cR_word 38 = .ok (.invokevirtual 56, 3) := by decide +kernel
theorem dR_word_41 : decode cR_word 41 = .ok (.invokestatic 60, 3) := by decide +kernel
theorem dR_word_44 : decode cR_word 44 = .ok (.ifCond .ne 13, 3) := by decide +kernel
theorem dR_word_47 : decode cR_word 47 = .ok (.new 54, 3) := by decide +kernel
theorem dR_word_50 : decode cR_word 50 = .ok (.dup, 1) := by decide +kernel
theorem dR_word_51 : decode cR_word 51 = .ok (.ldc 126, 2) := by decide +kernel
theorem dR_word_53 : decode cR_word 53 = .ok (.invokespecial 116, 3) := by decide +kernel
theorem dR_word_56 : decode cR_word 56 = .ok (.athrow, 1) := by decide +kernel
theorem dR_word_57 : decode cR_word 57 = .ok (.aload_n 0, 1) := by decide +kernel
theorem dR_word_58 : decode cR_word 58 = .ok (.getfield 40, 3) := by decide +kernel
theorem dR_word_61 : decode cR_word 61 = .ok (.ifCond .le 7, 3) := by decide +kernel
theorem dR_word_64 : decode cR_word 64 = .ok (.lconst 0, 1) := by decide +kernel
theorem dR_word_65 : decode cR_word 65 = .ok (.goto 9, 3) := by decide +kernel
theorem dR_word_68 : decode cR_word 68 = .ok (.aload_n 0, 1) := by decide +kernel
theorem dR_word_69 : decode cR_word 69 = .ok (.iload_n 1, 1) := by decide +kernel
theorem dR_word_70 : decode cR_word 70 = .ok (.iload_n 2, 1) := by decide +kernel
theorem dR_word_71 : decode cR_word 71 = .ok (.invokevirtual 128, 3) := by decide +kernel
theorem dR_word_74 : decode cR_word 74 = .ok (.lreturn, 1) := by decide +kernel
theorem dR_signOfTwo_0 : decode cR_signOfTwo 0 = .ok (.aload_n 0, 1) := by decide +kernel
theorem dR_signOfTwo_1 : decode cR_signOfTwo 1 = .ok (.invokevirtual 47, 3) := by decide +kernel
theorem dR_signOfTwo_4 : decode cR_signOfTwo 4 = .ok (.aload_n 0, 1) := by decide +kernel
theorem dR_signOfTwo_5 : decode cR_signOfTwo 5 = .ok (.aload_n 0, 1) := by decide +kernel
theorem dR_signOfTwo_6 : decode cR_signOfTwo 6 = .ok (.getfield 37, 3) := by decide +kernel
theorem dR_signOfTwo_9 : decode cR_signOfTwo 9 = .ok (.invokevirtual 56, 3) := by decide +kernel
theorem dR_signOfTwo_12 : decode cR_signOfTwo 12 = .ok (.istore_n 1, 1) := by decide +kernel
theorem dR_signOfTwo_13 : decode cR_signOfTwo 13 = .ok (.iload_n 1, 1) := by decide +kernel
theorem dR_signOfTwo_14 : decode cR_signOfTwo 14 = .ok (.bipush 8, 2) := by decide +kernel
theorem dR_signOfTwo_16 : decode cR_signOfTwo 16 = .ok (.ishl, 1) := by decide +kernel
theorem dR_signOfTwo_17 : decode cR_signOfTwo 17 = .ok (.aload_n 0, 1) := by decide +kernel
theorem dR_signOfTwo_18 : decode cR_signOfTwo 18 = .ok (.aload_n 0, 1) := by decide +kernel
theorem dR_signOfTwo_19 : decode cR_signOfTwo 19 = .ok (.getfield 37, 3) := by decide +kernel
theorem dR_signOfTwo_22 : decode cR_signOfTwo 22 = .ok (.iconst 1, 1) := by decide +kernel
theorem dR_signOfTwo_23 : decode cR_signOfTwo 23 = .ok (.iadd, 1) := by decide +kernel
theorem dR_signOfTwo_24 : decode cR_signOfTwo 24 = .ok (.invokevirtual 56, 3) := by decide +kernel
theorem dR_signOfTwo_27 : decode cR_signOfTwo 27 = .ok (.ior, 1) := by decide +kernel
theorem dR_signOfTwo_28 : decode cR_signOfTwo 28 = .ok (.istore_n 2, 1) := by decide +kernel
theorem dR_signOfTwo_29 : decode cR_signOfTwo 29 = .ok (.iload_n 2, 1) := by decide +kernel
theorem dR_signOfTwo_30 : decode cR_signOfTwo 30 = .ok (.invokestatic 95, 3) := by decide +kernel
theorem dR_signOfTwo_33 : decode cR_signOfTwo 33 = .ok (.ifCond .le 39, 3) := by decide +kernel
theorem dR_signOfTwo_36 : decode cR_signOfTwo 36 = .ok (.iload_n 2, 1) := by decide +kernel
theorem dR_signOfTwo_37 : decode cR_signOfTwo 37 = .ok (.invokestatic 162, 3) := by decide +kernel
theorem dR_signOfTwo_40 : decode cR_signOfTwo 40 = .ok (.ifCond .eq 20, 3) := by decide +kernel
theorem dR_signOfTwo_43 : decode cR_signOfTwo 43 = .ok (.aload_n 0, 1) := by decide +kernel
theorem dR_signOfTwo_44 : decode cR_signOfTwo 44 = .ok (.aload_n 0, 1) := by decide +kernel
theorem dR_signOfTwo_45 : decode cR_signOfTwo 45 = .ok (.getfield 37, 3) := by decide +kernel
theorem dR_signOfTwo_48 : decode cR_signOfTwo 48 = .ok (.iconst 2, 1) := by decide +kernel
theorem dR_signOfTwo_49 : decode cR_signOfTwo 49 = .ok (.iadd, 1) := by decide +kernel
theorem dR_signOfTwo_50 : decode cR_signOfTwo 50 = .ok (.invokevirtual 56, 3) := by decide +kernel
theorem dR_signOfTwo_53 : decode cR_signOfTwo 53 = .ok (.bipush 61, 2) := by decide +kernel
theorem dR_signOfTwo_55 : decode cR_signOfTwo 55 = .ok (.if_icmp .ne 5, 3) := by decide +kernel
theorem dR_signOfTwo_58 : decode cR_signOfTwo 58 = .ok (.iconst 0, 1) := by decide +kernel
theorem dR_signOfTwo_59 : decode cR_signOfTwo 59 = .ok (.ireturn, 1) := by decide +kernel
theorem dR_signOfTwo_60 : decode cR_signOfTwo 60 = .ok (.aload_n 0, 1) := by decide +kernel
theorem dR_signOfTwo_61 : decode cR_signOfTwo 61 = .ok (.dup, 1) := by decide +kernel
theorem dR_signOfTwo_62 : decode cR_signOfTwo 62 = .ok (.getfield 37, 3) := by decide +kernel
theorem dR_signOfTwo_65 : decode cR_signOfTwo 65 = .ok (.iconst 2, 1) := by decide +kernel
theorem dR_signOfTwo_66 : decode cR_signOfTwo 66 = .ok (.iadd, 1) := by decide +kernel
theorem dR_signOfTwo_67 : decode cR_signOfTwo 67 = .ok (.putfield 37, 3) := by decide +kernel
theorem dR_signOfTwo_70 : decode cR_signOfTwo 70 = .ok (.iload_n 2, 1) := by decide +kernel
theorem dR_signOfTwo_71 : decode cR_signOfTwo 71 = .ok (.ireturn, 1) := by decide +kernel
theorem dR_signOfTwo_72 : decode cR_signOfTwo 72 = .ok (.iload_n 1, 1) := by decide +kernel
theorem dR_signOfTwo_73 : decode cR_signOfTwo 73 = .ok (.invokestatic 95, 3) := by decide +kernel
theorem dR_signOfTwo_76 : decode cR_signOfTwo 76 = .ok (.ifCond .eq 18, 3) := by decide +kernel
theorem dR_signOfTwo_79 : decode cR_signOfTwo 79 = .ok (.aload_n 0, 1) := by decide +kernel
theorem dR_signOfTwo_80 : decode cR_signOfTwo 80 = .ok (.aload_n 0, 1) := by decide +kernel
theorem dR_signOfTwo_81 : decode cR_signOfTwo 81 = .ok (.getfield 37, 3) := by decide +kernel
theorem dR_signOfTwo_84 : decode cR_signOfTwo 84 = .ok (.iconst 1, 1) := by decide +kernel
theorem dR_signOfTwo_85 : decode cR_signOfTwo 85 = .ok (.iadd, 1) := by decide +kernel
theorem dR_signOfTwo_86 : decode cR_signOfTwo 86 = .ok (.invokevirtual 56, 3) := by decide +kernel
theorem dR_signOfTwo_89 : decode cR_signOfTwo 89 = .ok (.bipush 61, 2) := by decide +kernel
theorem dR_signOfTwo_91 : decode cR_signOfTwo 91 = .ok (.if_icmp .ne 5, 3) := by decide +kernel
theorem dR_signOfTwo_94 : decode cR_signOfTwo 94 = .ok (.iconst 0, 1) := by decide +kernel
theorem dR_signOfTwo_95 : decode cR_signOfTwo 95 = .ok (.ireturn, 1) := by decide +kernel
theorem dR_signOfTwo_96 : decode cR_signOfTwo 96 = .ok (.aload_n 0, 1) := by decide +kernel
theorem dR_signOfTwo_97 : decode cR_signOfTwo 97 = .ok (.dup, 1) := by decide +kernel
theorem dR_signOfTwo_98 : decode cR_signOfTwo 98 = .ok (.getfield 37, 3) := by decide +kernel
theorem dR_signOfTwo_101 : decode cR_signOfTwo 101 = .ok (.iconst 1, 1) := by decide +kernel
theorem dR_signOfTwo_102 : decode cR_signOfTwo 102 = .ok (.iadd, 1) := by decide +kernel
theorem dR_signOfTwo_103 : decode cR_signOfTwo 103 = .ok (.putfield 37, 3) := by decide +kernel
theorem dR_signOfTwo_106 : decode cR_signOfTwo 106 = .ok (.iload_n 1, 1) := by decide +kernel
theorem dR_signOfTwo_107 : decode cR_signOfTwo 107 = .ok (.ireturn, 1) := by decide +kernel
theorem dR_settle_0 : decode cR_settle 0 = .ok (.lload_n 3, 1) := by decide +kernel
theorem dR_settle_1 : decode cR_settle 1 = .ok (.lstore 5, 2) := by decide +kernel
theorem dR_settle_3 : decode cR_settle 3 = .ok (.aload_n 0, 1) := by decide +kernel
theorem dR_settle_4 : decode cR_settle 4 = .ok (.getfield 30, 3) := by decide +kernel
theorem dR_settle_7 : decode cR_settle 7 = .ok (.iconst 1, 1) := by decide +kernel
theorem dR_settle_8 : decode cR_settle 8 = .ok (.isub, 1) := by decide +kernel
theorem dR_settle_9 : decode cR_settle 9 = .ok (.istore 7, 2) := by decide +kernel
theorem dR_settle_11 : decode cR_settle 11 = .ok (.iload 7, 2) := by decide +kernel
theorem dR_settle_13 : decode cR_settle 13 = .ok (.iload_n 1, 1) := by decide +kernel
theorem dR_settle_14 : decode cR_settle 14 = .ok (.if_icmp .lt 66, 3) := by decide +kernel
theorem dR_settle_17 : decode cR_settle 17 = .ok (.iload 7, 2) := by decide +kernel
theorem dR_settle_19 : decode cR_settle 19 = .ok (.ifCond .lt 61, 3) := by decide +kernel
theorem dR_settle_22 : decode cR_settle 22 = .ok (.iload 7, 2) := by decide +kernel
theorem dR_settle_24 : decode cR_settle 24 = .ok (.sipush 150, 3) := by decide +kernel
theorem dR_settle_27 : decode cR_settle 27 = .ok (.if_icmp .ge 53, 3) := by decide +kernel
theorem dR_settle_30 : decode cR_settle 30 = .ok (.aload_n 0, 1) := by decide +kernel
theorem dR_settle_31 : decode cR_settle 31 = .ok (.getfield 22, 3) := by decide +kernel
theorem dR_settle_34 : decode cR_settle 34 = .ok (.iload 7, 2) := by decide +kernel
theorem dR_settle_36 : decode cR_settle 36 = .ok (.iaload, 1) := by decide +kernel
theorem dR_settle_37 : decode cR_settle 37 = .ok (.istore 8, 2) := by decide +kernel
theorem dR_settle_39 : decode cR_settle 39 = .ok (.iload 8, 2) := by decide +kernel
theorem dR_settle_41 : decode cR_settle 41 = .ok (.invokestatic 95, 3) := by decide +kernel
theorem dR_settle_44 : decode cR_settle 44 = .ok (.iload_n 2, 1) := by decide +kernel
theorem dR_settle_45 : decode cR_settle 45 = .ok (.if_icmp .ge 6, 3) := by decide +kernel
theorem dR_settle_48 : decode cR_settle 48 = .ok (.goto 32, 3) := by decide +kernel
theorem dR_settle_51 : decode cR_settle 51 = .ok (.aload_n 0, 1) := by decide +kernel
theorem dR_settle_52 : decode cR_settle 52 = .ok (.iload 7, 2) := by decide +kernel
theorem dR_settle_54 : decode cR_settle 54 = .ok (.putfield 30, 3) := by decide +kernel
theorem dR_settle_57 : decode cR_settle 57 = .ok (.aload_n 0, 1) := by decide +kernel
theorem dR_settle_58 : decode cR_settle 58 = .ok (.iload 8, 2) := by decide +kernel
theorem dR_settle_60 : decode cR_settle 60 = .ok (.aload_n 0, 1) := by decide +kernel
theorem dR_settle_61 : decode cR_settle 61 = .ok (.getfield 26, 3) := by decide +kernel
theorem dR_settle_64 : decode cR_settle 64 = .ok (.iload 7, 2) := by decide +kernel
theorem dR_settle_66 : decode cR_settle 66 = .ok (.laload, 1) := by decide +kernel
theorem dR_settle_67 : decode cR_settle 67 = .ok (.lload 5, 2) := by decide +kernel
theorem dR_settle_69 : decode cR_settle 69 = .ok (.invokevirtual 159, 3) := by decide +kernel
theorem dR_settle_72 : decode cR_settle 72 = .ok (.lstore 5, 2) := by decide +kernel
theorem dR_settle_74 : decode cR_settle 74 = .ok (.iinc 7 (-1), 3) := by decide +kernel
theorem dR_settle_77 : decode cR_settle 77 = .ok (.goto (-66), 3) := by decide +kernel
theorem dR_settle_80 : decode cR_settle 80 = .ok (.lload 5, 2) := by decide +kernel
theorem dR_settle_82 : decode cR_settle 82 = .ok (.lreturn, 1) := by decide +kernel
theorem dR_join_0 : decode cR_join 0 = .ok (.iload_n 1, 1) := by decide +kernel
theorem dR_join_1 : decode cR_join 1 = .ok (.lload_n 2, 1) := by decide +kernel
theorem dR_join_2 : decode cR_join 2 = .ok (.invokestatic 155, 3) := by decide +kernel
theorem dR_join_5 : decode cR_join 5 = .ok (.ifCond .eq 26, 3) := by decide +kernel
theorem dR_join_8 : decode cR_join 8 = .ok (.aload_n 0, 1) := by decide +kernel
theorem dR_join_9 : decode cR_join 9 = .ok (.dup, 1) := by decide +kernel
theorem dR_join_10 : decode cR_join 10 = .ok (.getfield 40, 3) := by decide +kernel
theorem dR_join_13 : decode cR_join 13 = .ok (.iconst 1, 1) := by decide +kernel
theorem dR_join_14 : decode cR_join 14 = .ok (.isub, 1) := by decide +kernel
theorem dR_join_15 : decode cR_join 15 = .ok (.putfield 40, 3) := by decide +kernel
theorem dR_join_18 : decode cR_join 18 = .ok (.iload_n 1, 1) := by decide +kernel
theorem dR_join_19 : decode cR_join 19 = .ok (.sipush 31868, 3) := by decide +kernel
theorem dR_join_22 : decode cR_join 22 = .ok (.if_icmp .ne 7, 3) := by decide +kernel
theorem dR_join_25 : decode cR_join 25 = .ok (.lconst 1, 1) := by decide +kernel
theorem dR_join_26 : decode cR_join 26 = .ok (.goto 4, 3) := by decide +kernel
theorem dR_join_29 : decode cR_join 29 = .ok (.lconst 0, 1) := by decide +kernel
theorem dR_join_30 : decode cR_join 30 = .ok (.lreturn, 1) := by decide +kernel
theorem dR_join_31 : decode cR_join 31 = .ok (.aload_n 0, 1) := by decide +kernel
theorem dR_join_32 : decode cR_join 32 = .ok (.getfield 40, 3) := by decide +kernel
theorem dR_join_35 : decode cR_join 35 = .ok (.ifCond .le 7, 3) := by decide +kernel
theorem dR_join_38 : decode cR_join 38 = .ok (.lconst 0, 1) := by decide +kernel
theorem dR_join_39 : decode cR_join 39 = .ok (.goto 10, 3) := by decide +kernel
theorem dR_join_42 : decode cR_join 42 = .ok (.iload_n 1, 1) := by decide +kernel
theorem dR_join_43 : decode cR_join 43 = .ok (.lload_n 2, 1) := by decide +kernel
theorem dR_join_44 : decode cR_join 44 = .ok (.lload 4, 2) := by decide +kernel
theorem dR_join_46 : decode cR_join 46 = .ok (.invokestatic 140, 3) := by decide +kernel
theorem dR_join_49 : decode cR_join 49 = .ok (.lreturn, 1) := by decide +kernel
theorem dR_await_0 : decode cR_await 0 = .ok (.aload_n 0, 1) := by decide +kernel
theorem dR_await_1 : decode cR_await 1 = .ok (.getfield 30, 3) := by decide +kernel
theorem dR_await_4 : decode cR_await 4 = .ok (.ifCond .lt 13, 3) := by decide +kernel
theorem dR_await_7 : decode cR_await 7 = .ok (.aload_n 0, 1) := by decide +kernel
theorem dR_await_8 : decode cR_await 8 = .ok (.getfield 30, 3) := by decide +kernel
theorem dR_await_11 : decode cR_await 11 = .ok (.sipush 150, 3) := by decide +kernel
theorem dR_await_14 : decode cR_await 14 = .ok (.if_icmp .lt 13, 3) := by decide +kernel
theorem dR_await_17 : decode cR_await 17 = .ok (.new 54, 3) := by decide +kernel
theorem dR_await_20 : decode cR_await 20 = .ok (.dup, 1) := by decide +kernel
theorem dR_await_21 : decode cR_await 21 = .ok (.ldc 153, 2) := by decide +kernel
theorem dR_await_23 : decode cR_await 23 = .ok (.invokespecial 116, 3) := by decide +kernel
theorem dR_await_26 : decode cR_await 26 = .ok (.athrow, 1) := by decide +kernel
theorem dR_await_27 : decode cR_await 27 = .ok (.aload_n 0, 1) := by decide +kernel
theorem dR_await_28 : decode cR_await 28 = .ok (.getfield 22, 3) := by decide +kernel
theorem dR_await_31 : decode cR_await 31 = .ok (.aload_n 0, 1) := by decide +kernel
theorem dR_await_32 : decode cR_await 32 = .ok (.getfield 30, 3) := by decide +kernel
theorem dR_await_35 : decode cR_await 35 = .ok (.iload_n 1, 1) := by decide +kernel
theorem dR_await_36 : decode cR_await 36 = .ok (.iastore, 1) := by decide +kernel
theorem dR_await_37 : decode cR_await 37 = .ok (.aload_n 0, 1) := by decide +kernel
theorem dR_await_38 : decode cR_await 38 = .ok (.getfield 26, 3) := by decide +kernel
theorem dR_await_41 : decode cR_await 41 = .ok (.aload_n 0, 1) := by decide +kernel
theorem dR_await_42 : decode cR_await 42 = .ok (.getfield 30, 3) := by decide +kernel
theorem dR_await_45 : decode cR_await 45 = .ok (.lload_n 2, 1) := by decide +kernel
theorem dR_await_46 : decode cR_await 46 = .ok (.lastore, 1) := by decide +kernel
theorem dR_await_47 : decode cR_await 47 = .ok (.aload_n 0, 1) := by decide +kernel
theorem dR_await_48 : decode cR_await 48 = .ok (.dup, 1) := by decide +kernel
theorem dR_await_49 : decode cR_await 49 = .ok (.getfield 30, 3) := by decide +kernel
theorem dR_await_52 : decode cR_await 52 = .ok (.iconst 1, 1) := by decide +kernel
theorem dR_await_53 : decode cR_await 53 = .ok (.iadd, 1) := by decide +kernel
theorem dR_await_54 : decode cR_await 54 = .ok (.putfield 30, 3) := by decide +kernel
theorem dR_await_57 : decode cR_await 57 = .ok (.iload_n 1, 1) := by decide +kernel
theorem dR_await_58 : decode cR_await 58 = .ok (.lload_n 2, 1) := by decide +kernel
theorem dR_await_59 : decode cR_await 59 = .ok (.invokestatic 155, 3) := by decide +kernel
theorem dR_await_62 : decode cR_await 62 = .ok (.ifCond .eq 13, 3) := by decide +kernel
theorem dR_await_65 : decode cR_await 65 = .ok (.aload_n 0, 1) := by decide +kernel
theorem dR_await_66 : decode cR_await 66 = .ok (.dup, 1) := by decide +kernel
theorem dR_await_67 : decode cR_await 67 = .ok (.getfield 40, 3) := by decide +kernel
theorem dR_await_70 : decode cR_await 70 = .ok (.iconst 1, 1) := by decide +kernel
theorem dR_await_71 : decode cR_await 71 = .ok (.iadd, 1) := by decide +kernel
theorem dR_await_72 : decode cR_await 72 = .ok (.putfield 40, 3) := by decide +kernel
theorem dR_await_75 : decode cR_await 75 = .ok (.return_, 1) := by decide +kernel
