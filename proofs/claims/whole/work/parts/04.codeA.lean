theorem dA_init_0 : decode cA_init 0 = .ok (.aload_n 0, 1) := by decide +kernel
theorem dA_init_1 : decode cA_init 1 = .ok (.invokespecial 3, 3) := by decide +kernel
theorem dA_init_4 : decode cA_init 4 = .ok (.aload_n 0, 1) := by decide +kernel
theorem dA_init_5 : decode cA_init 5 = .ok (.new 9, 3) := by decide +kernel
theorem dA_init_8 : decode cA_init 8 = .ok (.dup, 1) := by decide +kernel
theorem dA_init_9 : decode cA_init 9 = .ok (.invokespecial 11, 3) := by decide +kernel
theorem dA_init_12 : decode cA_init 12 = .ok (.putfield 12, 3) := by decide +kernel
theorem dA_init_15 : decode cA_init 15 = .ok (.aload_n 0, 1) := by decide +kernel
theorem dA_init_16 : decode cA_init 16 = .ok (.aload_n 0, 1) := by decide +kernel
theorem dA_init_17 : decode cA_init 17 = .ok (.getfield 12, 3) := by decide +kernel
theorem dA_init_20 : decode cA_init 20 = .ok (.getfield 16, 3) := by decide +kernel
theorem dA_init_23 : decode cA_init 23 = .ok (.putfield 20, 3) := by decide +kernel
theorem dA_init_26 : decode cA_init 26 = .ok (.aload_n 0, 1) := by decide +kernel
theorem dA_init_27 : decode cA_init 27 = .ok (.aload_n 0, 1) := by decide +kernel
theorem dA_init_28 : decode cA_init 28 = .ok (.getfield 12, 3) := by decide +kernel
theorem dA_init_31 : decode cA_init 31 = .ok (.getfield 21, 3) := by decide +kernel
theorem dA_init_34 : decode cA_init 34 = .ok (.putfield 25, 3) := by decide +kernel
theorem dA_init_37 : decode cA_init 37 = .ok (.aload_n 0, 1) := by decide +kernel
theorem dA_init_38 : decode cA_init 38 = .ok (.iconst 0, 1) := by decide +kernel
theorem dA_init_39 : decode cA_init 39 = .ok (.putfield 26, 3) := by decide +kernel
theorem dA_init_42 : decode cA_init 42 = .ok (.aload_n 0, 1) := by decide +kernel
theorem dA_init_43 : decode cA_init 43 = .ok (.bipush 8, 2) := by decide +kernel
theorem dA_init_45 : decode cA_init 45 = .ok (.newarray .char, 2) := by decide +kernel
theorem dA_init_47 : decode cA_init 47 = .ok (.putfield 30, 3) := by decide +kernel
theorem dA_init_50 : decode cA_init 50 = .ok (.aload_n 0, 1) := by decide +kernel
theorem dA_init_51 : decode cA_init 51 = .ok (.iconst 1, 1) := by decide +kernel
theorem dA_init_52 : decode cA_init 52 = .ok (.putfield 33, 3) := by decide +kernel
theorem dA_init_55 : decode cA_init 55 = .ok (.aload_n 0, 1) := by decide +kernel
theorem dA_init_56 : decode cA_init 56 = .ok (.iconst 0, 1) := by decide +kernel
theorem dA_init_57 : decode cA_init 57 = .ok (.putfield 36, 3) := by decide +kernel
theorem dA_init_60 : decode cA_init 60 = .ok (.aload_n 0, 1) := by decide +kernel
theorem dA_init_61 : decode cA_init 61 = .ok (.iconst 0, 1) := by decide +kernel
theorem dA_init_62 : decode cA_init 62 = .ok (.putfield 39, 3) := by decide +kernel
theorem dA_init_65 : decode cA_init 65 = .ok (.aload_n 0, 1) := by decide +kernel
theorem dA_init_66 : decode cA_init 66 = .ok (.getfield 30, 3) := by decide +kernel
theorem dA_init_69 : decode cA_init 69 = .ok (.iconst 0, 1) := by decide +kernel
theorem dA_init_70 : decode cA_init 70 = .ok (.bipush 97, 2) := by decide +kernel
theorem dA_init_72 : decode cA_init 72 = .ok (.castore, 1) := by decide +kernel
theorem dA_init_73 : decode cA_init 73 = .ok (.return_, 1) := by decide +kernel
theorem dS_init_0 : decode cS_init 0 = .ok (.aload_n 0, 1) := by decide +kernel
theorem dS_init_1 : decode cS_init 1 = .ok (.invokespecial 3, 3) := by decide +kernel
theorem dS_init_4 : decode cS_init 4 = .ok (.aload_n 0, 1) := by decide +kernel
theorem dS_init_5 : decode cS_init 5 = .ok (.bipush 64, 2) := by decide +kernel
theorem dS_init_7 : decode cS_init 7 = .ok (.anewarray 9, 3) := by decide +kernel
theorem dS_init_10 : decode cS_init 10 = .ok (.putfield 11, 3) := by decide +kernel
theorem dS_init_13 : decode cS_init 13 = .ok (.aload_n 0, 1) := by decide +kernel
theorem dS_init_14 : decode cS_init 14 = .ok (.iconst 0, 1) := by decide +kernel
theorem dS_init_15 : decode cS_init 15 = .ok (.putfield 17, 3) := by decide +kernel
theorem dS_init_18 : decode cS_init 18 = .ok (.return_, 1) := by decide +kernel
theorem dA_text_0 : decode cA_text 0 = .ok (.lload_n 1, 1) := by decide +kernel
theorem dA_text_1 : decode cA_text 1 = .ok (.iload_n 3, 1) := by decide +kernel
theorem dA_text_2 : decode cA_text 2 = .ok (.invokestatic 42, 3) := by decide +kernel
theorem dA_text_5 : decode cA_text 5 = .ok (.ifCond .eq 15, 3) := by decide +kernel
theorem dA_text_8 : decode cA_text 8 = .ok (.aload_n 0, 1) := by decide +kernel
theorem dA_text_9 : decode cA_text 9 = .ok (.getfield 26, 3) := by decide +kernel
theorem dA_text_12 : decode cA_text 12 = .ok (.iload_n 3, 1) := by decide +kernel
theorem dA_text_13 : decode cA_text 13 = .ok (.iadd, 1) := by decide +kernel
theorem dA_text_14 : decode cA_text 14 = .ok (.sipush 300, 3) := by decide +kernel
theorem dA_text_17 : decode cA_text 17 = .ok (.if_icmp .le 5, 3) := by decide +kernel
theorem dA_text_20 : decode cA_text 20 = .ok (.iconst (-1), 1) := by decide +kernel
theorem dA_text_21 : decode cA_text 21 = .ok (.ireturn, 1) := by decide +kernel
theorem dA_text_22 : decode cA_text 22 = .ok (.lload_n 1, 1) := by decide +kernel
theorem dA_text_23 : decode cA_text 23 = .ok (.iload_n 3, 1) := by decide +kernel
theorem dA_text_24 : decode cA_text 24 = .ok (.aload_n 0, 1) := by decide +kernel
theorem dA_text_25 : decode cA_text 25 = .ok (.getfield 20, 3) := by decide +kernel
theorem dA_text_28 : decode cA_text 28 = .ok (.aload_n 0, 1) := by decide +kernel
theorem dA_text_29 : decode cA_text 29 = .ok (.getfield 26, 3) := by decide +kernel
theorem dA_text_32 : decode cA_text 32 = .ok (.invokestatic 46, 3) := by decide +kernel
theorem dA_text_35 : decode cA_text 35 = .ok (.aload_n 0, 1) := by decide +kernel
theorem dA_text_36 : decode cA_text 36 = .ok (.dup, 1) := by decide +kernel
theorem dA_text_37 : decode cA_text 37 = .ok (.getfield 26, 3) := by decide +kernel
theorem dA_text_40 : decode cA_text 40 = .ok (.iload_n 3, 1) := by decide +kernel
theorem dA_text_41 : decode cA_text 41 = .ok (.iadd, 1) := by decide +kernel
theorem dA_text_42 : decode cA_text 42 = .ok (.putfield 26, 3) := by decide +kernel
theorem dA_text_45 : decode cA_text 45 = .ok (.aload_n 0, 1) := by decide +kernel
theorem dA_text_46 : decode cA_text 46 = .ok (.getfield 26, 3) := by decide +kernel
theorem dA_text_49 : decode cA_text 49 = .ok (.ireturn, 1) := by decide +kernel
theorem dA_areOfText_0 : decode cA_areOfText 0 = .ok (.iload_n 2, 1) := by decide +kernel
theorem dA_areOfText_1 : decode cA_areOfText 1 = .ok (.ifCond .lt 9, 3) := by decide +kernel
theorem dA_areOfText_4 : decode cA_areOfText 4 = .ok (.iload_n 2, 1) := by decide +kernel
theorem dA_areOfText_5 : decode cA_areOfText 5 = .ok (.bipush 8, 2) := by decide +kernel
theorem dA_areOfText_7 : decode cA_areOfText 7 = .ok (.if_icmp .le 5, 3) := by decide +kernel
theorem dA_areOfText_10 : decode cA_areOfText 10 = .ok (.iconst 0, 1) := by decide +kernel
theorem dA_areOfText_11 : decode cA_areOfText 11 = .ok (.ireturn, 1) := by decide +kernel
theorem dA_areOfText_12 : decode cA_areOfText 12 = .ok (.iconst 0, 1) := by decide +kernel
theorem dA_areOfText_13 : decode cA_areOfText 13 = .ok (.istore_n 3, 1) := by decide +kernel
theorem dA_areOfText_14 : decode cA_areOfText 14 = .ok (.iload_n 3, 1) := by decide +kernel
theorem dA_areOfText_15 : decode cA_areOfText 15 = .ok (.iload_n 2, 1) := by decide +kernel
theorem dA_areOfText_16 : decode cA_areOfText 16 = .ok (.if_icmp .ge 41, 3) := by decide +kernel
theorem dA_areOfText_19 : decode cA_areOfText 19 = .ok (.lload_n 0, 1) := by decide +kernel
theorem dA_areOfText_20 : decode cA_areOfText 20 = .ok (.iload_n 2, 1) := by decide +kernel
theorem dA_areOfText_21 : decode cA_areOfText 21 = .ok (.iload_n 3, 1) := by decide +kernel
theorem dA_areOfText_22 : decode cA_areOfText 22 = .ok (.invokestatic 90, 3) := by decide +kernel
theorem dA_areOfText_25 : decode cA_areOfText 25 = .ok (.istore 4, 2) := by decide +kernel
theorem dA_areOfText_27 : decode cA_areOfText 27 = .ok (.iload 4, 2) := by decide +kernel
theorem dA_areOfText_29 : decode cA_areOfText 29 = .ok (.invokestatic 94, 3) := by decide +kernel
theorem dA_areOfText_32 : decode cA_areOfText 32 = .ok (.ifCond .ne 19, 3) := by decide +kernel
theorem dA_areOfText_35 : decode cA_areOfText 35 = .ok (.iload 4, 2) := by decide +kernel
theorem dA_areOfText_37 : decode cA_areOfText 37 = .ok (.bipush 32, 2) := by decide +kernel
theorem dA_areOfText_39 : decode cA_areOfText 39 = .ok (.if_icmp .lt 10, 3) := by decide +kernel
theorem dA_areOfText_42 : decode cA_areOfText 42 = .ok (.iload 4, 2) := by decide +kernel
theorem dA_areOfText_44 : decode cA_areOfText 44 = .ok (.bipush 126, 2) := by decide +kernel
theorem dA_areOfText_46 : decode cA_areOfText 46 = .ok (.if_icmp .le 5, 3) := by decide +kernel
theorem dA_areOfText_49 : decode cA_areOfText 49 = .ok (.iconst 0, 1) := by decide +kernel
theorem dA_areOfText_50 : decode cA_areOfText 50 = .ok (.ireturn, 1) := by decide +kernel
theorem dA_areOfText_51 : decode cA_areOfText 51 = .ok (.iinc 3 1, 3) := by decide +kernel
theorem dA_areOfText_54 : decode cA_areOfText 54 = .ok (.goto (-40), 3) := by decide +kernel
theorem dA_areOfText_57 : decode cA_areOfText 57 = .ok (.iconst 1, 1) := by decide +kernel
theorem dA_areOfText_58 : decode cA_areOfText 58 = .ok (.ireturn, 1) := by decide +kernel
theorem dA_byteAt_0 : decode cA_byteAt 0 = .ok (.lload_n 0, 1) := by decide +kernel
theorem dA_byteAt_1 : decode cA_byteAt 1 = .ok (.bipush 8, 2) := by decide +kernel
theorem dA_byteAt_3 : decode cA_byteAt 3 = .ok (.iload_n 2, 1) := by decide +kernel
theorem dA_byteAt_4 : decode cA_byteAt 4 = .ok (.iconst 1, 1) := by decide +kernel
theorem dA_byteAt_5 : decode cA_byteAt 5 = .ok (.isub, 1) := by decide +kernel
theorem dA_byteAt_6 : decode cA_byteAt 6 = .ok (.iload_n 3, 1) := by decide +kernel
theorem dA_byteAt_7 : decode cA_byteAt 7 = .ok (.isub, 1) := by decide +kernel
theorem dA_byteAt_8 : decode cA_byteAt 8 = .ok (.imul, 1) := by decide +kernel
theorem dA_byteAt_9 : decode cA_byteAt 9 = .ok (.lushr, 1) := by decide +kernel
theorem dA_byteAt_10 : decode cA_byteAt 10 = .ok (.ldc2_w 88, 3) := by decide +kernel
theorem dA_byteAt_13 : decode cA_byteAt 13 = .ok (.land, 1) := by decide +kernel
theorem dA_byteAt_14 : decode cA_byteAt 14 = .ok (.l2i, 1) := by decide +kernel
theorem dA_byteAt_15 : decode cA_byteAt 15 = .ok (.i2c, 1) := by decide +kernel
theorem dA_byteAt_16 : decode cA_byteAt 16 = .ok (.ireturn, 1) := by decide +kernel
theorem dA_isBlank_0 : decode cA_isBlank 0 = .ok (.iload_n 0, 1) := by decide +kernel
theorem dA_isBlank_1 : decode cA_isBlank 1 = .ok (.bipush 9, 2) := by decide +kernel
theorem dA_isBlank_3 : decode cA_isBlank 3 = .ok (.if_icmp .eq 15, 3) := by decide +kernel
theorem dA_isBlank_6 : decode cA_isBlank 6 = .ok (.iload_n 0, 1) := by decide +kernel
theorem dA_isBlank_7 : decode cA_isBlank 7 = .ok (.bipush 10, 2) := by decide +kernel
theorem dA_isBlank_9 : decode cA_isBlank 9 = .ok (.if_icmp .eq 9, 3) := by decide +kernel
theorem dA_isBlank_12 : decode cA_isBlank 12 = .ok (.iload_n 0, 1) := by decide +kernel
theorem dA_isBlank_13 : decode cA_isBlank 13 = .ok (.bipush 32, 2) := by decide +kernel
theorem dA_isBlank_15 : decode cA_isBlank 15 = .ok (.if_icmp .ne 7, 3) := by decide +kernel
theorem dA_isBlank_18 : decode cA_isBlank 18 = .ok (.iconst 1, 1) := by decide +kernel
theorem dA_isBlank_19 : decode cA_isBlank 19 = .ok (.goto 4, 3) := by decide +kernel
theorem dA_isBlank_22 : decode cA_isBlank 22 = .ok (.iconst 0, 1) := by decide +kernel
theorem dA_isBlank_23 : decode cA_isBlank 23 = .ok (.ireturn, 1) := by decide +kernel
theorem dA_unpack_0 : decode cA_unpack 0 = .ok (.iconst 0, 1) := by decide +kernel
theorem dA_unpack_1 : decode cA_unpack 1 = .ok (.istore 5, 2) := by decide +kernel
theorem dA_unpack_3 : decode cA_unpack 3 = .ok (.iload 5, 2) := by decide +kernel
theorem dA_unpack_5 : decode cA_unpack 5 = .ok (.iload_n 2, 1) := by decide +kernel
theorem dA_unpack_6 : decode cA_unpack 6 = .ok (.if_icmp .ge 33, 3) := by decide +kernel
theorem dA_unpack_9 : decode cA_unpack 9 = .ok (.iload 4, 2) := by decide +kernel
theorem dA_unpack_11 : decode cA_unpack 11 = .ok (.iload 5, 2) := by decide +kernel
theorem dA_unpack_13 : decode cA_unpack 13 = .ok (.iadd, 1) := by decide +kernel
theorem dA_unpack_14 : decode cA_unpack 14 = .ok (.aload_n 3, 1) := by decide +kernel
theorem dA_unpack_15 : decode cA_unpack 15 = .ok (.arraylength, 1) := by decide +kernel
theorem dA_unpack_16 : decode cA_unpack 16 = .ok (.if_icmp .ge 23, 3) := by decide +kernel
theorem dA_unpack_19 : decode cA_unpack 19 = .ok (.aload_n 3, 1) := by decide +kernel
theorem dA_unpack_20 : decode cA_unpack 20 = .ok (.iload 4, 2) := by decide +kernel
theorem dA_unpack_22 : decode cA_unpack 22 = .ok (.iload 5, 2) := by decide +kernel
theorem dA_unpack_24 : decode cA_unpack 24 = .ok (.iadd, 1) := by decide +kernel
theorem dA_unpack_25 : decode cA_unpack 25 = .ok (.lload_n 0, 1) := by decide +kernel
theorem dA_unpack_26 : decode cA_unpack 26 = .ok (.iload_n 2, 1) := by decide +kernel
theorem dA_unpack_27 : decode cA_unpack 27 = .ok (.iload 5, 2) := by decide +kernel
theorem dA_unpack_29 : decode cA_unpack 29 = .ok (.invokestatic 90, 3) := by decide +kernel
theorem dA_unpack_32 : decode cA_unpack 32 = .ok (.castore, 1) := by decide +kernel
theorem dA_unpack_33 : decode cA_unpack 33 = .ok (.iinc 5 1, 3) := by decide +kernel
theorem dA_unpack_36 : decode cA_unpack 36 = .ok (.goto (-33), 3) := by decide +kernel
theorem dA_unpack_39 : decode cA_unpack 39 = .ok (.return_, 1) := by decide +kernel
theorem dA_name_0 : decode cA_name 0 = .ok (.lload_n 1, 1) := by decide +kernel
theorem dA_name_1 : decode cA_name 1 = .ok (.iload_n 3, 1) := by decide +kernel
theorem dA_name_2 : decode cA_name 2 = .ok (.invokestatic 65, 3) := by decide +kernel
theorem dA_name_5 : decode cA_name 5 = .ok (.ifCond .ne 5, 3) := by decide +kernel
theorem dA_name_8 : decode cA_name 8 = .ok (.iconst 0, 1) := by decide +kernel
theorem dA_name_9 : decode cA_name 9 = .ok (.ireturn, 1) := by decide +kernel
theorem dA_name_10 : decode cA_name 10 = .ok (.lload_n 1, 1) := by decide +kernel
theorem dA_name_11 : decode cA_name 11 = .ok (.iload_n 3, 1) := by decide +kernel
theorem dA_name_12 : decode cA_name 12 = .ok (.aload_n 0, 1) := by decide +kernel
theorem dA_name_13 : decode cA_name 13 = .ok (.getfield 30, 3) := by decide +kernel
theorem dA_name_16 : decode cA_name 16 = .ok (.iconst 0, 1) := by decide +kernel
theorem dA_name_17 : decode cA_name 17 = .ok (.invokestatic 46, 3) := by decide +kernel
theorem dA_name_20 : decode cA_name 20 = .ok (.aload_n 0, 1) := by decide +kernel
theorem dA_name_21 : decode cA_name 21 = .ok (.iload_n 3, 1) := by decide +kernel
theorem dA_name_22 : decode cA_name 22 = .ok (.putfield 33, 3) := by decide +kernel
theorem dA_name_25 : decode cA_name 25 = .ok (.iconst 1, 1) := by decide +kernel
theorem dA_name_26 : decode cA_name 26 = .ok (.ireturn, 1) := by decide +kernel
theorem dA_areName_0 : decode cA_areName 0 = .ok (.iload_n 2, 1) := by decide +kernel
theorem dA_areName_1 : decode cA_areName 1 = .ok (.iconst 1, 1) := by decide +kernel
theorem dA_areName_2 : decode cA_areName 2 = .ok (.if_icmp .lt 21, 3) := by decide +kernel
theorem dA_areName_5 : decode cA_areName 5 = .ok (.iload_n 2, 1) := by decide +kernel
theorem dA_areName_6 : decode cA_areName 6 = .ok (.bipush 8, 2) := by decide +kernel
theorem dA_areName_8 : decode cA_areName 8 = .ok (.if_icmp .gt 15, 3) := by decide +kernel
theorem dA_areName_11 : decode cA_areName 11 = .ok (.lload_n 0, 1) := by decide +kernel
theorem dA_areName_12 : decode cA_areName 12 = .ok (.iload_n 2, 1) := by decide +kernel
theorem dA_areName_13 : decode cA_areName 13 = .ok (.iconst 0, 1) := by decide +kernel
theorem dA_areName_14 : decode cA_areName 14 = .ok (.invokestatic 90, 3) := by decide +kernel
theorem dA_areName_17 : decode cA_areName 17 = .ok (.invokestatic 98, 3) := by decide +kernel
theorem dA_areName_20 : decode cA_areName 20 = .ok (.ifCond .ne 5, 3) := by decide +kernel
theorem dA_areName_23 : decode cA_areName 23 = .ok (.iconst 0, 1) := by decide +kernel
theorem dA_areName_24 : decode cA_areName 24 = .ok (.ireturn, 1) := by decide +kernel
theorem dA_areName_25 : decode cA_areName 25 = .ok (.iconst 1, 1) := by decide +kernel
theorem dA_areName_26 : decode cA_areName 26 = .ok (.istore_n 3, 1) := by decide +kernel
theorem dA_areName_27 : decode cA_areName 27 = .ok (.iload_n 3, 1) := by decide +kernel
theorem dA_areName_28 : decode cA_areName 28 = .ok (.iload_n 2, 1) := by decide +kernel
theorem dA_areName_29 : decode cA_areName 29 = .ok (.if_icmp .ge 23, 3) := by decide +kernel
theorem dA_areName_32 : decode cA_areName 32 = .ok (.lload_n 0, 1) := by decide +kernel
theorem dA_areName_33 : decode cA_areName 33 = .ok (.iload_n 2, 1) := by decide +kernel
theorem dA_areName_34 : decode cA_areName 34 = .ok (.iload_n 3, 1) := by decide +kernel
theorem dA_areName_35 : decode cA_areName 35 = .ok (.invokestatic 90, 3) := by decide +kernel
theorem dA_areName_38 : decode cA_areName 38 = .ok (.invokestatic 101, 3) := by decide +kernel
theorem dA_areName_41 : decode cA_areName 41 = .ok (.ifCond .ne 5, 3) := by decide +kernel
theorem dA_areName_44 : decode cA_areName 44 = .ok (.iconst 0, 1) := by decide +kernel
theorem dA_areName_45 : decode cA_areName 45 = .ok (.ireturn, 1) := by decide +kernel
theorem dA_areName_46 : decode cA_areName 46 = .ok (.iinc 3 1, 3) := by decide +kernel
theorem dA_areName_49 : decode cA_areName 49 = .ok (.goto (-22), 3) := by decide +kernel
theorem dA_areName_52 : decode cA_areName 52 = .ok (.iconst 1, 1) := by decide +kernel
theorem dA_areName_53 : decode cA_areName 53 = .ok (.ireturn, 1) := by decide +kernel
theorem dA_startsName_0 : decode cA_startsName 0 = .ok (.iload_n 0, 1) := by decide +kernel
theorem dA_startsName_1 : decode cA_startsName 1 = .ok (.bipush 97, 2) := by decide +kernel
theorem dA_startsName_3 : decode cA_startsName 3 = .ok (.if_icmp .lt 9, 3) := by decide +kernel
theorem dA_startsName_6 : decode cA_startsName 6 = .ok (.iload_n 0, 1) := by decide +kernel
theorem dA_startsName_7 : decode cA_startsName 7 = .ok (.bipush 122, 2) := by decide +kernel
theorem dA_startsName_9 : decode cA_startsName 9 = .ok (.if_icmp .le 21, 3) := by decide +kernel
theorem dA_startsName_12 : decode cA_startsName 12 = .ok (.iload_n 0, 1) := by decide +kernel
theorem dA_startsName_13 : decode cA_startsName 13 = .ok (.bipush 65, 2) := by decide +kernel
theorem dA_startsName_15 : decode cA_startsName 15 = .ok (.if_icmp .lt 9, 3) := by decide +kernel
theorem dA_startsName_18 : decode cA_startsName 18 = .ok (.iload_n 0, 1) := by decide +kernel
theorem dA_startsName_19 : decode cA_startsName 19 = .ok (.bipush 90, 2) := by decide +kernel
theorem dA_startsName_21 : decode cA_startsName 21 = .ok (.if_icmp .le 9, 3) := by decide +kernel
theorem dA_startsName_24 : decode cA_startsName 24 = .ok (.iload_n 0, 1) := by decide +kernel
theorem dA_startsName_25 : decode cA_startsName 25 = .ok (.bipush 95, 2) := by decide +kernel
theorem dA_startsName_27 : decode cA_startsName 27 = .ok (.if_icmp .ne 7, 3) := by decide +kernel
theorem dA_startsName_30 : decode cA_startsName 30 = .ok (.iconst 1, 1) := by decide +kernel
theorem dA_startsName_31 : decode cA_startsName 31 = .ok (.goto 4, 3) := by decide +kernel
theorem dA_startsName_34 : decode cA_startsName 34 = .ok (.iconst 0, 1) := by decide +kernel
theorem dA_startsName_35 : decode cA_startsName 35 = .ok (.ireturn, 1) := by decide +kernel
theorem dA_isOfWord_0 : decode cA_isOfWord 0 = .ok (.iload_n 0, 1) := by decide +kernel
theorem dA_isOfWord_1 : decode cA_isOfWord 1 = .ok (.invokestatic 98, 3) := by decide +kernel
theorem dA_isOfWord_4 : decode cA_isOfWord 4 = .ok (.ifCond .ne 10, 3) := by decide +kernel
theorem dA_isOfWord_7 : decode cA_isOfWord 7 = .ok (.iload_n 0, 1) := by decide +kernel
theorem dA_isOfWord_8 : decode cA_isOfWord 8 = .ok (.invokestatic 104, 3) := by decide +kernel
theorem dA_isOfWord_11 : decode cA_isOfWord 11 = .ok (.ifCond .eq 7, 3) := by decide +kernel
theorem dA_isOfWord_14 : decode cA_isOfWord 14 = .ok (.iconst 1, 1) := by decide +kernel
theorem dA_isOfWord_15 : decode cA_isOfWord 15 = .ok (.goto 4, 3) := by decide +kernel
theorem dA_isOfWord_18 : decode cA_isOfWord 18 = .ok (.iconst 0, 1) := by decide +kernel
theorem dA_isOfWord_19 : decode cA_isOfWord 19 = .ok (.ireturn, 1) := by decide +kernel
theorem dA_isDigit_0 : decode cA_isDigit 0 = .ok (.iload_n 0, 1) := by decide +kernel
theorem dA_isDigit_1 : decode cA_isDigit 1 = .ok (.bipush 48, 2) := by decide +kernel
theorem dA_isDigit_3 : decode cA_isDigit 3 = .ok (.if_icmp .lt 13, 3) := by decide +kernel
theorem dA_isDigit_6 : decode cA_isDigit 6 = .ok (.iload_n 0, 1) := by decide +kernel
theorem dA_isDigit_7 : decode cA_isDigit 7 = .ok (.bipush 57, 2) := by decide +kernel
theorem dA_isDigit_9 : decode cA_isDigit 9 = .ok (.if_icmp .gt 7, 3) := by decide +kernel
theorem dA_isDigit_12 : decode cA_isDigit 12 = .ok (.iconst 1, 1) := by decide +kernel
theorem dA_isDigit_13 : decode cA_isDigit 13 = .ok (.goto 4, 3) := by decide +kernel
theorem dA_isDigit_16 : decode cA_isDigit 16 = .ok (.iconst 0, 1) := by decide +kernel
theorem dA_isDigit_17 : decode cA_isDigit 17 = .ok (.ireturn, 1) := by decide +kernel
theorem dA_put_0 : decode cA_put 0 = .ok (.lload_n 1, 1) := by decide +kernel
theorem dA_put_1 : decode cA_put 1 = .ok (.iload_n 3, 1) := by decide +kernel
theorem dA_put_2 : decode cA_put 2 = .ok (.invokestatic 42, 3) := by decide +kernel
theorem dA_put_5 : decode cA_put 5 = .ok (.ifCond .ne 5, 3) := by decide +kernel
theorem dA_put_8 : decode cA_put 8 = .ok (.iconst 0, 1) := by decide +kernel
theorem dA_put_9 : decode cA_put 9 = .ok (.ireturn, 1) := by decide +kernel
theorem dA_put_10 : decode cA_put 10 = .ok (.aload_n 0, 1) := by decide +kernel
theorem dA_put_11 : decode cA_put 11 = .ok (.getfield 25, 3) := by decide +kernel
theorem dA_put_14 : decode cA_put 14 = .ok (.aload_n 0, 1) := by decide +kernel
theorem dA_put_15 : decode cA_put 15 = .ok (.getfield 30, 3) := by decide +kernel
theorem dA_put_18 : decode cA_put 18 = .ok (.iconst 0, 1) := by decide +kernel
theorem dA_put_19 : decode cA_put 19 = .ok (.aload_n 0, 1) := by decide +kernel
theorem dA_put_20 : decode cA_put 20 = .ok (.getfield 33, 3) := by decide +kernel
theorem dA_put_23 : decode cA_put 23 = .ok (.invokevirtual 68, 3) := by decide +kernel
theorem dA_put_26 : decode cA_put 26 = .ok (.astore 4, 2) := by decide +kernel
theorem dA_put_28 : decode cA_put 28 = .ok (.aload 4, 2) := by decide +kernel
theorem dA_put_30 : decode cA_put 30 = .ok (.ifnonnull 5, 3) := by decide +kernel
theorem dA_put_33 : decode cA_put 33 = .ok (.iconst 0, 1) := by decide +kernel
theorem dA_put_34 : decode cA_put 34 = .ok (.ireturn, 1) := by decide +kernel
theorem dA_put_35 : decode cA_put 35 = .ok (.lload_n 1, 1) := by decide +kernel
theorem dA_put_36 : decode cA_put 36 = .ok (.iload_n 3, 1) := by decide +kernel
theorem dA_put_37 : decode cA_put 37 = .ok (.aload 4, 2) := by decide +kernel
theorem dA_put_39 : decode cA_put 39 = .ok (.getfield 74, 3) := by decide +kernel
theorem dA_put_42 : decode cA_put 42 = .ok (.iconst 0, 1) := by decide +kernel
theorem dA_put_43 : decode cA_put 43 = .ok (.invokestatic 46, 3) := by decide +kernel
theorem dA_put_46 : decode cA_put 46 = .ok (.aload 4, 2) := by decide +kernel
theorem dA_put_48 : decode cA_put 48 = .ok (.iload_n 3, 1) := by decide +kernel
theorem dA_put_49 : decode cA_put 49 = .ok (.putfield 77, 3) := by decide +kernel
theorem dA_put_52 : decode cA_put 52 = .ok (.iconst 1, 1) := by decide +kernel
theorem dA_put_53 : decode cA_put 53 = .ok (.ireturn, 1) := by decide +kernel
theorem dS_findOrAdd_0 : decode cS_findOrAdd 0 = .ok (.aload_n 0, 1) := by decide +kernel
theorem dS_findOrAdd_1 : decode cS_findOrAdd 1 = .ok (.aload_n 1, 1) := by decide +kernel
theorem dS_findOrAdd_2 : decode cS_findOrAdd 2 = .ok (.iload_n 2, 1) := by decide +kernel
theorem dS_findOrAdd_3 : decode cS_findOrAdd 3 = .ok (.iload_n 3, 1) := by decide +kernel
theorem dS_findOrAdd_4 : decode cS_findOrAdd 4 = .ok (.invokevirtual 25, 3) := by decide +kernel
theorem dS_findOrAdd_7 : decode cS_findOrAdd 7 = .ok (.astore 4, 2) := by decide +kernel
theorem dS_findOrAdd_9 : decode cS_findOrAdd 9 = .ok (.aload 4, 2) := by decide +kernel
theorem dS_findOrAdd_11 : decode cS_findOrAdd 11 = .ok (.ifnonnull 15, 3) := by decide +kernel
theorem dS_findOrAdd_14 : decode cS_findOrAdd 14 = .ok (.aload_n 0, 1) := by decide +kernel
theorem dS_findOrAdd_15 : decode cS_findOrAdd 15 = .ok (.getfield 17, 3) := by decide +kernel
theorem dS_findOrAdd_18 : decode cS_findOrAdd 18 = .ok (.aload_n 0, 1) := by decide +kernel
theorem dS_findOrAdd_19 : decode cS_findOrAdd 19 = .ok (.getfield 11, 3) := by decide +kernel
theorem dS_findOrAdd_22 : decode cS_findOrAdd 22 = .ok (.arraylength, 1) := by decide +kernel
theorem dS_findOrAdd_23 : decode cS_findOrAdd 23 = .ok (.if_icmp .lt 6, 3) := by decide +kernel
theorem dS_findOrAdd_26 : decode cS_findOrAdd 26 = .ok (.aload 4, 2) := by decide +kernel
theorem dS_findOrAdd_28 : decode cS_findOrAdd 28 = .ok (.areturn, 1) := by decide +kernel
theorem dS_findOrAdd_29 : decode cS_findOrAdd 29 = .ok (.new 9, 3) := by decide +kernel
theorem dS_findOrAdd_32 : decode cS_findOrAdd 32 = .ok (.dup, 1) := by decide +kernel
theorem dS_findOrAdd_33 : decode cS_findOrAdd 33 = .ok (.aload_n 1, 1) := by decide +kernel
theorem dS_findOrAdd_34 : decode cS_findOrAdd 34 = .ok (.iload_n 2, 1) := by decide +kernel
theorem dS_findOrAdd_35 : decode cS_findOrAdd 35 = .ok (.iload_n 3, 1) := by decide +kernel
theorem dS_findOrAdd_36 : decode cS_findOrAdd 36 = .ok (.invokespecial 29, 3) := by decide +kernel
theorem dS_findOrAdd_39 : decode cS_findOrAdd 39 = .ok (.astore 5, 2) := by decide +kernel
theorem dS_findOrAdd_41 : decode cS_findOrAdd 41 = .ok (.aload_n 0, 1) := by decide +kernel
theorem dS_findOrAdd_42 : decode cS_findOrAdd 42 = .ok (.getfield 11, 3) := by decide +kernel
theorem dS_findOrAdd_45 : decode cS_findOrAdd 45 = .ok (.aload_n 0, 1) := by decide +kernel
theorem dS_findOrAdd_46 : decode cS_findOrAdd 46 = .ok (.getfield 17, 3) := by decide +kernel
theorem dS_findOrAdd_49 : decode cS_findOrAdd 49 = .ok (.aload 5, 2) := by decide +kernel
theorem dS_findOrAdd_51 : decode cS_findOrAdd 51 = .ok (.aastore, 1) := by decide +kernel
theorem dS_findOrAdd_52 : decode cS_findOrAdd 52 = .ok (.aload_n 0, 1) := by decide +kernel
theorem dS_findOrAdd_53 : decode cS_findOrAdd 53 = .ok (.dup, 1) := by decide +kernel
theorem dS_findOrAdd_54 : decode cS_findOrAdd 54 = .ok (.getfield 17, 3) := by decide +kernel
theorem dS_findOrAdd_57 : decode cS_findOrAdd 57 = .ok (.iconst 1, 1) := by decide +kernel
theorem dS_findOrAdd_58 : decode cS_findOrAdd 58 = .ok (.iadd, 1) := by decide +kernel
theorem dS_findOrAdd_59 : decode cS_findOrAdd 59 = .ok (.putfield 17, 3) := by decide +kernel
theorem dS_findOrAdd_62 : decode cS_findOrAdd 62 = .ok (.aload 5, 2) := by decide +kernel
theorem dS_findOrAdd_64 : decode cS_findOrAdd 64 = .ok (.areturn, 1) := by decide +kernel
theorem dS_find_0 : decode cS_find 0 = .ok (.iconst 0, 1) := by decide +kernel
theorem dS_find_1 : decode cS_find 1 = .ok (.istore 4, 2) := by decide +kernel
theorem dS_find_3 : decode cS_find 3 = .ok (.iload 4, 2) := by decide +kernel
theorem dS_find_5 : decode cS_find 5 = .ok (.aload_n 0, 1) := by decide +kernel
theorem dS_find_6 : decode cS_find 6 = .ok (.getfield 17, 3) := by decide +kernel
theorem dS_find_9 : decode cS_find 9 = .ok (.if_icmp .ge 47, 3) := by decide +kernel
theorem dS_find_12 : decode cS_find 12 = .ok (.iload 4, 2) := by decide +kernel
theorem dS_find_14 : decode cS_find 14 = .ok (.aload_n 0, 1) := by decide +kernel
theorem dS_find_15 : decode cS_find 15 = .ok (.getfield 11, 3) := by decide +kernel
theorem dS_find_18 : decode cS_find 18 = .ok (.arraylength, 1) := by decide +kernel
theorem dS_find_19 : decode cS_find 19 = .ok (.if_icmp .ge 37, 3) := by decide +kernel
theorem dS_find_22 : decode cS_find 22 = .ok (.aload_n 0, 1) := by decide +kernel
theorem dS_find_23 : decode cS_find 23 = .ok (.getfield 11, 3) := by decide +kernel
theorem dS_find_26 : decode cS_find 26 = .ok (.iload 4, 2) := by decide +kernel
theorem dS_find_28 : decode cS_find 28 = .ok (.aaload, 1) := by decide +kernel
theorem dS_find_29 : decode cS_find 29 = .ok (.astore 5, 2) := by decide +kernel
theorem dS_find_31 : decode cS_find 31 = .ok (.aload 5, 2) := by decide +kernel
theorem dS_find_33 : decode cS_find 33 = .ok (.ifnull 17, 3) := by decide +kernel
theorem dS_find_36 : decode cS_find 36 = .ok (.aload 5, 2) := by decide +kernel
theorem dS_find_38 : decode cS_find 38 = .ok (.aload_n 1, 1) := by decide +kernel
theorem dS_find_39 : decode cS_find 39 = .ok (.iload_n 2, 1) := by decide +kernel
theorem dS_find_40 : decode cS_find 40 = .ok (.iload_n 3, 1) := by decide +kernel
theorem dS_find_41 : decode cS_find 41 = .ok (.invokevirtual 21, 3) := by decide +kernel
theorem dS_find_44 : decode cS_find 44 = .ok (.ifCond .eq 6, 3) := by decide +kernel
theorem dS_find_47 : decode cS_find 47 = .ok (.aload 5, 2) := by decide +kernel
theorem dS_find_49 : decode cS_find 49 = .ok (.areturn, 1) := by decide +kernel
theorem dS_find_50 : decode cS_find 50 = .ok (.iinc 4 1, 3) := by decide +kernel
theorem dS_find_53 : decode cS_find 53 = .ok (.goto (-50), 3) := by decide +kernel
theorem dS_find_56 : decode cS_find 56 = .ok (.aconst_null, 1) := by decide +kernel
theorem dS_find_57 : decode cS_find 57 = .ok (.areturn, 1) := by decide +kernel
theorem dN_isCalled_0 : decode cN_isCalled 0 = .ok (.iload_n 2, 1) := by decide +kernel
theorem dN_isCalled_1 : decode cN_isCalled 1 = .ok (.ifCond .lt 20, 3) := by decide +kernel
theorem dN_isCalled_4 : decode cN_isCalled 4 = .ok (.iload_n 3, 1) := by decide +kernel
theorem dN_isCalled_5 : decode cN_isCalled 5 = .ok (.aload_n 1, 1) := by decide +kernel
theorem dN_isCalled_6 : decode cN_isCalled 6 = .ok (.arraylength, 1) := by decide +kernel
theorem dN_isCalled_7 : decode cN_isCalled 7 = .ok (.if_icmp .gt 14, 3) := by decide +kernel
theorem dN_isCalled_10 : decode cN_isCalled 10 = .ok (.iload_n 3, 1) := by decide +kernel
theorem dN_isCalled_11 : decode cN_isCalled 11 = .ok (.iload_n 2, 1) := by decide +kernel
theorem dN_isCalled_12 : decode cN_isCalled 12 = .ok (.isub, 1) := by decide +kernel
theorem dN_isCalled_13 : decode cN_isCalled 13 = .ok (.aload_n 0, 1) := by decide +kernel
theorem dN_isCalled_14 : decode cN_isCalled 14 = .ok (.getfield 25, 3) := by decide +kernel
theorem dN_isCalled_17 : decode cN_isCalled 17 = .ok (.arraylength, 1) := by decide +kernel
theorem dN_isCalled_18 : decode cN_isCalled 18 = .ok (.if_icmp .eq 5, 3) := by decide +kernel
theorem dN_isCalled_21 : decode cN_isCalled 21 = .ok (.iconst 0, 1) := by decide +kernel
theorem dN_isCalled_22 : decode cN_isCalled 22 = .ok (.ireturn, 1) := by decide +kernel
theorem dN_isCalled_23 : decode cN_isCalled 23 = .ok (.iconst 0, 1) := by decide +kernel
theorem dN_isCalled_24 : decode cN_isCalled 24 = .ok (.istore 4, 2) := by decide +kernel
theorem dN_isCalled_26 : decode cN_isCalled 26 = .ok (.iload 4, 2) := by decide +kernel
theorem dN_isCalled_28 : decode cN_isCalled 28 = .ok (.aload_n 0, 1) := by decide +kernel
theorem dN_isCalled_29 : decode cN_isCalled 29 = .ok (.getfield 25, 3) := by decide +kernel
theorem dN_isCalled_32 : decode cN_isCalled 32 = .ok (.arraylength, 1) := by decide +kernel
theorem dN_isCalled_33 : decode cN_isCalled 33 = .ok (.if_icmp .ge 27, 3) := by decide +kernel
theorem dN_isCalled_36 : decode cN_isCalled 36 = .ok (.aload_n 0, 1) := by decide +kernel
theorem dN_isCalled_37 : decode cN_isCalled 37 = .ok (.getfield 25, 3) := by decide +kernel
theorem dN_isCalled_40 : decode cN_isCalled 40 = .ok (.iload 4, 2) := by decide +kernel
theorem dN_isCalled_42 : decode cN_isCalled 42 = .ok (.caload, 1) := by decide +kernel
theorem dN_isCalled_43 : decode cN_isCalled 43 = .ok (.aload_n 1, 1) := by decide +kernel
theorem dN_isCalled_44 : decode cN_isCalled 44 = .ok (.iload_n 2, 1) := by decide +kernel
theorem dN_isCalled_45 : decode cN_isCalled 45 = .ok (.iload 4, 2) := by decide +kernel
theorem dN_isCalled_47 : decode cN_isCalled 47 = .ok (.iadd, 1) := by decide +kernel
theorem dN_isCalled_48 : decode cN_isCalled 48 = .ok (.caload, 1) := by decide +kernel
theorem dN_isCalled_49 : decode cN_isCalled 49 = .ok (.if_icmp .eq 5, 3) := by decide +kernel
theorem dN_isCalled_52 : decode cN_isCalled 52 = .ok (.iconst 0, 1) := by decide +kernel
theorem dN_isCalled_53 : decode cN_isCalled 53 = .ok (.ireturn, 1) := by decide +kernel
theorem dN_isCalled_54 : decode cN_isCalled 54 = .ok (.iinc 4 1, 3) := by decide +kernel
theorem dN_isCalled_57 : decode cN_isCalled 57 = .ok (.goto (-31), 3) := by decide +kernel
theorem dN_isCalled_60 : decode cN_isCalled 60 = .ok (.iconst 1, 1) := by decide +kernel
theorem dN_isCalled_61 : decode cN_isCalled 61 = .ok (.ireturn, 1) := by decide +kernel
theorem dN_init_0 : decode cN_init 0 = .ok (.aload_n 0, 1) := by decide +kernel
theorem dN_init_1 : decode cN_init 1 = .ok (.invokespecial 3, 3) := by decide +kernel
theorem dN_init_4 : decode cN_init 4 = .ok (.aload_n 0, 1) := by decide +kernel
theorem dN_init_5 : decode cN_init 5 = .ok (.bipush 20, 2) := by decide +kernel
theorem dN_init_7 : decode cN_init 7 = .ok (.newarray .char, 2) := by decide +kernel
theorem dN_init_9 : decode cN_init 9 = .ok (.putfield 9, 3) := by decide +kernel
theorem dN_init_12 : decode cN_init 12 = .ok (.aload_n 0, 1) := by decide +kernel
theorem dN_init_13 : decode cN_init 13 = .ok (.iconst 0, 1) := by decide +kernel
theorem dN_init_14 : decode cN_init 14 = .ok (.putfield 15, 3) := by decide +kernel
theorem dN_init_17 : decode cN_init 17 = .ok (.aload_n 0, 1) := by decide +kernel
theorem dN_init_18 : decode cN_init 18 = .ok (.iload_n 3, 1) := by decide +kernel
theorem dN_init_19 : decode cN_init 19 = .ok (.iload_n 2, 1) := by decide +kernel
theorem dN_init_20 : decode cN_init 20 = .ok (.isub, 1) := by decide +kernel
theorem dN_init_21 : decode cN_init 21 = .ok (.iconst 0, 1) := by decide +kernel
theorem dN_init_22 : decode cN_init 22 = .ok (.invokestatic 19, 3) := by decide +kernel
theorem dN_init_25 : decode cN_init 25 = .ok (.newarray .char, 2) := by decide +kernel
theorem dN_init_27 : decode cN_init 27 = .ok (.putfield 25, 3) := by decide +kernel
theorem dN_init_30 : decode cN_init 30 = .ok (.iconst 0, 1) := by decide +kernel
theorem dN_init_31 : decode cN_init 31 = .ok (.istore 4, 2) := by decide +kernel
theorem dN_init_33 : decode cN_init 33 = .ok (.iload 4, 2) := by decide +kernel
theorem dN_init_35 : decode cN_init 35 = .ok (.aload_n 0, 1) := by decide +kernel
theorem dN_init_36 : decode cN_init 36 = .ok (.getfield 25, 3) := by decide +kernel
theorem dN_init_39 : decode cN_init 39 = .ok (.arraylength, 1) := by decide +kernel
theorem dN_init_40 : decode cN_init 40 = .ok (.if_icmp .ge 31, 3) := by decide +kernel
theorem dN_init_43 : decode cN_init 43 = .ok (.iload_n 2, 1) := by decide +kernel
theorem dN_init_44 : decode cN_init 44 = .ok (.iload 4, 2) := by decide +kernel
theorem dN_init_46 : decode cN_init 46 = .ok (.iadd, 1) := by decide +kernel
theorem dN_init_47 : decode cN_init 47 = .ok (.aload_n 1, 1) := by decide +kernel
theorem dN_init_48 : decode cN_init 48 = .ok (.arraylength, 1) := by decide +kernel
theorem dN_init_49 : decode cN_init 49 = .ok (.if_icmp .ge 22, 3) := by decide +kernel
theorem dN_init_52 : decode cN_init 52 = .ok (.aload_n 0, 1) := by decide +kernel
theorem dN_init_53 : decode cN_init 53 = .ok (.getfield 25, 3) := by decide +kernel
theorem dN_init_56 : decode cN_init 56 = .ok (.iload 4, 2) := by decide +kernel
theorem dN_init_58 : decode cN_init 58 = .ok (.aload_n 1, 1) := by decide +kernel
theorem dN_init_59 : decode cN_init 59 = .ok (.iload_n 2, 1) := by decide +kernel
theorem dN_init_60 : decode cN_init 60 = .ok (.iload 4, 2) := by decide +kernel
theorem dN_init_62 : decode cN_init 62 = .ok (.iadd, 1) := by decide +kernel
theorem dN_init_63 : decode cN_init 63 = .ok (.caload, 1) := by decide +kernel
theorem dN_init_64 : decode cN_init 64 = .ok (.castore, 1) := by decide +kernel
theorem dN_init_65 : decode cN_init 65 = .ok (.iinc 4 1, 3) := by decide +kernel
theorem dN_init_68 : decode cN_init 68 = .ok (.goto (-35), 3) := by decide +kernel
theorem dN_init_71 : decode cN_init 71 = .ok (.return_, 1) := by decide +kernel
theorem dA_drop_0 : decode cA_drop 0 = .ok (.aload_n 0, 1) := by decide +kernel
theorem dA_drop_1 : decode cA_drop 1 = .ok (.getfield 25, 3) := by decide +kernel
theorem dA_drop_4 : decode cA_drop 4 = .ok (.aload_n 0, 1) := by decide +kernel
theorem dA_drop_5 : decode cA_drop 5 = .ok (.getfield 30, 3) := by decide +kernel
theorem dA_drop_8 : decode cA_drop 8 = .ok (.iconst 0, 1) := by decide +kernel
theorem dA_drop_9 : decode cA_drop 9 = .ok (.aload_n 0, 1) := by decide +kernel
theorem dA_drop_10 : decode cA_drop 10 = .ok (.getfield 33, 3) := by decide +kernel
theorem dA_drop_13 : decode cA_drop 13 = .ok (.invokevirtual 78, 3) := by decide +kernel
theorem dA_drop_16 : decode cA_drop 16 = .ok (.ireturn, 1) := by decide +kernel
theorem dS_remove_0 : decode cS_remove 0 = .ok (.aload_n 0, 1) := by decide +kernel
theorem dS_remove_1 : decode cS_remove 1 = .ok (.aload_n 1, 1) := by decide +kernel
theorem dS_remove_2 : decode cS_remove 2 = .ok (.iload_n 2, 1) := by decide +kernel
theorem dS_remove_3 : decode cS_remove 3 = .ok (.iload_n 3, 1) := by decide +kernel
theorem dS_remove_4 : decode cS_remove 4 = .ok (.invokevirtual 25, 3) := by decide +kernel
theorem dS_remove_7 : decode cS_remove 7 = .ok (.astore 4, 2) := by decide +kernel
theorem dS_remove_9 : decode cS_remove 9 = .ok (.aload 4, 2) := by decide +kernel
theorem dS_remove_11 : decode cS_remove 11 = .ok (.ifnonnull 5, 3) := by decide +kernel
theorem dS_remove_14 : decode cS_remove 14 = .ok (.iconst 0, 1) := by decide +kernel
theorem dS_remove_15 : decode cS_remove 15 = .ok (.ireturn, 1) := by decide +kernel
theorem dS_remove_16 : decode cS_remove 16 = .ok (.aload_n 0, 1) := by decide +kernel
theorem dS_remove_17 : decode cS_remove 17 = .ok (.dup, 1) := by decide +kernel
theorem dS_remove_18 : decode cS_remove 18 = .ok (.getfield 17, 3) := by decide +kernel
theorem dS_remove_21 : decode cS_remove 21 = .ok (.iconst 1, 1) := by decide +kernel
theorem dS_remove_22 : decode cS_remove 22 = .ok (.isub, 1) := by decide +kernel
theorem dS_remove_23 : decode cS_remove 23 = .ok (.putfield 17, 3) := by decide +kernel
theorem dS_remove_26 : decode cS_remove 26 = .ok (.iconst 0, 1) := by decide +kernel
theorem dS_remove_27 : decode cS_remove 27 = .ok (.istore 5, 2) := by decide +kernel
theorem dS_remove_29 : decode cS_remove 29 = .ok (.iload 5, 2) := by decide +kernel
theorem dS_remove_31 : decode cS_remove 31 = .ok (.aload_n 0, 1) := by decide +kernel
theorem dS_remove_32 : decode cS_remove 32 = .ok (.getfield 17, 3) := by decide +kernel
theorem dS_remove_35 : decode cS_remove 35 = .ok (.if_icmp .ge 49, 3) := by decide +kernel
theorem dS_remove_38 : decode cS_remove 38 = .ok (.aload_n 0, 1) := by decide +kernel
theorem dS_remove_39 : decode cS_remove 39 = .ok (.getfield 17, 3) := by decide +kernel
theorem dS_remove_42 : decode cS_remove 42 = .ok (.aload_n 0, 1) := by decide +kernel
theorem dS_remove_43 : decode cS_remove 43 = .ok (.getfield 11, 3) := by decide +kernel
theorem dS_remove_46 : decode cS_remove 46 = .ok (.arraylength, 1) := by decide +kernel
theorem dS_remove_47 : decode cS_remove 47 = .ok (.if_icmp .ge 37, 3) := by decide +kernel
theorem dS_remove_50 : decode cS_remove 50 = .ok (.aload_n 0, 1) := by decide +kernel
theorem dS_remove_51 : decode cS_remove 51 = .ok (.getfield 11, 3) := by decide +kernel
theorem dS_remove_54 : decode cS_remove 54 = .ok (.iload 5, 2) := by decide +kernel
theorem dS_remove_56 : decode cS_remove 56 = .ok (.aaload, 1) := by decide +kernel
theorem dS_remove_57 : decode cS_remove 57 = .ok (.aload 4, 2) := by decide +kernel
theorem dS_remove_59 : decode cS_remove 59 = .ok (.if_acmp .ne 19, 3) := by decide +kernel
theorem dS_remove_62 : decode cS_remove 62 = .ok (.aload_n 0, 1) := by decide +kernel
theorem dS_remove_63 : decode cS_remove 63 = .ok (.getfield 11, 3) := by decide +kernel
theorem dS_remove_66 : decode cS_remove 66 = .ok (.iload 5, 2) := by decide +kernel
theorem dS_remove_68 : decode cS_remove 68 = .ok (.aload_n 0, 1) := by decide +kernel
theorem dS_remove_69 : decode cS_remove 69 = .ok (.getfield 11, 3) := by decide +kernel
theorem dS_remove_72 : decode cS_remove 72 = .ok (.aload_n 0, 1) := by decide +kernel
theorem dS_remove_73 : decode cS_remove 73 = .ok (.getfield 17, 3) := by decide +kernel
theorem dS_remove_76 : decode cS_remove 76 = .ok (.aaload, 1) := by decide +kernel
theorem dS_remove_77 : decode cS_remove 77 = .ok (.aastore, 1) := by decide +kernel
theorem dS_remove_78 : decode cS_remove 78 = .ok (.iinc 5 1, 3) := by decide +kernel
theorem dS_remove_81 : decode cS_remove 81 = .ok (.goto (-52), 3) := by decide +kernel
theorem dS_remove_84 : decode cS_remove 84 = .ok (.iconst 1, 1) := by decide +kernel
theorem dS_remove_85 : decode cS_remove 85 = .ok (.ireturn, 1) := by decide +kernel
theorem dA_letter_0 : decode cA_letter 0 = .ok (.aload_n 0, 1) := by decide +kernel
theorem dA_letter_1 : decode cA_letter 1 = .ok (.getfield 25, 3) := by decide +kernel
theorem dA_letter_4 : decode cA_letter 4 = .ok (.aload_n 0, 1) := by decide +kernel
theorem dA_letter_5 : decode cA_letter 5 = .ok (.getfield 30, 3) := by decide +kernel
theorem dA_letter_8 : decode cA_letter 8 = .ok (.iconst 0, 1) := by decide +kernel
theorem dA_letter_9 : decode cA_letter 9 = .ok (.aload_n 0, 1) := by decide +kernel
theorem dA_letter_10 : decode cA_letter 10 = .ok (.getfield 33, 3) := by decide +kernel
theorem dA_letter_13 : decode cA_letter 13 = .ok (.invokevirtual 82, 3) := by decide +kernel
theorem dA_letter_16 : decode cA_letter 16 = .ok (.astore_n 2, 1) := by decide +kernel
theorem dA_letter_17 : decode cA_letter 17 = .ok (.aload_n 2, 1) := by decide +kernel
theorem dA_letter_18 : decode cA_letter 18 = .ok (.ifnull 24, 3) := by decide +kernel
theorem dA_letter_21 : decode cA_letter 21 = .ok (.iload_n 1, 1) := by decide +kernel
theorem dA_letter_22 : decode cA_letter 22 = .ok (.ifCond .lt 20, 3) := by decide +kernel
theorem dA_letter_25 : decode cA_letter 25 = .ok (.iload_n 1, 1) := by decide +kernel
theorem dA_letter_26 : decode cA_letter 26 = .ok (.aload_n 2, 1) := by decide +kernel
theorem dA_letter_27 : decode cA_letter 27 = .ok (.getfield 77, 3) := by decide +kernel
theorem dA_letter_30 : decode cA_letter 30 = .ok (.if_icmp .ge 12, 3) := by decide +kernel
theorem dA_letter_33 : decode cA_letter 33 = .ok (.iload_n 1, 1) := by decide +kernel
theorem dA_letter_34 : decode cA_letter 34 = .ok (.aload_n 2, 1) := by decide +kernel
theorem dA_letter_35 : decode cA_letter 35 = .ok (.getfield 74, 3) := by decide +kernel
theorem dA_letter_38 : decode cA_letter 38 = .ok (.arraylength, 1) := by decide +kernel
theorem dA_letter_39 : decode cA_letter 39 = .ok (.if_icmp .lt 5, 3) := by decide +kernel
theorem dA_letter_42 : decode cA_letter 42 = .ok (.iconst (-1), 1) := by decide +kernel
theorem dA_letter_43 : decode cA_letter 43 = .ok (.ireturn, 1) := by decide +kernel
theorem dA_letter_44 : decode cA_letter 44 = .ok (.aload_n 2, 1) := by decide +kernel
theorem dA_letter_45 : decode cA_letter 45 = .ok (.getfield 74, 3) := by decide +kernel
theorem dA_letter_48 : decode cA_letter 48 = .ok (.iload_n 1, 1) := by decide +kernel
theorem dA_letter_49 : decode cA_letter 49 = .ok (.caload, 1) := by decide +kernel
theorem dA_letter_50 : decode cA_letter 50 = .ok (.ireturn, 1) := by decide +kernel
theorem dA_count_0 : decode cA_count 0 = .ok (.iload_n 1, 1) := by decide +kernel
theorem dA_count_1 : decode cA_count 1 = .ok (.tableswitch 88 0 4 #[35, 40, 48, 78, 83], 35) := by decide +kernel
theorem dA_count_36 : decode cA_count 36 = .ok (.aload_n 0, 1) := by decide +kernel
theorem dA_count_37 : decode cA_count 37 = .ok (.getfield 26, 3) := by decide +kernel
theorem dA_count_40 : decode cA_count 40 = .ok (.ireturn, 1) := by decide +kernel
theorem dA_count_41 : decode cA_count 41 = .ok (.aload_n 0, 1) := by decide +kernel
theorem dA_count_42 : decode cA_count 42 = .ok (.getfield 25, 3) := by decide +kernel
theorem dA_count_45 : decode cA_count 45 = .ok (.getfield 85, 3) := by decide +kernel
theorem dA_count_48 : decode cA_count 48 = .ok (.ireturn, 1) := by decide +kernel
theorem dA_count_49 : decode cA_count 49 = .ok (.aload_n 0, 1) := by decide +kernel
theorem dA_count_50 : decode cA_count 50 = .ok (.getfield 25, 3) := by decide +kernel
theorem dA_count_53 : decode cA_count 53 = .ok (.aload_n 0, 1) := by decide +kernel
theorem dA_count_54 : decode cA_count 54 = .ok (.getfield 30, 3) := by decide +kernel
theorem dA_count_57 : decode cA_count 57 = .ok (.iconst 0, 1) := by decide +kernel
theorem dA_count_58 : decode cA_count 58 = .ok (.aload_n 0, 1) := by decide +kernel
theorem dA_count_59 : decode cA_count 59 = .ok (.getfield 33, 3) := by decide +kernel
theorem dA_count_62 : decode cA_count 62 = .ok (.invokevirtual 82, 3) := by decide +kernel
theorem dA_count_65 : decode cA_count 65 = .ok (.astore_n 2, 1) := by decide +kernel
theorem dA_count_66 : decode cA_count 66 = .ok (.aload_n 2, 1) := by decide +kernel
theorem dA_count_67 : decode cA_count 67 = .ok (.ifnonnull 7, 3) := by decide +kernel
theorem dA_count_70 : decode cA_count 70 = .ok (.iconst (-1), 1) := by decide +kernel
theorem dA_count_71 : decode cA_count 71 = .ok (.goto 7, 3) := by decide +kernel
theorem dA_count_74 : decode cA_count 74 = .ok (.aload_n 2, 1) := by decide +kernel
theorem dA_count_75 : decode cA_count 75 = .ok (.getfield 77, 3) := by decide +kernel
theorem dA_count_78 : decode cA_count 78 = .ok (.ireturn, 1) := by decide +kernel
theorem dA_count_79 : decode cA_count 79 = .ok (.aload_n 0, 1) := by decide +kernel
theorem dA_count_80 : decode cA_count 80 = .ok (.getfield 36, 3) := by decide +kernel
theorem dA_count_83 : decode cA_count 83 = .ok (.ireturn, 1) := by decide +kernel
theorem dA_count_84 : decode cA_count 84 = .ok (.aload_n 0, 1) := by decide +kernel
theorem dA_count_85 : decode cA_count 85 = .ok (.getfield 39, 3) := by decide +kernel
theorem dA_count_88 : decode cA_count 88 = .ok (.ireturn, 1) := by decide +kernel
theorem dA_count_89 : decode cA_count 89 = .ok (.iconst (-1), 1) := by decide +kernel
theorem dA_count_90 : decode cA_count 90 = .ok (.ireturn, 1) := by decide +kernel
theorem dA_value_0 : decode cA_value 0 = .ok (.aload_n 0, 1) := by decide +kernel
theorem dA_value_1 : decode cA_value 1 = .ok (.getfield 12, 3) := by decide +kernel
theorem dA_value_4 : decode cA_value 4 = .ok (.aload_n 0, 1) := by decide +kernel
theorem dA_value_5 : decode cA_value 5 = .ok (.getfield 26, 3) := by decide +kernel
theorem dA_value_8 : decode cA_value 8 = .ok (.invokevirtual 50, 3) := by decide +kernel
theorem dA_value_11 : decode cA_value 11 = .ok (.istore_n 1, 1) := by decide +kernel
theorem dA_value_12 : decode cA_value 12 = .ok (.aload_n 0, 1) := by decide +kernel
theorem dA_value_13 : decode cA_value 13 = .ok (.iconst 0, 1) := by decide +kernel
theorem dA_value_14 : decode cA_value 14 = .ok (.putfield 26, 3) := by decide +kernel
theorem dA_value_17 : decode cA_value 17 = .ok (.iload_n 1, 1) := by decide +kernel
theorem dA_value_18 : decode cA_value 18 = .ok (.ifCond .ne 23, 3) := by decide +kernel
theorem dA_value_21 : decode cA_value 21 = .ok (.aload_n 0, 1) := by decide +kernel
theorem dA_value_22 : decode cA_value 22 = .ok (.dup, 1) := by decide +kernel
theorem dA_value_23 : decode cA_value 23 = .ok (.getfield 39, 3) := by decide +kernel
theorem dA_value_26 : decode cA_value 26 = .ok (.iconst 1, 1) := by decide +kernel
theorem dA_value_27 : decode cA_value 27 = .ok (.iadd, 1) := by decide +kernel
theorem dA_value_28 : decode cA_value 28 = .ok (.putfield 39, 3) := by decide +kernel
theorem dA_value_31 : decode cA_value 31 = .ok (.new 54, 3) := by decide +kernel
theorem dA_value_34 : decode cA_value 34 = .ok (.dup, 1) := by decide +kernel
theorem dA_value_35 : decode cA_value 35 = .ok (.ldc 56, 2) := by decide +kernel
theorem dA_value_37 : decode cA_value 37 = .ok (.invokespecial 58, 3) := by decide +kernel
theorem dA_value_40 : decode cA_value 40 = .ok (.athrow, 1) := by decide +kernel
theorem dA_value_41 : decode cA_value 41 = .ok (.aload_n 0, 1) := by decide +kernel
theorem dA_value_42 : decode cA_value 42 = .ok (.dup, 1) := by decide +kernel
theorem dA_value_43 : decode cA_value 43 = .ok (.getfield 36, 3) := by decide +kernel
theorem dA_value_46 : decode cA_value 46 = .ok (.iconst 1, 1) := by decide +kernel
theorem dA_value_47 : decode cA_value 47 = .ok (.iadd, 1) := by decide +kernel
theorem dA_value_48 : decode cA_value 48 = .ok (.putfield 36, 3) := by decide +kernel
theorem dA_value_51 : decode cA_value 51 = .ok (.aload_n 0, 1) := by decide +kernel
theorem dA_value_52 : decode cA_value 52 = .ok (.getfield 12, 3) := by decide +kernel
theorem dA_value_55 : decode cA_value 55 = .ok (.getfield 61, 3) := by decide +kernel
theorem dA_value_58 : decode cA_value 58 = .ok (.lreturn, 1) := by decide +kernel
theorem dG_rankOf_0 : decode cG_rankOf 0 = .ok (.iload_n 0, 1) := by decide +kernel
theorem dG_rankOf_1 : decode cG_rankOf 1 = .ok (.lookupswitch 180 #[(37, 177), (38, 163), (42, 177), (43, 174), (45, 174), (47, 177), (60, 168), (62, 168), (94, 161), (124, 159), (8509, 165), (9766, 157), (15420, 171), (15421, 168), (15677, 165), (15933, 168), (15934, 171), (31868, 155)], 155) := by decide +kernel
theorem dG_rankOf_156 : decode cG_rankOf 156 = .ok (.iconst 1, 1) := by decide +kernel
theorem dG_rankOf_157 : decode cG_rankOf 157 = .ok (.ireturn, 1) := by decide +kernel
theorem dG_rankOf_158 : decode cG_rankOf 158 = .ok (.iconst 2, 1) := by decide +kernel
theorem dG_rankOf_159 : decode cG_rankOf 159 = .ok (.ireturn, 1) := by decide +kernel
theorem dG_rankOf_160 : decode cG_rankOf 160 = .ok (.iconst 3, 1) := by decide +kernel
theorem dG_rankOf_161 : decode cG_rankOf 161 = .ok (.ireturn, 1) := by decide +kernel
theorem dG_rankOf_162 : decode cG_rankOf 162 = .ok (.iconst 4, 1) := by decide +kernel
theorem dG_rankOf_163 : decode cG_rankOf 163 = .ok (.ireturn, 1) := by decide +kernel
theorem dG_rankOf_164 : decode cG_rankOf 164 = .ok (.iconst 5, 1) := by decide +kernel
theorem dG_rankOf_165 : decode cG_rankOf 165 = .ok (.ireturn, 1) := by decide +kernel
theorem dG_rankOf_166 : decode cG_rankOf 166 = .ok (.bipush 6, 2) := by decide +kernel
theorem dG_rankOf_168 : decode cG_rankOf 168 = .ok (.ireturn, 1) := by decide +kernel
theorem dG_rankOf_169 : decode cG_rankOf 169 = .ok (.bipush 7, 2) := by decide +kernel
theorem dG_rankOf_171 : decode cG_rankOf 171 = .ok (.ireturn, 1) := by decide +kernel
theorem dG_rankOf_172 : decode cG_rankOf 172 = .ok (.bipush 8, 2) := by decide +kernel
theorem dG_rankOf_174 : decode cG_rankOf 174 = .ok (.ireturn, 1) := by decide +kernel
theorem dG_rankOf_175 : decode cG_rankOf 175 = .ok (.bipush 9, 2) := by decide +kernel
theorem dG_rankOf_177 : decode cG_rankOf 177 = .ok (.ireturn, 1) := by decide +kernel
theorem dG_rankOf_178 : decode cG_rankOf 178 = .ok (.bipush 10, 2) := by decide +kernel
theorem dG_rankOf_180 : decode cG_rankOf 180 = .ok (.ireturn, 1) := by decide +kernel
theorem dG_rankOf_181 : decode cG_rankOf 181 = .ok (.iconst 0, 1) := by decide +kernel
theorem dG_rankOf_182 : decode cG_rankOf 182 = .ok (.ireturn, 1) := by decide +kernel
theorem dA_numberIn_0 : decode cA_numberIn 0 = .ok (.iload_n 1, 1) := by decide +kernel
theorem dA_numberIn_1 : decode cA_numberIn 1 = .ok (.ifCond .lt 14, 3) := by decide +kernel
theorem dA_numberIn_4 : decode cA_numberIn 4 = .ok (.iload_n 1, 1) := by decide +kernel
theorem dA_numberIn_5 : decode cA_numberIn 5 = .ok (.iload_n 2, 1) := by decide +kernel
theorem dA_numberIn_6 : decode cA_numberIn 6 = .ok (.if_icmp .ge 9, 3) := by decide +kernel
theorem dA_numberIn_9 : decode cA_numberIn 9 = .ok (.iload_n 2, 1) := by decide +kernel
theorem dA_numberIn_10 : decode cA_numberIn 10 = .ok (.aload_n 0, 1) := by decide +kernel
theorem dA_numberIn_11 : decode cA_numberIn 11 = .ok (.arraylength, 1) := by decide +kernel
theorem dA_numberIn_12 : decode cA_numberIn 12 = .ok (.if_icmp .le 13, 3) := by decide +kernel
theorem dA_numberIn_15 : decode cA_numberIn 15 = .ok (.new 54, 3) := by decide +kernel
theorem dA_numberIn_18 : decode cA_numberIn 18 = .ok (.dup, 1) := by decide +kernel
theorem dA_numberIn_19 : decode cA_numberIn 19 = .ok (.ldc 107, 2) := by decide +kernel
theorem dA_numberIn_21 : decode cA_numberIn 21 = .ok (.invokespecial 58, 3) := by decide +kernel
theorem dA_numberIn_24 : decode cA_numberIn 24 = .ok (.athrow, 1) := by decide +kernel
theorem dA_numberIn_25 : decode cA_numberIn 25 = .ok (.aload_n 0, 1) := by decide +kernel
theorem dA_numberIn_26 : decode cA_numberIn 26 = .ok (.iload_n 1, 1) := by decide +kernel
theorem dA_numberIn_27 : decode cA_numberIn 27 = .ok (.caload, 1) := by decide +kernel
theorem dA_numberIn_28 : decode cA_numberIn 28 = .ok (.iload_n 1, 1) := by decide +kernel
theorem dA_numberIn_29 : decode cA_numberIn 29 = .ok (.iconst 1, 1) := by decide +kernel
theorem dA_numberIn_30 : decode cA_numberIn 30 = .ok (.iadd, 1) := by decide +kernel
theorem dA_numberIn_31 : decode cA_numberIn 31 = .ok (.iload_n 2, 1) := by decide +kernel
theorem dA_numberIn_32 : decode cA_numberIn 32 = .ok (.if_icmp .ge 11, 3) := by decide +kernel
theorem dA_numberIn_35 : decode cA_numberIn 35 = .ok (.aload_n 0, 1) := by decide +kernel
theorem dA_numberIn_36 : decode cA_numberIn 36 = .ok (.iload_n 1, 1) := by decide +kernel
theorem dA_numberIn_37 : decode cA_numberIn 37 = .ok (.iconst 1, 1) := by decide +kernel
theorem dA_numberIn_38 : decode cA_numberIn 38 = .ok (.iadd, 1) := by decide +kernel
theorem dA_numberIn_39 : decode cA_numberIn 39 = .ok (.caload, 1) := by decide +kernel
theorem dA_numberIn_40 : decode cA_numberIn 40 = .ok (.goto 5, 3) := by decide +kernel
theorem dA_numberIn_43 : decode cA_numberIn 43 = .ok (.bipush 48, 2) := by decide +kernel
theorem dA_numberIn_45 : decode cA_numberIn 45 = .ok (.invokestatic 109, 3) := by decide +kernel
theorem dA_numberIn_48 : decode cA_numberIn 48 = .ok (.istore_n 3, 1) := by decide +kernel
theorem dA_numberIn_49 : decode cA_numberIn 49 = .ok (.iload_n 3, 1) := by decide +kernel
theorem dA_numberIn_50 : decode cA_numberIn 50 = .ok (.bipush 16, 2) := by decide +kernel
theorem dA_numberIn_52 : decode cA_numberIn 52 = .ok (.if_icmp .ne 9, 3) := by decide +kernel
theorem dA_numberIn_55 : decode cA_numberIn 55 = .ok (.iload_n 1, 1) := by decide +kernel
theorem dA_numberIn_56 : decode cA_numberIn 56 = .ok (.iconst 2, 1) := by decide +kernel
theorem dA_numberIn_57 : decode cA_numberIn 57 = .ok (.iadd, 1) := by decide +kernel
theorem dA_numberIn_58 : decode cA_numberIn 58 = .ok (.goto 4, 3) := by decide +kernel
theorem dA_numberIn_61 : decode cA_numberIn 61 = .ok (.iload_n 1, 1) := by decide +kernel
theorem dA_numberIn_62 : decode cA_numberIn 62 = .ok (.istore 4, 2) := by decide +kernel
theorem dA_numberIn_64 : decode cA_numberIn 64 = .ok (.iload 4, 2) := by decide +kernel
theorem dA_numberIn_66 : decode cA_numberIn 66 = .ok (.iload_n 2, 1) := by decide +kernel
theorem dA_numberIn_67 : decode cA_numberIn 67 = .ok (.if_icmp .lt 13, 3) := by decide +kernel
theorem dA_numberIn_70 : decode cA_numberIn 70 = .ok (.new 54, 3) := by decide +kernel
theorem dA_numberIn_73 : decode cA_numberIn 73 = .ok (.dup, 1) := by decide +kernel
theorem dA_numberIn_74 : decode cA_numberIn 74 = .ok (.ldc 113, 2) := by decide +kernel
theorem dA_numberIn_76 : decode cA_numberIn 76 = .ok (.invokespecial 58, 3) := by decide +kernel
theorem dA_numberIn_79 : decode cA_numberIn 79 = .ok (.athrow, 1) := by decide +kernel
theorem dA_numberIn_80 : decode cA_numberIn 80 = .ok (.lconst 0, 1) := by decide +kernel
theorem dA_numberIn_81 : decode cA_numberIn 81 = .ok (.lstore 5, 2) := by decide +kernel
theorem dA_numberIn_83 : decode cA_numberIn 83 = .ok (.iload 4, 2) := by decide +kernel
theorem dA_numberIn_85 : decode cA_numberIn 85 = .ok (.istore 7, 2) := by decide +kernel
theorem dA_numberIn_87 : decode cA_numberIn 87 = .ok (.iload 7, 2) := by decide +kernel
theorem dA_numberIn_89 : decode cA_numberIn 89 = .ok (.iload_n 2, 1) := by decide +kernel
theorem dA_numberIn_90 : decode cA_numberIn 90 = .ok (.if_icmp .ge 50, 3) := by decide +kernel
theorem dA_numberIn_93 : decode cA_numberIn 93 = .ok (.aload_n 0, 1) := by decide +kernel
theorem dA_numberIn_94 : decode cA_numberIn 94 = .ok (.iload 7, 2) := by decide +kernel
theorem dA_numberIn_96 : decode cA_numberIn 96 = .ok (.caload, 1) := by decide +kernel
theorem dA_numberIn_97 : decode cA_numberIn 97 = .ok (.invokestatic 115, 3) := by decide +kernel
theorem dA_numberIn_100 : decode cA_numberIn 100 = .ok (.istore 8, 2) := by decide +kernel
theorem dA_numberIn_102 : decode cA_numberIn 102 = .ok (.iload 8, 2) := by decide +kernel
theorem dA_numberIn_104 : decode cA_numberIn 104 = .ok (.ifCond .lt 9, 3) := by decide +kernel
theorem dA_numberIn_107 : decode cA_numberIn 107 = .ok (.iload 8, 2) := by decide +kernel
theorem dA_numberIn_109 : decode cA_numberIn 109 = .ok (.iload_n 3, 1) := by decide +kernel
theorem dA_numberIn_110 : decode cA_numberIn 110 = .ok (.if_icmp .lt 13, 3) := by decide +kernel
theorem dA_numberIn_113 : decode cA_numberIn 113 = .ok (.new 54, 3) := by decide +kernel
theorem dA_numberIn_116 : decode cA_numberIn 116 = .ok (.dup, 1) := by decide +kernel
theorem dA_numberIn_117 : decode cA_numberIn 117 = .ok (.ldc 119, 2) := by decide +kernel
theorem dA_numberIn_119 : decode cA_numberIn 119 = .ok (.invokespecial 58, 3) := by decide +kernel
theorem dA_numberIn_122 : decode cA_numberIn 122 = .ok (.athrow, 1) := by decide +kernel
theorem dA_numberIn_123 : decode cA_numberIn 123 = .ok (.lload 5, 2) := by decide +kernel
theorem dA_numberIn_125 : decode cA_numberIn 125 = .ok (.iload_n 3, 1) := by decide +kernel
theorem dA_numberIn_126 : decode cA_numberIn 126 = .ok (.i2l, 1) := by decide +kernel
theorem dA_numberIn_127 : decode cA_numberIn 127 = .ok (.lmul, 1) := by decide +kernel
theorem dA_numberIn_128 : decode cA_numberIn 128 = .ok (.iload 8, 2) := by decide +kernel
theorem dA_numberIn_130 : decode cA_numberIn 130 = .ok (.i2l, 1) := by decide +kernel
theorem dA_numberIn_131 : decode cA_numberIn 131 = .ok (.ladd, 1) := by decide +kernel
theorem dA_numberIn_132 : decode cA_numberIn 132 = .ok (.lstore 5, 2) := by decide +kernel
theorem dA_numberIn_134 : decode cA_numberIn 134 = .ok (.iinc 7 1, 3) := by decide +kernel
theorem dA_numberIn_137 : decode cA_numberIn 137 = .ok (.goto (-50), 3) := by decide +kernel
theorem dA_numberIn_140 : decode cA_numberIn 140 = .ok (.lload 5, 2) := by decide +kernel
theorem dA_numberIn_142 : decode cA_numberIn 142 = .ok (.lreturn, 1) := by decide +kernel
theorem dA_baseOf_0 : decode cA_baseOf 0 = .ok (.iload_n 0, 1) := by decide +kernel
theorem dA_baseOf_1 : decode cA_baseOf 1 = .ok (.bipush 48, 2) := by decide +kernel
theorem dA_baseOf_3 : decode cA_baseOf 3 = .ok (.if_icmp .eq 6, 3) := by decide +kernel
theorem dA_baseOf_6 : decode cA_baseOf 6 = .ok (.bipush 10, 2) := by decide +kernel
theorem dA_baseOf_8 : decode cA_baseOf 8 = .ok (.ireturn, 1) := by decide +kernel
theorem dA_baseOf_9 : decode cA_baseOf 9 = .ok (.iload_n 1, 1) := by decide +kernel
theorem dA_baseOf_10 : decode cA_baseOf 10 = .ok (.bipush 120, 2) := by decide +kernel
theorem dA_baseOf_12 : decode cA_baseOf 12 = .ok (.if_icmp .eq 9, 3) := by decide +kernel
theorem dA_baseOf_15 : decode cA_baseOf 15 = .ok (.iload_n 1, 1) := by decide +kernel
theorem dA_baseOf_16 : decode cA_baseOf 16 = .ok (.bipush 88, 2) := by decide +kernel
theorem dA_baseOf_18 : decode cA_baseOf 18 = .ok (.if_icmp .ne 8, 3) := by decide +kernel
theorem dA_baseOf_21 : decode cA_baseOf 21 = .ok (.bipush 16, 2) := by decide +kernel
theorem dA_baseOf_23 : decode cA_baseOf 23 = .ok (.goto 5, 3) := by decide +kernel
theorem dA_baseOf_26 : decode cA_baseOf 26 = .ok (.bipush 8, 2) := by decide +kernel
theorem dA_baseOf_28 : decode cA_baseOf 28 = .ok (.ireturn, 1) := by decide +kernel
theorem dA_digitOf_0 : decode cA_digitOf 0 = .ok (.iload_n 0, 1) := by decide +kernel
theorem dA_digitOf_1 : decode cA_digitOf 1 = .ok (.bipush 48, 2) := by decide +kernel
theorem dA_digitOf_3 : decode cA_digitOf 3 = .ok (.if_icmp .lt 14, 3) := by decide +kernel
theorem dA_digitOf_6 : decode cA_digitOf 6 = .ok (.iload_n 0, 1) := by decide +kernel
theorem dA_digitOf_7 : decode cA_digitOf 7 = .ok (.bipush 57, 2) := by decide +kernel
theorem dA_digitOf_9 : decode cA_digitOf 9 = .ok (.if_icmp .gt 8, 3) := by decide +kernel
theorem dA_digitOf_12 : decode cA_digitOf 12 = .ok (.iload_n 0, 1) := by decide +kernel
theorem dA_digitOf_13 : decode cA_digitOf 13 = .ok (.bipush 48, 2) := by decide +kernel
theorem dA_digitOf_15 : decode cA_digitOf 15 = .ok (.isub, 1) := by decide +kernel
theorem dA_digitOf_16 : decode cA_digitOf 16 = .ok (.ireturn, 1) := by decide +kernel
theorem dA_digitOf_17 : decode cA_digitOf 17 = .ok (.iload_n 0, 1) := by decide +kernel
theorem dA_digitOf_18 : decode cA_digitOf 18 = .ok (.bipush 97, 2) := by decide +kernel
theorem dA_digitOf_20 : decode cA_digitOf 20 = .ok (.if_icmp .lt 17, 3) := by decide +kernel
theorem dA_digitOf_23 : decode cA_digitOf 23 = .ok (.iload_n 0, 1) := by decide +kernel
theorem dA_digitOf_24 : decode cA_digitOf 24 = .ok (.bipush 102, 2) := by decide +kernel
theorem dA_digitOf_26 : decode cA_digitOf 26 = .ok (.if_icmp .gt 11, 3) := by decide +kernel
theorem dA_digitOf_29 : decode cA_digitOf 29 = .ok (.iload_n 0, 1) := by decide +kernel
theorem dA_digitOf_30 : decode cA_digitOf 30 = .ok (.bipush 97, 2) := by decide +kernel
theorem dA_digitOf_32 : decode cA_digitOf 32 = .ok (.isub, 1) := by decide +kernel
theorem dA_digitOf_33 : decode cA_digitOf 33 = .ok (.bipush 10, 2) := by decide +kernel
theorem dA_digitOf_35 : decode cA_digitOf 35 = .ok (.iadd, 1) := by decide +kernel
theorem dA_digitOf_36 : decode cA_digitOf 36 = .ok (.ireturn, 1) := by decide +kernel
theorem dA_digitOf_37 : decode cA_digitOf 37 = .ok (.iload_n 0, 1) := by decide +kernel
theorem dA_digitOf_38 : decode cA_digitOf 38 = .ok (.bipush 65, 2) := by decide +kernel
theorem dA_digitOf_40 : decode cA_digitOf 40 = .ok (.if_icmp .lt 19, 3) := by decide +kernel
theorem dA_digitOf_43 : decode cA_digitOf 43 = .ok (.iload_n 0, 1) := by decide +kernel
theorem dA_digitOf_44 : decode cA_digitOf 44 = .ok (.bipush 70, 2) := by decide +kernel
theorem dA_digitOf_46 : decode cA_digitOf 46 = .ok (.if_icmp .gt 13, 3) := by decide +kernel
theorem dA_digitOf_49 : decode cA_digitOf 49 = .ok (.iload_n 0, 1) := by decide +kernel
theorem dA_digitOf_50 : decode cA_digitOf 50 = .ok (.bipush 65, 2) := by decide +kernel
theorem dA_digitOf_52 : decode cA_digitOf 52 = .ok (.isub, 1) := by decide +kernel
theorem dA_digitOf_53 : decode cA_digitOf 53 = .ok (.bipush 10, 2) := by decide +kernel
theorem dA_digitOf_55 : decode cA_digitOf 55 = .ok (.iadd, 1) := by decide +kernel
theorem dA_digitOf_56 : decode cA_digitOf 56 = .ok (.goto 4, 3) := by decide +kernel
theorem dA_digitOf_59 : decode cA_digitOf 59 = .ok (.iconst (-1), 1) := by decide +kernel
theorem dA_digitOf_60 : decode cA_digitOf 60 = .ok (.ireturn, 1) := by decide +kernel
theorem dG_apply_0 : decode cG_apply 0 = .ok (.iload_n 0, 1) := by decide +kernel
theorem dG_apply_1 : decode cG_apply 1 = .ok (.lookupswitch 140 #[(37, 133), (38, 99), (42, 129), (43, 121), (45, 125), (47, 133), (94, 95), (124, 91), (15420, 103), (15934, 112)], 91) := by decide +kernel
theorem dG_apply_92 : decode cG_apply 92 = .ok (.lload_n 1, 1) := by decide +kernel
theorem dG_apply_93 : decode cG_apply 93 = .ok (.lload_n 3, 1) := by decide +kernel
theorem dG_apply_94 : decode cG_apply 94 = .ok (.lor, 1) := by decide +kernel
theorem dG_apply_95 : decode cG_apply 95 = .ok (.lreturn, 1) := by decide +kernel
theorem dG_apply_96 : decode cG_apply 96 = .ok (.lload_n 1, 1) := by decide +kernel
theorem dG_apply_97 : decode cG_apply 97 = .ok (.lload_n 3, 1) := by decide +kernel
theorem dG_apply_98 : decode cG_apply 98 = .ok (.lxor, 1) := by decide +kernel
theorem dG_apply_99 : decode cG_apply 99 = .ok (.lreturn, 1) := by decide +kernel
theorem dG_apply_100 : decode cG_apply 100 = .ok (.lload_n 1, 1) := by decide +kernel
theorem dG_apply_101 : decode cG_apply 101 = .ok (.lload_n 3, 1) := by decide +kernel
theorem dG_apply_102 : decode cG_apply 102 = .ok (.land, 1) := by decide +kernel
theorem dG_apply_103 : decode cG_apply 103 = .ok (.lreturn, 1) := by decide +kernel
theorem dG_apply_104 : decode cG_apply 104 = .ok (.lload_n 1, 1) := by decide +kernel
theorem dG_apply_105 : decode cG_apply 105 = .ok (.lload_n 3, 1) := by decide +kernel
theorem dG_apply_106 : decode cG_apply 106 = .ok (.ldc2_w 9, 3) := by decide +kernel
theorem dG_apply_109 : decode cG_apply 109 = .ok (.land, 1) := by decide +kernel
theorem dG_apply_110 : decode cG_apply 110 = .ok (.l2i, 1) := by decide +kernel
theorem dG_apply_111 : decode cG_apply 111 = .ok (.lshl, 1) := by decide +kernel
theorem dG_apply_112 : decode cG_apply 112 = .ok (.lreturn, 1) := by decide +kernel
theorem dG_apply_113 : decode cG_apply 113 = .ok (.lload_n 1, 1) := by decide +kernel
theorem dG_apply_114 : decode cG_apply 114 = .ok (.lload_n 3, 1) := by decide +kernel
theorem dG_apply_115 : decode cG_apply 115 = .ok (.ldc2_w 9, 3) := by decide +kernel
theorem dG_apply_118 : decode cG_apply 118 = .ok (.land, 1) := by decide +kernel
theorem dG_apply_119 : decode cG_apply 119 = .ok (.l2i, 1) := by decide +kernel
theorem dG_apply_120 : decode cG_apply 120 = .ok (.lshr, 1) := by decide +kernel
theorem dG_apply_121 : decode cG_apply 121 = .ok (.lreturn, 1) := by decide +kernel
theorem dG_apply_122 : decode cG_apply 122 = .ok (.lload_n 1, 1) := by decide +kernel
theorem dG_apply_123 : decode cG_apply 123 = .ok (.lload_n 3, 1) := by decide +kernel
theorem dG_apply_124 : decode cG_apply 124 = .ok (.ladd, 1) := by decide +kernel
theorem dG_apply_125 : decode cG_apply 125 = .ok (.lreturn, 1) := by decide +kernel
theorem dG_apply_126 : decode cG_apply 126 = .ok (.lload_n 1, 1) := by decide +kernel
theorem dG_apply_127 : decode cG_apply 127 = .ok (.lload_n 3, 1) := by decide +kernel
theorem dG_apply_128 : decode cG_apply 128 = .ok (.lsub, 1) := by decide +kernel
theorem dG_apply_129 : decode cG_apply 129 = .ok (.lreturn, 1) := by decide +kernel
theorem dG_apply_130 : decode cG_apply 130 = .ok (.lload_n 1, 1) := by decide +kernel
theorem dG_apply_131 : decode cG_apply 131 = .ok (.lload_n 3, 1) := by decide +kernel
theorem dG_apply_132 : decode cG_apply 132 = .ok (.lmul, 1) := by decide +kernel
theorem dG_apply_133 : decode cG_apply 133 = .ok (.lreturn, 1) := by decide +kernel
theorem dG_apply_134 : decode cG_apply 134 = .ok (.iload_n 0, 1) := by decide +kernel
theorem dG_apply_135 : decode cG_apply 135 = .ok (.lload_n 1, 1) := by decide +kernel
theorem dG_apply_136 : decode cG_apply 136 = .ok (.lload_n 3, 1) := by decide +kernel
theorem dG_apply_137 : decode cG_apply 137 = .ok (.invokestatic 11, 3) := by decide +kernel
theorem dG_apply_140 : decode cG_apply 140 = .ok (.lreturn, 1) := by decide +kernel
theorem dG_apply_141 : decode cG_apply 141 = .ok (.iload_n 0, 1) := by decide +kernel
theorem dG_apply_142 : decode cG_apply 142 = .ok (.lload_n 1, 1) := by decide +kernel
theorem dG_apply_143 : decode cG_apply 143 = .ok (.lload_n 3, 1) := by decide +kernel
theorem dG_apply_144 : decode cG_apply 144 = .ok (.invokestatic 17, 3) := by decide +kernel
theorem dG_apply_147 : decode cG_apply 147 = .ok (.ifCond .eq 7, 3) := by decide +kernel
theorem dG_apply_150 : decode cG_apply 150 = .ok (.lconst 1, 1) := by decide +kernel
theorem dG_apply_151 : decode cG_apply 151 = .ok (.goto 4, 3) := by decide +kernel
theorem dG_apply_154 : decode cG_apply 154 = .ok (.lconst 0, 1) := by decide +kernel
theorem dG_apply_155 : decode cG_apply 155 = .ok (.lreturn, 1) := by decide +kernel
theorem dG_divide_0 : decode cG_divide 0 = .ok (.lload_n 3, 1) := by decide +kernel
theorem dG_divide_1 : decode cG_divide 1 = .ok (.lconst 0, 1) := by decide +kernel
theorem dG_divide_2 : decode cG_divide 2 = .ok (.lcmp, 1) := by decide +kernel
theorem dG_divide_3 : decode cG_divide 3 = .ok (.ifCond .ne 13, 3) := by decide +kernel
theorem dG_divide_6 : decode cG_divide 6 = .ok (.new 21, 3) := by decide +kernel
theorem dG_divide_9 : decode cG_divide 9 = .ok (.dup, 1) := by decide +kernel
theorem dG_divide_10 : decode cG_divide 10 = .ok (.ldc 23, 2) := by decide +kernel
theorem dG_divide_12 : decode cG_divide 12 = .ok (.invokespecial 25, 3) := by decide +kernel
theorem dG_divide_15 : decode cG_divide 15 = .ok (.athrow, 1) := by decide +kernel
theorem dG_divide_16 : decode cG_divide 16 = .ok (.iload_n 0, 1) := by decide +kernel
theorem dG_divide_17 : decode cG_divide 17 = .ok (.bipush 47, 2) := by decide +kernel
theorem dG_divide_19 : decode cG_divide 19 = .ok (.if_icmp .ne 9, 3) := by decide +kernel
theorem dG_divide_22 : decode cG_divide 22 = .ok (.lload_n 1, 1) := by decide +kernel
theorem dG_divide_23 : decode cG_divide 23 = .ok (.lload_n 3, 1) := by decide +kernel
theorem dG_divide_24 : decode cG_divide 24 = .ok (.ldiv, 1) := by decide +kernel
theorem dG_divide_25 : decode cG_divide 25 = .ok (.goto 6, 3) := by decide +kernel
theorem dG_divide_28 : decode cG_divide 28 = .ok (.lload_n 1, 1) := by decide +kernel
theorem dG_divide_29 : decode cG_divide 29 = .ok (.lload_n 3, 1) := by decide +kernel
theorem dG_divide_30 : decode cG_divide 30 = .ok (.lrem, 1) := by decide +kernel
theorem dG_divide_31 : decode cG_divide 31 = .ok (.lreturn, 1) := by decide +kernel
theorem dG_holds_0 : decode cG_holds 0 = .ok (.iload_n 0, 1) := by decide +kernel
theorem dG_holds_1 : decode cG_holds 1 = .ok (.lookupswitch 183 #[(60, 135), (62, 147), (8509, 123), (9766, 93), (15421, 159), (15677, 111), (15933, 171), (31868, 75)], 75) := by decide +kernel
theorem dG_holds_76 : decode cG_holds 76 = .ok (.lload_n 1, 1) := by decide +kernel
theorem dG_holds_77 : decode cG_holds 77 = .ok (.lconst 0, 1) := by decide +kernel
theorem dG_holds_78 : decode cG_holds 78 = .ok (.lcmp, 1) := by decide +kernel
theorem dG_holds_79 : decode cG_holds 79 = .ok (.ifCond .ne 9, 3) := by decide +kernel
theorem dG_holds_82 : decode cG_holds 82 = .ok (.lload_n 3, 1) := by decide +kernel
theorem dG_holds_83 : decode cG_holds 83 = .ok (.lconst 0, 1) := by decide +kernel
theorem dG_holds_84 : decode cG_holds 84 = .ok (.lcmp, 1) := by decide +kernel
theorem dG_holds_85 : decode cG_holds 85 = .ok (.ifCond .eq 7, 3) := by decide +kernel
theorem dG_holds_88 : decode cG_holds 88 = .ok (.iconst 1, 1) := by decide +kernel
theorem dG_holds_89 : decode cG_holds 89 = .ok (.goto 4, 3) := by decide +kernel
theorem dG_holds_92 : decode cG_holds 92 = .ok (.iconst 0, 1) := by decide +kernel
theorem dG_holds_93 : decode cG_holds 93 = .ok (.ireturn, 1) := by decide +kernel
theorem dG_holds_94 : decode cG_holds 94 = .ok (.lload_n 1, 1) := by decide +kernel
theorem dG_holds_95 : decode cG_holds 95 = .ok (.lconst 0, 1) := by decide +kernel
theorem dG_holds_96 : decode cG_holds 96 = .ok (.lcmp, 1) := by decide +kernel
theorem dG_holds_97 : decode cG_holds 97 = .ok (.ifCond .eq 13, 3) := by decide +kernel
theorem dG_holds_100 : decode cG_holds 100 = .ok (.lload_n 3, 1) := by decide +kernel
theorem dG_holds_101 : decode cG_holds 101 = .ok (.lconst 0, 1) := by decide +kernel
theorem dG_holds_102 : decode cG_holds 102 = .ok (.lcmp, 1) := by decide +kernel
theorem dG_holds_103 : decode cG_holds 103 = .ok (.ifCond .eq 7, 3) := by decide +kernel
theorem dG_holds_106 : decode cG_holds 106 = .ok (.iconst 1, 1) := by decide +kernel
theorem dG_holds_107 : decode cG_holds 107 = .ok (.goto 4, 3) := by decide +kernel
theorem dG_holds_110 : decode cG_holds 110 = .ok (.iconst 0, 1) := by decide +kernel
theorem dG_holds_111 : decode cG_holds 111 = .ok (.ireturn, 1) := by decide +kernel
theorem dG_holds_112 : decode cG_holds 112 = .ok (.lload_n 1, 1) := by decide +kernel
theorem dG_holds_113 : decode cG_holds 113 = .ok (.lload_n 3, 1) := by decide +kernel
theorem dG_holds_114 : decode cG_holds 114 = .ok (.lcmp, 1) := by decide +kernel
theorem dG_holds_115 : decode cG_holds 115 = .ok (.ifCond .ne 7, 3) := by decide +kernel
theorem dG_holds_118 : decode cG_holds 118 = .ok (.iconst 1, 1) := by decide +kernel
theorem dG_holds_119 : decode cG_holds 119 = .ok (.goto 4, 3) := by decide +kernel
theorem dG_holds_122 : decode cG_holds 122 = .ok (.iconst 0, 1) := by decide +kernel
theorem dG_holds_123 : decode cG_holds 123 = .ok (.ireturn, 1) := by decide +kernel
theorem dG_holds_124 : decode cG_holds 124 = .ok (.lload_n 1, 1) := by decide +kernel
theorem dG_holds_125 : decode cG_holds 125 = .ok (.lload_n 3, 1) := by decide +kernel
theorem dG_holds_126 : decode cG_holds 126 = .ok (.lcmp, 1) := by decide +kernel
theorem dG_holds_127 : decode cG_holds 127 = .ok (.ifCond .eq 7, 3) := by decide +kernel
theorem dG_holds_130 : decode cG_holds 130 = .ok (.iconst 1, 1) := by decide +kernel
theorem dG_holds_131 : decode cG_holds 131 = .ok (.goto 4, 3) := by decide +kernel
theorem dG_holds_134 : decode cG_holds 134 = .ok (.iconst 0, 1) := by decide +kernel
theorem dG_holds_135 : decode cG_holds 135 = .ok (.ireturn, 1) := by decide +kernel
theorem dG_holds_136 : decode cG_holds 136 = .ok (.lload_n 1, 1) := by decide +kernel
theorem dG_holds_137 : decode cG_holds 137 = .ok (.lload_n 3, 1) := by decide +kernel
theorem dG_holds_138 : decode cG_holds 138 = .ok (.lcmp, 1) := by decide +kernel
theorem dG_holds_139 : decode cG_holds 139 = .ok (.ifCond .ge 7, 3) := by decide +kernel
theorem dG_holds_142 : decode cG_holds 142 = .ok (.iconst 1, 1) := by decide +kernel
theorem dG_holds_143 : decode cG_holds 143 = .ok (.goto 4, 3) := by decide +kernel
theorem dG_holds_146 : decode cG_holds 146 = .ok (.iconst 0, 1) := by decide +kernel
theorem dG_holds_147 : decode cG_holds 147 = .ok (.ireturn, 1) := by decide +kernel
theorem dG_holds_148 : decode cG_holds 148 = .ok (.lload_n 1, 1) := by decide +kernel
theorem dG_holds_149 : decode cG_holds 149 = .ok (.lload_n 3, 1) := by decide +kernel
theorem dG_holds_150 : decode cG_holds 150 = .ok (.lcmp, 1) := by decide +kernel
theorem dG_holds_151 : decode cG_holds 151 = .ok (.ifCond .le 7, 3) := by decide +kernel
theorem dG_holds_154 : decode cG_holds 154 = .ok (.iconst 1, 1) := by decide +kernel
theorem dG_holds_155 : decode cG_holds 155 = .ok (.goto 4, 3) := by decide +kernel
theorem dG_holds_158 : decode cG_holds 158 = .ok (.iconst 0, 1) := by decide +kernel
theorem dG_holds_159 : decode cG_holds 159 = .ok (.ireturn, 1) := by decide +kernel
theorem dG_holds_160 : decode cG_holds 160 = .ok (.lload_n 1, 1) := by decide +kernel
theorem dG_holds_161 : decode cG_holds 161 = .ok (.lload_n 3, 1) := by decide +kernel
theorem dG_holds_162 : decode cG_holds 162 = .ok (.lcmp, 1) := by decide +kernel
theorem dG_holds_163 : decode cG_holds 163 = .ok (.ifCond .gt 7, 3) := by decide +kernel
theorem dG_holds_166 : decode cG_holds 166 = .ok (.iconst 1, 1) := by decide +kernel
theorem dG_holds_167 : decode cG_holds 167 = .ok (.goto 4, 3) := by decide +kernel
theorem dG_holds_170 : decode cG_holds 170 = .ok (.iconst 0, 1) := by decide +kernel
theorem dG_holds_171 : decode cG_holds 171 = .ok (.ireturn, 1) := by decide +kernel
theorem dG_holds_172 : decode cG_holds 172 = .ok (.lload_n 1, 1) := by decide +kernel
theorem dG_holds_173 : decode cG_holds 173 = .ok (.lload_n 3, 1) := by decide +kernel
theorem dG_holds_174 : decode cG_holds 174 = .ok (.lcmp, 1) := by decide +kernel
theorem dG_holds_175 : decode cG_holds 175 = .ok (.ifCond .lt 7, 3) := by decide +kernel
theorem dG_holds_178 : decode cG_holds 178 = .ok (.iconst 1, 1) := by decide +kernel
theorem dG_holds_179 : decode cG_holds 179 = .ok (.goto 4, 3) := by decide +kernel
theorem dG_holds_182 : decode cG_holds 182 = .ok (.iconst 0, 1) := by decide +kernel
theorem dG_holds_183 : decode cG_holds 183 = .ok (.ireturn, 1) := by decide +kernel
theorem dG_holds_184 : decode cG_holds 184 = .ok (.iconst 0, 1) := by decide +kernel
theorem dG_holds_185 : decode cG_holds 185 = .ok (.ireturn, 1) := by decide +kernel
theorem dN_writeDecimal_0 : decode cN_writeDecimal 0 = .ok (.aload_n 0, 1) := by decide +kernel
theorem dN_writeDecimal_1 : decode cN_writeDecimal 1 = .ok (.lload_n 1, 1) := by decide +kernel
theorem dN_writeDecimal_2 : decode cN_writeDecimal 2 = .ok (.invokestatic 28, 3) := by decide +kernel
theorem dN_writeDecimal_5 : decode cN_writeDecimal 5 = .ok (.putfield 15, 3) := by decide +kernel
theorem dN_writeDecimal_8 : decode cN_writeDecimal 8 = .ok (.lload_n 1, 1) := by decide +kernel
theorem dN_writeDecimal_9 : decode cN_writeDecimal 9 = .ok (.lstore_n 3, 1) := by decide +kernel
theorem dN_writeDecimal_10 : decode cN_writeDecimal 10 = .ok (.aload_n 0, 1) := by decide +kernel
theorem dN_writeDecimal_11 : decode cN_writeDecimal 11 = .ok (.getfield 15, 3) := by decide +kernel
theorem dN_writeDecimal_14 : decode cN_writeDecimal 14 = .ok (.iconst 1, 1) := by decide +kernel
theorem dN_writeDecimal_15 : decode cN_writeDecimal 15 = .ok (.isub, 1) := by decide +kernel
theorem dN_writeDecimal_16 : decode cN_writeDecimal 16 = .ok (.istore 5, 2) := by decide +kernel
theorem dN_writeDecimal_18 : decode cN_writeDecimal 18 = .ok (.iload 5, 2) := by decide +kernel
theorem dN_writeDecimal_20 : decode cN_writeDecimal 20 = .ok (.ifCond .lt 46, 3) := by decide +kernel
theorem dN_writeDecimal_23 : decode cN_writeDecimal 23 = .ok (.iload 5, 2) := by decide +kernel
theorem dN_writeDecimal_25 : decode cN_writeDecimal 25 = .ok (.aload_n 0, 1) := by decide +kernel
theorem dN_writeDecimal_26 : decode cN_writeDecimal 26 = .ok (.getfield 9, 3) := by decide +kernel
theorem dN_writeDecimal_29 : decode cN_writeDecimal 29 = .ok (.arraylength, 1) := by decide +kernel
theorem dN_writeDecimal_30 : decode cN_writeDecimal 30 = .ok (.if_icmp .ge 36, 3) := by decide +kernel
theorem dN_writeDecimal_33 : decode cN_writeDecimal 33 = .ok (.aload_n 0, 1) := by decide +kernel
theorem dN_writeDecimal_34 : decode cN_writeDecimal 34 = .ok (.getfield 9, 3) := by decide +kernel
theorem dN_writeDecimal_37 : decode cN_writeDecimal 37 = .ok (.iload 5, 2) := by decide +kernel
theorem dN_writeDecimal_39 : decode cN_writeDecimal 39 = .ok (.ldc2_w 32, 3) := by decide +kernel
theorem dN_writeDecimal_42 : decode cN_writeDecimal 42 = .ok (.lload_n 3, 1) := by decide +kernel
theorem dN_writeDecimal_43 : decode cN_writeDecimal 43 = .ok (.ldc2_w 34, 3) := by decide +kernel
theorem dN_writeDecimal_46 : decode cN_writeDecimal 46 = .ok (.lrem, 1) := by decide +kernel
theorem dN_writeDecimal_47 : decode cN_writeDecimal 47 = .ok (.invokestatic 36, 3) := by decide +kernel
theorem dN_writeDecimal_50 : decode cN_writeDecimal 50 = .ok (.ladd, 1) := by decide +kernel
theorem dN_writeDecimal_51 : decode cN_writeDecimal 51 = .ok (.l2i, 1) := by decide +kernel
theorem dN_writeDecimal_52 : decode cN_writeDecimal 52 = .ok (.i2c, 1) := by decide +kernel
theorem dN_writeDecimal_53 : decode cN_writeDecimal 53 = .ok (.castore, 1) := by decide +kernel
theorem dN_writeDecimal_54 : decode cN_writeDecimal 54 = .ok (.lload_n 3, 1) := by decide +kernel
theorem dN_writeDecimal_55 : decode cN_writeDecimal 55 = .ok (.ldc2_w 34, 3) := by decide +kernel
theorem dN_writeDecimal_58 : decode cN_writeDecimal 58 = .ok (.ldiv, 1) := by decide +kernel
theorem dN_writeDecimal_59 : decode cN_writeDecimal 59 = .ok (.lstore_n 3, 1) := by decide +kernel
theorem dN_writeDecimal_60 : decode cN_writeDecimal 60 = .ok (.iinc 5 (-1), 3) := by decide +kernel
theorem dN_writeDecimal_63 : decode cN_writeDecimal 63 = .ok (.goto (-45), 3) := by decide +kernel
theorem dN_writeDecimal_66 : decode cN_writeDecimal 66 = .ok (.lload_n 1, 1) := by decide +kernel
theorem dN_writeDecimal_67 : decode cN_writeDecimal 67 = .ok (.lconst 0, 1) := by decide +kernel
theorem dN_writeDecimal_68 : decode cN_writeDecimal 68 = .ok (.lcmp, 1) := by decide +kernel
theorem dN_writeDecimal_69 : decode cN_writeDecimal 69 = .ok (.ifCond .ge 11, 3) := by decide +kernel
theorem dN_writeDecimal_72 : decode cN_writeDecimal 72 = .ok (.aload_n 0, 1) := by decide +kernel
theorem dN_writeDecimal_73 : decode cN_writeDecimal 73 = .ok (.getfield 9, 3) := by decide +kernel
theorem dN_writeDecimal_76 : decode cN_writeDecimal 76 = .ok (.iconst 0, 1) := by decide +kernel
theorem dN_writeDecimal_77 : decode cN_writeDecimal 77 = .ok (.bipush 45, 2) := by decide +kernel
theorem dN_writeDecimal_79 : decode cN_writeDecimal 79 = .ok (.castore, 1) := by decide +kernel
theorem dN_writeDecimal_80 : decode cN_writeDecimal 80 = .ok (.return_, 1) := by decide +kernel
theorem dN_decimalLength_0 : decode cN_decimalLength 0 = .ok (.iconst 1, 1) := by decide +kernel
theorem dN_decimalLength_1 : decode cN_decimalLength 1 = .ok (.istore_n 2, 1) := by decide +kernel
theorem dN_decimalLength_2 : decode cN_decimalLength 2 = .ok (.lload_n 0, 1) := by decide +kernel
theorem dN_decimalLength_3 : decode cN_decimalLength 3 = .ok (.ldc2_w 34, 3) := by decide +kernel
theorem dN_decimalLength_6 : decode cN_decimalLength 6 = .ok (.ldiv, 1) := by decide +kernel
theorem dN_decimalLength_7 : decode cN_decimalLength 7 = .ok (.lstore_n 3, 1) := by decide +kernel
theorem dN_decimalLength_8 : decode cN_decimalLength 8 = .ok (.lload_n 3, 1) := by decide +kernel
theorem dN_decimalLength_9 : decode cN_decimalLength 9 = .ok (.lconst 0, 1) := by decide +kernel
theorem dN_decimalLength_10 : decode cN_decimalLength 10 = .ok (.lcmp, 1) := by decide +kernel
theorem dN_decimalLength_11 : decode cN_decimalLength 11 = .ok (.ifCond .eq 21, 3) := by decide +kernel
theorem dN_decimalLength_14 : decode cN_decimalLength 14 = .ok (.iload_n 2, 1) := by decide +kernel
theorem dN_decimalLength_15 : decode cN_decimalLength 15 = .ok (.bipush 20, 2) := by decide +kernel
theorem dN_decimalLength_17 : decode cN_decimalLength 17 = .ok (.if_icmp .ge 15, 3) := by decide +kernel
theorem dN_decimalLength_20 : decode cN_decimalLength 20 = .ok (.iinc 2 1, 3) := by decide +kernel
theorem dN_decimalLength_23 : decode cN_decimalLength 23 = .ok (.lload_n 3, 1) := by decide +kernel
theorem dN_decimalLength_24 : decode cN_decimalLength 24 = .ok (.ldc2_w 34, 3) := by decide +kernel
theorem dN_decimalLength_27 : decode cN_decimalLength 27 = .ok (.ldiv, 1) := by decide +kernel
theorem dN_decimalLength_28 : decode cN_decimalLength 28 = .ok (.lstore_n 3, 1) := by decide +kernel
theorem dN_decimalLength_29 : decode cN_decimalLength 29 = .ok (.goto (-21), 3) := by decide +kernel
theorem dN_decimalLength_32 : decode cN_decimalLength 32 = .ok (.lload_n 0, 1) := by decide +kernel
theorem dN_decimalLength_33 : decode cN_decimalLength 33 = .ok (.lconst 0, 1) := by decide +kernel
theorem dN_decimalLength_34 : decode cN_decimalLength 34 = .ok (.lcmp, 1) := by decide +kernel
theorem dN_decimalLength_35 : decode cN_decimalLength 35 = .ok (.ifCond .ge 9, 3) := by decide +kernel
theorem dN_decimalLength_38 : decode cN_decimalLength 38 = .ok (.iload_n 2, 1) := by decide +kernel
theorem dN_decimalLength_39 : decode cN_decimalLength 39 = .ok (.iconst 1, 1) := by decide +kernel
theorem dN_decimalLength_40 : decode cN_decimalLength 40 = .ok (.iadd, 1) := by decide +kernel
theorem dN_decimalLength_41 : decode cN_decimalLength 41 = .ok (.goto 4, 3) := by decide +kernel
theorem dN_decimalLength_44 : decode cN_decimalLength 44 = .ok (.iload_n 2, 1) := by decide +kernel
theorem dN_decimalLength_45 : decode cN_decimalLength 45 = .ok (.ireturn, 1) := by decide +kernel
theorem dG_isSettledBy_0 : decode cG_isSettledBy 0 = .ok (.iload_n 0, 1) := by decide +kernel
theorem dG_isSettledBy_1 : decode cG_isSettledBy 1 = .ok (.sipush 31868, 3) := by decide +kernel
theorem dG_isSettledBy_4 : decode cG_isSettledBy 4 = .ok (.if_icmp .ne 9, 3) := by decide +kernel
theorem dG_isSettledBy_7 : decode cG_isSettledBy 7 = .ok (.lload_n 1, 1) := by decide +kernel
theorem dG_isSettledBy_8 : decode cG_isSettledBy 8 = .ok (.lconst 0, 1) := by decide +kernel
theorem dG_isSettledBy_9 : decode cG_isSettledBy 9 = .ok (.lcmp, 1) := by decide +kernel
theorem dG_isSettledBy_10 : decode cG_isSettledBy 10 = .ok (.ifCond .ne 16, 3) := by decide +kernel
theorem dG_isSettledBy_13 : decode cG_isSettledBy 13 = .ok (.iload_n 0, 1) := by decide +kernel
theorem dG_isSettledBy_14 : decode cG_isSettledBy 14 = .ok (.sipush 9766, 3) := by decide +kernel
theorem dG_isSettledBy_17 : decode cG_isSettledBy 17 = .ok (.if_icmp .ne 13, 3) := by decide +kernel
theorem dG_isSettledBy_20 : decode cG_isSettledBy 20 = .ok (.lload_n 1, 1) := by decide +kernel
theorem dG_isSettledBy_21 : decode cG_isSettledBy 21 = .ok (.lconst 0, 1) := by decide +kernel
theorem dG_isSettledBy_22 : decode cG_isSettledBy 22 = .ok (.lcmp, 1) := by decide +kernel
theorem dG_isSettledBy_23 : decode cG_isSettledBy 23 = .ok (.ifCond .ne 7, 3) := by decide +kernel
theorem dG_isSettledBy_26 : decode cG_isSettledBy 26 = .ok (.iconst 1, 1) := by decide +kernel
theorem dG_isSettledBy_27 : decode cG_isSettledBy 27 = .ok (.goto 4, 3) := by decide +kernel
theorem dG_isSettledBy_30 : decode cG_isSettledBy 30 = .ok (.iconst 0, 1) := by decide +kernel
theorem dG_isSettledBy_31 : decode cG_isSettledBy 31 = .ok (.ireturn, 1) := by decide +kernel
