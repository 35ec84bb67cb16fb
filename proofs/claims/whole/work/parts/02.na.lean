theorem dX0_init_0 : decode cX0_init 0 = .ok (.aload_n 0, 1) := by decide +kernel
theorem dX0_init_1 : decode cX0_init 1 = .ok (.invokespecial 3, 3) := by decide +kernel
theorem dX0_init_4 : decode cX0_init 4 = .ok (.aload_n 0, 1) := by decide +kernel
theorem dX0_init_5 : decode cX0_init 5 = .ok (.iconst 3, 1) := by decide +kernel
theorem dX0_init_6 : decode cX0_init 6 = .ok (.anewarray 9, 3) := by decide +kernel
theorem dX0_init_9 : decode cX0_init 9 = .ok (.putfield 11, 3) := by decide +kernel
theorem dX0_init_12 : decode cX0_init 12 = .ok (.iconst 0, 1) := by decide +kernel
theorem dX0_init_13 : decode cX0_init 13 = .ok (.istore_n 1, 1) := by decide +kernel
theorem dX0_init_14 : decode cX0_init 14 = .ok (.iload_n 1, 1) := by decide +kernel
theorem dX0_init_15 : decode cX0_init 15 = .ok (.aload_n 0, 1) := by decide +kernel
theorem dX0_init_16 : decode cX0_init 16 = .ok (.getfield 11, 3) := by decide +kernel
theorem dX0_init_19 : decode cX0_init 19 = .ok (.arraylength, 1) := by decide +kernel
theorem dX0_init_20 : decode cX0_init 20 = .ok (.if_icmp .ge 22, 3) := by decide +kernel
theorem dX0_init_23 : decode cX0_init 23 = .ok (.aload_n 0, 1) := by decide +kernel
theorem dX0_init_24 : decode cX0_init 24 = .ok (.getfield 11, 3) := by decide +kernel
theorem dX0_init_27 : decode cX0_init 27 = .ok (.iload_n 1, 1) := by decide +kernel
theorem dX0_init_28 : decode cX0_init 28 = .ok (.new 9, 3) := by decide +kernel
theorem dX0_init_31 : decode cX0_init 31 = .ok (.dup, 1) := by decide +kernel
theorem dX0_init_32 : decode cX0_init 32 = .ok (.invokespecial 17, 3) := by decide +kernel
theorem dX0_init_35 : decode cX0_init 35 = .ok (.aastore, 1) := by decide +kernel
theorem dX0_init_36 : decode cX0_init 36 = .ok (.iinc 1 1, 3) := by decide +kernel
theorem dX0_init_39 : decode cX0_init 39 = .ok (.goto (-25), 3) := by decide +kernel
theorem dX0_init_42 : decode cX0_init 42 = .ok (.return_, 1) := by decide +kernel
theorem dX0_begin_0 : decode cX0_begin 0 = .ok (.aload_n 0, 1) := by decide +kernel
theorem dX0_begin_1 : decode cX0_begin 1 = .ok (.iload_n 1, 1) := by decide +kernel
theorem dX0_begin_2 : decode cX0_begin 2 = .ok (.putfield 18, 3) := by decide +kernel
theorem dX0_begin_5 : decode cX0_begin 5 = .ok (.aload_n 0, 1) := by decide +kernel
theorem dX0_begin_6 : decode cX0_begin 6 = .ok (.iload_n 2, 1) := by decide +kernel
theorem dX0_begin_7 : decode cX0_begin 7 = .ok (.putfield 22, 3) := by decide +kernel
theorem dX0_begin_10 : decode cX0_begin 10 = .ok (.aload_n 0, 1) := by decide +kernel
theorem dX0_begin_11 : decode cX0_begin 11 = .ok (.iconst 0, 1) := by decide +kernel
theorem dX0_begin_12 : decode cX0_begin 12 = .ok (.putfield 25, 3) := by decide +kernel
theorem dX0_begin_15 : decode cX0_begin 15 = .ok (.aload_n 0, 1) := by decide +kernel
theorem dX0_begin_16 : decode cX0_begin 16 = .ok (.iconst 0, 1) := by decide +kernel
theorem dX0_begin_17 : decode cX0_begin 17 = .ok (.putfield 28, 3) := by decide +kernel
theorem dX0_begin_20 : decode cX0_begin 20 = .ok (.aload_n 0, 1) := by decide +kernel
theorem dX0_begin_21 : decode cX0_begin 21 = .ok (.iconst 0, 1) := by decide +kernel
theorem dX0_begin_22 : decode cX0_begin 22 = .ok (.putfield 31, 3) := by decide +kernel
theorem dX0_begin_25 : decode cX0_begin 25 = .ok (.iconst 0, 1) := by decide +kernel
theorem dX0_begin_26 : decode cX0_begin 26 = .ok (.istore_n 3, 1) := by decide +kernel
theorem dX0_begin_27 : decode cX0_begin 27 = .ok (.iload_n 3, 1) := by decide +kernel
theorem dX0_begin_28 : decode cX0_begin 28 = .ok (.aload_n 0, 1) := by decide +kernel
theorem dX0_begin_29 : decode cX0_begin 29 = .ok (.getfield 11, 3) := by decide +kernel
theorem dX0_begin_32 : decode cX0_begin 32 = .ok (.arraylength, 1) := by decide +kernel
theorem dX0_begin_33 : decode cX0_begin 33 = .ok (.if_icmp .ge 29, 3) := by decide +kernel
theorem dX0_begin_36 : decode cX0_begin 36 = .ok (.aload_n 0, 1) := by decide +kernel
theorem dX0_begin_37 : decode cX0_begin 37 = .ok (.getfield 11, 3) := by decide +kernel
theorem dX0_begin_40 : decode cX0_begin 40 = .ok (.iload_n 3, 1) := by decide +kernel
theorem dX0_begin_41 : decode cX0_begin 41 = .ok (.aaload, 1) := by decide +kernel
theorem dX0_begin_42 : decode cX0_begin 42 = .ok (.iconst 0, 1) := by decide +kernel
theorem dX0_begin_43 : decode cX0_begin 43 = .ok (.putfield 34, 3) := by decide +kernel
theorem dX0_begin_46 : decode cX0_begin 46 = .ok (.aload_n 0, 1) := by decide +kernel
theorem dX0_begin_47 : decode cX0_begin 47 = .ok (.getfield 11, 3) := by decide +kernel
theorem dX0_begin_50 : decode cX0_begin 50 = .ok (.iload_n 3, 1) := by decide +kernel
theorem dX0_begin_51 : decode cX0_begin 51 = .ok (.aaload, 1) := by decide +kernel
theorem dX0_begin_52 : decode cX0_begin 52 = .ok (.iconst 0, 1) := by decide +kernel
theorem dX0_begin_53 : decode cX0_begin 53 = .ok (.putfield 37, 3) := by decide +kernel
theorem dX0_begin_56 : decode cX0_begin 56 = .ok (.iinc 3 1, 3) := by decide +kernel
theorem dX0_begin_59 : decode cX0_begin 59 = .ok (.goto (-32), 3) := by decide +kernel
theorem dX0_begin_62 : decode cX0_begin 62 = .ok (.return_, 1) := by decide +kernel
theorem dX0_addSign_0 : decode cX0_addSign 0 = .ok (.iconst 1, 1) := by decide +kernel
theorem dX0_addSign_1 : decode cX0_addSign 1 = .ok (.bipush 23, 2) := by decide +kernel
theorem dX0_addSign_3 : decode cX0_addSign 3 = .ok (.iload_n 1, 1) := by decide +kernel
theorem dX0_addSign_4 : decode cX0_addSign 4 = .ok (.isub, 1) := by decide +kernel
theorem dX0_addSign_5 : decode cX0_addSign 5 = .ok (.ishl, 1) := by decide +kernel
theorem dX0_addSign_6 : decode cX0_addSign 6 = .ok (.istore_n 3, 1) := by decide +kernel
theorem dX0_addSign_7 : decode cX0_addSign 7 = .ok (.iload_n 2, 1) := by decide +kernel
theorem dX0_addSign_8 : decode cX0_addSign 8 = .ok (.bipush 48, 2) := by decide +kernel
theorem dX0_addSign_10 : decode cX0_addSign 10 = .ok (.if_icmp .eq 9, 3) := by decide +kernel
theorem dX0_addSign_13 : decode cX0_addSign 13 = .ok (.iload_n 2, 1) := by decide +kernel
theorem dX0_addSign_14 : decode cX0_addSign 14 = .ok (.bipush 49, 2) := by decide +kernel
theorem dX0_addSign_16 : decode cX0_addSign 16 = .ok (.if_icmp .ne 35, 3) := by decide +kernel
theorem dX0_addSign_19 : decode cX0_addSign 19 = .ok (.aload_n 0, 1) := by decide +kernel
theorem dX0_addSign_20 : decode cX0_addSign 20 = .ok (.dup, 1) := by decide +kernel
theorem dX0_addSign_21 : decode cX0_addSign 21 = .ok (.getfield 25, 3) := by decide +kernel
theorem dX0_addSign_24 : decode cX0_addSign 24 = .ok (.iload_n 3, 1) := by decide +kernel
theorem dX0_addSign_25 : decode cX0_addSign 25 = .ok (.ior, 1) := by decide +kernel
theorem dX0_addSign_26 : decode cX0_addSign 26 = .ok (.putfield 25, 3) := by decide +kernel
theorem dX0_addSign_29 : decode cX0_addSign 29 = .ok (.aload_n 0, 1) := by decide +kernel
theorem dX0_addSign_30 : decode cX0_addSign 30 = .ok (.dup, 1) := by decide +kernel
theorem dX0_addSign_31 : decode cX0_addSign 31 = .ok (.getfield 28, 3) := by decide +kernel
theorem dX0_addSign_34 : decode cX0_addSign 34 = .ok (.iload_n 2, 1) := by decide +kernel
theorem dX0_addSign_35 : decode cX0_addSign 35 = .ok (.bipush 49, 2) := by decide +kernel
theorem dX0_addSign_37 : decode cX0_addSign 37 = .ok (.if_icmp .ne 7, 3) := by decide +kernel
theorem dX0_addSign_40 : decode cX0_addSign 40 = .ok (.iload_n 3, 1) := by decide +kernel
theorem dX0_addSign_41 : decode cX0_addSign 41 = .ok (.goto 4, 3) := by decide +kernel
theorem dX0_addSign_44 : decode cX0_addSign 44 = .ok (.iconst 0, 1) := by decide +kernel
theorem dX0_addSign_45 : decode cX0_addSign 45 = .ok (.ior, 1) := by decide +kernel
theorem dX0_addSign_46 : decode cX0_addSign 46 = .ok (.putfield 28, 3) := by decide +kernel
theorem dX0_addSign_49 : decode cX0_addSign 49 = .ok (.iconst 1, 1) := by decide +kernel
theorem dX0_addSign_50 : decode cX0_addSign 50 = .ok (.ireturn, 1) := by decide +kernel
theorem dX0_addSign_51 : decode cX0_addSign 51 = .ok (.iload_n 2, 1) := by decide +kernel
theorem dX0_addSign_52 : decode cX0_addSign 52 = .ok (.bipush 120, 2) := by decide +kernel
theorem dX0_addSign_54 : decode cX0_addSign 54 = .ok (.if_icmp .lt 9, 3) := by decide +kernel
theorem dX0_addSign_57 : decode cX0_addSign 57 = .ok (.iload_n 2, 1) := by decide +kernel
theorem dX0_addSign_58 : decode cX0_addSign 58 = .ok (.bipush 122, 2) := by decide +kernel
theorem dX0_addSign_60 : decode cX0_addSign 60 = .ok (.if_icmp .le 5, 3) := by decide +kernel
theorem dX0_addSign_63 : decode cX0_addSign 63 = .ok (.iconst 0, 1) := by decide +kernel
theorem dX0_addSign_64 : decode cX0_addSign 64 = .ok (.ireturn, 1) := by decide +kernel
theorem dX0_addSign_65 : decode cX0_addSign 65 = .ok (.aload_n 0, 1) := by decide +kernel
theorem dX0_addSign_66 : decode cX0_addSign 66 = .ok (.getfield 11, 3) := by decide +kernel
theorem dX0_addSign_69 : decode cX0_addSign 69 = .ok (.iload_n 2, 1) := by decide +kernel
theorem dX0_addSign_70 : decode cX0_addSign 70 = .ok (.bipush 120, 2) := by decide +kernel
theorem dX0_addSign_72 : decode cX0_addSign 72 = .ok (.isub, 1) := by decide +kernel
theorem dX0_addSign_73 : decode cX0_addSign 73 = .ok (.aaload, 1) := by decide +kernel
theorem dX0_addSign_74 : decode cX0_addSign 74 = .ok (.dup, 1) := by decide +kernel
theorem dX0_addSign_75 : decode cX0_addSign 75 = .ok (.getfield 34, 3) := by decide +kernel
theorem dX0_addSign_78 : decode cX0_addSign 78 = .ok (.iload_n 3, 1) := by decide +kernel
theorem dX0_addSign_79 : decode cX0_addSign 79 = .ok (.ior, 1) := by decide +kernel
theorem dX0_addSign_80 : decode cX0_addSign 80 = .ok (.putfield 34, 3) := by decide +kernel
theorem dX0_addSign_83 : decode cX0_addSign 83 = .ok (.aload_n 0, 1) := by decide +kernel
theorem dX0_addSign_84 : decode cX0_addSign 84 = .ok (.getfield 11, 3) := by decide +kernel
theorem dX0_addSign_87 : decode cX0_addSign 87 = .ok (.iload_n 2, 1) := by decide +kernel
theorem dX0_addSign_88 : decode cX0_addSign 88 = .ok (.bipush 120, 2) := by decide +kernel
theorem dX0_addSign_90 : decode cX0_addSign 90 = .ok (.isub, 1) := by decide +kernel
theorem dX0_addSign_91 : decode cX0_addSign 91 = .ok (.aaload, 1) := by decide +kernel
theorem dX0_addSign_92 : decode cX0_addSign 92 = .ok (.dup, 1) := by decide +kernel
theorem dX0_addSign_93 : decode cX0_addSign 93 = .ok (.getfield 37, 3) := by decide +kernel
theorem dX0_addSign_96 : decode cX0_addSign 96 = .ok (.iconst 1, 1) := by decide +kernel
theorem dX0_addSign_97 : decode cX0_addSign 97 = .ok (.iadd, 1) := by decide +kernel
theorem dX0_addSign_98 : decode cX0_addSign 98 = .ok (.putfield 37, 3) := by decide +kernel
theorem dX0_addSign_101 : decode cX0_addSign 101 = .ok (.iconst 1, 1) := by decide +kernel
theorem dX0_addSign_102 : decode cX0_addSign 102 = .ok (.ireturn, 1) := by decide +kernel
theorem dX0_countOperands_0 : decode cX0_countOperands 0 = .ok (.iconst 0, 1) := by decide +kernel
theorem dX0_countOperands_1 : decode cX0_countOperands 1 = .ok (.istore_n 1, 1) := by decide +kernel
theorem dX0_countOperands_2 : decode cX0_countOperands 2 = .ok (.iload_n 1, 1) := by decide +kernel
theorem dX0_countOperands_3 : decode cX0_countOperands 3 = .ok (.aload_n 0, 1) := by decide +kernel
theorem dX0_countOperands_4 : decode cX0_countOperands 4 = .ok (.getfield 11, 3) := by decide +kernel
theorem dX0_countOperands_7 : decode cX0_countOperands 7 = .ok (.arraylength, 1) := by decide +kernel
theorem dX0_countOperands_8 : decode cX0_countOperands 8 = .ok (.if_icmp .ge 53, 3) := by decide +kernel
theorem dX0_countOperands_11 : decode cX0_countOperands 11 = .ok (.aload_n 0, 1) := by decide +kernel
theorem dX0_countOperands_12 : decode cX0_countOperands 12 = .ok (.getfield 11, 3) := by decide +kernel
theorem dX0_countOperands_15 : decode cX0_countOperands 15 = .ok (.iload_n 1, 1) := by decide +kernel
theorem dX0_countOperands_16 : decode cX0_countOperands 16 = .ok (.aaload, 1) := by decide +kernel
theorem dX0_countOperands_17 : decode cX0_countOperands 17 = .ok (.getfield 37, 3) := by decide +kernel
theorem dX0_countOperands_20 : decode cX0_countOperands 20 = .ok (.istore_n 2, 1) := by decide +kernel
theorem dX0_countOperands_21 : decode cX0_countOperands 21 = .ok (.iload_n 2, 1) := by decide +kernel
theorem dX0_countOperands_22 : decode cX0_countOperands 22 = .ok (.bipush 16, 2) := by decide +kernel
theorem dX0_countOperands_24 : decode cX0_countOperands 24 = .ok (.if_icmp .gt 15, 3) := by decide +kernel
theorem dX0_countOperands_27 : decode cX0_countOperands 27 = .ok (.iload_n 2, 1) := by decide +kernel
theorem dX0_countOperands_28 : decode cX0_countOperands 28 = .ok (.ifCond .le 13, 3) := by decide +kernel
theorem dX0_countOperands_31 : decode cX0_countOperands 31 = .ok (.aload_n 0, 1) := by decide +kernel
theorem dX0_countOperands_32 : decode cX0_countOperands 32 = .ok (.getfield 31, 3) := by decide +kernel
theorem dX0_countOperands_35 : decode cX0_countOperands 35 = .ok (.iload_n 1, 1) := by decide +kernel
theorem dX0_countOperands_36 : decode cX0_countOperands 36 = .ok (.if_icmp .ge 5, 3) := by decide +kernel
theorem dX0_countOperands_39 : decode cX0_countOperands 39 = .ok (.iconst 0, 1) := by decide +kernel
theorem dX0_countOperands_40 : decode cX0_countOperands 40 = .ok (.ireturn, 1) := by decide +kernel
theorem dX0_countOperands_41 : decode cX0_countOperands 41 = .ok (.iload_n 2, 1) := by decide +kernel
theorem dX0_countOperands_42 : decode cX0_countOperands 42 = .ok (.ifCond .le 13, 3) := by decide +kernel
theorem dX0_countOperands_45 : decode cX0_countOperands 45 = .ok (.aload_n 0, 1) := by decide +kernel
theorem dX0_countOperands_46 : decode cX0_countOperands 46 = .ok (.dup, 1) := by decide +kernel
theorem dX0_countOperands_47 : decode cX0_countOperands 47 = .ok (.getfield 31, 3) := by decide +kernel
theorem dX0_countOperands_50 : decode cX0_countOperands 50 = .ok (.iconst 1, 1) := by decide +kernel
theorem dX0_countOperands_51 : decode cX0_countOperands 51 = .ok (.iadd, 1) := by decide +kernel
theorem dX0_countOperands_52 : decode cX0_countOperands 52 = .ok (.putfield 31, 3) := by decide +kernel
theorem dX0_countOperands_55 : decode cX0_countOperands 55 = .ok (.iinc 1 1, 3) := by decide +kernel
theorem dX0_countOperands_58 : decode cX0_countOperands 58 = .ok (.goto (-56), 3) := by decide +kernel
theorem dX0_countOperands_61 : decode cX0_countOperands 61 = .ok (.iconst 1, 1) := by decide +kernel
theorem dX0_countOperands_62 : decode cX0_countOperands 62 = .ok (.ireturn, 1) := by decide +kernel
theorem dX0_agreesWith_0 : decode cX0_agreesWith 0 = .ok (.iload_n 1, 1) := by decide +kernel
theorem dX0_agreesWith_1 : decode cX0_agreesWith 1 = .ok (.aload_n 0, 1) := by decide +kernel
theorem dX0_agreesWith_2 : decode cX0_agreesWith 2 = .ok (.getfield 25, 3) := by decide +kernel
theorem dX0_agreesWith_5 : decode cX0_agreesWith 5 = .ok (.iand, 1) := by decide +kernel
theorem dX0_agreesWith_6 : decode cX0_agreesWith 6 = .ok (.aload_n 0, 1) := by decide +kernel
theorem dX0_agreesWith_7 : decode cX0_agreesWith 7 = .ok (.getfield 28, 3) := by decide +kernel
theorem dX0_agreesWith_10 : decode cX0_agreesWith 10 = .ok (.if_icmp .ne 7, 3) := by decide +kernel
theorem dX0_agreesWith_13 : decode cX0_agreesWith 13 = .ok (.iconst 1, 1) := by decide +kernel
theorem dX0_agreesWith_14 : decode cX0_agreesWith 14 = .ok (.goto 4, 3) := by decide +kernel
theorem dX0_agreesWith_17 : decode cX0_agreesWith 17 = .ok (.iconst 0, 1) := by decide +kernel
theorem dX0_agreesWith_18 : decode cX0_agreesWith 18 = .ok (.ireturn, 1) := by decide +kernel
theorem dX0_isNarrowerThan_0 : decode cX0_isNarrowerThan 0 = .ok (.aload_n 1, 1) := by decide +kernel
theorem dX0_isNarrowerThan_1 : decode cX0_isNarrowerThan 1 = .ok (.getfield 25, 3) := by decide +kernel
theorem dX0_isNarrowerThan_4 : decode cX0_isNarrowerThan 4 = .ok (.aload_n 0, 1) := by decide +kernel
theorem dX0_isNarrowerThan_5 : decode cX0_isNarrowerThan 5 = .ok (.getfield 25, 3) := by decide +kernel
theorem dX0_isNarrowerThan_8 : decode cX0_isNarrowerThan 8 = .ok (.iconst (-1), 1) := by decide +kernel
theorem dX0_isNarrowerThan_9 : decode cX0_isNarrowerThan 9 = .ok (.ixor, 1) := by decide +kernel
theorem dX0_isNarrowerThan_10 : decode cX0_isNarrowerThan 10 = .ok (.iand, 1) := by decide +kernel
theorem dX0_isNarrowerThan_11 : decode cX0_isNarrowerThan 11 = .ok (.ifCond .ne 14, 3) := by decide +kernel
theorem dX0_isNarrowerThan_14 : decode cX0_isNarrowerThan 14 = .ok (.aload_n 1, 1) := by decide +kernel
theorem dX0_isNarrowerThan_15 : decode cX0_isNarrowerThan 15 = .ok (.aload_n 0, 1) := by decide +kernel
theorem dX0_isNarrowerThan_16 : decode cX0_isNarrowerThan 16 = .ok (.getfield 28, 3) := by decide +kernel
theorem dX0_isNarrowerThan_19 : decode cX0_isNarrowerThan 19 = .ok (.invokevirtual 40, 3) := by decide +kernel
theorem dX0_isNarrowerThan_22 : decode cX0_isNarrowerThan 22 = .ok (.ifCond .ne 5, 3) := by decide +kernel
theorem dX0_isNarrowerThan_25 : decode cX0_isNarrowerThan 25 = .ok (.iconst 0, 1) := by decide +kernel
theorem dX0_isNarrowerThan_26 : decode cX0_isNarrowerThan 26 = .ok (.ireturn, 1) := by decide +kernel
theorem dX0_isNarrowerThan_27 : decode cX0_isNarrowerThan 27 = .ok (.aload_n 0, 1) := by decide +kernel
theorem dX0_isNarrowerThan_28 : decode cX0_isNarrowerThan 28 = .ok (.getfield 25, 3) := by decide +kernel
theorem dX0_isNarrowerThan_31 : decode cX0_isNarrowerThan 31 = .ok (.invokestatic 44, 3) := by decide +kernel
theorem dX0_isNarrowerThan_34 : decode cX0_isNarrowerThan 34 = .ok (.aload_n 1, 1) := by decide +kernel
theorem dX0_isNarrowerThan_35 : decode cX0_isNarrowerThan 35 = .ok (.getfield 25, 3) := by decide +kernel
theorem dX0_isNarrowerThan_38 : decode cX0_isNarrowerThan 38 = .ok (.invokestatic 44, 3) := by decide +kernel
theorem dX0_isNarrowerThan_41 : decode cX0_isNarrowerThan 41 = .ok (.isub, 1) := by decide +kernel
theorem dX0_isNarrowerThan_42 : decode cX0_isNarrowerThan 42 = .ok (.istore_n 2, 1) := by decide +kernel
theorem dX0_isNarrowerThan_43 : decode cX0_isNarrowerThan 43 = .ok (.iload_n 2, 1) := by decide +kernel
theorem dX0_isNarrowerThan_44 : decode cX0_isNarrowerThan 44 = .ok (.ifCond .gt 18, 3) := by decide +kernel
theorem dX0_isNarrowerThan_47 : decode cX0_isNarrowerThan 47 = .ok (.iload_n 2, 1) := by decide +kernel
theorem dX0_isNarrowerThan_48 : decode cX0_isNarrowerThan 48 = .ok (.ifCond .ne 18, 3) := by decide +kernel
theorem dX0_isNarrowerThan_51 : decode cX0_isNarrowerThan 51 = .ok (.aload_n 0, 1) := by decide +kernel
theorem dX0_isNarrowerThan_52 : decode cX0_isNarrowerThan 52 = .ok (.getfield 22, 3) := by decide +kernel
theorem dX0_isNarrowerThan_55 : decode cX0_isNarrowerThan 55 = .ok (.aload_n 1, 1) := by decide +kernel
theorem dX0_isNarrowerThan_56 : decode cX0_isNarrowerThan 56 = .ok (.getfield 22, 3) := by decide +kernel
theorem dX0_isNarrowerThan_59 : decode cX0_isNarrowerThan 59 = .ok (.if_icmp .le 7, 3) := by decide +kernel
theorem dX0_isNarrowerThan_62 : decode cX0_isNarrowerThan 62 = .ok (.iconst 1, 1) := by decide +kernel
theorem dX0_isNarrowerThan_63 : decode cX0_isNarrowerThan 63 = .ok (.goto 4, 3) := by decide +kernel
theorem dX0_isNarrowerThan_66 : decode cX0_isNarrowerThan 66 = .ok (.iconst 0, 1) := by decide +kernel
theorem dX0_isNarrowerThan_67 : decode cX0_isNarrowerThan 67 = .ok (.ireturn, 1) := by decide +kernel
theorem dX0_clashesWith_0 : decode cX0_clashesWith 0 = .ok (.aload_n 0, 1) := by decide +kernel
theorem dX0_clashesWith_1 : decode cX0_clashesWith 1 = .ok (.getfield 25, 3) := by decide +kernel
theorem dX0_clashesWith_4 : decode cX0_clashesWith 4 = .ok (.aload_n 1, 1) := by decide +kernel
theorem dX0_clashesWith_5 : decode cX0_clashesWith 5 = .ok (.getfield 25, 3) := by decide +kernel
theorem dX0_clashesWith_8 : decode cX0_clashesWith 8 = .ok (.iand, 1) := by decide +kernel
theorem dX0_clashesWith_9 : decode cX0_clashesWith 9 = .ok (.aload_n 0, 1) := by decide +kernel
theorem dX0_clashesWith_10 : decode cX0_clashesWith 10 = .ok (.getfield 28, 3) := by decide +kernel
theorem dX0_clashesWith_13 : decode cX0_clashesWith 13 = .ok (.aload_n 1, 1) := by decide +kernel
theorem dX0_clashesWith_14 : decode cX0_clashesWith 14 = .ok (.getfield 28, 3) := by decide +kernel
theorem dX0_clashesWith_17 : decode cX0_clashesWith 17 = .ok (.ixor, 1) := by decide +kernel
theorem dX0_clashesWith_18 : decode cX0_clashesWith 18 = .ok (.iand, 1) := by decide +kernel
theorem dX0_clashesWith_19 : decode cX0_clashesWith 19 = .ok (.ifCond .eq 7, 3) := by decide +kernel
theorem dX0_clashesWith_22 : decode cX0_clashesWith 22 = .ok (.iconst 1, 1) := by decide +kernel
theorem dX0_clashesWith_23 : decode cX0_clashesWith 23 = .ok (.goto 4, 3) := by decide +kernel
theorem dX0_clashesWith_26 : decode cX0_clashesWith 26 = .ok (.iconst 0, 1) := by decide +kernel
theorem dX0_clashesWith_27 : decode cX0_clashesWith 27 = .ok (.istore_n 2, 1) := by decide +kernel
theorem dX0_clashesWith_28 : decode cX0_clashesWith 28 = .ok (.iload_n 2, 1) := by decide +kernel
theorem dX0_clashesWith_29 : decode cX0_clashesWith 29 = .ok (.ifCond .ne 23, 3) := by decide +kernel
theorem dX0_clashesWith_32 : decode cX0_clashesWith 32 = .ok (.aload_n 0, 1) := by decide +kernel
theorem dX0_clashesWith_33 : decode cX0_clashesWith 33 = .ok (.aload_n 1, 1) := by decide +kernel
theorem dX0_clashesWith_34 : decode cX0_clashesWith 34 = .ok (.invokevirtual 50, 3) := by decide +kernel
theorem dX0_clashesWith_37 : decode cX0_clashesWith 37 = .ok (.ifCond .ne 15, 3) := by decide +kernel
theorem dX0_clashesWith_40 : decode cX0_clashesWith 40 = .ok (.aload_n 1, 1) := by decide +kernel
theorem dX0_clashesWith_41 : decode cX0_clashesWith 41 = .ok (.aload_n 0, 1) := by decide +kernel
theorem dX0_clashesWith_42 : decode cX0_clashesWith 42 = .ok (.invokevirtual 50, 3) := by decide +kernel
theorem dX0_clashesWith_45 : decode cX0_clashesWith 45 = .ok (.ifCond .ne 7, 3) := by decide +kernel
theorem dX0_clashesWith_48 : decode cX0_clashesWith 48 = .ok (.iconst 1, 1) := by decide +kernel
theorem dX0_clashesWith_49 : decode cX0_clashesWith 49 = .ok (.goto 4, 3) := by decide +kernel
theorem dX0_clashesWith_52 : decode cX0_clashesWith 52 = .ok (.iconst 0, 1) := by decide +kernel
theorem dX0_clashesWith_53 : decode cX0_clashesWith 53 = .ok (.ireturn, 1) := by decide +kernel
theorem dX1_init_0 : decode cX1_init 0 = .ok (.aload_n 0, 1) := by decide +kernel
theorem dX1_init_1 : decode cX1_init 1 = .ok (.invokespecial 3, 3) := by decide +kernel
theorem dX1_init_4 : decode cX1_init 4 = .ok (.aload_n 0, 1) := by decide +kernel
theorem dX1_init_5 : decode cX1_init 5 = .ok (.iconst 3, 1) := by decide +kernel
theorem dX1_init_6 : decode cX1_init 6 = .ok (.newarray .int, 2) := by decide +kernel
theorem dX1_init_8 : decode cX1_init 8 = .ok (.putfield 9, 3) := by decide +kernel
theorem dX1_init_11 : decode cX1_init 11 = .ok (.aload_n 0, 1) := by decide +kernel
theorem dX1_init_12 : decode cX1_init 12 = .ok (.iconst 3, 1) := by decide +kernel
theorem dX1_init_13 : decode cX1_init 13 = .ok (.newarray .int, 2) := by decide +kernel
theorem dX1_init_15 : decode cX1_init 15 = .ok (.putfield 15, 3) := by decide +kernel
theorem dX1_init_18 : decode cX1_init 18 = .ok (.return_, 1) := by decide +kernel
theorem dX2_init_0 : decode cX2_init 0 = .ok (.aload_n 0, 1) := by decide +kernel
theorem dX2_init_1 : decode cX2_init 1 = .ok (.invokespecial 3, 3) := by decide +kernel
theorem dX2_init_4 : decode cX2_init 4 = .ok (.aload_n 0, 1) := by decide +kernel
theorem dX2_init_5 : decode cX2_init 5 = .ok (.iconst 0, 1) := by decide +kernel
theorem dX2_init_6 : decode cX2_init 6 = .ok (.putfield 9, 3) := by decide +kernel
theorem dX2_init_9 : decode cX2_init 9 = .ok (.aload_n 0, 1) := by decide +kernel
theorem dX2_init_10 : decode cX2_init 10 = .ok (.iconst 1, 1) := by decide +kernel
theorem dX2_init_11 : decode cX2_init 11 = .ok (.putfield 15, 3) := by decide +kernel
theorem dX2_init_14 : decode cX2_init 14 = .ok (.return_, 1) := by decide +kernel
theorem dX2_base_0 : decode cX2_base 0 = .ok (.aload_n 0, 1) := by decide +kernel
theorem dX2_base_1 : decode cX2_base 1 = .ok (.getfield 9, 3) := by decide +kernel
theorem dX2_base_4 : decode cX2_base 4 = .ok (.iconst 2, 1) := by decide +kernel
theorem dX2_base_5 : decode cX2_base 5 = .ok (.if_icmp .ne 12, 3) := by decide +kernel
theorem dX2_base_8 : decode cX2_base 8 = .ok (.aload_n 0, 1) := by decide +kernel
theorem dX2_base_9 : decode cX2_base 9 = .ok (.getfield 18, 3) := by decide +kernel
theorem dX2_base_12 : decode cX2_base 12 = .ok (.iload_n 1, 1) := by decide +kernel
theorem dX2_base_13 : decode cX2_base 13 = .ok (.iadd, 1) := by decide +kernel
theorem dX2_base_14 : decode cX2_base 14 = .ok (.goto 7, 3) := by decide +kernel
theorem dX2_base_17 : decode cX2_base 17 = .ok (.aload_n 0, 1) := by decide +kernel
theorem dX2_base_18 : decode cX2_base 18 = .ok (.getfield 18, 3) := by decide +kernel
theorem dX2_base_21 : decode cX2_base 21 = .ok (.ireturn, 1) := by decide +kernel
theorem dX2_lowest_0 : decode cX2_lowest 0 = .ok (.aload_n 0, 1) := by decide +kernel
theorem dX2_lowest_1 : decode cX2_lowest 1 = .ok (.getfield 9, 3) := by decide +kernel
theorem dX2_lowest_4 : decode cX2_lowest 4 = .ok (.ifCond .ne 7, 3) := by decide +kernel
theorem dX2_lowest_7 : decode cX2_lowest 7 = .ok (.iconst 0, 1) := by decide +kernel
theorem dX2_lowest_8 : decode cX2_lowest 8 = .ok (.goto 12, 3) := by decide +kernel
theorem dX2_lowest_11 : decode cX2_lowest 11 = .ok (.iconst 1, 1) := by decide +kernel
theorem dX2_lowest_12 : decode cX2_lowest 12 = .ok (.aload_n 0, 1) := by decide +kernel
theorem dX2_lowest_13 : decode cX2_lowest 13 = .ok (.getfield 21, 3) := by decide +kernel
theorem dX2_lowest_16 : decode cX2_lowest 16 = .ok (.ishl, 1) := by decide +kernel
theorem dX2_lowest_17 : decode cX2_lowest 17 = .ok (.iconst 1, 1) := by decide +kernel
theorem dX2_lowest_18 : decode cX2_lowest 18 = .ok (.ishr, 1) := by decide +kernel
theorem dX2_lowest_19 : decode cX2_lowest 19 = .ok (.ineg, 1) := by decide +kernel
theorem dX2_lowest_20 : decode cX2_lowest 20 = .ok (.ireturn, 1) := by decide +kernel
theorem dX2_highest_0 : decode cX2_highest 0 = .ok (.aload_n 0, 1) := by decide +kernel
theorem dX2_highest_1 : decode cX2_highest 1 = .ok (.invokevirtual 24, 3) := by decide +kernel
theorem dX2_highest_4 : decode cX2_highest 4 = .ok (.iconst 1, 1) := by decide +kernel
theorem dX2_highest_5 : decode cX2_highest 5 = .ok (.aload_n 0, 1) := by decide +kernel
theorem dX2_highest_6 : decode cX2_highest 6 = .ok (.getfield 21, 3) := by decide +kernel
theorem dX2_highest_9 : decode cX2_highest 9 = .ok (.ishl, 1) := by decide +kernel
theorem dX2_highest_10 : decode cX2_highest 10 = .ok (.iadd, 1) := by decide +kernel
theorem dX2_highest_11 : decode cX2_highest 11 = .ok (.iconst 1, 1) := by decide +kernel
theorem dX2_highest_12 : decode cX2_highest 12 = .ok (.isub, 1) := by decide +kernel
theorem dX2_highest_13 : decode cX2_highest 13 = .ok (.ireturn, 1) := by decide +kernel
theorem dX2_valueIn_0 : decode cX2_valueIn 0 = .ok (.iconst 0, 1) := by decide +kernel
theorem dX2_valueIn_1 : decode cX2_valueIn 1 = .ok (.istore_n 3, 1) := by decide +kernel
theorem dX2_valueIn_2 : decode cX2_valueIn 2 = .ok (.bipush 23, 2) := by decide +kernel
theorem dX2_valueIn_4 : decode cX2_valueIn 4 = .ok (.istore 4, 2) := by decide +kernel
theorem dX2_valueIn_6 : decode cX2_valueIn 6 = .ok (.iload 4, 2) := by decide +kernel
theorem dX2_valueIn_8 : decode cX2_valueIn 8 = .ok (.ifCond .lt 33, 3) := by decide +kernel
theorem dX2_valueIn_11 : decode cX2_valueIn 11 = .ok (.aload_n 0, 1) := by decide +kernel
theorem dX2_valueIn_12 : decode cX2_valueIn 12 = .ok (.getfield 28, 3) := by decide +kernel
theorem dX2_valueIn_15 : decode cX2_valueIn 15 = .ok (.iload 4, 2) := by decide +kernel
theorem dX2_valueIn_17 : decode cX2_valueIn 17 = .ok (.ishr, 1) := by decide +kernel
theorem dX2_valueIn_18 : decode cX2_valueIn 18 = .ok (.iconst 1, 1) := by decide +kernel
theorem dX2_valueIn_19 : decode cX2_valueIn 19 = .ok (.iand, 1) := by decide +kernel
theorem dX2_valueIn_20 : decode cX2_valueIn 20 = .ok (.iconst 1, 1) := by decide +kernel
theorem dX2_valueIn_21 : decode cX2_valueIn 21 = .ok (.if_icmp .ne 14, 3) := by decide +kernel
theorem dX2_valueIn_24 : decode cX2_valueIn 24 = .ok (.iload_n 3, 1) := by decide +kernel
theorem dX2_valueIn_25 : decode cX2_valueIn 25 = .ok (.iconst 1, 1) := by decide +kernel
theorem dX2_valueIn_26 : decode cX2_valueIn 26 = .ok (.ishl, 1) := by decide +kernel
theorem dX2_valueIn_27 : decode cX2_valueIn 27 = .ok (.iload_n 1, 1) := by decide +kernel
theorem dX2_valueIn_28 : decode cX2_valueIn 28 = .ok (.iload 4, 2) := by decide +kernel
theorem dX2_valueIn_30 : decode cX2_valueIn 30 = .ok (.ishr, 1) := by decide +kernel
theorem dX2_valueIn_31 : decode cX2_valueIn 31 = .ok (.iconst 1, 1) := by decide +kernel
theorem dX2_valueIn_32 : decode cX2_valueIn 32 = .ok (.iand, 1) := by decide +kernel
theorem dX2_valueIn_33 : decode cX2_valueIn 33 = .ok (.ior, 1) := by decide +kernel
theorem dX2_valueIn_34 : decode cX2_valueIn 34 = .ok (.istore_n 3, 1) := by decide +kernel
theorem dX2_valueIn_35 : decode cX2_valueIn 35 = .ok (.iinc 4 (-1), 3) := by decide +kernel
theorem dX2_valueIn_38 : decode cX2_valueIn 38 = .ok (.goto (-32), 3) := by decide +kernel
theorem dX2_valueIn_41 : decode cX2_valueIn 41 = .ok (.iload_n 3, 1) := by decide +kernel
theorem dX2_valueIn_42 : decode cX2_valueIn 42 = .ok (.aload_n 0, 1) := by decide +kernel
theorem dX2_valueIn_43 : decode cX2_valueIn 43 = .ok (.invokevirtual 31, 3) := by decide +kernel
theorem dX2_valueIn_46 : decode cX2_valueIn 46 = .ok (.if_icmp .le 12, 3) := by decide +kernel
theorem dX2_valueIn_49 : decode cX2_valueIn 49 = .ok (.iload_n 3, 1) := by decide +kernel
theorem dX2_valueIn_50 : decode cX2_valueIn 50 = .ok (.iconst 1, 1) := by decide +kernel
theorem dX2_valueIn_51 : decode cX2_valueIn 51 = .ok (.aload_n 0, 1) := by decide +kernel
theorem dX2_valueIn_52 : decode cX2_valueIn 52 = .ok (.getfield 21, 3) := by decide +kernel
theorem dX2_valueIn_55 : decode cX2_valueIn 55 = .ok (.ishl, 1) := by decide +kernel
theorem dX2_valueIn_56 : decode cX2_valueIn 56 = .ok (.isub, 1) := by decide +kernel
theorem dX2_valueIn_57 : decode cX2_valueIn 57 = .ok (.istore_n 3, 1) := by decide +kernel
theorem dX2_valueIn_58 : decode cX2_valueIn 58 = .ok (.iload_n 3, 1) := by decide +kernel
theorem dX2_valueIn_59 : decode cX2_valueIn 59 = .ok (.aload_n 0, 1) := by decide +kernel
theorem dX2_valueIn_60 : decode cX2_valueIn 60 = .ok (.getfield 15, 3) := by decide +kernel
theorem dX2_valueIn_63 : decode cX2_valueIn 63 = .ok (.imul, 1) := by decide +kernel
theorem dX2_valueIn_64 : decode cX2_valueIn 64 = .ok (.aload_n 0, 1) := by decide +kernel
theorem dX2_valueIn_65 : decode cX2_valueIn 65 = .ok (.iload_n 2, 1) := by decide +kernel
theorem dX2_valueIn_66 : decode cX2_valueIn 66 = .ok (.invokevirtual 34, 3) := by decide +kernel
theorem dX2_valueIn_69 : decode cX2_valueIn 69 = .ok (.iadd, 1) := by decide +kernel
theorem dX2_valueIn_70 : decode cX2_valueIn 70 = .ok (.ireturn, 1) := by decide +kernel
theorem dX2_reaches_0 : decode cX2_reaches 0 = .ok (.iload_n 1, 1) := by decide +kernel
theorem dX2_reaches_1 : decode cX2_reaches 1 = .ok (.aload_n 0, 1) := by decide +kernel
theorem dX2_reaches_2 : decode cX2_reaches 2 = .ok (.iload_n 2, 1) := by decide +kernel
theorem dX2_reaches_3 : decode cX2_reaches 3 = .ok (.invokevirtual 34, 3) := by decide +kernel
theorem dX2_reaches_6 : decode cX2_reaches 6 = .ok (.isub, 1) := by decide +kernel
theorem dX2_reaches_7 : decode cX2_reaches 7 = .ok (.istore_n 3, 1) := by decide +kernel
theorem dX2_reaches_8 : decode cX2_reaches 8 = .ok (.aload_n 0, 1) := by decide +kernel
theorem dX2_reaches_9 : decode cX2_reaches 9 = .ok (.getfield 15, 3) := by decide +kernel
theorem dX2_reaches_12 : decode cX2_reaches 12 = .ok (.iconst 1, 1) := by decide +kernel
theorem dX2_reaches_13 : decode cX2_reaches 13 = .ok (.if_icmp .lt 12, 3) := by decide +kernel
theorem dX2_reaches_16 : decode cX2_reaches 16 = .ok (.iload_n 3, 1) := by decide +kernel
theorem dX2_reaches_17 : decode cX2_reaches 17 = .ok (.aload_n 0, 1) := by decide +kernel
theorem dX2_reaches_18 : decode cX2_reaches 18 = .ok (.getfield 15, 3) := by decide +kernel
theorem dX2_reaches_21 : decode cX2_reaches 21 = .ok (.irem, 1) := by decide +kernel
theorem dX2_reaches_22 : decode cX2_reaches 22 = .ok (.ifCond .eq 5, 3) := by decide +kernel
theorem dX2_reaches_25 : decode cX2_reaches 25 = .ok (.iconst 0, 1) := by decide +kernel
theorem dX2_reaches_26 : decode cX2_reaches 26 = .ok (.ireturn, 1) := by decide +kernel
theorem dX2_reaches_27 : decode cX2_reaches 27 = .ok (.iload_n 3, 1) := by decide +kernel
theorem dX2_reaches_28 : decode cX2_reaches 28 = .ok (.aload_n 0, 1) := by decide +kernel
theorem dX2_reaches_29 : decode cX2_reaches 29 = .ok (.getfield 15, 3) := by decide +kernel
theorem dX2_reaches_32 : decode cX2_reaches 32 = .ok (.idiv, 1) := by decide +kernel
theorem dX2_reaches_33 : decode cX2_reaches 33 = .ok (.istore 4, 2) := by decide +kernel
theorem dX2_reaches_35 : decode cX2_reaches 35 = .ok (.iload 4, 2) := by decide +kernel
theorem dX2_reaches_37 : decode cX2_reaches 37 = .ok (.aload_n 0, 1) := by decide +kernel
theorem dX2_reaches_38 : decode cX2_reaches 38 = .ok (.invokevirtual 24, 3) := by decide +kernel
theorem dX2_reaches_41 : decode cX2_reaches 41 = .ok (.if_icmp .lt 16, 3) := by decide +kernel
theorem dX2_reaches_44 : decode cX2_reaches 44 = .ok (.iload 4, 2) := by decide +kernel
theorem dX2_reaches_46 : decode cX2_reaches 46 = .ok (.aload_n 0, 1) := by decide +kernel
theorem dX2_reaches_47 : decode cX2_reaches 47 = .ok (.invokevirtual 31, 3) := by decide +kernel
theorem dX2_reaches_50 : decode cX2_reaches 50 = .ok (.if_icmp .gt 7, 3) := by decide +kernel
theorem dX2_reaches_53 : decode cX2_reaches 53 = .ok (.iconst 1, 1) := by decide +kernel
theorem dX2_reaches_54 : decode cX2_reaches 54 = .ok (.goto 4, 3) := by decide +kernel
theorem dX2_reaches_57 : decode cX2_reaches 57 = .ok (.iconst 0, 1) := by decide +kernel
theorem dX2_reaches_58 : decode cX2_reaches 58 = .ok (.ireturn, 1) := by decide +kernel
theorem dX2_bitsFor_0 : decode cX2_bitsFor 0 = .ok (.aload_n 0, 1) := by decide +kernel
theorem dX2_bitsFor_1 : decode cX2_bitsFor 1 = .ok (.getfield 15, 3) := by decide +kernel
theorem dX2_bitsFor_4 : decode cX2_bitsFor 4 = .ok (.iconst 1, 1) := by decide +kernel
theorem dX2_bitsFor_5 : decode cX2_bitsFor 5 = .ok (.if_icmp .ge 7, 3) := by decide +kernel
theorem dX2_bitsFor_8 : decode cX2_bitsFor 8 = .ok (.iconst 0, 1) := by decide +kernel
theorem dX2_bitsFor_9 : decode cX2_bitsFor 9 = .ok (.goto 15, 3) := by decide +kernel
theorem dX2_bitsFor_12 : decode cX2_bitsFor 12 = .ok (.iload_n 1, 1) := by decide +kernel
theorem dX2_bitsFor_13 : decode cX2_bitsFor 13 = .ok (.aload_n 0, 1) := by decide +kernel
theorem dX2_bitsFor_14 : decode cX2_bitsFor 14 = .ok (.iload_n 2, 1) := by decide +kernel
theorem dX2_bitsFor_15 : decode cX2_bitsFor 15 = .ok (.invokevirtual 34, 3) := by decide +kernel
theorem dX2_bitsFor_18 : decode cX2_bitsFor 18 = .ok (.isub, 1) := by decide +kernel
theorem dX2_bitsFor_19 : decode cX2_bitsFor 19 = .ok (.aload_n 0, 1) := by decide +kernel
theorem dX2_bitsFor_20 : decode cX2_bitsFor 20 = .ok (.getfield 15, 3) := by decide +kernel
theorem dX2_bitsFor_23 : decode cX2_bitsFor 23 = .ok (.idiv, 1) := by decide +kernel
theorem dX2_bitsFor_24 : decode cX2_bitsFor 24 = .ok (.istore_n 3, 1) := by decide +kernel
theorem dX2_bitsFor_25 : decode cX2_bitsFor 25 = .ok (.iconst 0, 1) := by decide +kernel
theorem dX2_bitsFor_26 : decode cX2_bitsFor 26 = .ok (.istore 4, 2) := by decide +kernel
theorem dX2_bitsFor_28 : decode cX2_bitsFor 28 = .ok (.iconst 0, 1) := by decide +kernel
theorem dX2_bitsFor_29 : decode cX2_bitsFor 29 = .ok (.istore 5, 2) := by decide +kernel
theorem dX2_bitsFor_31 : decode cX2_bitsFor 31 = .ok (.iload 5, 2) := by decide +kernel
theorem dX2_bitsFor_33 : decode cX2_bitsFor 33 = .ok (.bipush 24, 2) := by decide +kernel
theorem dX2_bitsFor_35 : decode cX2_bitsFor 35 = .ok (.if_icmp .ge 37, 3) := by decide +kernel
theorem dX2_bitsFor_38 : decode cX2_bitsFor 38 = .ok (.aload_n 0, 1) := by decide +kernel
theorem dX2_bitsFor_39 : decode cX2_bitsFor 39 = .ok (.getfield 28, 3) := by decide +kernel
theorem dX2_bitsFor_42 : decode cX2_bitsFor 42 = .ok (.iload 5, 2) := by decide +kernel
theorem dX2_bitsFor_44 : decode cX2_bitsFor 44 = .ok (.ishr, 1) := by decide +kernel
theorem dX2_bitsFor_45 : decode cX2_bitsFor 45 = .ok (.iconst 1, 1) := by decide +kernel
theorem dX2_bitsFor_46 : decode cX2_bitsFor 46 = .ok (.iand, 1) := by decide +kernel
theorem dX2_bitsFor_47 : decode cX2_bitsFor 47 = .ok (.iconst 1, 1) := by decide +kernel
theorem dX2_bitsFor_48 : decode cX2_bitsFor 48 = .ok (.if_icmp .ne 18, 3) := by decide +kernel
theorem dX2_bitsFor_51 : decode cX2_bitsFor 51 = .ok (.iload 4, 2) := by decide +kernel
theorem dX2_bitsFor_53 : decode cX2_bitsFor 53 = .ok (.iload_n 3, 1) := by decide +kernel
theorem dX2_bitsFor_54 : decode cX2_bitsFor 54 = .ok (.iconst 1, 1) := by decide +kernel
theorem dX2_bitsFor_55 : decode cX2_bitsFor 55 = .ok (.iand, 1) := by decide +kernel
theorem dX2_bitsFor_56 : decode cX2_bitsFor 56 = .ok (.iload 5, 2) := by decide +kernel
theorem dX2_bitsFor_58 : decode cX2_bitsFor 58 = .ok (.ishl, 1) := by decide +kernel
theorem dX2_bitsFor_59 : decode cX2_bitsFor 59 = .ok (.ior, 1) := by decide +kernel
theorem dX2_bitsFor_60 : decode cX2_bitsFor 60 = .ok (.istore 4, 2) := by decide +kernel
theorem dX2_bitsFor_62 : decode cX2_bitsFor 62 = .ok (.iload_n 3, 1) := by decide +kernel
theorem dX2_bitsFor_63 : decode cX2_bitsFor 63 = .ok (.iconst 1, 1) := by decide +kernel
theorem dX2_bitsFor_64 : decode cX2_bitsFor 64 = .ok (.ishr, 1) := by decide +kernel
theorem dX2_bitsFor_65 : decode cX2_bitsFor 65 = .ok (.istore_n 3, 1) := by decide +kernel
theorem dX2_bitsFor_66 : decode cX2_bitsFor 66 = .ok (.iinc 5 1, 3) := by decide +kernel
theorem dX2_bitsFor_69 : decode cX2_bitsFor 69 = .ok (.goto (-38), 3) := by decide +kernel
theorem dX2_bitsFor_72 : decode cX2_bitsFor 72 = .ok (.iload 4, 2) := by decide +kernel
theorem dX2_bitsFor_74 : decode cX2_bitsFor 74 = .ok (.ireturn, 1) := by decide +kernel
theorem dX3_init_0 : decode cX3_init 0 = .ok (.aload_n 0, 1) := by decide +kernel
theorem dX3_init_1 : decode cX3_init 1 = .ok (.invokespecial 3, 3) := by decide +kernel
theorem dX3_init_4 : decode cX3_init 4 = .ok (.aload_n 0, 1) := by decide +kernel
theorem dX3_init_5 : decode cX3_init 5 = .ok (.bipush 40, 2) := by decide +kernel
theorem dX3_init_7 : decode cX3_init 7 = .ok (.newarray .char, 2) := by decide +kernel
theorem dX3_init_9 : decode cX3_init 9 = .ok (.putfield 9, 3) := by decide +kernel
theorem dX3_init_12 : decode cX3_init 12 = .ok (.return_, 1) := by decide +kernel
theorem dX3_clear_0 : decode cX3_clear 0 = .ok (.aload_n 0, 1) := by decide +kernel
theorem dX3_clear_1 : decode cX3_clear 1 = .ok (.iconst 0, 1) := by decide +kernel
theorem dX3_clear_2 : decode cX3_clear 2 = .ok (.putfield 15, 3) := by decide +kernel
theorem dX3_clear_5 : decode cX3_clear 5 = .ok (.aload_n 0, 1) := by decide +kernel
theorem dX3_clear_6 : decode cX3_clear 6 = .ok (.iconst 0, 1) := by decide +kernel
theorem dX3_clear_7 : decode cX3_clear 7 = .ok (.putfield 19, 3) := by decide +kernel
theorem dX3_clear_10 : decode cX3_clear 10 = .ok (.return_, 1) := by decide +kernel
theorem dX3_add_0 : decode cX3_add 0 = .ok (.aload_n 0, 1) := by decide +kernel
theorem dX3_add_1 : decode cX3_add 1 = .ok (.getfield 15, 3) := by decide +kernel
theorem dX3_add_4 : decode cX3_add 4 = .ok (.aload_n 0, 1) := by decide +kernel
theorem dX3_add_5 : decode cX3_add 5 = .ok (.getfield 9, 3) := by decide +kernel
theorem dX3_add_8 : decode cX3_add 8 = .ok (.arraylength, 1) := by decide +kernel
theorem dX3_add_9 : decode cX3_add 9 = .ok (.if_icmp .lt 5, 3) := by decide +kernel
theorem dX3_add_12 : decode cX3_add 12 = .ok (.iconst 0, 1) := by decide +kernel
theorem dX3_add_13 : decode cX3_add 13 = .ok (.ireturn, 1) := by decide +kernel
theorem dX3_add_14 : decode cX3_add 14 = .ok (.aload_n 0, 1) := by decide +kernel
theorem dX3_add_15 : decode cX3_add 15 = .ok (.getfield 9, 3) := by decide +kernel
theorem dX3_add_18 : decode cX3_add 18 = .ok (.aload_n 0, 1) := by decide +kernel
theorem dX3_add_19 : decode cX3_add 19 = .ok (.getfield 15, 3) := by decide +kernel
theorem dX3_add_22 : decode cX3_add 22 = .ok (.iload_n 1, 1) := by decide +kernel
theorem dX3_add_23 : decode cX3_add 23 = .ok (.castore, 1) := by decide +kernel
theorem dX3_add_24 : decode cX3_add 24 = .ok (.aload_n 0, 1) := by decide +kernel
theorem dX3_add_25 : decode cX3_add 25 = .ok (.dup, 1) := by decide +kernel
theorem dX3_add_26 : decode cX3_add 26 = .ok (.getfield 15, 3) := by decide +kernel
theorem dX3_add_29 : decode cX3_add 29 = .ok (.iconst 1, 1) := by decide +kernel
theorem dX3_add_30 : decode cX3_add 30 = .ok (.iadd, 1) := by decide +kernel
theorem dX3_add_31 : decode cX3_add 31 = .ok (.putfield 15, 3) := by decide +kernel
theorem dX3_add_34 : decode cX3_add 34 = .ok (.iconst 1, 1) := by decide +kernel
theorem dX3_add_35 : decode cX3_add 35 = .ok (.ireturn, 1) := by decide +kernel
theorem dX3_addName_0 : decode cX3_addName 0 = .ok (.bipush 24, 2) := by decide +kernel
theorem dX3_addName_2 : decode cX3_addName 2 = .ok (.istore_n 2, 1) := by decide +kernel
theorem dX3_addName_3 : decode cX3_addName 3 = .ok (.iload_n 2, 1) := by decide +kernel
theorem dX3_addName_4 : decode cX3_addName 4 = .ok (.ifCond .lt 28, 3) := by decide +kernel
theorem dX3_addName_7 : decode cX3_addName 7 = .ok (.iload_n 1, 1) := by decide +kernel
theorem dX3_addName_8 : decode cX3_addName 8 = .ok (.iload_n 2, 1) := by decide +kernel
theorem dX3_addName_9 : decode cX3_addName 9 = .ok (.ishr, 1) := by decide +kernel
theorem dX3_addName_10 : decode cX3_addName 10 = .ok (.sipush 255, 3) := by decide +kernel
theorem dX3_addName_13 : decode cX3_addName 13 = .ok (.iand, 1) := by decide +kernel
theorem dX3_addName_14 : decode cX3_addName 14 = .ok (.istore_n 3, 1) := by decide +kernel
theorem dX3_addName_15 : decode cX3_addName 15 = .ok (.iload_n 3, 1) := by decide +kernel
theorem dX3_addName_16 : decode cX3_addName 16 = .ok (.ifCond .eq 10, 3) := by decide +kernel
theorem dX3_addName_19 : decode cX3_addName 19 = .ok (.aload_n 0, 1) := by decide +kernel
theorem dX3_addName_20 : decode cX3_addName 20 = .ok (.iload_n 3, 1) := by decide +kernel
theorem dX3_addName_21 : decode cX3_addName 21 = .ok (.i2c, 1) := by decide +kernel
theorem dX3_addName_22 : decode cX3_addName 22 = .ok (.invokevirtual 22, 3) := by decide +kernel
theorem dX3_addName_25 : decode cX3_addName 25 = .ok (.pop, 1) := by decide +kernel
theorem dX3_addName_26 : decode cX3_addName 26 = .ok (.iinc 2 (-8), 3) := by decide +kernel
theorem dX3_addName_29 : decode cX3_addName 29 = .ok (.goto (-26), 3) := by decide +kernel
theorem dX3_addName_32 : decode cX3_addName 32 = .ok (.return_, 1) := by decide +kernel
theorem dX3_addNumber_0 : decode cX3_addNumber 0 = .ok (.iload_n 1, 1) := by decide +kernel
theorem dX3_addNumber_1 : decode cX3_addNumber 1 = .ok (.ifCond .ge 10, 3) := by decide +kernel
theorem dX3_addNumber_4 : decode cX3_addNumber 4 = .ok (.aload_n 0, 1) := by decide +kernel
theorem dX3_addNumber_5 : decode cX3_addNumber 5 = .ok (.bipush 45, 2) := by decide +kernel
theorem dX3_addNumber_7 : decode cX3_addNumber 7 = .ok (.invokevirtual 22, 3) := by decide +kernel
theorem dX3_addNumber_10 : decode cX3_addNumber 10 = .ok (.pop, 1) := by decide +kernel
theorem dX3_addNumber_11 : decode cX3_addNumber 11 = .ok (.iload_n 1, 1) := by decide +kernel
theorem dX3_addNumber_12 : decode cX3_addNumber 12 = .ok (.ifCond .ge 8, 3) := by decide +kernel
theorem dX3_addNumber_15 : decode cX3_addNumber 15 = .ok (.iload_n 1, 1) := by decide +kernel
theorem dX3_addNumber_16 : decode cX3_addNumber 16 = .ok (.ineg, 1) := by decide +kernel
theorem dX3_addNumber_17 : decode cX3_addNumber 17 = .ok (.goto 4, 3) := by decide +kernel
theorem dX3_addNumber_20 : decode cX3_addNumber 20 = .ok (.iload_n 1, 1) := by decide +kernel
theorem dX3_addNumber_21 : decode cX3_addNumber 21 = .ok (.istore_n 2, 1) := by decide +kernel
theorem dX3_addNumber_22 : decode cX3_addNumber 22 = .ok (.ldc 26, 2) := by decide +kernel
theorem dX3_addNumber_24 : decode cX3_addNumber 24 = .ok (.istore_n 3, 1) := by decide +kernel
theorem dX3_addNumber_25 : decode cX3_addNumber 25 = .ok (.iload_n 3, 1) := by decide +kernel
theorem dX3_addNumber_26 : decode cX3_addNumber 26 = .ok (.iconst 1, 1) := by decide +kernel
theorem dX3_addNumber_27 : decode cX3_addNumber 27 = .ok (.if_icmp .lt 36, 3) := by decide +kernel
theorem dX3_addNumber_30 : decode cX3_addNumber 30 = .ok (.iload_n 2, 1) := by decide +kernel
theorem dX3_addNumber_31 : decode cX3_addNumber 31 = .ok (.iload_n 3, 1) := by decide +kernel
theorem dX3_addNumber_32 : decode cX3_addNumber 32 = .ok (.if_icmp .ge 8, 3) := by decide +kernel
theorem dX3_addNumber_35 : decode cX3_addNumber 35 = .ok (.iload_n 3, 1) := by decide +kernel
theorem dX3_addNumber_36 : decode cX3_addNumber 36 = .ok (.iconst 1, 1) := by decide +kernel
theorem dX3_addNumber_37 : decode cX3_addNumber 37 = .ok (.if_icmp .ne 18, 3) := by decide +kernel
theorem dX3_addNumber_40 : decode cX3_addNumber 40 = .ok (.aload_n 0, 1) := by decide +kernel
theorem dX3_addNumber_41 : decode cX3_addNumber 41 = .ok (.bipush 48, 2) := by decide +kernel
theorem dX3_addNumber_43 : decode cX3_addNumber 43 = .ok (.iload_n 2, 1) := by decide +kernel
theorem dX3_addNumber_44 : decode cX3_addNumber 44 = .ok (.iload_n 3, 1) := by decide +kernel
theorem dX3_addNumber_45 : decode cX3_addNumber 45 = .ok (.idiv, 1) := by decide +kernel
theorem dX3_addNumber_46 : decode cX3_addNumber 46 = .ok (.bipush 10, 2) := by decide +kernel
theorem dX3_addNumber_48 : decode cX3_addNumber 48 = .ok (.irem, 1) := by decide +kernel
theorem dX3_addNumber_49 : decode cX3_addNumber 49 = .ok (.iadd, 1) := by decide +kernel
theorem dX3_addNumber_50 : decode cX3_addNumber 50 = .ok (.i2c, 1) := by decide +kernel
theorem dX3_addNumber_51 : decode cX3_addNumber 51 = .ok (.invokevirtual 22, 3) := by decide +kernel
theorem dX3_addNumber_54 : decode cX3_addNumber 54 = .ok (.pop, 1) := by decide +kernel
theorem dX3_addNumber_55 : decode cX3_addNumber 55 = .ok (.iload_n 3, 1) := by decide +kernel
theorem dX3_addNumber_56 : decode cX3_addNumber 56 = .ok (.bipush 10, 2) := by decide +kernel
theorem dX3_addNumber_58 : decode cX3_addNumber 58 = .ok (.idiv, 1) := by decide +kernel
theorem dX3_addNumber_59 : decode cX3_addNumber 59 = .ok (.istore_n 3, 1) := by decide +kernel
theorem dX3_addNumber_60 : decode cX3_addNumber 60 = .ok (.goto (-35), 3) := by decide +kernel
theorem dX3_addNumber_63 : decode cX3_addNumber 63 = .ok (.return_, 1) := by decide +kernel
theorem dX3_at_0 : decode cX3_at 0 = .ok (.iload_n 1, 1) := by decide +kernel
theorem dX3_at_1 : decode cX3_at 1 = .ok (.ifCond .lt 20, 3) := by decide +kernel
theorem dX3_at_4 : decode cX3_at 4 = .ok (.iload_n 1, 1) := by decide +kernel
theorem dX3_at_5 : decode cX3_at 5 = .ok (.aload_n 0, 1) := by decide +kernel
theorem dX3_at_6 : decode cX3_at 6 = .ok (.getfield 15, 3) := by decide +kernel
theorem dX3_at_9 : decode cX3_at 9 = .ok (.if_icmp .ge 12, 3) := by decide +kernel
theorem dX3_at_12 : decode cX3_at 12 = .ok (.aload_n 0, 1) := by decide +kernel
theorem dX3_at_13 : decode cX3_at 13 = .ok (.getfield 9, 3) := by decide +kernel
theorem dX3_at_16 : decode cX3_at 16 = .ok (.iload_n 1, 1) := by decide +kernel
theorem dX3_at_17 : decode cX3_at 17 = .ok (.caload, 1) := by decide +kernel
theorem dX3_at_18 : decode cX3_at 18 = .ok (.goto 4, 3) := by decide +kernel
theorem dX3_at_21 : decode cX3_at 21 = .ok (.iconst 0, 1) := by decide +kernel
theorem dX3_at_22 : decode cX3_at 22 = .ok (.ireturn, 1) := by decide +kernel
theorem dX3_left_0 : decode cX3_left 0 = .ok (.aload_n 0, 1) := by decide +kernel
theorem dX3_left_1 : decode cX3_left 1 = .ok (.getfield 15, 3) := by decide +kernel
theorem dX3_left_4 : decode cX3_left 4 = .ok (.aload_n 0, 1) := by decide +kernel
theorem dX3_left_5 : decode cX3_left 5 = .ok (.getfield 19, 3) := by decide +kernel
theorem dX3_left_8 : decode cX3_left 8 = .ok (.isub, 1) := by decide +kernel
theorem dX3_left_9 : decode cX3_left 9 = .ok (.ireturn, 1) := by decide +kernel
theorem dX3_nextIsWithin_0 : decode cX3_nextIsWithin 0 = .ok (.aload_n 0, 1) := by decide +kernel
theorem dX3_nextIsWithin_1 : decode cX3_nextIsWithin 1 = .ok (.getfield 19, 3) := by decide +kernel
theorem dX3_nextIsWithin_4 : decode cX3_nextIsWithin 4 = .ok (.aload_n 0, 1) := by decide +kernel
theorem dX3_nextIsWithin_5 : decode cX3_nextIsWithin 5 = .ok (.getfield 15, 3) := by decide +kernel
theorem dX3_nextIsWithin_8 : decode cX3_nextIsWithin 8 = .ok (.if_icmp .ge 33, 3) := by decide +kernel
theorem dX3_nextIsWithin_11 : decode cX3_nextIsWithin 11 = .ok (.aload_n 0, 1) := by decide +kernel
theorem dX3_nextIsWithin_12 : decode cX3_nextIsWithin 12 = .ok (.getfield 9, 3) := by decide +kernel
theorem dX3_nextIsWithin_15 : decode cX3_nextIsWithin 15 = .ok (.aload_n 0, 1) := by decide +kernel
theorem dX3_nextIsWithin_16 : decode cX3_nextIsWithin 16 = .ok (.getfield 19, 3) := by decide +kernel
theorem dX3_nextIsWithin_19 : decode cX3_nextIsWithin 19 = .ok (.caload, 1) := by decide +kernel
theorem dX3_nextIsWithin_20 : decode cX3_nextIsWithin 20 = .ok (.iload_n 1, 1) := by decide +kernel
theorem dX3_nextIsWithin_21 : decode cX3_nextIsWithin 21 = .ok (.if_icmp .lt 20, 3) := by decide +kernel
theorem dX3_nextIsWithin_24 : decode cX3_nextIsWithin 24 = .ok (.aload_n 0, 1) := by decide +kernel
theorem dX3_nextIsWithin_25 : decode cX3_nextIsWithin 25 = .ok (.getfield 9, 3) := by decide +kernel
theorem dX3_nextIsWithin_28 : decode cX3_nextIsWithin 28 = .ok (.aload_n 0, 1) := by decide +kernel
theorem dX3_nextIsWithin_29 : decode cX3_nextIsWithin 29 = .ok (.getfield 19, 3) := by decide +kernel
theorem dX3_nextIsWithin_32 : decode cX3_nextIsWithin 32 = .ok (.caload, 1) := by decide +kernel
theorem dX3_nextIsWithin_33 : decode cX3_nextIsWithin 33 = .ok (.iload_n 2, 1) := by decide +kernel
theorem dX3_nextIsWithin_34 : decode cX3_nextIsWithin 34 = .ok (.if_icmp .gt 7, 3) := by decide +kernel
theorem dX3_nextIsWithin_37 : decode cX3_nextIsWithin 37 = .ok (.iconst 1, 1) := by decide +kernel
theorem dX3_nextIsWithin_38 : decode cX3_nextIsWithin 38 = .ok (.goto 4, 3) := by decide +kernel
theorem dX3_nextIsWithin_41 : decode cX3_nextIsWithin 41 = .ok (.iconst 0, 1) := by decide +kernel
theorem dX3_nextIsWithin_42 : decode cX3_nextIsWithin 42 = .ok (.ireturn, 1) := by decide +kernel
theorem dX3_take_0 : decode cX3_take 0 = .ok (.aload_n 0, 1) := by decide +kernel
theorem dX3_take_1 : decode cX3_take 1 = .ok (.iload_n 1, 1) := by decide +kernel
theorem dX3_take_2 : decode cX3_take 2 = .ok (.iload_n 1, 1) := by decide +kernel
theorem dX3_take_3 : decode cX3_take 3 = .ok (.invokevirtual 27, 3) := by decide +kernel
theorem dX3_take_6 : decode cX3_take 6 = .ok (.ifCond .ne 5, 3) := by decide +kernel
theorem dX3_take_9 : decode cX3_take 9 = .ok (.iconst 0, 1) := by decide +kernel
theorem dX3_take_10 : decode cX3_take 10 = .ok (.ireturn, 1) := by decide +kernel
theorem dX3_take_11 : decode cX3_take 11 = .ok (.aload_n 0, 1) := by decide +kernel
theorem dX3_take_12 : decode cX3_take 12 = .ok (.dup, 1) := by decide +kernel
theorem dX3_take_13 : decode cX3_take 13 = .ok (.getfield 19, 3) := by decide +kernel
theorem dX3_take_16 : decode cX3_take 16 = .ok (.iconst 1, 1) := by decide +kernel
theorem dX3_take_17 : decode cX3_take 17 = .ok (.iadd, 1) := by decide +kernel
theorem dX3_take_18 : decode cX3_take 18 = .ok (.putfield 19, 3) := by decide +kernel
theorem dX3_take_21 : decode cX3_take 21 = .ok (.iconst 1, 1) := by decide +kernel
theorem dX3_take_22 : decode cX3_take 22 = .ok (.ireturn, 1) := by decide +kernel
theorem dX3_takeAny_0 : decode cX3_takeAny 0 = .ok (.aload_n 0, 1) := by decide +kernel
theorem dX3_takeAny_1 : decode cX3_takeAny 1 = .ok (.aload_n 0, 1) := by decide +kernel
theorem dX3_takeAny_2 : decode cX3_takeAny 2 = .ok (.getfield 19, 3) := by decide +kernel
theorem dX3_takeAny_5 : decode cX3_takeAny 5 = .ok (.invokevirtual 31, 3) := by decide +kernel
theorem dX3_takeAny_8 : decode cX3_takeAny 8 = .ok (.istore_n 1, 1) := by decide +kernel
theorem dX3_takeAny_9 : decode cX3_takeAny 9 = .ok (.aload_n 0, 1) := by decide +kernel
theorem dX3_takeAny_10 : decode cX3_takeAny 10 = .ok (.dup, 1) := by decide +kernel
theorem dX3_takeAny_11 : decode cX3_takeAny 11 = .ok (.getfield 19, 3) := by decide +kernel
theorem dX3_takeAny_14 : decode cX3_takeAny 14 = .ok (.iconst 1, 1) := by decide +kernel
theorem dX3_takeAny_15 : decode cX3_takeAny 15 = .ok (.iadd, 1) := by decide +kernel
theorem dX3_takeAny_16 : decode cX3_takeAny 16 = .ok (.putfield 19, 3) := by decide +kernel
theorem dX3_takeAny_19 : decode cX3_takeAny 19 = .ok (.iload_n 1, 1) := by decide +kernel
theorem dX3_takeAny_20 : decode cX3_takeAny 20 = .ok (.ireturn, 1) := by decide +kernel
theorem dX3_takeName_0 : decode cX3_takeName 0 = .ok (.iconst 0, 1) := by decide +kernel
theorem dX3_takeName_1 : decode cX3_takeName 1 = .ok (.istore_n 1, 1) := by decide +kernel
theorem dX3_takeName_2 : decode cX3_takeName 2 = .ok (.iconst 0, 1) := by decide +kernel
theorem dX3_takeName_3 : decode cX3_takeName 3 = .ok (.istore_n 2, 1) := by decide +kernel
theorem dX3_takeName_4 : decode cX3_takeName 4 = .ok (.iload_n 2, 1) := by decide +kernel
theorem dX3_takeName_5 : decode cX3_takeName 5 = .ok (.iconst 4, 1) := by decide +kernel
theorem dX3_takeName_6 : decode cX3_takeName 6 = .ok (.if_icmp .ge 30, 3) := by decide +kernel
theorem dX3_takeName_9 : decode cX3_takeName 9 = .ok (.aload_n 0, 1) := by decide +kernel
theorem dX3_takeName_10 : decode cX3_takeName 10 = .ok (.bipush 97, 2) := by decide +kernel
theorem dX3_takeName_12 : decode cX3_takeName 12 = .ok (.bipush 122, 2) := by decide +kernel
theorem dX3_takeName_14 : decode cX3_takeName 14 = .ok (.invokevirtual 27, 3) := by decide +kernel
theorem dX3_takeName_17 : decode cX3_takeName 17 = .ok (.ifCond .eq 19, 3) := by decide +kernel
theorem dX3_takeName_20 : decode cX3_takeName 20 = .ok (.iload_n 1, 1) := by decide +kernel
theorem dX3_takeName_21 : decode cX3_takeName 21 = .ok (.bipush 8, 2) := by decide +kernel
theorem dX3_takeName_23 : decode cX3_takeName 23 = .ok (.ishl, 1) := by decide +kernel
theorem dX3_takeName_24 : decode cX3_takeName 24 = .ok (.aload_n 0, 1) := by decide +kernel
theorem dX3_takeName_25 : decode cX3_takeName 25 = .ok (.invokevirtual 35, 3) := by decide +kernel
theorem dX3_takeName_28 : decode cX3_takeName 28 = .ok (.ior, 1) := by decide +kernel
theorem dX3_takeName_29 : decode cX3_takeName 29 = .ok (.istore_n 1, 1) := by decide +kernel
theorem dX3_takeName_30 : decode cX3_takeName 30 = .ok (.iinc 2 1, 3) := by decide +kernel
theorem dX3_takeName_33 : decode cX3_takeName 33 = .ok (.goto (-29), 3) := by decide +kernel
theorem dX3_takeName_36 : decode cX3_takeName 36 = .ok (.iload_n 1, 1) := by decide +kernel
theorem dX3_takeName_37 : decode cX3_takeName 37 = .ok (.ireturn, 1) := by decide +kernel
theorem dX3_takeLabel_0 : decode cX3_takeLabel 0 = .ok (.aload_n 0, 1) := by decide +kernel
theorem dX3_takeLabel_1 : decode cX3_takeLabel 1 = .ok (.bipush 65, 2) := by decide +kernel
theorem dX3_takeLabel_3 : decode cX3_takeLabel 3 = .ok (.bipush 70, 2) := by decide +kernel
theorem dX3_takeLabel_5 : decode cX3_takeLabel 5 = .ok (.invokevirtual 27, 3) := by decide +kernel
theorem dX3_takeLabel_8 : decode cX3_takeLabel 8 = .ok (.ifCond .eq 13, 3) := by decide +kernel
theorem dX3_takeLabel_11 : decode cX3_takeLabel 11 = .ok (.aload_n 0, 1) := by decide +kernel
theorem dX3_takeLabel_12 : decode cX3_takeLabel 12 = .ok (.invokevirtual 35, 3) := by decide +kernel
theorem dX3_takeLabel_15 : decode cX3_takeLabel 15 = .ok (.bipush 65, 2) := by decide +kernel
theorem dX3_takeLabel_17 : decode cX3_takeLabel 17 = .ok (.isub, 1) := by decide +kernel
theorem dX3_takeLabel_18 : decode cX3_takeLabel 18 = .ok (.goto 4, 3) := by decide +kernel
theorem dX3_takeLabel_21 : decode cX3_takeLabel 21 = .ok (.iconst (-1), 1) := by decide +kernel
theorem dX3_takeLabel_22 : decode cX3_takeLabel 22 = .ok (.ireturn, 1) := by decide +kernel
theorem dX3_takeDigits_0 : decode cX3_takeDigits 0 = .ok (.aload_n 0, 1) := by decide +kernel
theorem dX3_takeDigits_1 : decode cX3_takeDigits 1 = .ok (.bipush 48, 2) := by decide +kernel
theorem dX3_takeDigits_3 : decode cX3_takeDigits 3 = .ok (.bipush 57, 2) := by decide +kernel
theorem dX3_takeDigits_5 : decode cX3_takeDigits 5 = .ok (.invokevirtual 27, 3) := by decide +kernel
theorem dX3_takeDigits_8 : decode cX3_takeDigits 8 = .ok (.ifCond .ne 5, 3) := by decide +kernel
theorem dX3_takeDigits_11 : decode cX3_takeDigits 11 = .ok (.iconst (-1), 1) := by decide +kernel
theorem dX3_takeDigits_12 : decode cX3_takeDigits 12 = .ok (.ireturn, 1) := by decide +kernel
theorem dX3_takeDigits_13 : decode cX3_takeDigits 13 = .ok (.iconst 0, 1) := by decide +kernel
theorem dX3_takeDigits_14 : decode cX3_takeDigits 14 = .ok (.istore_n 1, 1) := by decide +kernel
theorem dX3_takeDigits_15 : decode cX3_takeDigits 15 = .ok (.iconst 0, 1) := by decide +kernel
theorem dX3_takeDigits_16 : decode cX3_takeDigits 16 = .ok (.istore_n 2, 1) := by decide +kernel
theorem dX3_takeDigits_17 : decode cX3_takeDigits 17 = .ok (.iload_n 2, 1) := by decide +kernel
theorem dX3_takeDigits_18 : decode cX3_takeDigits 18 = .ok (.iconst 5, 1) := by decide +kernel
theorem dX3_takeDigits_19 : decode cX3_takeDigits 19 = .ok (.if_icmp .ge 33, 3) := by decide +kernel
theorem dX3_takeDigits_22 : decode cX3_takeDigits 22 = .ok (.aload_n 0, 1) := by decide +kernel
theorem dX3_takeDigits_23 : decode cX3_takeDigits 23 = .ok (.bipush 48, 2) := by decide +kernel
theorem dX3_takeDigits_25 : decode cX3_takeDigits 25 = .ok (.bipush 57, 2) := by decide +kernel
theorem dX3_takeDigits_27 : decode cX3_takeDigits 27 = .ok (.invokevirtual 27, 3) := by decide +kernel
theorem dX3_takeDigits_30 : decode cX3_takeDigits 30 = .ok (.ifCond .eq 22, 3) := by decide +kernel
theorem dX3_takeDigits_33 : decode cX3_takeDigits 33 = .ok (.iload_n 1, 1) := by decide +kernel
theorem dX3_takeDigits_34 : decode cX3_takeDigits 34 = .ok (.bipush 10, 2) := by decide +kernel
theorem dX3_takeDigits_36 : decode cX3_takeDigits 36 = .ok (.imul, 1) := by decide +kernel
theorem dX3_takeDigits_37 : decode cX3_takeDigits 37 = .ok (.aload_n 0, 1) := by decide +kernel
theorem dX3_takeDigits_38 : decode cX3_takeDigits 38 = .ok (.invokevirtual 35, 3) := by decide +kernel
theorem dX3_takeDigits_41 : decode cX3_takeDigits 41 = .ok (.iadd, 1) := by decide +kernel
theorem dX3_takeDigits_42 : decode cX3_takeDigits 42 = .ok (.bipush 48, 2) := by decide +kernel
theorem dX3_takeDigits_44 : decode cX3_takeDigits 44 = .ok (.isub, 1) := by decide +kernel
theorem dX3_takeDigits_45 : decode cX3_takeDigits 45 = .ok (.istore_n 1, 1) := by decide +kernel
theorem dX3_takeDigits_46 : decode cX3_takeDigits 46 = .ok (.iinc 2 1, 3) := by decide +kernel
theorem dX3_takeDigits_49 : decode cX3_takeDigits 49 = .ok (.goto (-32), 3) := by decide +kernel
theorem dX3_takeDigits_52 : decode cX3_takeDigits 52 = .ok (.iload_n 1, 1) := by decide +kernel
theorem dX3_takeDigits_53 : decode cX3_takeDigits 53 = .ok (.ireturn, 1) := by decide +kernel
theorem dX4_init_0 : decode cX4_init 0 = .ok (.aload_n 0, 1) := by decide +kernel
theorem dX4_init_1 : decode cX4_init 1 = .ok (.invokespecial 1, 3) := by decide +kernel
theorem dX4_init_4 : decode cX4_init 4 = .ok (.aload_n 0, 1) := by decide +kernel
theorem dX4_init_5 : decode cX4_init 5 = .ok (.new 7, 3) := by decide +kernel
theorem dX4_init_8 : decode cX4_init 8 = .ok (.dup, 1) := by decide +kernel
theorem dX4_init_9 : decode cX4_init 9 = .ok (.invokespecial 9, 3) := by decide +kernel
theorem dX4_init_12 : decode cX4_init 12 = .ok (.putfield 10, 3) := by decide +kernel
theorem dX4_init_15 : decode cX4_init 15 = .ok (.aload_n 0, 1) := by decide +kernel
theorem dX4_init_16 : decode cX4_init 16 = .ok (.new 7, 3) := by decide +kernel
theorem dX4_init_19 : decode cX4_init 19 = .ok (.dup, 1) := by decide +kernel
theorem dX4_init_20 : decode cX4_init 20 = .ok (.invokespecial 9, 3) := by decide +kernel
theorem dX4_init_23 : decode cX4_init 23 = .ok (.putfield 16, 3) := by decide +kernel
theorem dX4_init_26 : decode cX4_init 26 = .ok (.aload_n 0, 1) := by decide +kernel
theorem dX4_init_27 : decode cX4_init 27 = .ok (.bipush 64, 2) := by decide +kernel
theorem dX4_init_29 : decode cX4_init 29 = .ok (.newarray .int, 2) := by decide +kernel
theorem dX4_init_31 : decode cX4_init 31 = .ok (.putfield 19, 3) := by decide +kernel
theorem dX4_init_34 : decode cX4_init 34 = .ok (.aload_n 0, 1) := by decide +kernel
theorem dX4_init_35 : decode cX4_init 35 = .ok (.bipush 13, 2) := by decide +kernel
theorem dX4_init_37 : decode cX4_init 37 = .ok (.anewarray 23, 3) := by decide +kernel
theorem dX4_init_40 : decode cX4_init 40 = .ok (.putfield 25, 3) := by decide +kernel
theorem dX4_init_43 : decode cX4_init 43 = .ok (.iconst 0, 1) := by decide +kernel
theorem dX4_init_44 : decode cX4_init 44 = .ok (.istore_n 1, 1) := by decide +kernel
theorem dX4_init_45 : decode cX4_init 45 = .ok (.iload_n 1, 1) := by decide +kernel
theorem dX4_init_46 : decode cX4_init 46 = .ok (.aload_n 0, 1) := by decide +kernel
theorem dX4_init_47 : decode cX4_init 47 = .ok (.getfield 25, 3) := by decide +kernel
theorem dX4_init_50 : decode cX4_init 50 = .ok (.arraylength, 1) := by decide +kernel
theorem dX4_init_51 : decode cX4_init 51 = .ok (.if_icmp .ge 22, 3) := by decide +kernel
theorem dX4_init_54 : decode cX4_init 54 = .ok (.aload_n 0, 1) := by decide +kernel
theorem dX4_init_55 : decode cX4_init 55 = .ok (.getfield 25, 3) := by decide +kernel
theorem dX4_init_58 : decode cX4_init 58 = .ok (.iload_n 1, 1) := by decide +kernel
theorem dX4_init_59 : decode cX4_init 59 = .ok (.new 23, 3) := by decide +kernel
theorem dX4_init_62 : decode cX4_init 62 = .ok (.dup, 1) := by decide +kernel
theorem dX4_init_63 : decode cX4_init 63 = .ok (.invokespecial 29, 3) := by decide +kernel
theorem dX4_init_66 : decode cX4_init 66 = .ok (.aastore, 1) := by decide +kernel
theorem dX4_init_67 : decode cX4_init 67 = .ok (.iinc 1 1, 3) := by decide +kernel
theorem dX4_init_70 : decode cX4_init 70 = .ok (.goto (-25), 3) := by decide +kernel
theorem dX4_init_73 : decode cX4_init 73 = .ok (.aload_n 0, 1) := by decide +kernel
theorem dX4_init_74 : decode cX4_init 74 = .ok (.bipush 21, 2) := by decide +kernel
theorem dX4_init_76 : decode cX4_init 76 = .ok (.anewarray 30, 3) := by decide +kernel
theorem dX4_init_79 : decode cX4_init 79 = .ok (.putfield 32, 3) := by decide +kernel
theorem dX4_init_82 : decode cX4_init 82 = .ok (.iconst 0, 1) := by decide +kernel
theorem dX4_init_83 : decode cX4_init 83 = .ok (.istore_n 1, 1) := by decide +kernel
theorem dX4_init_84 : decode cX4_init 84 = .ok (.iload_n 1, 1) := by decide +kernel
theorem dX4_init_85 : decode cX4_init 85 = .ok (.aload_n 0, 1) := by decide +kernel
theorem dX4_init_86 : decode cX4_init 86 = .ok (.getfield 32, 3) := by decide +kernel
theorem dX4_init_89 : decode cX4_init 89 = .ok (.arraylength, 1) := by decide +kernel
theorem dX4_init_90 : decode cX4_init 90 = .ok (.if_icmp .ge 22, 3) := by decide +kernel
theorem dX4_init_93 : decode cX4_init 93 = .ok (.aload_n 0, 1) := by decide +kernel
theorem dX4_init_94 : decode cX4_init 94 = .ok (.getfield 32, 3) := by decide +kernel
theorem dX4_init_97 : decode cX4_init 97 = .ok (.iload_n 1, 1) := by decide +kernel
theorem dX4_init_98 : decode cX4_init 98 = .ok (.new 30, 3) := by decide +kernel
theorem dX4_init_101 : decode cX4_init 101 = .ok (.dup, 1) := by decide +kernel
theorem dX4_init_102 : decode cX4_init 102 = .ok (.invokespecial 36, 3) := by decide +kernel
theorem dX4_init_105 : decode cX4_init 105 = .ok (.aastore, 1) := by decide +kernel
theorem dX4_init_106 : decode cX4_init 106 = .ok (.iinc 1 1, 3) := by decide +kernel
theorem dX4_init_109 : decode cX4_init 109 = .ok (.goto (-25), 3) := by decide +kernel
theorem dX4_init_112 : decode cX4_init 112 = .ok (.aload_n 0, 1) := by decide +kernel
theorem dX4_init_113 : decode cX4_init 113 = .ok (.iconst (-1), 1) := by decide +kernel
theorem dX4_init_114 : decode cX4_init 114 = .ok (.putfield 37, 3) := by decide +kernel
theorem dX4_init_117 : decode cX4_init 117 = .ok (.return_, 1) := by decide +kernel
theorem dX4_type_0 : decode cX4_type 0 = .ok (.aload_n 0, 1) := by decide +kernel
theorem dX4_type_1 : decode cX4_type 1 = .ok (.getfield 10, 3) := by decide +kernel
theorem dX4_type_4 : decode cX4_type 4 = .ok (.iload_n 1, 1) := by decide +kernel
theorem dX4_type_5 : decode cX4_type 5 = .ok (.invokevirtual 41, 3) := by decide +kernel
theorem dX4_type_8 : decode cX4_type 8 = .ok (.ifCond .eq 13, 3) := by decide +kernel
theorem dX4_type_11 : decode cX4_type 11 = .ok (.aload_n 0, 1) := by decide +kernel
theorem dX4_type_12 : decode cX4_type 12 = .ok (.getfield 10, 3) := by decide +kernel
theorem dX4_type_15 : decode cX4_type 15 = .ok (.getfield 45, 3) := by decide +kernel
theorem dX4_type_18 : decode cX4_type 18 = .ok (.goto 4, 3) := by decide +kernel
theorem dX4_type_21 : decode cX4_type 21 = .ok (.iconst (-1), 1) := by decide +kernel
theorem dX4_type_22 : decode cX4_type 22 = .ok (.ireturn, 1) := by decide +kernel
theorem dX4_form_0 : decode cX4_form 0 = .ok (.aload_n 0, 1) := by decide +kernel
theorem dX4_form_1 : decode cX4_form 1 = .ok (.getfield 25, 3) := by decide +kernel
theorem dX4_form_4 : decode cX4_form 4 = .ok (.bipush 12, 2) := by decide +kernel
theorem dX4_form_6 : decode cX4_form 6 = .ok (.aaload, 1) := by decide +kernel
theorem dX4_form_7 : decode cX4_form 7 = .ok (.astore_n 1, 1) := by decide +kernel
theorem dX4_form_8 : decode cX4_form 8 = .ok (.aload_n 0, 1) := by decide +kernel
theorem dX4_form_9 : decode cX4_form 9 = .ok (.aload_n 1, 1) := by decide +kernel
theorem dX4_form_10 : decode cX4_form 10 = .ok (.invokevirtual 48, 3) := by decide +kernel
theorem dX4_form_13 : decode cX4_form 13 = .ok (.istore_n 2, 1) := by decide +kernel
theorem dX4_form_14 : decode cX4_form 14 = .ok (.aload_n 0, 1) := by decide +kernel
theorem dX4_form_15 : decode cX4_form 15 = .ok (.getfield 10, 3) := by decide +kernel
theorem dX4_form_18 : decode cX4_form 18 = .ok (.invokevirtual 52, 3) := by decide +kernel
theorem dX4_form_21 : decode cX4_form 21 = .ok (.iload_n 2, 1) := by decide +kernel
theorem dX4_form_22 : decode cX4_form 22 = .ok (.ifCond .ne 13, 3) := by decide +kernel
theorem dX4_form_25 : decode cX4_form 25 = .ok (.new 55, 3) := by decide +kernel
theorem dX4_form_28 : decode cX4_form 28 = .ok (.dup, 1) := by decide +kernel
theorem dX4_form_29 : decode cX4_form 29 = .ok (.ldc 57, 2) := by decide +kernel
theorem dX4_form_31 : decode cX4_form 31 = .ok (.invokespecial 59, 3) := by decide +kernel
theorem dX4_form_34 : decode cX4_form 34 = .ok (.athrow, 1) := by decide +kernel
theorem dX4_form_35 : decode cX4_form 35 = .ok (.aload_n 0, 1) := by decide +kernel
theorem dX4_form_36 : decode cX4_form 36 = .ok (.getfield 62, 3) := by decide +kernel
theorem dX4_form_39 : decode cX4_form 39 = .ok (.bipush 12, 2) := by decide +kernel
theorem dX4_form_41 : decode cX4_form 41 = .ok (.if_icmp .lt 13, 3) := by decide +kernel
theorem dX4_form_44 : decode cX4_form 44 = .ok (.new 65, 3) := by decide +kernel
theorem dX4_form_47 : decode cX4_form 47 = .ok (.dup, 1) := by decide +kernel
theorem dX4_form_48 : decode cX4_form 48 = .ok (.ldc 67, 2) := by decide +kernel
theorem dX4_form_50 : decode cX4_form 50 = .ok (.invokespecial 69, 3) := by decide +kernel
theorem dX4_form_53 : decode cX4_form 53 = .ok (.athrow, 1) := by decide +kernel
theorem dX4_form_54 : decode cX4_form 54 = .ok (.aload_n 0, 1) := by decide +kernel
theorem dX4_form_55 : decode cX4_form 55 = .ok (.aload_n 1, 1) := by decide +kernel
theorem dX4_form_56 : decode cX4_form 56 = .ok (.getfield 70, 3) := by decide +kernel
theorem dX4_form_59 : decode cX4_form 59 = .ok (.aload_n 1, 1) := by decide +kernel
theorem dX4_form_60 : decode cX4_form 60 = .ok (.getfield 73, 3) := by decide +kernel
theorem dX4_form_63 : decode cX4_form 63 = .ok (.invokevirtual 76, 3) := by decide +kernel
theorem dX4_form_66 : decode cX4_form 66 = .ok (.iconst (-1), 1) := by decide +kernel
theorem dX4_form_67 : decode cX4_form 67 = .ok (.if_icmp .eq 13, 3) := by decide +kernel
theorem dX4_form_70 : decode cX4_form 70 = .ok (.new 65, 3) := by decide +kernel
theorem dX4_form_73 : decode cX4_form 73 = .ok (.dup, 1) := by decide +kernel
theorem dX4_form_74 : decode cX4_form 74 = .ok (.ldc 80, 2) := by decide +kernel
theorem dX4_form_76 : decode cX4_form 76 = .ok (.invokespecial 69, 3) := by decide +kernel
theorem dX4_form_79 : decode cX4_form 79 = .ok (.athrow, 1) := by decide +kernel
theorem dX4_form_80 : decode cX4_form 80 = .ok (.aload_n 0, 1) := by decide +kernel
theorem dX4_form_81 : decode cX4_form 81 = .ok (.getfield 25, 3) := by decide +kernel
theorem dX4_form_84 : decode cX4_form 84 = .ok (.bipush 12, 2) := by decide +kernel
theorem dX4_form_86 : decode cX4_form 86 = .ok (.aload_n 0, 1) := by decide +kernel
theorem dX4_form_87 : decode cX4_form 87 = .ok (.getfield 25, 3) := by decide +kernel
theorem dX4_form_90 : decode cX4_form 90 = .ok (.aload_n 0, 1) := by decide +kernel
theorem dX4_form_91 : decode cX4_form 91 = .ok (.getfield 62, 3) := by decide +kernel
theorem dX4_form_94 : decode cX4_form 94 = .ok (.aaload, 1) := by decide +kernel
theorem dX4_form_95 : decode cX4_form 95 = .ok (.aastore, 1) := by decide +kernel
theorem dX4_form_96 : decode cX4_form 96 = .ok (.aload_n 0, 1) := by decide +kernel
theorem dX4_form_97 : decode cX4_form 97 = .ok (.getfield 25, 3) := by decide +kernel
theorem dX4_form_100 : decode cX4_form 100 = .ok (.aload_n 0, 1) := by decide +kernel
theorem dX4_form_101 : decode cX4_form 101 = .ok (.getfield 62, 3) := by decide +kernel
theorem dX4_form_104 : decode cX4_form 104 = .ok (.aload_n 1, 1) := by decide +kernel
theorem dX4_form_105 : decode cX4_form 105 = .ok (.aastore, 1) := by decide +kernel
theorem dX4_form_106 : decode cX4_form 106 = .ok (.aload_n 0, 1) := by decide +kernel
theorem dX4_form_107 : decode cX4_form 107 = .ok (.dup, 1) := by decide +kernel
theorem dX4_form_108 : decode cX4_form 108 = .ok (.getfield 62, 3) := by decide +kernel
theorem dX4_form_111 : decode cX4_form 111 = .ok (.iconst 1, 1) := by decide +kernel
theorem dX4_form_112 : decode cX4_form 112 = .ok (.iadd, 1) := by decide +kernel
theorem dX4_form_113 : decode cX4_form 113 = .ok (.putfield 62, 3) := by decide +kernel
theorem dX4_form_116 : decode cX4_form 116 = .ok (.aload_n 0, 1) := by decide +kernel
theorem dX4_form_117 : decode cX4_form 117 = .ok (.iconst 0, 1) := by decide +kernel
theorem dX4_form_118 : decode cX4_form 118 = .ok (.putfield 82, 3) := by decide +kernel
theorem dX4_form_121 : decode cX4_form 121 = .ok (.aload_n 0, 1) := by decide +kernel
theorem dX4_form_122 : decode cX4_form 122 = .ok (.getfield 62, 3) := by decide +kernel
theorem dX4_form_125 : decode cX4_form 125 = .ok (.iconst 1, 1) := by decide +kernel
theorem dX4_form_126 : decode cX4_form 126 = .ok (.isub, 1) := by decide +kernel
theorem dX4_form_127 : decode cX4_form 127 = .ok (.ireturn, 1) := by decide +kernel
theorem dX4_operand_0 : decode cX4_operand 0 = .ok (.iload_n 1, 1) := by decide +kernel
theorem dX4_operand_1 : decode cX4_operand 1 = .ok (.ifCond .lt 11, 3) := by decide +kernel
theorem dX4_operand_4 : decode cX4_operand 4 = .ok (.iload_n 1, 1) := by decide +kernel
theorem dX4_operand_5 : decode cX4_operand 5 = .ok (.aload_n 0, 1) := by decide +kernel
theorem dX4_operand_6 : decode cX4_operand 6 = .ok (.getfield 62, 3) := by decide +kernel
theorem dX4_operand_9 : decode cX4_operand 9 = .ok (.if_icmp .lt 13, 3) := by decide +kernel
theorem dX4_operand_12 : decode cX4_operand 12 = .ok (.new 55, 3) := by decide +kernel
theorem dX4_operand_15 : decode cX4_operand 15 = .ok (.dup, 1) := by decide +kernel
theorem dX4_operand_16 : decode cX4_operand 16 = .ok (.ldc 86, 2) := by decide +kernel
theorem dX4_operand_18 : decode cX4_operand 18 = .ok (.invokespecial 59, 3) := by decide +kernel
theorem dX4_operand_21 : decode cX4_operand 21 = .ok (.athrow, 1) := by decide +kernel
theorem dX4_operand_22 : decode cX4_operand 22 = .ok (.iload_n 2, 1) := by decide +kernel
theorem dX4_operand_23 : decode cX4_operand 23 = .ok (.ifCond .lt 16, 3) := by decide +kernel
theorem dX4_operand_26 : decode cX4_operand 26 = .ok (.iload_n 2, 1) := by decide +kernel
theorem dX4_operand_27 : decode cX4_operand 27 = .ok (.aload_n 0, 1) := by decide +kernel
theorem dX4_operand_28 : decode cX4_operand 28 = .ok (.getfield 25, 3) := by decide +kernel
theorem dX4_operand_31 : decode cX4_operand 31 = .ok (.iload_n 1, 1) := by decide +kernel
theorem dX4_operand_32 : decode cX4_operand 32 = .ok (.aaload, 1) := by decide +kernel
theorem dX4_operand_33 : decode cX4_operand 33 = .ok (.getfield 73, 3) := by decide +kernel
theorem dX4_operand_36 : decode cX4_operand 36 = .ok (.if_icmp .lt 13, 3) := by decide +kernel
theorem dX4_operand_39 : decode cX4_operand 39 = .ok (.new 55, 3) := by decide +kernel
theorem dX4_operand_42 : decode cX4_operand 42 = .ok (.dup, 1) := by decide +kernel
theorem dX4_operand_43 : decode cX4_operand 43 = .ok (.ldc 88, 2) := by decide +kernel
theorem dX4_operand_45 : decode cX4_operand 45 = .ok (.invokespecial 59, 3) := by decide +kernel
theorem dX4_operand_48 : decode cX4_operand 48 = .ok (.athrow, 1) := by decide +kernel
theorem dX4_operand_49 : decode cX4_operand 49 = .ok (.iload_n 3, 1) := by decide +kernel
theorem dX4_operand_50 : decode cX4_operand 50 = .ok (.ifCond .lt 8, 3) := by decide +kernel
theorem dX4_operand_53 : decode cX4_operand 53 = .ok (.iload_n 3, 1) := by decide +kernel
theorem dX4_operand_54 : decode cX4_operand 54 = .ok (.iconst 2, 1) := by decide +kernel
theorem dX4_operand_55 : decode cX4_operand 55 = .ok (.if_icmp .le 13, 3) := by decide +kernel
theorem dX4_operand_58 : decode cX4_operand 58 = .ok (.new 55, 3) := by decide +kernel
theorem dX4_operand_61 : decode cX4_operand 61 = .ok (.dup, 1) := by decide +kernel
theorem dX4_operand_62 : decode cX4_operand 62 = .ok (.ldc 90, 2) := by decide +kernel
theorem dX4_operand_64 : decode cX4_operand 64 = .ok (.invokespecial 59, 3) := by decide +kernel
theorem dX4_operand_67 : decode cX4_operand 67 = .ok (.athrow, 1) := by decide +kernel
theorem dX4_operand_68 : decode cX4_operand 68 = .ok (.iload 4, 2) := by decide +kernel
theorem dX4_operand_70 : decode cX4_operand 70 = .ok (.iconst 1, 1) := by decide +kernel
theorem dX4_operand_71 : decode cX4_operand 71 = .ok (.if_icmp .lt 10, 3) := by decide +kernel
theorem dX4_operand_74 : decode cX4_operand 74 = .ok (.iload 4, 2) := by decide +kernel
theorem dX4_operand_76 : decode cX4_operand 76 = .ok (.bipush 8, 2) := by decide +kernel
theorem dX4_operand_78 : decode cX4_operand 78 = .ok (.if_icmp .le 13, 3) := by decide +kernel
theorem dX4_operand_81 : decode cX4_operand 81 = .ok (.new 55, 3) := by decide +kernel
theorem dX4_operand_84 : decode cX4_operand 84 = .ok (.dup, 1) := by decide +kernel
theorem dX4_operand_85 : decode cX4_operand 85 = .ok (.ldc 92, 2) := by decide +kernel
theorem dX4_operand_87 : decode cX4_operand 87 = .ok (.invokespecial 59, 3) := by decide +kernel
theorem dX4_operand_90 : decode cX4_operand 90 = .ok (.athrow, 1) := by decide +kernel
theorem dX4_operand_91 : decode cX4_operand 91 = .ok (.iload 5, 2) := by decide +kernel
theorem dX4_operand_93 : decode cX4_operand 93 = .ok (.bipush (-100), 2) := by decide +kernel
theorem dX4_operand_95 : decode cX4_operand 95 = .ok (.if_icmp .lt 10, 3) := by decide +kernel
theorem dX4_operand_98 : decode cX4_operand 98 = .ok (.iload 5, 2) := by decide +kernel
theorem dX4_operand_100 : decode cX4_operand 100 = .ok (.bipush 100, 2) := by decide +kernel
theorem dX4_operand_102 : decode cX4_operand 102 = .ok (.if_icmp .le 13, 3) := by decide +kernel
theorem dX4_operand_105 : decode cX4_operand 105 = .ok (.new 55, 3) := by decide +kernel
theorem dX4_operand_108 : decode cX4_operand 108 = .ok (.dup, 1) := by decide +kernel
theorem dX4_operand_109 : decode cX4_operand 109 = .ok (.ldc 94, 2) := by decide +kernel
theorem dX4_operand_111 : decode cX4_operand 111 = .ok (.invokespecial 59, 3) := by decide +kernel
theorem dX4_operand_114 : decode cX4_operand 114 = .ok (.athrow, 1) := by decide +kernel
theorem dX4_operand_115 : decode cX4_operand 115 = .ok (.aload_n 0, 1) := by decide +kernel
theorem dX4_operand_116 : decode cX4_operand 116 = .ok (.getfield 25, 3) := by decide +kernel
theorem dX4_operand_119 : decode cX4_operand 119 = .ok (.iload_n 1, 1) := by decide +kernel
theorem dX4_operand_120 : decode cX4_operand 120 = .ok (.aaload, 1) := by decide +kernel
theorem dX4_operand_121 : decode cX4_operand 121 = .ok (.getfield 96, 3) := by decide +kernel
theorem dX4_operand_124 : decode cX4_operand 124 = .ok (.iload_n 2, 1) := by decide +kernel
theorem dX4_operand_125 : decode cX4_operand 125 = .ok (.aaload, 1) := by decide +kernel
theorem dX4_operand_126 : decode cX4_operand 126 = .ok (.astore 6, 2) := by decide +kernel
theorem dX4_operand_128 : decode cX4_operand 128 = .ok (.aload 6, 2) := by decide +kernel
theorem dX4_operand_130 : decode cX4_operand 130 = .ok (.iload_n 3, 1) := by decide +kernel
theorem dX4_operand_131 : decode cX4_operand 131 = .ok (.putfield 100, 3) := by decide +kernel
theorem dX4_operand_134 : decode cX4_operand 134 = .ok (.aload 6, 2) := by decide +kernel
theorem dX4_operand_136 : decode cX4_operand 136 = .ok (.iload 4, 2) := by decide +kernel
theorem dX4_operand_138 : decode cX4_operand 138 = .ok (.putfield 105, 3) := by decide +kernel
theorem dX4_operand_141 : decode cX4_operand 141 = .ok (.aload 6, 2) := by decide +kernel
theorem dX4_operand_143 : decode cX4_operand 143 = .ok (.iload 5, 2) := by decide +kernel
theorem dX4_operand_145 : decode cX4_operand 145 = .ok (.putfield 108, 3) := by decide +kernel
theorem dX4_operand_148 : decode cX4_operand 148 = .ok (.aload 6, 2) := by decide +kernel
theorem dX4_operand_150 : decode cX4_operand 150 = .ok (.getfield 111, 3) := by decide +kernel
theorem dX4_operand_153 : decode cX4_operand 153 = .ok (.ireturn, 1) := by decide +kernel
theorem dX4_test_0 : decode cX4_test 0 = .ok (.aload_n 0, 1) := by decide +kernel
theorem dX4_test_1 : decode cX4_test 1 = .ok (.iconst 0, 1) := by decide +kernel
theorem dX4_test_2 : decode cX4_test 2 = .ok (.putfield 82, 3) := by decide +kernel
theorem dX4_test_5 : decode cX4_test 5 = .ok (.iconst 0, 1) := by decide +kernel
theorem dX4_test_6 : decode cX4_test 6 = .ok (.istore_n 1, 1) := by decide +kernel
theorem dX4_test_7 : decode cX4_test 7 = .ok (.iload_n 1, 1) := by decide +kernel
theorem dX4_test_8 : decode cX4_test 8 = .ok (.aload_n 0, 1) := by decide +kernel
theorem dX4_test_9 : decode cX4_test 9 = .ok (.getfield 62, 3) := by decide +kernel
theorem dX4_test_12 : decode cX4_test 12 = .ok (.if_icmp .ge 54, 3) := by decide +kernel
theorem dX4_test_15 : decode cX4_test 15 = .ok (.iload_n 1, 1) := by decide +kernel
theorem dX4_test_16 : decode cX4_test 16 = .ok (.iconst 1, 1) := by decide +kernel
theorem dX4_test_17 : decode cX4_test 17 = .ok (.iadd, 1) := by decide +kernel
theorem dX4_test_18 : decode cX4_test 18 = .ok (.istore_n 2, 1) := by decide +kernel
theorem dX4_test_19 : decode cX4_test 19 = .ok (.iload_n 2, 1) := by decide +kernel
theorem dX4_test_20 : decode cX4_test 20 = .ok (.aload_n 0, 1) := by decide +kernel
theorem dX4_test_21 : decode cX4_test 21 = .ok (.getfield 62, 3) := by decide +kernel
theorem dX4_test_24 : decode cX4_test 24 = .ok (.if_icmp .ge 36, 3) := by decide +kernel
theorem dX4_test_27 : decode cX4_test 27 = .ok (.aload_n 0, 1) := by decide +kernel
theorem dX4_test_28 : decode cX4_test 28 = .ok (.getfield 25, 3) := by decide +kernel
theorem dX4_test_31 : decode cX4_test 31 = .ok (.iload_n 1, 1) := by decide +kernel
theorem dX4_test_32 : decode cX4_test 32 = .ok (.aaload, 1) := by decide +kernel
theorem dX4_test_33 : decode cX4_test 33 = .ok (.aload_n 0, 1) := by decide +kernel
theorem dX4_test_34 : decode cX4_test 34 = .ok (.getfield 25, 3) := by decide +kernel
theorem dX4_test_37 : decode cX4_test 37 = .ok (.iload_n 2, 1) := by decide +kernel
theorem dX4_test_38 : decode cX4_test 38 = .ok (.aaload, 1) := by decide +kernel
theorem dX4_test_39 : decode cX4_test 39 = .ok (.invokevirtual 114, 3) := by decide +kernel
theorem dX4_test_42 : decode cX4_test 42 = .ok (.ifCond .eq 12, 3) := by decide +kernel
theorem dX4_test_45 : decode cX4_test 45 = .ok (.iconst 1, 1) := by decide +kernel
theorem dX4_test_46 : decode cX4_test 46 = .ok (.bipush 16, 2) := by decide +kernel
theorem dX4_test_48 : decode cX4_test 48 = .ok (.iload_n 1, 1) := by decide +kernel
theorem dX4_test_49 : decode cX4_test 49 = .ok (.imul, 1) := by decide +kernel
theorem dX4_test_50 : decode cX4_test 50 = .ok (.iadd, 1) := by decide +kernel
theorem dX4_test_51 : decode cX4_test 51 = .ok (.iload_n 2, 1) := by decide +kernel
theorem dX4_test_52 : decode cX4_test 52 = .ok (.iadd, 1) := by decide +kernel
theorem dX4_test_53 : decode cX4_test 53 = .ok (.ireturn, 1) := by decide +kernel
theorem dX4_test_54 : decode cX4_test 54 = .ok (.iinc 2 1, 3) := by decide +kernel
theorem dX4_test_57 : decode cX4_test 57 = .ok (.goto (-38), 3) := by decide +kernel
theorem dX4_test_60 : decode cX4_test 60 = .ok (.iinc 1 1, 3) := by decide +kernel
theorem dX4_test_63 : decode cX4_test 63 = .ok (.goto (-56), 3) := by decide +kernel
theorem dX4_test_66 : decode cX4_test 66 = .ok (.aload_n 0, 1) := by decide +kernel
theorem dX4_test_67 : decode cX4_test 67 = .ok (.iconst 1, 1) := by decide +kernel
theorem dX4_test_68 : decode cX4_test 68 = .ok (.putfield 82, 3) := by decide +kernel
theorem dX4_test_71 : decode cX4_test 71 = .ok (.iconst 0, 1) := by decide +kernel
theorem dX4_test_72 : decode cX4_test 72 = .ok (.ireturn, 1) := by decide +kernel
theorem dX4_poke_0 : decode cX4_poke 0 = .ok (.aload_n 0, 1) := by decide +kernel
theorem dX4_poke_1 : decode cX4_poke 1 = .ok (.iload_n 1, 1) := by decide +kernel
theorem dX4_poke_2 : decode cX4_poke 2 = .ok (.invokevirtual 117, 3) := by decide +kernel
theorem dX4_poke_5 : decode cX4_poke 5 = .ok (.aload_n 0, 1) := by decide +kernel
theorem dX4_poke_6 : decode cX4_poke 6 = .ok (.getfield 19, 3) := by decide +kernel
theorem dX4_poke_9 : decode cX4_poke 9 = .ok (.iload_n 1, 1) := by decide +kernel
theorem dX4_poke_10 : decode cX4_poke 10 = .ok (.iaload, 1) := by decide +kernel
theorem dX4_poke_11 : decode cX4_poke 11 = .ok (.istore_n 3, 1) := by decide +kernel
theorem dX4_poke_12 : decode cX4_poke 12 = .ok (.aload_n 0, 1) := by decide +kernel
theorem dX4_poke_13 : decode cX4_poke 13 = .ok (.getfield 19, 3) := by decide +kernel
theorem dX4_poke_16 : decode cX4_poke 16 = .ok (.iload_n 1, 1) := by decide +kernel
theorem dX4_poke_17 : decode cX4_poke 17 = .ok (.iload_n 2, 1) := by decide +kernel
theorem dX4_poke_18 : decode cX4_poke 18 = .ok (.sipush 255, 3) := by decide +kernel
theorem dX4_poke_21 : decode cX4_poke 21 = .ok (.iand, 1) := by decide +kernel
theorem dX4_poke_22 : decode cX4_poke 22 = .ok (.iastore, 1) := by decide +kernel
theorem dX4_poke_23 : decode cX4_poke 23 = .ok (.iload_n 3, 1) := by decide +kernel
theorem dX4_poke_24 : decode cX4_poke 24 = .ok (.ireturn, 1) := by decide +kernel
theorem dX4_peek_0 : decode cX4_peek 0 = .ok (.aload_n 0, 1) := by decide +kernel
theorem dX4_peek_1 : decode cX4_peek 1 = .ok (.iload_n 1, 1) := by decide +kernel
theorem dX4_peek_2 : decode cX4_peek 2 = .ok (.invokevirtual 117, 3) := by decide +kernel
theorem dX4_peek_5 : decode cX4_peek 5 = .ok (.aload_n 0, 1) := by decide +kernel
theorem dX4_peek_6 : decode cX4_peek 6 = .ok (.getfield 19, 3) := by decide +kernel
theorem dX4_peek_9 : decode cX4_peek 9 = .ok (.iload_n 1, 1) := by decide +kernel
theorem dX4_peek_10 : decode cX4_peek 10 = .ok (.iaload, 1) := by decide +kernel
theorem dX4_peek_11 : decode cX4_peek 11 = .ok (.ireturn, 1) := by decide +kernel
theorem dX4_decode_0 : decode cX4_decode 0 = .ok (.aload_n 0, 1) := by decide +kernel
theorem dX4_decode_1 : decode cX4_decode 1 = .ok (.invokevirtual 121, 3) := by decide +kernel
theorem dX4_decode_4 : decode cX4_decode 4 = .ok (.aload_n 0, 1) := by decide +kernel
theorem dX4_decode_5 : decode cX4_decode 5 = .ok (.iload_n 1, 1) := by decide +kernel
theorem dX4_decode_6 : decode cX4_decode 6 = .ok (.invokevirtual 117, 3) := by decide +kernel
theorem dX4_decode_9 : decode cX4_decode 9 = .ok (.aload_n 0, 1) := by decide +kernel
theorem dX4_decode_10 : decode cX4_decode 10 = .ok (.iload_n 1, 1) := by decide +kernel
theorem dX4_decode_11 : decode cX4_decode 11 = .ok (.invokevirtual 124, 3) := by decide +kernel
theorem dX4_decode_14 : decode cX4_decode 14 = .ok (.ireturn, 1) := by decide +kernel
theorem dX4_value_0 : decode cX4_value 0 = .ok (.aload_n 0, 1) := by decide +kernel
theorem dX4_value_1 : decode cX4_value 1 = .ok (.invokevirtual 121, 3) := by decide +kernel
theorem dX4_value_4 : decode cX4_value 4 = .ok (.aload_n 0, 1) := by decide +kernel
theorem dX4_value_5 : decode cX4_value 5 = .ok (.iload_n 1, 1) := by decide +kernel
theorem dX4_value_6 : decode cX4_value 6 = .ok (.invokevirtual 117, 3) := by decide +kernel
theorem dX4_value_9 : decode cX4_value 9 = .ok (.aload_n 0, 1) := by decide +kernel
theorem dX4_value_10 : decode cX4_value 10 = .ok (.iload_n 1, 1) := by decide +kernel
theorem dX4_value_11 : decode cX4_value 11 = .ok (.invokevirtual 124, 3) := by decide +kernel
theorem dX4_value_14 : decode cX4_value 14 = .ok (.istore_n 3, 1) := by decide +kernel
theorem dX4_value_15 : decode cX4_value 15 = .ok (.iload_n 3, 1) := by decide +kernel
theorem dX4_value_16 : decode cX4_value 16 = .ok (.iconst (-1), 1) := by decide +kernel
theorem dX4_value_17 : decode cX4_value 17 = .ok (.if_icmp .ne 13, 3) := by decide +kernel
theorem dX4_value_20 : decode cX4_value 20 = .ok (.new 128, 3) := by decide +kernel
theorem dX4_value_23 : decode cX4_value 23 = .ok (.dup, 1) := by decide +kernel
theorem dX4_value_24 : decode cX4_value 24 = .ok (.ldc 130, 2) := by decide +kernel
theorem dX4_value_26 : decode cX4_value 26 = .ok (.invokespecial 132, 3) := by decide +kernel
theorem dX4_value_29 : decode cX4_value 29 = .ok (.athrow, 1) := by decide +kernel
theorem dX4_value_30 : decode cX4_value 30 = .ok (.iload_n 2, 1) := by decide +kernel
theorem dX4_value_31 : decode cX4_value 31 = .ok (.ifCond .lt 16, 3) := by decide +kernel
theorem dX4_value_34 : decode cX4_value 34 = .ok (.iload_n 2, 1) := by decide +kernel
theorem dX4_value_35 : decode cX4_value 35 = .ok (.aload_n 0, 1) := by decide +kernel
theorem dX4_value_36 : decode cX4_value 36 = .ok (.getfield 25, 3) := by decide +kernel
theorem dX4_value_39 : decode cX4_value 39 = .ok (.iload_n 3, 1) := by decide +kernel
theorem dX4_value_40 : decode cX4_value 40 = .ok (.aaload, 1) := by decide +kernel
theorem dX4_value_41 : decode cX4_value 41 = .ok (.getfield 73, 3) := by decide +kernel
theorem dX4_value_44 : decode cX4_value 44 = .ok (.if_icmp .lt 13, 3) := by decide +kernel
theorem dX4_value_47 : decode cX4_value 47 = .ok (.new 128, 3) := by decide +kernel
theorem dX4_value_50 : decode cX4_value 50 = .ok (.dup, 1) := by decide +kernel
theorem dX4_value_51 : decode cX4_value 51 = .ok (.ldc 88, 2) := by decide +kernel
theorem dX4_value_53 : decode cX4_value 53 = .ok (.invokespecial 132, 3) := by decide +kernel
theorem dX4_value_56 : decode cX4_value 56 = .ok (.athrow, 1) := by decide +kernel
theorem dX4_value_57 : decode cX4_value 57 = .ok (.aload_n 0, 1) := by decide +kernel
theorem dX4_value_58 : decode cX4_value 58 = .ok (.iload_n 1, 1) := by decide +kernel
theorem dX4_value_59 : decode cX4_value 59 = .ok (.aload_n 0, 1) := by decide +kernel
theorem dX4_value_60 : decode cX4_value 60 = .ok (.getfield 25, 3) := by decide +kernel
theorem dX4_value_63 : decode cX4_value 63 = .ok (.iload_n 3, 1) := by decide +kernel
theorem dX4_value_64 : decode cX4_value 64 = .ok (.aaload, 1) := by decide +kernel
theorem dX4_value_65 : decode cX4_value 65 = .ok (.iload_n 2, 1) := by decide +kernel
theorem dX4_value_66 : decode cX4_value 66 = .ok (.invokevirtual 133, 3) := by decide +kernel
theorem dX4_value_69 : decode cX4_value 69 = .ok (.ireturn, 1) := by decide +kernel
theorem dX4_write_0 : decode cX4_write 0 = .ok (.aload_n 0, 1) := by decide +kernel
theorem dX4_write_1 : decode cX4_write 1 = .ok (.invokevirtual 121, 3) := by decide +kernel
theorem dX4_write_4 : decode cX4_write 4 = .ok (.aload_n 0, 1) := by decide +kernel
theorem dX4_write_5 : decode cX4_write 5 = .ok (.iload_n 1, 1) := by decide +kernel
theorem dX4_write_6 : decode cX4_write 6 = .ok (.invokevirtual 117, 3) := by decide +kernel
theorem dX4_write_9 : decode cX4_write 9 = .ok (.aload_n 0, 1) := by decide +kernel
theorem dX4_write_10 : decode cX4_write 10 = .ok (.iload_n 1, 1) := by decide +kernel
theorem dX4_write_11 : decode cX4_write 11 = .ok (.invokevirtual 124, 3) := by decide +kernel
theorem dX4_write_14 : decode cX4_write 14 = .ok (.istore_n 2, 1) := by decide +kernel
theorem dX4_write_15 : decode cX4_write 15 = .ok (.aload_n 0, 1) := by decide +kernel
theorem dX4_write_16 : decode cX4_write 16 = .ok (.getfield 16, 3) := by decide +kernel
theorem dX4_write_19 : decode cX4_write 19 = .ok (.invokevirtual 52, 3) := by decide +kernel
theorem dX4_write_22 : decode cX4_write 22 = .ok (.iload_n 2, 1) := by decide +kernel
theorem dX4_write_23 : decode cX4_write 23 = .ok (.iconst (-1), 1) := by decide +kernel
theorem dX4_write_24 : decode cX4_write 24 = .ok (.if_icmp .ne 16, 3) := by decide +kernel
theorem dX4_write_27 : decode cX4_write 27 = .ok (.aload_n 0, 1) := by decide +kernel
theorem dX4_write_28 : decode cX4_write 28 = .ok (.getfield 16, 3) := by decide +kernel
theorem dX4_write_31 : decode cX4_write 31 = .ok (.bipush 63, 2) := by decide +kernel
theorem dX4_write_33 : decode cX4_write 33 = .ok (.invokevirtual 41, 3) := by decide +kernel
theorem dX4_write_36 : decode cX4_write 36 = .ok (.pop, 1) := by decide +kernel
theorem dX4_write_37 : decode cX4_write 37 = .ok (.goto 14, 3) := by decide +kernel
theorem dX4_write_40 : decode cX4_write 40 = .ok (.aload_n 0, 1) := by decide +kernel
theorem dX4_write_41 : decode cX4_write 41 = .ok (.iload_n 1, 1) := by decide +kernel
theorem dX4_write_42 : decode cX4_write 42 = .ok (.aload_n 0, 1) := by decide +kernel
theorem dX4_write_43 : decode cX4_write 43 = .ok (.getfield 25, 3) := by decide +kernel
theorem dX4_write_46 : decode cX4_write 46 = .ok (.iload_n 2, 1) := by decide +kernel
theorem dX4_write_47 : decode cX4_write 47 = .ok (.aaload, 1) := by decide +kernel
theorem dX4_write_48 : decode cX4_write 48 = .ok (.invokevirtual 137, 3) := by decide +kernel
theorem dX4_write_51 : decode cX4_write 51 = .ok (.aload_n 0, 1) := by decide +kernel
theorem dX4_write_52 : decode cX4_write 52 = .ok (.getfield 16, 3) := by decide +kernel
theorem dX4_write_55 : decode cX4_write 55 = .ok (.getfield 45, 3) := by decide +kernel
theorem dX4_write_58 : decode cX4_write 58 = .ok (.ireturn, 1) := by decide +kernel
theorem dX4_written_0 : decode cX4_written 0 = .ok (.aload_n 0, 1) := by decide +kernel
theorem dX4_written_1 : decode cX4_written 1 = .ok (.getfield 16, 3) := by decide +kernel
theorem dX4_written_4 : decode cX4_written 4 = .ok (.iload_n 1, 1) := by decide +kernel
theorem dX4_written_5 : decode cX4_written 5 = .ok (.invokevirtual 141, 3) := by decide +kernel
theorem dX4_written_8 : decode cX4_written 8 = .ok (.ireturn, 1) := by decide +kernel
theorem dX4_line_0 : decode cX4_line 0 = .ok (.aload_n 0, 1) := by decide +kernel
theorem dX4_line_1 : decode cX4_line 1 = .ok (.getfield 32, 3) := by decide +kernel
theorem dX4_line_4 : decode cX4_line 4 = .ok (.bipush 20, 2) := by decide +kernel
theorem dX4_line_6 : decode cX4_line 6 = .ok (.aaload, 1) := by decide +kernel
theorem dX4_line_7 : decode cX4_line 7 = .ok (.astore_n 1, 1) := by decide +kernel
theorem dX4_line_8 : decode cX4_line 8 = .ok (.aload_n 0, 1) := by decide +kernel
theorem dX4_line_9 : decode cX4_line 9 = .ok (.aload_n 1, 1) := by decide +kernel
theorem dX4_line_10 : decode cX4_line 10 = .ok (.invokevirtual 145, 3) := by decide +kernel
theorem dX4_line_13 : decode cX4_line 13 = .ok (.istore_n 2, 1) := by decide +kernel
theorem dX4_line_14 : decode cX4_line 14 = .ok (.aload_n 0, 1) := by decide +kernel
theorem dX4_line_15 : decode cX4_line 15 = .ok (.getfield 10, 3) := by decide +kernel
theorem dX4_line_18 : decode cX4_line 18 = .ok (.invokevirtual 52, 3) := by decide +kernel
theorem dX4_line_21 : decode cX4_line 21 = .ok (.iload_n 2, 1) := by decide +kernel
theorem dX4_line_22 : decode cX4_line 22 = .ok (.ifCond .ne 13, 3) := by decide +kernel
theorem dX4_line_25 : decode cX4_line 25 = .ok (.new 55, 3) := by decide +kernel
theorem dX4_line_28 : decode cX4_line 28 = .ok (.dup, 1) := by decide +kernel
theorem dX4_line_29 : decode cX4_line 29 = .ok (.ldc 149, 2) := by decide +kernel
theorem dX4_line_31 : decode cX4_line 31 = .ok (.invokespecial 59, 3) := by decide +kernel
theorem dX4_line_34 : decode cX4_line 34 = .ok (.athrow, 1) := by decide +kernel
theorem dX4_line_35 : decode cX4_line 35 = .ok (.aload_n 1, 1) := by decide +kernel
theorem dX4_line_36 : decode cX4_line 36 = .ok (.getfield 151, 3) := by decide +kernel
theorem dX4_line_39 : decode cX4_line 39 = .ok (.iconst (-1), 1) := by decide +kernel
theorem dX4_line_40 : decode cX4_line 40 = .ok (.if_icmp .eq 25, 3) := by decide +kernel
theorem dX4_line_43 : decode cX4_line 43 = .ok (.aload_n 0, 1) := by decide +kernel
theorem dX4_line_44 : decode cX4_line 44 = .ok (.aload_n 1, 1) := by decide +kernel
theorem dX4_line_45 : decode cX4_line 45 = .ok (.getfield 151, 3) := by decide +kernel
theorem dX4_line_48 : decode cX4_line 48 = .ok (.invokevirtual 154, 3) := by decide +kernel
theorem dX4_line_51 : decode cX4_line 51 = .ok (.iconst (-1), 1) := by decide +kernel
theorem dX4_line_52 : decode cX4_line 52 = .ok (.if_icmp .eq 13, 3) := by decide +kernel
theorem dX4_line_55 : decode cX4_line 55 = .ok (.new 55, 3) := by decide +kernel
theorem dX4_line_58 : decode cX4_line 58 = .ok (.dup, 1) := by decide +kernel
theorem dX4_line_59 : decode cX4_line 59 = .ok (.ldc 157, 2) := by decide +kernel
theorem dX4_line_61 : decode cX4_line 61 = .ok (.invokespecial 59, 3) := by decide +kernel
theorem dX4_line_64 : decode cX4_line 64 = .ok (.athrow, 1) := by decide +kernel
theorem dX4_line_65 : decode cX4_line 65 = .ok (.aload_n 0, 1) := by decide +kernel
theorem dX4_line_66 : decode cX4_line 66 = .ok (.getfield 159, 3) := by decide +kernel
theorem dX4_line_69 : decode cX4_line 69 = .ok (.bipush 20, 2) := by decide +kernel
theorem dX4_line_71 : decode cX4_line 71 = .ok (.if_icmp .lt 13, 3) := by decide +kernel
theorem dX4_line_74 : decode cX4_line 74 = .ok (.new 65, 3) := by decide +kernel
theorem dX4_line_77 : decode cX4_line 77 = .ok (.dup, 1) := by decide +kernel
theorem dX4_line_78 : decode cX4_line 78 = .ok (.ldc 162, 2) := by decide +kernel
theorem dX4_line_80 : decode cX4_line 80 = .ok (.invokespecial 69, 3) := by decide +kernel
theorem dX4_line_83 : decode cX4_line 83 = .ok (.athrow, 1) := by decide +kernel
theorem dX4_line_84 : decode cX4_line 84 = .ok (.aload_n 0, 1) := by decide +kernel
theorem dX4_line_85 : decode cX4_line 85 = .ok (.getfield 32, 3) := by decide +kernel
theorem dX4_line_88 : decode cX4_line 88 = .ok (.bipush 20, 2) := by decide +kernel
theorem dX4_line_90 : decode cX4_line 90 = .ok (.aload_n 0, 1) := by decide +kernel
theorem dX4_line_91 : decode cX4_line 91 = .ok (.getfield 32, 3) := by decide +kernel
theorem dX4_line_94 : decode cX4_line 94 = .ok (.aload_n 0, 1) := by decide +kernel
theorem dX4_line_95 : decode cX4_line 95 = .ok (.getfield 159, 3) := by decide +kernel
theorem dX4_line_98 : decode cX4_line 98 = .ok (.aaload, 1) := by decide +kernel
theorem dX4_line_99 : decode cX4_line 99 = .ok (.aastore, 1) := by decide +kernel
theorem dX4_line_100 : decode cX4_line 100 = .ok (.aload_n 0, 1) := by decide +kernel
theorem dX4_line_101 : decode cX4_line 101 = .ok (.getfield 32, 3) := by decide +kernel
theorem dX4_line_104 : decode cX4_line 104 = .ok (.aload_n 0, 1) := by decide +kernel
theorem dX4_line_105 : decode cX4_line 105 = .ok (.getfield 159, 3) := by decide +kernel
theorem dX4_line_108 : decode cX4_line 108 = .ok (.aload_n 1, 1) := by decide +kernel
theorem dX4_line_109 : decode cX4_line 109 = .ok (.aastore, 1) := by decide +kernel
theorem dX4_line_110 : decode cX4_line 110 = .ok (.aload_n 0, 1) := by decide +kernel
theorem dX4_line_111 : decode cX4_line 111 = .ok (.dup, 1) := by decide +kernel
theorem dX4_line_112 : decode cX4_line 112 = .ok (.getfield 159, 3) := by decide +kernel
theorem dX4_line_115 : decode cX4_line 115 = .ok (.iconst 1, 1) := by decide +kernel
theorem dX4_line_116 : decode cX4_line 116 = .ok (.iadd, 1) := by decide +kernel
theorem dX4_line_117 : decode cX4_line 117 = .ok (.putfield 159, 3) := by decide +kernel
theorem dX4_line_120 : decode cX4_line 120 = .ok (.aload_n 0, 1) := by decide +kernel
theorem dX4_line_121 : decode cX4_line 121 = .ok (.getfield 159, 3) := by decide +kernel
theorem dX4_line_124 : decode cX4_line 124 = .ok (.ireturn, 1) := by decide +kernel
theorem dX4_erase_0 : decode cX4_erase 0 = .ok (.aload_n 0, 1) := by decide +kernel
theorem dX4_erase_1 : decode cX4_erase 1 = .ok (.getfield 159, 3) := by decide +kernel
theorem dX4_erase_4 : decode cX4_erase 4 = .ok (.istore_n 1, 1) := by decide +kernel
theorem dX4_erase_5 : decode cX4_erase 5 = .ok (.aload_n 0, 1) := by decide +kernel
theorem dX4_erase_6 : decode cX4_erase 6 = .ok (.iconst 0, 1) := by decide +kernel
theorem dX4_erase_7 : decode cX4_erase 7 = .ok (.putfield 159, 3) := by decide +kernel
theorem dX4_erase_10 : decode cX4_erase 10 = .ok (.iload_n 1, 1) := by decide +kernel
theorem dX4_erase_11 : decode cX4_erase 11 = .ok (.ireturn, 1) := by decide +kernel
theorem dX4_assemble_0 : decode cX4_assemble 0 = .ok (.aload_n 0, 1) := by decide +kernel
theorem dX4_assemble_1 : decode cX4_assemble 1 = .ok (.invokevirtual 121, 3) := by decide +kernel
theorem dX4_assemble_4 : decode cX4_assemble 4 = .ok (.aload_n 0, 1) := by decide +kernel
theorem dX4_assemble_5 : decode cX4_assemble 5 = .ok (.invokevirtual 164, 3) := by decide +kernel
theorem dX4_assemble_8 : decode cX4_assemble 8 = .ok (.istore_n 2, 1) := by decide +kernel
theorem dX4_assemble_9 : decode cX4_assemble 9 = .ok (.iload_n 2, 1) := by decide +kernel
theorem dX4_assemble_10 : decode cX4_assemble 10 = .ok (.iconst (-1), 1) := by decide +kernel
theorem dX4_assemble_11 : decode cX4_assemble 11 = .ok (.if_icmp .ne 8, 3) := by decide +kernel
theorem dX4_assemble_14 : decode cX4_assemble 14 = .ok (.aload_n 0, 1) := by decide +kernel
theorem dX4_assemble_15 : decode cX4_assemble 15 = .ok (.invokevirtual 168, 3) := by decide +kernel
theorem dX4_assemble_18 : decode cX4_assemble 18 = .ok (.istore_n 2, 1) := by decide +kernel
theorem dX4_assemble_19 : decode cX4_assemble 19 = .ok (.iload_n 2, 1) := by decide +kernel
theorem dX4_assemble_20 : decode cX4_assemble 20 = .ok (.iconst (-1), 1) := by decide +kernel
theorem dX4_assemble_21 : decode cX4_assemble 21 = .ok (.if_icmp .eq 18, 3) := by decide +kernel
theorem dX4_assemble_24 : decode cX4_assemble 24 = .ok (.aload_n 0, 1) := by decide +kernel
theorem dX4_assemble_25 : decode cX4_assemble 25 = .ok (.iload_n 2, 1) := by decide +kernel
theorem dX4_assemble_26 : decode cX4_assemble 26 = .ok (.putfield 37, 3) := by decide +kernel
theorem dX4_assemble_29 : decode cX4_assemble 29 = .ok (.new 171, 3) := by decide +kernel
theorem dX4_assemble_32 : decode cX4_assemble 32 = .ok (.dup, 1) := by decide +kernel
theorem dX4_assemble_33 : decode cX4_assemble 33 = .ok (.ldc 173, 2) := by decide +kernel
theorem dX4_assemble_35 : decode cX4_assemble 35 = .ok (.invokespecial 175, 3) := by decide +kernel
theorem dX4_assemble_38 : decode cX4_assemble 38 = .ok (.athrow, 1) := by decide +kernel
theorem dX4_assemble_39 : decode cX4_assemble 39 = .ok (.aload_n 0, 1) := by decide +kernel
theorem dX4_assemble_40 : decode cX4_assemble 40 = .ok (.iload_n 1, 1) := by decide +kernel
theorem dX4_assemble_41 : decode cX4_assemble 41 = .ok (.invokevirtual 117, 3) := by decide +kernel
theorem dX4_assemble_44 : decode cX4_assemble 44 = .ok (.aload_n 0, 1) := by decide +kernel
theorem dX4_assemble_45 : decode cX4_assemble 45 = .ok (.iload_n 1, 1) := by decide +kernel
theorem dX4_assemble_46 : decode cX4_assemble 46 = .ok (.invokevirtual 176, 3) := by decide +kernel
theorem dX4_assemble_49 : decode cX4_assemble 49 = .ok (.istore_n 3, 1) := by decide +kernel
theorem dX4_assemble_50 : decode cX4_assemble 50 = .ok (.iload_n 3, 1) := by decide +kernel
theorem dX4_assemble_51 : decode cX4_assemble 51 = .ok (.bipush 64, 2) := by decide +kernel
theorem dX4_assemble_53 : decode cX4_assemble 53 = .ok (.if_icmp .le 13, 3) := by decide +kernel
theorem dX4_assemble_56 : decode cX4_assemble 56 = .ok (.new 128, 3) := by decide +kernel
theorem dX4_assemble_59 : decode cX4_assemble 59 = .ok (.dup, 1) := by decide +kernel
theorem dX4_assemble_60 : decode cX4_assemble 60 = .ok (.ldc 179, 2) := by decide +kernel
theorem dX4_assemble_62 : decode cX4_assemble 62 = .ok (.invokespecial 132, 3) := by decide +kernel
theorem dX4_assemble_65 : decode cX4_assemble 65 = .ok (.athrow, 1) := by decide +kernel
theorem dX4_assemble_66 : decode cX4_assemble 66 = .ok (.aload_n 0, 1) := by decide +kernel
theorem dX4_assemble_67 : decode cX4_assemble 67 = .ok (.invokevirtual 181, 3) := by decide +kernel
theorem dX4_assemble_70 : decode cX4_assemble 70 = .ok (.istore 4, 2) := by decide +kernel
theorem dX4_assemble_72 : decode cX4_assemble 72 = .ok (.iload 4, 2) := by decide +kernel
theorem dX4_assemble_74 : decode cX4_assemble 74 = .ok (.iconst (-1), 1) := by decide +kernel
theorem dX4_assemble_75 : decode cX4_assemble 75 = .ok (.if_icmp .eq 19, 3) := by decide +kernel
theorem dX4_assemble_78 : decode cX4_assemble 78 = .ok (.aload_n 0, 1) := by decide +kernel
theorem dX4_assemble_79 : decode cX4_assemble 79 = .ok (.iload 4, 2) := by decide +kernel
theorem dX4_assemble_81 : decode cX4_assemble 81 = .ok (.putfield 37, 3) := by decide +kernel
theorem dX4_assemble_84 : decode cX4_assemble 84 = .ok (.new 55, 3) := by decide +kernel
theorem dX4_assemble_87 : decode cX4_assemble 87 = .ok (.dup, 1) := by decide +kernel
theorem dX4_assemble_88 : decode cX4_assemble 88 = .ok (.ldc 184, 2) := by decide +kernel
theorem dX4_assemble_90 : decode cX4_assemble 90 = .ok (.invokespecial 59, 3) := by decide +kernel
theorem dX4_assemble_93 : decode cX4_assemble 93 = .ok (.athrow, 1) := by decide +kernel
theorem dX4_assemble_94 : decode cX4_assemble 94 = .ok (.aload_n 0, 1) := by decide +kernel
theorem dX4_assemble_95 : decode cX4_assemble 95 = .ok (.invokevirtual 186, 3) := by decide +kernel
theorem dX4_assemble_98 : decode cX4_assemble 98 = .ok (.iload_n 3, 1) := by decide +kernel
theorem dX4_assemble_99 : decode cX4_assemble 99 = .ok (.iload_n 1, 1) := by decide +kernel
theorem dX4_assemble_100 : decode cX4_assemble 100 = .ok (.isub, 1) := by decide +kernel
theorem dX4_assemble_101 : decode cX4_assemble 101 = .ok (.ireturn, 1) := by decide +kernel
theorem dX4_fault_0 : decode cX4_fault 0 = .ok (.aload_n 0, 1) := by decide +kernel
theorem dX4_fault_1 : decode cX4_fault 1 = .ok (.getfield 37, 3) := by decide +kernel
theorem dX4_fault_4 : decode cX4_fault 4 = .ok (.ireturn, 1) := by decide +kernel
theorem dX4_count_0 : decode cX4_count 0 = .ok (.iload_n 1, 1) := by decide +kernel
theorem dX4_count_1 : decode cX4_count 1 = .ok (.tableswitch 62 0 3 #[31, 36, 41, 54], 31) := by decide +kernel
theorem dX4_count_32 : decode cX4_count 32 = .ok (.aload_n 0, 1) := by decide +kernel
theorem dX4_count_33 : decode cX4_count 33 = .ok (.getfield 62, 3) := by decide +kernel
theorem dX4_count_36 : decode cX4_count 36 = .ok (.ireturn, 1) := by decide +kernel
theorem dX4_count_37 : decode cX4_count 37 = .ok (.aload_n 0, 1) := by decide +kernel
theorem dX4_count_38 : decode cX4_count 38 = .ok (.getfield 159, 3) := by decide +kernel
theorem dX4_count_41 : decode cX4_count 41 = .ok (.ireturn, 1) := by decide +kernel
theorem dX4_count_42 : decode cX4_count 42 = .ok (.aload_n 0, 1) := by decide +kernel
theorem dX4_count_43 : decode cX4_count 43 = .ok (.getfield 82, 3) := by decide +kernel
theorem dX4_count_46 : decode cX4_count 46 = .ok (.ifCond .eq 7, 3) := by decide +kernel
theorem dX4_count_49 : decode cX4_count 49 = .ok (.iconst 1, 1) := by decide +kernel
theorem dX4_count_50 : decode cX4_count 50 = .ok (.goto 4, 3) := by decide +kernel
theorem dX4_count_53 : decode cX4_count 53 = .ok (.iconst 0, 1) := by decide +kernel
theorem dX4_count_54 : decode cX4_count 54 = .ok (.ireturn, 1) := by decide +kernel
theorem dX4_count_55 : decode cX4_count 55 = .ok (.aload_n 0, 1) := by decide +kernel
theorem dX4_count_56 : decode cX4_count 56 = .ok (.getfield 10, 3) := by decide +kernel
theorem dX4_count_59 : decode cX4_count 59 = .ok (.getfield 45, 3) := by decide +kernel
theorem dX4_count_62 : decode cX4_count 62 = .ok (.ireturn, 1) := by decide +kernel
theorem dX4_count_63 : decode cX4_count 63 = .ok (.iconst (-1), 1) := by decide +kernel
theorem dX4_count_64 : decode cX4_count 64 = .ok (.ireturn, 1) := by decide +kernel
theorem dX4_requireReady_0 : decode cX4_requireReady 0 = .ok (.aload_n 0, 1) := by decide +kernel
theorem dX4_requireReady_1 : decode cX4_requireReady 1 = .ok (.getfield 82, 3) := by decide +kernel
theorem dX4_requireReady_4 : decode cX4_requireReady 4 = .ok (.ifCond .ne 13, 3) := by decide +kernel
theorem dX4_requireReady_7 : decode cX4_requireReady 7 = .ok (.new 65, 3) := by decide +kernel
theorem dX4_requireReady_10 : decode cX4_requireReady 10 = .ok (.dup, 1) := by decide +kernel
theorem dX4_requireReady_11 : decode cX4_requireReady 11 = .ok (.ldc 189, 2) := by decide +kernel
theorem dX4_requireReady_13 : decode cX4_requireReady 13 = .ok (.invokespecial 69, 3) := by decide +kernel
theorem dX4_requireReady_16 : decode cX4_requireReady 16 = .ok (.athrow, 1) := by decide +kernel
theorem dX4_requireReady_17 : decode cX4_requireReady 17 = .ok (.return_, 1) := by decide +kernel
theorem dX4_requireAddress_0 : decode cX4_requireAddress 0 = .ok (.iload_n 1, 1) := by decide +kernel
theorem dX4_requireAddress_1 : decode cX4_requireAddress 1 = .ok (.ifCond .lt 9, 3) := by decide +kernel
theorem dX4_requireAddress_4 : decode cX4_requireAddress 4 = .ok (.iload_n 1, 1) := by decide +kernel
theorem dX4_requireAddress_5 : decode cX4_requireAddress 5 = .ok (.bipush 64, 2) := by decide +kernel
theorem dX4_requireAddress_7 : decode cX4_requireAddress 7 = .ok (.if_icmp .lt 13, 3) := by decide +kernel
theorem dX4_requireAddress_10 : decode cX4_requireAddress 10 = .ok (.new 128, 3) := by decide +kernel
theorem dX4_requireAddress_13 : decode cX4_requireAddress 13 = .ok (.dup, 1) := by decide +kernel
theorem dX4_requireAddress_14 : decode cX4_requireAddress 14 = .ok (.ldc 191, 2) := by decide +kernel
theorem dX4_requireAddress_16 : decode cX4_requireAddress 16 = .ok (.invokespecial 132, 3) := by decide +kernel
theorem dX4_requireAddress_19 : decode cX4_requireAddress 19 = .ok (.athrow, 1) := by decide +kernel
theorem dX4_requireAddress_20 : decode cX4_requireAddress 20 = .ok (.return_, 1) := by decide +kernel
theorem dX4_readForm_0 : decode cX4_readForm 0 = .ok (.aload_n 0, 1) := by decide +kernel
theorem dX4_readForm_1 : decode cX4_readForm 1 = .ok (.getfield 10, 3) := by decide +kernel
theorem dX4_readForm_4 : decode cX4_readForm 4 = .ok (.invokevirtual 193, 3) := by decide +kernel
theorem dX4_readForm_7 : decode cX4_readForm 7 = .ok (.istore_n 2, 1) := by decide +kernel
theorem dX4_readForm_8 : decode cX4_readForm 8 = .ok (.iload_n 2, 1) := by decide +kernel
theorem dX4_readForm_9 : decode cX4_readForm 9 = .ok (.ifCond .eq 15, 3) := by decide +kernel
theorem dX4_readForm_12 : decode cX4_readForm 12 = .ok (.aload_n 0, 1) := by decide +kernel
theorem dX4_readForm_13 : decode cX4_readForm 13 = .ok (.getfield 10, 3) := by decide +kernel
theorem dX4_readForm_16 : decode cX4_readForm 16 = .ok (.bipush 32, 2) := by decide +kernel
theorem dX4_readForm_18 : decode cX4_readForm 18 = .ok (.invokevirtual 196, 3) := by decide +kernel
theorem dX4_readForm_21 : decode cX4_readForm 21 = .ok (.ifCond .ne 5, 3) := by decide +kernel
theorem dX4_readForm_24 : decode cX4_readForm 24 = .ok (.iconst 0, 1) := by decide +kernel
theorem dX4_readForm_25 : decode cX4_readForm 25 = .ok (.ireturn, 1) := by decide +kernel
theorem dX4_readForm_26 : decode cX4_readForm 26 = .ok (.aload_n 0, 1) := by decide +kernel
theorem dX4_readForm_27 : decode cX4_readForm 27 = .ok (.getfield 10, 3) := by decide +kernel
theorem dX4_readForm_30 : decode cX4_readForm 30 = .ok (.invokevirtual 199, 3) := by decide +kernel
theorem dX4_readForm_33 : decode cX4_readForm 33 = .ok (.istore_n 3, 1) := by decide +kernel
theorem dX4_readForm_34 : decode cX4_readForm 34 = .ok (.iload_n 3, 1) := by decide +kernel
theorem dX4_readForm_35 : decode cX4_readForm 35 = .ok (.bipush 8, 2) := by decide +kernel
theorem dX4_readForm_37 : decode cX4_readForm 37 = .ok (.if_icmp .eq 17, 3) := by decide +kernel
theorem dX4_readForm_40 : decode cX4_readForm 40 = .ok (.iload_n 3, 1) := by decide +kernel
theorem dX4_readForm_41 : decode cX4_readForm 41 = .ok (.bipush 16, 2) := by decide +kernel
theorem dX4_readForm_43 : decode cX4_readForm 43 = .ok (.if_icmp .eq 11, 3) := by decide +kernel
theorem dX4_readForm_46 : decode cX4_readForm 46 = .ok (.iload_n 3, 1) := by decide +kernel
theorem dX4_readForm_47 : decode cX4_readForm 47 = .ok (.bipush 24, 2) := by decide +kernel
theorem dX4_readForm_49 : decode cX4_readForm 49 = .ok (.if_icmp .eq 5, 3) := by decide +kernel
theorem dX4_readForm_52 : decode cX4_readForm 52 = .ok (.iconst 0, 1) := by decide +kernel
theorem dX4_readForm_53 : decode cX4_readForm 53 = .ok (.ireturn, 1) := by decide +kernel
theorem dX4_readForm_54 : decode cX4_readForm 54 = .ok (.aload_n 1, 1) := by decide +kernel
theorem dX4_readForm_55 : decode cX4_readForm 55 = .ok (.iload_n 2, 1) := by decide +kernel
theorem dX4_readForm_56 : decode cX4_readForm 56 = .ok (.iload_n 3, 1) := by decide +kernel
theorem dX4_readForm_57 : decode cX4_readForm 57 = .ok (.bipush 8, 2) := by decide +kernel
theorem dX4_readForm_59 : decode cX4_readForm 59 = .ok (.idiv, 1) := by decide +kernel
theorem dX4_readForm_60 : decode cX4_readForm 60 = .ok (.invokevirtual 202, 3) := by decide +kernel
theorem dX4_readForm_63 : decode cX4_readForm 63 = .ok (.iconst 0, 1) := by decide +kernel
theorem dX4_readForm_64 : decode cX4_readForm 64 = .ok (.istore 4, 2) := by decide +kernel
theorem dX4_readForm_66 : decode cX4_readForm 66 = .ok (.iload 4, 2) := by decide +kernel
theorem dX4_readForm_68 : decode cX4_readForm 68 = .ok (.iload_n 3, 1) := by decide +kernel
theorem dX4_readForm_69 : decode cX4_readForm 69 = .ok (.if_icmp .ge 27, 3) := by decide +kernel
theorem dX4_readForm_72 : decode cX4_readForm 72 = .ok (.aload_n 1, 1) := by decide +kernel
theorem dX4_readForm_73 : decode cX4_readForm 73 = .ok (.iload 4, 2) := by decide +kernel
theorem dX4_readForm_75 : decode cX4_readForm 75 = .ok (.aload_n 0, 1) := by decide +kernel
theorem dX4_readForm_76 : decode cX4_readForm 76 = .ok (.getfield 10, 3) := by decide +kernel
theorem dX4_readForm_79 : decode cX4_readForm 79 = .ok (.invokevirtual 206, 3) := by decide +kernel
theorem dX4_readForm_82 : decode cX4_readForm 82 = .ok (.invokevirtual 210, 3) := by decide +kernel
theorem dX4_readForm_85 : decode cX4_readForm 85 = .ok (.ifCond .ne 5, 3) := by decide +kernel
theorem dX4_readForm_88 : decode cX4_readForm 88 = .ok (.iconst 0, 1) := by decide +kernel
theorem dX4_readForm_89 : decode cX4_readForm 89 = .ok (.ireturn, 1) := by decide +kernel
theorem dX4_readForm_90 : decode cX4_readForm 90 = .ok (.iinc 4 1, 3) := by decide +kernel
theorem dX4_readForm_93 : decode cX4_readForm 93 = .ok (.goto (-27), 3) := by decide +kernel
theorem dX4_readForm_96 : decode cX4_readForm 96 = .ok (.aload_n 1, 1) := by decide +kernel
theorem dX4_readForm_97 : decode cX4_readForm 97 = .ok (.invokevirtual 214, 3) := by decide +kernel
theorem dX4_readForm_100 : decode cX4_readForm 100 = .ok (.ireturn, 1) := by decide +kernel
theorem dX4_findForm_0 : decode cX4_findForm 0 = .ok (.iconst 0, 1) := by decide +kernel
theorem dX4_findForm_1 : decode cX4_findForm 1 = .ok (.istore_n 3, 1) := by decide +kernel
theorem dX4_findForm_2 : decode cX4_findForm 2 = .ok (.iload_n 3, 1) := by decide +kernel
theorem dX4_findForm_3 : decode cX4_findForm 3 = .ok (.aload_n 0, 1) := by decide +kernel
theorem dX4_findForm_4 : decode cX4_findForm 4 = .ok (.getfield 62, 3) := by decide +kernel
theorem dX4_findForm_7 : decode cX4_findForm 7 = .ok (.if_icmp .ge 37, 3) := by decide +kernel
theorem dX4_findForm_10 : decode cX4_findForm 10 = .ok (.aload_n 0, 1) := by decide +kernel
theorem dX4_findForm_11 : decode cX4_findForm 11 = .ok (.getfield 25, 3) := by decide +kernel
theorem dX4_findForm_14 : decode cX4_findForm 14 = .ok (.iload_n 3, 1) := by decide +kernel
theorem dX4_findForm_15 : decode cX4_findForm 15 = .ok (.aaload, 1) := by decide +kernel
theorem dX4_findForm_16 : decode cX4_findForm 16 = .ok (.getfield 70, 3) := by decide +kernel
theorem dX4_findForm_19 : decode cX4_findForm 19 = .ok (.iload_n 1, 1) := by decide +kernel
theorem dX4_findForm_20 : decode cX4_findForm 20 = .ok (.if_icmp .ne 18, 3) := by decide +kernel
theorem dX4_findForm_23 : decode cX4_findForm 23 = .ok (.aload_n 0, 1) := by decide +kernel
theorem dX4_findForm_24 : decode cX4_findForm 24 = .ok (.getfield 25, 3) := by decide +kernel
theorem dX4_findForm_27 : decode cX4_findForm 27 = .ok (.iload_n 3, 1) := by decide +kernel
theorem dX4_findForm_28 : decode cX4_findForm 28 = .ok (.aaload, 1) := by decide +kernel
theorem dX4_findForm_29 : decode cX4_findForm 29 = .ok (.getfield 73, 3) := by decide +kernel
theorem dX4_findForm_32 : decode cX4_findForm 32 = .ok (.iload_n 2, 1) := by decide +kernel
theorem dX4_findForm_33 : decode cX4_findForm 33 = .ok (.if_icmp .ne 5, 3) := by decide +kernel
theorem dX4_findForm_36 : decode cX4_findForm 36 = .ok (.iload_n 3, 1) := by decide +kernel
theorem dX4_findForm_37 : decode cX4_findForm 37 = .ok (.ireturn, 1) := by decide +kernel
theorem dX4_findForm_38 : decode cX4_findForm 38 = .ok (.iinc 3 1, 3) := by decide +kernel
theorem dX4_findForm_41 : decode cX4_findForm 41 = .ok (.goto (-39), 3) := by decide +kernel
theorem dX4_findForm_44 : decode cX4_findForm 44 = .ok (.iconst (-1), 1) := by decide +kernel
theorem dX4_findForm_45 : decode cX4_findForm 45 = .ok (.ireturn, 1) := by decide +kernel
theorem dX4_narrowestAt_0 : decode cX4_narrowestAt 0 = .ok (.aload_n 0, 1) := by decide +kernel
theorem dX4_narrowestAt_1 : decode cX4_narrowestAt 1 = .ok (.iload_n 1, 1) := by decide +kernel
theorem dX4_narrowestAt_2 : decode cX4_narrowestAt 2 = .ok (.invokevirtual 218, 3) := by decide +kernel
theorem dX4_narrowestAt_5 : decode cX4_narrowestAt 5 = .ok (.istore_n 2, 1) := by decide +kernel
theorem dX4_narrowestAt_6 : decode cX4_narrowestAt 6 = .ok (.iconst (-1), 1) := by decide +kernel
theorem dX4_narrowestAt_7 : decode cX4_narrowestAt 7 = .ok (.istore_n 3, 1) := by decide +kernel
theorem dX4_narrowestAt_8 : decode cX4_narrowestAt 8 = .ok (.iconst 0, 1) := by decide +kernel
theorem dX4_narrowestAt_9 : decode cX4_narrowestAt 9 = .ok (.istore 4, 2) := by decide +kernel
theorem dX4_narrowestAt_11 : decode cX4_narrowestAt 11 = .ok (.iload 4, 2) := by decide +kernel
theorem dX4_narrowestAt_13 : decode cX4_narrowestAt 13 = .ok (.aload_n 0, 1) := by decide +kernel
theorem dX4_narrowestAt_14 : decode cX4_narrowestAt 14 = .ok (.getfield 62, 3) := by decide +kernel
theorem dX4_narrowestAt_17 : decode cX4_narrowestAt 17 = .ok (.if_icmp .ge 79, 3) := by decide +kernel
theorem dX4_narrowestAt_20 : decode cX4_narrowestAt 20 = .ok (.iload_n 1, 1) := by decide +kernel
theorem dX4_narrowestAt_21 : decode cX4_narrowestAt 21 = .ok (.aload_n 0, 1) := by decide +kernel
theorem dX4_narrowestAt_22 : decode cX4_narrowestAt 22 = .ok (.getfield 25, 3) := by decide +kernel
theorem dX4_narrowestAt_25 : decode cX4_narrowestAt 25 = .ok (.iload 4, 2) := by decide +kernel
theorem dX4_narrowestAt_27 : decode cX4_narrowestAt 27 = .ok (.aaload, 1) := by decide +kernel
theorem dX4_narrowestAt_28 : decode cX4_narrowestAt 28 = .ok (.getfield 221, 3) := by decide +kernel
theorem dX4_narrowestAt_31 : decode cX4_narrowestAt 31 = .ok (.iadd, 1) := by decide +kernel
theorem dX4_narrowestAt_32 : decode cX4_narrowestAt 32 = .ok (.bipush 64, 2) := by decide +kernel
theorem dX4_narrowestAt_34 : decode cX4_narrowestAt 34 = .ok (.if_icmp .gt 21, 3) := by decide +kernel
theorem dX4_narrowestAt_37 : decode cX4_narrowestAt 37 = .ok (.aload_n 0, 1) := by decide +kernel
theorem dX4_narrowestAt_38 : decode cX4_narrowestAt 38 = .ok (.getfield 25, 3) := by decide +kernel
theorem dX4_narrowestAt_41 : decode cX4_narrowestAt 41 = .ok (.iload 4, 2) := by decide +kernel
theorem dX4_narrowestAt_43 : decode cX4_narrowestAt 43 = .ok (.aaload, 1) := by decide +kernel
theorem dX4_narrowestAt_44 : decode cX4_narrowestAt 44 = .ok (.iload_n 2, 1) := by decide +kernel
theorem dX4_narrowestAt_45 : decode cX4_narrowestAt 45 = .ok (.invokevirtual 224, 3) := by decide +kernel
theorem dX4_narrowestAt_48 : decode cX4_narrowestAt 48 = .ok (.ifCond .eq 7, 3) := by decide +kernel
theorem dX4_narrowestAt_51 : decode cX4_narrowestAt 51 = .ok (.iconst 1, 1) := by decide +kernel
theorem dX4_narrowestAt_52 : decode cX4_narrowestAt 52 = .ok (.goto 4, 3) := by decide +kernel
theorem dX4_narrowestAt_55 : decode cX4_narrowestAt 55 = .ok (.iconst 0, 1) := by decide +kernel
theorem dX4_narrowestAt_56 : decode cX4_narrowestAt 56 = .ok (.istore 5, 2) := by decide +kernel
theorem dX4_narrowestAt_58 : decode cX4_narrowestAt 58 = .ok (.iload 5, 2) := by decide +kernel
theorem dX4_narrowestAt_60 : decode cX4_narrowestAt 60 = .ok (.ifCond .eq 30, 3) := by decide +kernel
theorem dX4_narrowestAt_63 : decode cX4_narrowestAt 63 = .ok (.iload_n 3, 1) := by decide +kernel
theorem dX4_narrowestAt_64 : decode cX4_narrowestAt 64 = .ok (.iconst (-1), 1) := by decide +kernel
theorem dX4_narrowestAt_65 : decode cX4_narrowestAt 65 = .ok (.if_icmp .eq 22, 3) := by decide +kernel
theorem dX4_narrowestAt_68 : decode cX4_narrowestAt 68 = .ok (.aload_n 0, 1) := by decide +kernel
theorem dX4_narrowestAt_69 : decode cX4_narrowestAt 69 = .ok (.getfield 25, 3) := by decide +kernel
theorem dX4_narrowestAt_72 : decode cX4_narrowestAt 72 = .ok (.iload 4, 2) := by decide +kernel
theorem dX4_narrowestAt_74 : decode cX4_narrowestAt 74 = .ok (.aaload, 1) := by decide +kernel
theorem dX4_narrowestAt_75 : decode cX4_narrowestAt 75 = .ok (.aload_n 0, 1) := by decide +kernel
theorem dX4_narrowestAt_76 : decode cX4_narrowestAt 76 = .ok (.getfield 25, 3) := by decide +kernel
theorem dX4_narrowestAt_79 : decode cX4_narrowestAt 79 = .ok (.iload_n 3, 1) := by decide +kernel
theorem dX4_narrowestAt_80 : decode cX4_narrowestAt 80 = .ok (.aaload, 1) := by decide +kernel
theorem dX4_narrowestAt_81 : decode cX4_narrowestAt 81 = .ok (.invokevirtual 228, 3) := by decide +kernel
theorem dX4_narrowestAt_84 : decode cX4_narrowestAt 84 = .ok (.ifCond .eq 6, 3) := by decide +kernel
theorem dX4_narrowestAt_87 : decode cX4_narrowestAt 87 = .ok (.iload 4, 2) := by decide +kernel
theorem dX4_narrowestAt_89 : decode cX4_narrowestAt 89 = .ok (.istore_n 3, 1) := by decide +kernel
theorem dX4_narrowestAt_90 : decode cX4_narrowestAt 90 = .ok (.iinc 4 1, 3) := by decide +kernel
theorem dX4_narrowestAt_93 : decode cX4_narrowestAt 93 = .ok (.goto (-82), 3) := by decide +kernel
theorem dX4_narrowestAt_96 : decode cX4_narrowestAt 96 = .ok (.iload_n 3, 1) := by decide +kernel
theorem dX4_narrowestAt_97 : decode cX4_narrowestAt 97 = .ok (.ireturn, 1) := by decide +kernel
theorem dX4_wordAt_0 : decode cX4_wordAt 0 = .ok (.iconst 0, 1) := by decide +kernel
theorem dX4_wordAt_1 : decode cX4_wordAt 1 = .ok (.istore_n 2, 1) := by decide +kernel
theorem dX4_wordAt_2 : decode cX4_wordAt 2 = .ok (.iconst 0, 1) := by decide +kernel
theorem dX4_wordAt_3 : decode cX4_wordAt 3 = .ok (.istore_n 3, 1) := by decide +kernel
theorem dX4_wordAt_4 : decode cX4_wordAt 4 = .ok (.iload_n 3, 1) := by decide +kernel
theorem dX4_wordAt_5 : decode cX4_wordAt 5 = .ok (.iconst 3, 1) := by decide +kernel
theorem dX4_wordAt_6 : decode cX4_wordAt 6 = .ok (.if_icmp .ge 43, 3) := by decide +kernel
theorem dX4_wordAt_9 : decode cX4_wordAt 9 = .ok (.iload_n 1, 1) := by decide +kernel
theorem dX4_wordAt_10 : decode cX4_wordAt 10 = .ok (.iload_n 3, 1) := by decide +kernel
theorem dX4_wordAt_11 : decode cX4_wordAt 11 = .ok (.iadd, 1) := by decide +kernel
theorem dX4_wordAt_12 : decode cX4_wordAt 12 = .ok (.istore 4, 2) := by decide +kernel
theorem dX4_wordAt_14 : decode cX4_wordAt 14 = .ok (.iload_n 2, 1) := by decide +kernel
theorem dX4_wordAt_15 : decode cX4_wordAt 15 = .ok (.bipush 8, 2) := by decide +kernel
theorem dX4_wordAt_17 : decode cX4_wordAt 17 = .ok (.ishl, 1) := by decide +kernel
theorem dX4_wordAt_18 : decode cX4_wordAt 18 = .ok (.iload 4, 2) := by decide +kernel
theorem dX4_wordAt_20 : decode cX4_wordAt 20 = .ok (.ifCond .lt 20, 3) := by decide +kernel
theorem dX4_wordAt_23 : decode cX4_wordAt 23 = .ok (.iload 4, 2) := by decide +kernel
theorem dX4_wordAt_25 : decode cX4_wordAt 25 = .ok (.bipush 64, 2) := by decide +kernel
theorem dX4_wordAt_27 : decode cX4_wordAt 27 = .ok (.if_icmp .ge 13, 3) := by decide +kernel
theorem dX4_wordAt_30 : decode cX4_wordAt 30 = .ok (.aload_n 0, 1) := by decide +kernel
theorem dX4_wordAt_31 : decode cX4_wordAt 31 = .ok (.getfield 19, 3) := by decide +kernel
theorem dX4_wordAt_34 : decode cX4_wordAt 34 = .ok (.iload 4, 2) := by decide +kernel
theorem dX4_wordAt_36 : decode cX4_wordAt 36 = .ok (.iaload, 1) := by decide +kernel
theorem dX4_wordAt_37 : decode cX4_wordAt 37 = .ok (.goto 4, 3) := by decide +kernel
theorem dX4_wordAt_40 : decode cX4_wordAt 40 = .ok (.iconst 0, 1) := by decide +kernel
theorem dX4_wordAt_41 : decode cX4_wordAt 41 = .ok (.ior, 1) := by decide +kernel
theorem dX4_wordAt_42 : decode cX4_wordAt 42 = .ok (.istore_n 2, 1) := by decide +kernel
theorem dX4_wordAt_43 : decode cX4_wordAt 43 = .ok (.iinc 3 1, 3) := by decide +kernel
theorem dX4_wordAt_46 : decode cX4_wordAt 46 = .ok (.goto (-42), 3) := by decide +kernel
theorem dX4_wordAt_49 : decode cX4_wordAt 49 = .ok (.iload_n 2, 1) := by decide +kernel
theorem dX4_wordAt_50 : decode cX4_wordAt 50 = .ok (.ireturn, 1) := by decide +kernel
theorem dX4_operandAt_0 : decode cX4_operandAt 0 = .ok (.aload_n 2, 1) := by decide +kernel
theorem dX4_operandAt_1 : decode cX4_operandAt 1 = .ok (.getfield 96, 3) := by decide +kernel
theorem dX4_operandAt_4 : decode cX4_operandAt 4 = .ok (.iload_n 3, 1) := by decide +kernel
theorem dX4_operandAt_5 : decode cX4_operandAt 5 = .ok (.aaload, 1) := by decide +kernel
theorem dX4_operandAt_6 : decode cX4_operandAt 6 = .ok (.aload_n 0, 1) := by decide +kernel
theorem dX4_operandAt_7 : decode cX4_operandAt 7 = .ok (.iload_n 1, 1) := by decide +kernel
theorem dX4_operandAt_8 : decode cX4_operandAt 8 = .ok (.invokevirtual 218, 3) := by decide +kernel
theorem dX4_operandAt_11 : decode cX4_operandAt 11 = .ok (.iload_n 1, 1) := by decide +kernel
theorem dX4_operandAt_12 : decode cX4_operandAt 12 = .ok (.aload_n 2, 1) := by decide +kernel
theorem dX4_operandAt_13 : decode cX4_operandAt 13 = .ok (.getfield 221, 3) := by decide +kernel
theorem dX4_operandAt_16 : decode cX4_operandAt 16 = .ok (.iadd, 1) := by decide +kernel
theorem dX4_operandAt_17 : decode cX4_operandAt 17 = .ok (.invokevirtual 231, 3) := by decide +kernel
theorem dX4_operandAt_20 : decode cX4_operandAt 20 = .ok (.ireturn, 1) := by decide +kernel
theorem dX4_writeInstruction_0 : decode cX4_writeInstruction 0 = .ok (.aload_n 0, 1) := by decide +kernel
theorem dX4_writeInstruction_1 : decode cX4_writeInstruction 1 = .ok (.getfield 16, 3) := by decide +kernel
theorem dX4_writeInstruction_4 : decode cX4_writeInstruction 4 = .ok (.aload_n 2, 1) := by decide +kernel
theorem dX4_writeInstruction_5 : decode cX4_writeInstruction 5 = .ok (.getfield 70, 3) := by decide +kernel
theorem dX4_writeInstruction_8 : decode cX4_writeInstruction 8 = .ok (.invokevirtual 234, 3) := by decide +kernel
theorem dX4_writeInstruction_11 : decode cX4_writeInstruction 11 = .ok (.iconst 0, 1) := by decide +kernel
theorem dX4_writeInstruction_12 : decode cX4_writeInstruction 12 = .ok (.istore_n 3, 1) := by decide +kernel
theorem dX4_writeInstruction_13 : decode cX4_writeInstruction 13 = .ok (.iload_n 3, 1) := by decide +kernel
theorem dX4_writeInstruction_14 : decode cX4_writeInstruction 14 = .ok (.aload_n 2, 1) := by decide +kernel
theorem dX4_writeInstruction_15 : decode cX4_writeInstruction 15 = .ok (.getfield 73, 3) := by decide +kernel
theorem dX4_writeInstruction_18 : decode cX4_writeInstruction 18 = .ok (.if_icmp .ge 42, 3) := by decide +kernel
theorem dX4_writeInstruction_21 : decode cX4_writeInstruction 21 = .ok (.aload_n 0, 1) := by decide +kernel
theorem dX4_writeInstruction_22 : decode cX4_writeInstruction 22 = .ok (.getfield 16, 3) := by decide +kernel
theorem dX4_writeInstruction_25 : decode cX4_writeInstruction 25 = .ok (.iload_n 3, 1) := by decide +kernel
theorem dX4_writeInstruction_26 : decode cX4_writeInstruction 26 = .ok (.ifCond .ne 8, 3) := by decide +kernel
theorem dX4_writeInstruction_29 : decode cX4_writeInstruction 29 = .ok (.bipush 32, 2) := by decide +kernel
theorem dX4_writeInstruction_31 : decode cX4_writeInstruction 31 = .ok (.goto 5, 3) := by decide +kernel
theorem dX4_writeInstruction_34 : decode cX4_writeInstruction 34 = .ok (.bipush 44, 2) := by decide +kernel
theorem dX4_writeInstruction_36 : decode cX4_writeInstruction 36 = .ok (.invokevirtual 41, 3) := by decide +kernel
theorem dX4_writeInstruction_39 : decode cX4_writeInstruction 39 = .ok (.pop, 1) := by decide +kernel
theorem dX4_writeInstruction_40 : decode cX4_writeInstruction 40 = .ok (.aload_n 0, 1) := by decide +kernel
theorem dX4_writeInstruction_41 : decode cX4_writeInstruction 41 = .ok (.getfield 16, 3) := by decide +kernel
theorem dX4_writeInstruction_44 : decode cX4_writeInstruction 44 = .ok (.aload_n 0, 1) := by decide +kernel
theorem dX4_writeInstruction_45 : decode cX4_writeInstruction 45 = .ok (.iload_n 1, 1) := by decide +kernel
theorem dX4_writeInstruction_46 : decode cX4_writeInstruction 46 = .ok (.aload_n 2, 1) := by decide +kernel
theorem dX4_writeInstruction_47 : decode cX4_writeInstruction 47 = .ok (.iload_n 3, 1) := by decide +kernel
theorem dX4_writeInstruction_48 : decode cX4_writeInstruction 48 = .ok (.invokevirtual 133, 3) := by decide +kernel
theorem dX4_writeInstruction_51 : decode cX4_writeInstruction 51 = .ok (.invokevirtual 237, 3) := by decide +kernel
theorem dX4_writeInstruction_54 : decode cX4_writeInstruction 54 = .ok (.iinc 3 1, 3) := by decide +kernel
theorem dX4_writeInstruction_57 : decode cX4_writeInstruction 57 = .ok (.goto (-44), 3) := by decide +kernel
theorem dX4_writeInstruction_60 : decode cX4_writeInstruction 60 = .ok (.return_, 1) := by decide +kernel
theorem dX4_readLine_0 : decode cX4_readLine 0 = .ok (.aload_n 1, 1) := by decide +kernel
theorem dX4_readLine_1 : decode cX4_readLine 1 = .ok (.iconst 0, 1) := by decide +kernel
theorem dX4_readLine_2 : decode cX4_readLine 2 = .ok (.putfield 240, 3) := by decide +kernel
theorem dX4_readLine_5 : decode cX4_readLine 5 = .ok (.aload_n 1, 1) := by decide +kernel
theorem dX4_readLine_6 : decode cX4_readLine 6 = .ok (.iconst 0, 1) := by decide +kernel
theorem dX4_readLine_7 : decode cX4_readLine 7 = .ok (.putfield 241, 3) := by decide +kernel
theorem dX4_readLine_10 : decode cX4_readLine 10 = .ok (.aload_n 1, 1) := by decide +kernel
theorem dX4_readLine_11 : decode cX4_readLine 11 = .ok (.aload_n 0, 1) := by decide +kernel
theorem dX4_readLine_12 : decode cX4_readLine 12 = .ok (.getfield 10, 3) := by decide +kernel
theorem dX4_readLine_15 : decode cX4_readLine 15 = .ok (.invokevirtual 242, 3) := by decide +kernel
theorem dX4_readLine_18 : decode cX4_readLine 18 = .ok (.putfield 151, 3) := by decide +kernel
theorem dX4_readLine_21 : decode cX4_readLine 21 = .ok (.aload_n 1, 1) := by decide +kernel
theorem dX4_readLine_22 : decode cX4_readLine 22 = .ok (.getfield 151, 3) := by decide +kernel
theorem dX4_readLine_25 : decode cX4_readLine 25 = .ok (.iconst (-1), 1) := by decide +kernel
theorem dX4_readLine_26 : decode cX4_readLine 26 = .ok (.if_icmp .eq 29, 3) := by decide +kernel
theorem dX4_readLine_29 : decode cX4_readLine 29 = .ok (.aload_n 0, 1) := by decide +kernel
theorem dX4_readLine_30 : decode cX4_readLine 30 = .ok (.getfield 10, 3) := by decide +kernel
theorem dX4_readLine_33 : decode cX4_readLine 33 = .ok (.bipush 58, 2) := by decide +kernel
theorem dX4_readLine_35 : decode cX4_readLine 35 = .ok (.invokevirtual 196, 3) := by decide +kernel
theorem dX4_readLine_38 : decode cX4_readLine 38 = .ok (.ifCond .ne 5, 3) := by decide +kernel
theorem dX4_readLine_41 : decode cX4_readLine 41 = .ok (.iconst 0, 1) := by decide +kernel
theorem dX4_readLine_42 : decode cX4_readLine 42 = .ok (.ireturn, 1) := by decide +kernel
theorem dX4_readLine_43 : decode cX4_readLine 43 = .ok (.aload_n 0, 1) := by decide +kernel
theorem dX4_readLine_44 : decode cX4_readLine 44 = .ok (.getfield 10, 3) := by decide +kernel
theorem dX4_readLine_47 : decode cX4_readLine 47 = .ok (.invokevirtual 199, 3) := by decide +kernel
theorem dX4_readLine_50 : decode cX4_readLine 50 = .ok (.ifCond .ne 5, 3) := by decide +kernel
theorem dX4_readLine_53 : decode cX4_readLine 53 = .ok (.iconst 1, 1) := by decide +kernel
theorem dX4_readLine_54 : decode cX4_readLine 54 = .ok (.ireturn, 1) := by decide +kernel
theorem dX4_readLine_55 : decode cX4_readLine 55 = .ok (.aload_n 1, 1) := by decide +kernel
theorem dX4_readLine_56 : decode cX4_readLine 56 = .ok (.aload_n 0, 1) := by decide +kernel
theorem dX4_readLine_57 : decode cX4_readLine 57 = .ok (.getfield 10, 3) := by decide +kernel
theorem dX4_readLine_60 : decode cX4_readLine 60 = .ok (.invokevirtual 193, 3) := by decide +kernel
theorem dX4_readLine_63 : decode cX4_readLine 63 = .ok (.putfield 240, 3) := by decide +kernel
theorem dX4_readLine_66 : decode cX4_readLine 66 = .ok (.aload_n 1, 1) := by decide +kernel
theorem dX4_readLine_67 : decode cX4_readLine 67 = .ok (.getfield 240, 3) := by decide +kernel
theorem dX4_readLine_70 : decode cX4_readLine 70 = .ok (.ifCond .ne 5, 3) := by decide +kernel
theorem dX4_readLine_73 : decode cX4_readLine 73 = .ok (.iconst 0, 1) := by decide +kernel
theorem dX4_readLine_74 : decode cX4_readLine 74 = .ok (.ireturn, 1) := by decide +kernel
theorem dX4_readLine_75 : decode cX4_readLine 75 = .ok (.aload_n 0, 1) := by decide +kernel
theorem dX4_readLine_76 : decode cX4_readLine 76 = .ok (.getfield 10, 3) := by decide +kernel
theorem dX4_readLine_79 : decode cX4_readLine 79 = .ok (.invokevirtual 199, 3) := by decide +kernel
theorem dX4_readLine_82 : decode cX4_readLine 82 = .ok (.ifCond .eq 23, 3) := by decide +kernel
theorem dX4_readLine_85 : decode cX4_readLine 85 = .ok (.aload_n 0, 1) := by decide +kernel
theorem dX4_readLine_86 : decode cX4_readLine 86 = .ok (.getfield 10, 3) := by decide +kernel
theorem dX4_readLine_89 : decode cX4_readLine 89 = .ok (.bipush 32, 2) := by decide +kernel
theorem dX4_readLine_91 : decode cX4_readLine 91 = .ok (.invokevirtual 196, 3) := by decide +kernel
theorem dX4_readLine_94 : decode cX4_readLine 94 = .ok (.ifCond .eq 15, 3) := by decide +kernel
theorem dX4_readLine_97 : decode cX4_readLine 97 = .ok (.aload_n 0, 1) := by decide +kernel
theorem dX4_readLine_98 : decode cX4_readLine 98 = .ok (.aload_n 1, 1) := by decide +kernel
theorem dX4_readLine_99 : decode cX4_readLine 99 = .ok (.invokevirtual 245, 3) := by decide +kernel
theorem dX4_readLine_102 : decode cX4_readLine 102 = .ok (.ifCond .eq 7, 3) := by decide +kernel
theorem dX4_readLine_105 : decode cX4_readLine 105 = .ok (.iconst 1, 1) := by decide +kernel
theorem dX4_readLine_106 : decode cX4_readLine 106 = .ok (.goto 4, 3) := by decide +kernel
theorem dX4_readLine_109 : decode cX4_readLine 109 = .ok (.iconst 0, 1) := by decide +kernel
theorem dX4_readLine_110 : decode cX4_readLine 110 = .ok (.ireturn, 1) := by decide +kernel
theorem dX4_readOperands_0 : decode cX4_readOperands 0 = .ok (.iconst 0, 1) := by decide +kernel
theorem dX4_readOperands_1 : decode cX4_readOperands 1 = .ok (.istore_n 2, 1) := by decide +kernel
theorem dX4_readOperands_2 : decode cX4_readOperands 2 = .ok (.iload_n 2, 1) := by decide +kernel
theorem dX4_readOperands_3 : decode cX4_readOperands 3 = .ok (.iconst 3, 1) := by decide +kernel
theorem dX4_readOperands_4 : decode cX4_readOperands 4 = .ok (.if_icmp .ge 110, 3) := by decide +kernel
theorem dX4_readOperands_7 : decode cX4_readOperands 7 = .ok (.aload_n 1, 1) := by decide +kernel
theorem dX4_readOperands_8 : decode cX4_readOperands 8 = .ok (.getfield 248, 3) := by decide +kernel
theorem dX4_readOperands_11 : decode cX4_readOperands 11 = .ok (.iload_n 2, 1) := by decide +kernel
theorem dX4_readOperands_12 : decode cX4_readOperands 12 = .ok (.aload_n 0, 1) := by decide +kernel
theorem dX4_readOperands_13 : decode cX4_readOperands 13 = .ok (.getfield 10, 3) := by decide +kernel
theorem dX4_readOperands_16 : decode cX4_readOperands 16 = .ok (.invokevirtual 242, 3) := by decide +kernel
theorem dX4_readOperands_19 : decode cX4_readOperands 19 = .ok (.iastore, 1) := by decide +kernel
theorem dX4_readOperands_20 : decode cX4_readOperands 20 = .ok (.aload_n 1, 1) := by decide +kernel
theorem dX4_readOperands_21 : decode cX4_readOperands 21 = .ok (.getfield 248, 3) := by decide +kernel
theorem dX4_readOperands_24 : decode cX4_readOperands 24 = .ok (.iload_n 2, 1) := by decide +kernel
theorem dX4_readOperands_25 : decode cX4_readOperands 25 = .ok (.iaload, 1) := by decide +kernel
theorem dX4_readOperands_26 : decode cX4_readOperands 26 = .ok (.iconst (-1), 1) := by decide +kernel
theorem dX4_readOperands_27 : decode cX4_readOperands 27 = .ok (.if_icmp .ne 48, 3) := by decide +kernel
theorem dX4_readOperands_30 : decode cX4_readOperands 30 = .ok (.aload_n 0, 1) := by decide +kernel
theorem dX4_readOperands_31 : decode cX4_readOperands 31 = .ok (.getfield 10, 3) := by decide +kernel
theorem dX4_readOperands_34 : decode cX4_readOperands 34 = .ok (.bipush 45, 2) := by decide +kernel
theorem dX4_readOperands_36 : decode cX4_readOperands 36 = .ok (.invokevirtual 196, 3) := by decide +kernel
theorem dX4_readOperands_39 : decode cX4_readOperands 39 = .ok (.istore_n 3, 1) := by decide +kernel
theorem dX4_readOperands_40 : decode cX4_readOperands 40 = .ok (.aload_n 0, 1) := by decide +kernel
theorem dX4_readOperands_41 : decode cX4_readOperands 41 = .ok (.getfield 10, 3) := by decide +kernel
theorem dX4_readOperands_44 : decode cX4_readOperands 44 = .ok (.invokevirtual 251, 3) := by decide +kernel
theorem dX4_readOperands_47 : decode cX4_readOperands 47 = .ok (.istore 4, 2) := by decide +kernel
theorem dX4_readOperands_49 : decode cX4_readOperands 49 = .ok (.iload 4, 2) := by decide +kernel
theorem dX4_readOperands_51 : decode cX4_readOperands 51 = .ok (.iconst (-1), 1) := by decide +kernel
theorem dX4_readOperands_52 : decode cX4_readOperands 52 = .ok (.if_icmp .ne 5, 3) := by decide +kernel
theorem dX4_readOperands_55 : decode cX4_readOperands 55 = .ok (.iconst 0, 1) := by decide +kernel
theorem dX4_readOperands_56 : decode cX4_readOperands 56 = .ok (.ireturn, 1) := by decide +kernel
theorem dX4_readOperands_57 : decode cX4_readOperands 57 = .ok (.aload_n 1, 1) := by decide +kernel
theorem dX4_readOperands_58 : decode cX4_readOperands 58 = .ok (.getfield 254, 3) := by decide +kernel
theorem dX4_readOperands_61 : decode cX4_readOperands 61 = .ok (.iload_n 2, 1) := by decide +kernel
theorem dX4_readOperands_62 : decode cX4_readOperands 62 = .ok (.iload_n 3, 1) := by decide +kernel
theorem dX4_readOperands_63 : decode cX4_readOperands 63 = .ok (.ifCond .eq 9, 3) := by decide +kernel
theorem dX4_readOperands_66 : decode cX4_readOperands 66 = .ok (.iload 4, 2) := by decide +kernel
theorem dX4_readOperands_68 : decode cX4_readOperands 68 = .ok (.ineg, 1) := by decide +kernel
theorem dX4_readOperands_69 : decode cX4_readOperands 69 = .ok (.goto 5, 3) := by decide +kernel
theorem dX4_readOperands_72 : decode cX4_readOperands 72 = .ok (.iload 4, 2) := by decide +kernel
theorem dX4_readOperands_74 : decode cX4_readOperands 74 = .ok (.iastore, 1) := by decide +kernel
theorem dX4_readOperands_75 : decode cX4_readOperands 75 = .ok (.aload_n 1, 1) := by decide +kernel
theorem dX4_readOperands_76 : decode cX4_readOperands 76 = .ok (.iload_n 2, 1) := by decide +kernel
theorem dX4_readOperands_77 : decode cX4_readOperands 77 = .ok (.iconst 1, 1) := by decide +kernel
theorem dX4_readOperands_78 : decode cX4_readOperands 78 = .ok (.iadd, 1) := by decide +kernel
theorem dX4_readOperands_79 : decode cX4_readOperands 79 = .ok (.putfield 241, 3) := by decide +kernel
theorem dX4_readOperands_82 : decode cX4_readOperands 82 = .ok (.aload_n 0, 1) := by decide +kernel
theorem dX4_readOperands_83 : decode cX4_readOperands 83 = .ok (.getfield 10, 3) := by decide +kernel
theorem dX4_readOperands_86 : decode cX4_readOperands 86 = .ok (.invokevirtual 199, 3) := by decide +kernel
theorem dX4_readOperands_89 : decode cX4_readOperands 89 = .ok (.ifCond .ne 5, 3) := by decide +kernel
theorem dX4_readOperands_92 : decode cX4_readOperands 92 = .ok (.iconst 1, 1) := by decide +kernel
theorem dX4_readOperands_93 : decode cX4_readOperands 93 = .ok (.ireturn, 1) := by decide +kernel
theorem dX4_readOperands_94 : decode cX4_readOperands 94 = .ok (.aload_n 0, 1) := by decide +kernel
theorem dX4_readOperands_95 : decode cX4_readOperands 95 = .ok (.getfield 10, 3) := by decide +kernel
theorem dX4_readOperands_98 : decode cX4_readOperands 98 = .ok (.bipush 44, 2) := by decide +kernel
theorem dX4_readOperands_100 : decode cX4_readOperands 100 = .ok (.invokevirtual 196, 3) := by decide +kernel
theorem dX4_readOperands_103 : decode cX4_readOperands 103 = .ok (.ifCond .ne 5, 3) := by decide +kernel
theorem dX4_readOperands_106 : decode cX4_readOperands 106 = .ok (.iconst 0, 1) := by decide +kernel
theorem dX4_readOperands_107 : decode cX4_readOperands 107 = .ok (.ireturn, 1) := by decide +kernel
theorem dX4_readOperands_108 : decode cX4_readOperands 108 = .ok (.iinc 2 1, 3) := by decide +kernel
theorem dX4_readOperands_111 : decode cX4_readOperands 111 = .ok (.goto (-109), 3) := by decide +kernel
theorem dX4_readOperands_114 : decode cX4_readOperands 114 = .ok (.iconst 0, 1) := by decide +kernel
theorem dX4_readOperands_115 : decode cX4_readOperands 115 = .ok (.ireturn, 1) := by decide +kernel
theorem dX4_findLabel_0 : decode cX4_findLabel 0 = .ok (.iconst 0, 1) := by decide +kernel
theorem dX4_findLabel_1 : decode cX4_findLabel 1 = .ok (.istore_n 2, 1) := by decide +kernel
theorem dX4_findLabel_2 : decode cX4_findLabel 2 = .ok (.iload_n 2, 1) := by decide +kernel
theorem dX4_findLabel_3 : decode cX4_findLabel 3 = .ok (.aload_n 0, 1) := by decide +kernel
theorem dX4_findLabel_4 : decode cX4_findLabel 4 = .ok (.getfield 159, 3) := by decide +kernel
theorem dX4_findLabel_7 : decode cX4_findLabel 7 = .ok (.if_icmp .ge 24, 3) := by decide +kernel
theorem dX4_findLabel_10 : decode cX4_findLabel 10 = .ok (.aload_n 0, 1) := by decide +kernel
theorem dX4_findLabel_11 : decode cX4_findLabel 11 = .ok (.getfield 32, 3) := by decide +kernel
theorem dX4_findLabel_14 : decode cX4_findLabel 14 = .ok (.iload_n 2, 1) := by decide +kernel
theorem dX4_findLabel_15 : decode cX4_findLabel 15 = .ok (.aaload, 1) := by decide +kernel
theorem dX4_findLabel_16 : decode cX4_findLabel 16 = .ok (.getfield 151, 3) := by decide +kernel
theorem dX4_findLabel_19 : decode cX4_findLabel 19 = .ok (.iload_n 1, 1) := by decide +kernel
theorem dX4_findLabel_20 : decode cX4_findLabel 20 = .ok (.if_icmp .ne 5, 3) := by decide +kernel
theorem dX4_findLabel_23 : decode cX4_findLabel 23 = .ok (.iload_n 2, 1) := by decide +kernel
theorem dX4_findLabel_24 : decode cX4_findLabel 24 = .ok (.ireturn, 1) := by decide +kernel
theorem dX4_findLabel_25 : decode cX4_findLabel 25 = .ok (.iinc 2 1, 3) := by decide +kernel
theorem dX4_findLabel_28 : decode cX4_findLabel 28 = .ok (.goto (-26), 3) := by decide +kernel
theorem dX4_findLabel_31 : decode cX4_findLabel 31 = .ok (.iconst (-1), 1) := by decide +kernel
theorem dX4_findLabel_32 : decode cX4_findLabel 32 = .ok (.ireturn, 1) := by decide +kernel
theorem dX4_chooseForms_0 : decode cX4_chooseForms 0 = .ok (.iconst (-1), 1) := by decide +kernel
theorem dX4_chooseForms_1 : decode cX4_chooseForms 1 = .ok (.istore_n 1, 1) := by decide +kernel
theorem dX4_chooseForms_2 : decode cX4_chooseForms 2 = .ok (.iconst 0, 1) := by decide +kernel
theorem dX4_chooseForms_3 : decode cX4_chooseForms 3 = .ok (.istore_n 2, 1) := by decide +kernel
theorem dX4_chooseForms_4 : decode cX4_chooseForms 4 = .ok (.iload_n 2, 1) := by decide +kernel
theorem dX4_chooseForms_5 : decode cX4_chooseForms 5 = .ok (.aload_n 0, 1) := by decide +kernel
theorem dX4_chooseForms_6 : decode cX4_chooseForms 6 = .ok (.getfield 159, 3) := by decide +kernel
theorem dX4_chooseForms_9 : decode cX4_chooseForms 9 = .ok (.if_icmp .ge 82, 3) := by decide +kernel
theorem dX4_chooseForms_12 : decode cX4_chooseForms 12 = .ok (.aload_n 0, 1) := by decide +kernel
theorem dX4_chooseForms_13 : decode cX4_chooseForms 13 = .ok (.getfield 32, 3) := by decide +kernel
theorem dX4_chooseForms_16 : decode cX4_chooseForms 16 = .ok (.iload_n 2, 1) := by decide +kernel
theorem dX4_chooseForms_17 : decode cX4_chooseForms 17 = .ok (.aaload, 1) := by decide +kernel
theorem dX4_chooseForms_18 : decode cX4_chooseForms 18 = .ok (.astore_n 3, 1) := by decide +kernel
theorem dX4_chooseForms_19 : decode cX4_chooseForms 19 = .ok (.aload_n 3, 1) := by decide +kernel
theorem dX4_chooseForms_20 : decode cX4_chooseForms 20 = .ok (.getfield 240, 3) := by decide +kernel
theorem dX4_chooseForms_23 : decode cX4_chooseForms 23 = .ok (.ifCond .ne 7, 3) := by decide +kernel
theorem dX4_chooseForms_26 : decode cX4_chooseForms 26 = .ok (.iconst (-1), 1) := by decide +kernel
theorem dX4_chooseForms_27 : decode cX4_chooseForms 27 = .ok (.goto 15, 3) := by decide +kernel
theorem dX4_chooseForms_30 : decode cX4_chooseForms 30 = .ok (.aload_n 0, 1) := by decide +kernel
theorem dX4_chooseForms_31 : decode cX4_chooseForms 31 = .ok (.aload_n 3, 1) := by decide +kernel
theorem dX4_chooseForms_32 : decode cX4_chooseForms 32 = .ok (.getfield 240, 3) := by decide +kernel
theorem dX4_chooseForms_35 : decode cX4_chooseForms 35 = .ok (.aload_n 3, 1) := by decide +kernel
theorem dX4_chooseForms_36 : decode cX4_chooseForms 36 = .ok (.getfield 241, 3) := by decide +kernel
theorem dX4_chooseForms_39 : decode cX4_chooseForms 39 = .ok (.invokevirtual 76, 3) := by decide +kernel
theorem dX4_chooseForms_42 : decode cX4_chooseForms 42 = .ok (.istore 4, 2) := by decide +kernel
theorem dX4_chooseForms_44 : decode cX4_chooseForms 44 = .ok (.aload_n 3, 1) := by decide +kernel
theorem dX4_chooseForms_45 : decode cX4_chooseForms 45 = .ok (.iload 4, 2) := by decide +kernel
theorem dX4_chooseForms_47 : decode cX4_chooseForms 47 = .ok (.iconst (-1), 1) := by decide +kernel
theorem dX4_chooseForms_48 : decode cX4_chooseForms 48 = .ok (.if_icmp .ne 7, 3) := by decide +kernel
theorem dX4_chooseForms_51 : decode cX4_chooseForms 51 = .ok (.aconst_null, 1) := by decide +kernel
theorem dX4_chooseForms_52 : decode cX4_chooseForms 52 = .ok (.goto 10, 3) := by decide +kernel
theorem dX4_chooseForms_55 : decode cX4_chooseForms 55 = .ok (.aload_n 0, 1) := by decide +kernel
theorem dX4_chooseForms_56 : decode cX4_chooseForms 56 = .ok (.getfield 25, 3) := by decide +kernel
theorem dX4_chooseForms_59 : decode cX4_chooseForms 59 = .ok (.iload 4, 2) := by decide +kernel
theorem dX4_chooseForms_61 : decode cX4_chooseForms 61 = .ok (.aaload, 1) := by decide +kernel
theorem dX4_chooseForms_62 : decode cX4_chooseForms 62 = .ok (.putfield 257, 3) := by decide +kernel
theorem dX4_chooseForms_65 : decode cX4_chooseForms 65 = .ok (.aload_n 3, 1) := by decide +kernel
theorem dX4_chooseForms_66 : decode cX4_chooseForms 66 = .ok (.getfield 240, 3) := by decide +kernel
theorem dX4_chooseForms_69 : decode cX4_chooseForms 69 = .ok (.ifCond .eq 16, 3) := by decide +kernel
theorem dX4_chooseForms_72 : decode cX4_chooseForms 72 = .ok (.iload 4, 2) := by decide +kernel
theorem dX4_chooseForms_74 : decode cX4_chooseForms 74 = .ok (.iconst (-1), 1) := by decide +kernel
theorem dX4_chooseForms_75 : decode cX4_chooseForms 75 = .ok (.if_icmp .ne 10, 3) := by decide +kernel
theorem dX4_chooseForms_78 : decode cX4_chooseForms 78 = .ok (.iload_n 1, 1) := by decide +kernel
theorem dX4_chooseForms_79 : decode cX4_chooseForms 79 = .ok (.iconst (-1), 1) := by decide +kernel
theorem dX4_chooseForms_80 : decode cX4_chooseForms 80 = .ok (.if_icmp .ne 5, 3) := by decide +kernel
theorem dX4_chooseForms_83 : decode cX4_chooseForms 83 = .ok (.iload_n 2, 1) := by decide +kernel
theorem dX4_chooseForms_84 : decode cX4_chooseForms 84 = .ok (.istore_n 1, 1) := by decide +kernel
theorem dX4_chooseForms_85 : decode cX4_chooseForms 85 = .ok (.iinc 2 1, 3) := by decide +kernel
theorem dX4_chooseForms_88 : decode cX4_chooseForms 88 = .ok (.goto (-84), 3) := by decide +kernel
theorem dX4_chooseForms_91 : decode cX4_chooseForms 91 = .ok (.iload_n 1, 1) := by decide +kernel
theorem dX4_chooseForms_92 : decode cX4_chooseForms 92 = .ok (.ireturn, 1) := by decide +kernel
theorem dX4_firstWithUnknownLabel_0 : decode cX4_firstWithUnknownLabel 0 = .ok (.iconst 0, 1) := by decide +kernel
theorem dX4_firstWithUnknownLabel_1 : decode cX4_firstWithUnknownLabel 1 = .ok (.istore_n 1, 1) := by decide +kernel
theorem dX4_firstWithUnknownLabel_2 : decode cX4_firstWithUnknownLabel 2 = .ok (.iload_n 1, 1) := by decide +kernel
theorem dX4_firstWithUnknownLabel_3 : decode cX4_firstWithUnknownLabel 3 = .ok (.aload_n 0, 1) := by decide +kernel
theorem dX4_firstWithUnknownLabel_4 : decode cX4_firstWithUnknownLabel 4 = .ok (.getfield 159, 3) := by decide +kernel
theorem dX4_firstWithUnknownLabel_7 : decode cX4_firstWithUnknownLabel 7 = .ok (.if_icmp .ge 58, 3) := by decide +kernel
theorem dX4_firstWithUnknownLabel_10 : decode cX4_firstWithUnknownLabel 10 = .ok (.iconst 0, 1) := by decide +kernel
theorem dX4_firstWithUnknownLabel_11 : decode cX4_firstWithUnknownLabel 11 = .ok (.istore_n 2, 1) := by decide +kernel
theorem dX4_firstWithUnknownLabel_12 : decode cX4_firstWithUnknownLabel 12 = .ok (.iload_n 2, 1) := by decide +kernel
theorem dX4_firstWithUnknownLabel_13 : decode cX4_firstWithUnknownLabel 13 = .ok (.aload_n 0, 1) := by decide +kernel
theorem dX4_firstWithUnknownLabel_14 : decode cX4_firstWithUnknownLabel 14 = .ok (.getfield 32, 3) := by decide +kernel
theorem dX4_firstWithUnknownLabel_17 : decode cX4_firstWithUnknownLabel 17 = .ok (.iload_n 1, 1) := by decide +kernel
theorem dX4_firstWithUnknownLabel_18 : decode cX4_firstWithUnknownLabel 18 = .ok (.aaload, 1) := by decide +kernel
theorem dX4_firstWithUnknownLabel_19 : decode cX4_firstWithUnknownLabel 19 = .ok (.getfield 241, 3) := by decide +kernel
theorem dX4_firstWithUnknownLabel_22 : decode cX4_firstWithUnknownLabel 22 = .ok (.if_icmp .ge 37, 3) := by decide +kernel
theorem dX4_firstWithUnknownLabel_25 : decode cX4_firstWithUnknownLabel 25 = .ok (.aload_n 0, 1) := by decide +kernel
theorem dX4_firstWithUnknownLabel_26 : decode cX4_firstWithUnknownLabel 26 = .ok (.getfield 32, 3) := by decide +kernel
theorem dX4_firstWithUnknownLabel_29 : decode cX4_firstWithUnknownLabel 29 = .ok (.iload_n 1, 1) := by decide +kernel
theorem dX4_firstWithUnknownLabel_30 : decode cX4_firstWithUnknownLabel 30 = .ok (.aaload, 1) := by decide +kernel
theorem dX4_firstWithUnknownLabel_31 : decode cX4_firstWithUnknownLabel 31 = .ok (.getfield 248, 3) := by decide +kernel
theorem dX4_firstWithUnknownLabel_34 : decode cX4_firstWithUnknownLabel 34 = .ok (.iload_n 2, 1) := by decide +kernel
theorem dX4_firstWithUnknownLabel_35 : decode cX4_firstWithUnknownLabel 35 = .ok (.iaload, 1) := by decide +kernel
theorem dX4_firstWithUnknownLabel_36 : decode cX4_firstWithUnknownLabel 36 = .ok (.istore_n 3, 1) := by decide +kernel
theorem dX4_firstWithUnknownLabel_37 : decode cX4_firstWithUnknownLabel 37 = .ok (.iload_n 3, 1) := by decide +kernel
theorem dX4_firstWithUnknownLabel_38 : decode cX4_firstWithUnknownLabel 38 = .ok (.iconst (-1), 1) := by decide +kernel
theorem dX4_firstWithUnknownLabel_39 : decode cX4_firstWithUnknownLabel 39 = .ok (.if_icmp .eq 14, 3) := by decide +kernel
theorem dX4_firstWithUnknownLabel_42 : decode cX4_firstWithUnknownLabel 42 = .ok (.aload_n 0, 1) := by decide +kernel
theorem dX4_firstWithUnknownLabel_43 : decode cX4_firstWithUnknownLabel 43 = .ok (.iload_n 3, 1) := by decide +kernel
theorem dX4_firstWithUnknownLabel_44 : decode cX4_firstWithUnknownLabel 44 = .ok (.invokevirtual 154, 3) := by decide +kernel
theorem dX4_firstWithUnknownLabel_47 : decode cX4_firstWithUnknownLabel 47 = .ok (.iconst (-1), 1) := by decide +kernel
theorem dX4_firstWithUnknownLabel_48 : decode cX4_firstWithUnknownLabel 48 = .ok (.if_icmp .ne 5, 3) := by decide +kernel
theorem dX4_firstWithUnknownLabel_51 : decode cX4_firstWithUnknownLabel 51 = .ok (.iload_n 1, 1) := by decide +kernel
theorem dX4_firstWithUnknownLabel_52 : decode cX4_firstWithUnknownLabel 52 = .ok (.ireturn, 1) := by decide +kernel
theorem dX4_firstWithUnknownLabel_53 : decode cX4_firstWithUnknownLabel 53 = .ok (.iinc 2 1, 3) := by decide +kernel
theorem dX4_firstWithUnknownLabel_56 : decode cX4_firstWithUnknownLabel 56 = .ok (.goto (-44), 3) := by decide +kernel
theorem dX4_firstWithUnknownLabel_59 : decode cX4_firstWithUnknownLabel 59 = .ok (.iinc 1 1, 3) := by decide +kernel
theorem dX4_firstWithUnknownLabel_62 : decode cX4_firstWithUnknownLabel 62 = .ok (.goto (-60), 3) := by decide +kernel
theorem dX4_firstWithUnknownLabel_65 : decode cX4_firstWithUnknownLabel 65 = .ok (.iconst (-1), 1) := by decide +kernel
theorem dX4_firstWithUnknownLabel_66 : decode cX4_firstWithUnknownLabel 66 = .ok (.ireturn, 1) := by decide +kernel
theorem dX4_placeLines_0 : decode cX4_placeLines 0 = .ok (.iload_n 1, 1) := by decide +kernel
theorem dX4_placeLines_1 : decode cX4_placeLines 1 = .ok (.istore_n 2, 1) := by decide +kernel
theorem dX4_placeLines_2 : decode cX4_placeLines 2 = .ok (.iconst 0, 1) := by decide +kernel
theorem dX4_placeLines_3 : decode cX4_placeLines 3 = .ok (.istore_n 3, 1) := by decide +kernel
theorem dX4_placeLines_4 : decode cX4_placeLines 4 = .ok (.iload_n 3, 1) := by decide +kernel
theorem dX4_placeLines_5 : decode cX4_placeLines 5 = .ok (.aload_n 0, 1) := by decide +kernel
theorem dX4_placeLines_6 : decode cX4_placeLines 6 = .ok (.getfield 159, 3) := by decide +kernel
theorem dX4_placeLines_9 : decode cX4_placeLines 9 = .ok (.if_icmp .ge 46, 3) := by decide +kernel
theorem dX4_placeLines_12 : decode cX4_placeLines 12 = .ok (.aload_n 0, 1) := by decide +kernel
theorem dX4_placeLines_13 : decode cX4_placeLines 13 = .ok (.getfield 32, 3) := by decide +kernel
theorem dX4_placeLines_16 : decode cX4_placeLines 16 = .ok (.iload_n 3, 1) := by decide +kernel
theorem dX4_placeLines_17 : decode cX4_placeLines 17 = .ok (.aaload, 1) := by decide +kernel
theorem dX4_placeLines_18 : decode cX4_placeLines 18 = .ok (.iload_n 2, 1) := by decide +kernel
theorem dX4_placeLines_19 : decode cX4_placeLines 19 = .ok (.putfield 261, 3) := by decide +kernel
theorem dX4_placeLines_22 : decode cX4_placeLines 22 = .ok (.aload_n 0, 1) := by decide +kernel
theorem dX4_placeLines_23 : decode cX4_placeLines 23 = .ok (.getfield 32, 3) := by decide +kernel
theorem dX4_placeLines_26 : decode cX4_placeLines 26 = .ok (.iload_n 3, 1) := by decide +kernel
theorem dX4_placeLines_27 : decode cX4_placeLines 27 = .ok (.aaload, 1) := by decide +kernel
theorem dX4_placeLines_28 : decode cX4_placeLines 28 = .ok (.getfield 257, 3) := by decide +kernel
theorem dX4_placeLines_31 : decode cX4_placeLines 31 = .ok (.ifnull 18, 3) := by decide +kernel
theorem dX4_placeLines_34 : decode cX4_placeLines 34 = .ok (.iload_n 2, 1) := by decide +kernel
theorem dX4_placeLines_35 : decode cX4_placeLines 35 = .ok (.aload_n 0, 1) := by decide +kernel
theorem dX4_placeLines_36 : decode cX4_placeLines 36 = .ok (.getfield 32, 3) := by decide +kernel
theorem dX4_placeLines_39 : decode cX4_placeLines 39 = .ok (.iload_n 3, 1) := by decide +kernel
theorem dX4_placeLines_40 : decode cX4_placeLines 40 = .ok (.aaload, 1) := by decide +kernel
theorem dX4_placeLines_41 : decode cX4_placeLines 41 = .ok (.getfield 257, 3) := by decide +kernel
theorem dX4_placeLines_44 : decode cX4_placeLines 44 = .ok (.getfield 221, 3) := by decide +kernel
theorem dX4_placeLines_47 : decode cX4_placeLines 47 = .ok (.iadd, 1) := by decide +kernel
theorem dX4_placeLines_48 : decode cX4_placeLines 48 = .ok (.istore_n 2, 1) := by decide +kernel
theorem dX4_placeLines_49 : decode cX4_placeLines 49 = .ok (.iinc 3 1, 3) := by decide +kernel
theorem dX4_placeLines_52 : decode cX4_placeLines 52 = .ok (.goto (-48), 3) := by decide +kernel
theorem dX4_placeLines_55 : decode cX4_placeLines 55 = .ok (.iload_n 2, 1) := by decide +kernel
theorem dX4_placeLines_56 : decode cX4_placeLines 56 = .ok (.ireturn, 1) := by decide +kernel
theorem dX4_firstUnfit_0 : decode cX4_firstUnfit 0 = .ok (.iconst 0, 1) := by decide +kernel
theorem dX4_firstUnfit_1 : decode cX4_firstUnfit 1 = .ok (.istore_n 1, 1) := by decide +kernel
theorem dX4_firstUnfit_2 : decode cX4_firstUnfit 2 = .ok (.iload_n 1, 1) := by decide +kernel
theorem dX4_firstUnfit_3 : decode cX4_firstUnfit 3 = .ok (.aload_n 0, 1) := by decide +kernel
theorem dX4_firstUnfit_4 : decode cX4_firstUnfit 4 = .ok (.getfield 159, 3) := by decide +kernel
theorem dX4_firstUnfit_7 : decode cX4_firstUnfit 7 = .ok (.if_icmp .ge 45, 3) := by decide +kernel
theorem dX4_firstUnfit_10 : decode cX4_firstUnfit 10 = .ok (.aload_n 0, 1) := by decide +kernel
theorem dX4_firstUnfit_11 : decode cX4_firstUnfit 11 = .ok (.getfield 32, 3) := by decide +kernel
theorem dX4_firstUnfit_14 : decode cX4_firstUnfit 14 = .ok (.iload_n 1, 1) := by decide +kernel
theorem dX4_firstUnfit_15 : decode cX4_firstUnfit 15 = .ok (.aaload, 1) := by decide +kernel
theorem dX4_firstUnfit_16 : decode cX4_firstUnfit 16 = .ok (.getfield 257, 3) := by decide +kernel
theorem dX4_firstUnfit_19 : decode cX4_firstUnfit 19 = .ok (.ifnull 27, 3) := by decide +kernel
theorem dX4_firstUnfit_22 : decode cX4_firstUnfit 22 = .ok (.aload_n 0, 1) := by decide +kernel
theorem dX4_firstUnfit_23 : decode cX4_firstUnfit 23 = .ok (.aload_n 0, 1) := by decide +kernel
theorem dX4_firstUnfit_24 : decode cX4_firstUnfit 24 = .ok (.getfield 32, 3) := by decide +kernel
theorem dX4_firstUnfit_27 : decode cX4_firstUnfit 27 = .ok (.iload_n 1, 1) := by decide +kernel
theorem dX4_firstUnfit_28 : decode cX4_firstUnfit 28 = .ok (.aaload, 1) := by decide +kernel
theorem dX4_firstUnfit_29 : decode cX4_firstUnfit 29 = .ok (.aload_n 0, 1) := by decide +kernel
theorem dX4_firstUnfit_30 : decode cX4_firstUnfit 30 = .ok (.getfield 32, 3) := by decide +kernel
theorem dX4_firstUnfit_33 : decode cX4_firstUnfit 33 = .ok (.iload_n 1, 1) := by decide +kernel
theorem dX4_firstUnfit_34 : decode cX4_firstUnfit 34 = .ok (.aaload, 1) := by decide +kernel
theorem dX4_firstUnfit_35 : decode cX4_firstUnfit 35 = .ok (.getfield 257, 3) := by decide +kernel
theorem dX4_firstUnfit_38 : decode cX4_firstUnfit 38 = .ok (.invokevirtual 264, 3) := by decide +kernel
theorem dX4_firstUnfit_41 : decode cX4_firstUnfit 41 = .ok (.ifCond .ne 5, 3) := by decide +kernel
theorem dX4_firstUnfit_44 : decode cX4_firstUnfit 44 = .ok (.iload_n 1, 1) := by decide +kernel
theorem dX4_firstUnfit_45 : decode cX4_firstUnfit 45 = .ok (.ireturn, 1) := by decide +kernel
theorem dX4_firstUnfit_46 : decode cX4_firstUnfit 46 = .ok (.iinc 1 1, 3) := by decide +kernel
theorem dX4_firstUnfit_49 : decode cX4_firstUnfit 49 = .ok (.goto (-47), 3) := by decide +kernel
theorem dX4_firstUnfit_52 : decode cX4_firstUnfit 52 = .ok (.iconst (-1), 1) := by decide +kernel
theorem dX4_firstUnfit_53 : decode cX4_firstUnfit 53 = .ok (.ireturn, 1) := by decide +kernel
theorem dX4_fits_0 : decode cX4_fits 0 = .ok (.iconst 0, 1) := by decide +kernel
theorem dX4_fits_1 : decode cX4_fits 1 = .ok (.istore_n 3, 1) := by decide +kernel
theorem dX4_fits_2 : decode cX4_fits 2 = .ok (.iload_n 3, 1) := by decide +kernel
theorem dX4_fits_3 : decode cX4_fits 3 = .ok (.aload_n 1, 1) := by decide +kernel
theorem dX4_fits_4 : decode cX4_fits 4 = .ok (.getfield 241, 3) := by decide +kernel
theorem dX4_fits_7 : decode cX4_fits 7 = .ok (.if_icmp .ge 38, 3) := by decide +kernel
theorem dX4_fits_10 : decode cX4_fits 10 = .ok (.aload_n 2, 1) := by decide +kernel
theorem dX4_fits_11 : decode cX4_fits 11 = .ok (.getfield 96, 3) := by decide +kernel
theorem dX4_fits_14 : decode cX4_fits 14 = .ok (.iload_n 3, 1) := by decide +kernel
theorem dX4_fits_15 : decode cX4_fits 15 = .ok (.aaload, 1) := by decide +kernel
theorem dX4_fits_16 : decode cX4_fits 16 = .ok (.aload_n 0, 1) := by decide +kernel
theorem dX4_fits_17 : decode cX4_fits 17 = .ok (.aload_n 1, 1) := by decide +kernel
theorem dX4_fits_18 : decode cX4_fits 18 = .ok (.iload_n 3, 1) := by decide +kernel
theorem dX4_fits_19 : decode cX4_fits 19 = .ok (.invokevirtual 268, 3) := by decide +kernel
theorem dX4_fits_22 : decode cX4_fits 22 = .ok (.aload_n 1, 1) := by decide +kernel
theorem dX4_fits_23 : decode cX4_fits 23 = .ok (.getfield 261, 3) := by decide +kernel
theorem dX4_fits_26 : decode cX4_fits 26 = .ok (.aload_n 2, 1) := by decide +kernel
theorem dX4_fits_27 : decode cX4_fits 27 = .ok (.getfield 221, 3) := by decide +kernel
theorem dX4_fits_30 : decode cX4_fits 30 = .ok (.iadd, 1) := by decide +kernel
theorem dX4_fits_31 : decode cX4_fits 31 = .ok (.invokevirtual 272, 3) := by decide +kernel
theorem dX4_fits_34 : decode cX4_fits 34 = .ok (.ifCond .ne 5, 3) := by decide +kernel
theorem dX4_fits_37 : decode cX4_fits 37 = .ok (.iconst 0, 1) := by decide +kernel
theorem dX4_fits_38 : decode cX4_fits 38 = .ok (.ireturn, 1) := by decide +kernel
theorem dX4_fits_39 : decode cX4_fits 39 = .ok (.iinc 3 1, 3) := by decide +kernel
theorem dX4_fits_42 : decode cX4_fits 42 = .ok (.goto (-40), 3) := by decide +kernel
theorem dX4_fits_45 : decode cX4_fits 45 = .ok (.iconst 1, 1) := by decide +kernel
theorem dX4_fits_46 : decode cX4_fits 46 = .ok (.ireturn, 1) := by decide +kernel
theorem dX4_wanted_0 : decode cX4_wanted 0 = .ok (.aload_n 1, 1) := by decide +kernel
theorem dX4_wanted_1 : decode cX4_wanted 1 = .ok (.getfield 248, 3) := by decide +kernel
theorem dX4_wanted_4 : decode cX4_wanted 4 = .ok (.iload_n 2, 1) := by decide +kernel
theorem dX4_wanted_5 : decode cX4_wanted 5 = .ok (.iaload, 1) := by decide +kernel
theorem dX4_wanted_6 : decode cX4_wanted 6 = .ok (.iconst (-1), 1) := by decide +kernel
theorem dX4_wanted_7 : decode cX4_wanted 7 = .ok (.if_icmp .ne 10, 3) := by decide +kernel
theorem dX4_wanted_10 : decode cX4_wanted 10 = .ok (.aload_n 1, 1) := by decide +kernel
theorem dX4_wanted_11 : decode cX4_wanted 11 = .ok (.getfield 254, 3) := by decide +kernel
theorem dX4_wanted_14 : decode cX4_wanted 14 = .ok (.iload_n 2, 1) := by decide +kernel
theorem dX4_wanted_15 : decode cX4_wanted 15 = .ok (.iaload, 1) := by decide +kernel
theorem dX4_wanted_16 : decode cX4_wanted 16 = .ok (.ireturn, 1) := by decide +kernel
theorem dX4_wanted_17 : decode cX4_wanted 17 = .ok (.aload_n 0, 1) := by decide +kernel
theorem dX4_wanted_18 : decode cX4_wanted 18 = .ok (.aload_n 1, 1) := by decide +kernel
theorem dX4_wanted_19 : decode cX4_wanted 19 = .ok (.getfield 248, 3) := by decide +kernel
theorem dX4_wanted_22 : decode cX4_wanted 22 = .ok (.iload_n 2, 1) := by decide +kernel
theorem dX4_wanted_23 : decode cX4_wanted 23 = .ok (.iaload, 1) := by decide +kernel
theorem dX4_wanted_24 : decode cX4_wanted 24 = .ok (.invokevirtual 154, 3) := by decide +kernel
theorem dX4_wanted_27 : decode cX4_wanted 27 = .ok (.istore_n 3, 1) := by decide +kernel
theorem dX4_wanted_28 : decode cX4_wanted 28 = .ok (.iload_n 3, 1) := by decide +kernel
theorem dX4_wanted_29 : decode cX4_wanted 29 = .ok (.iconst (-1), 1) := by decide +kernel
theorem dX4_wanted_30 : decode cX4_wanted 30 = .ok (.if_icmp .ne 7, 3) := by decide +kernel
theorem dX4_wanted_33 : decode cX4_wanted 33 = .ok (.iconst 0, 1) := by decide +kernel
theorem dX4_wanted_34 : decode cX4_wanted 34 = .ok (.goto 12, 3) := by decide +kernel
theorem dX4_wanted_37 : decode cX4_wanted 37 = .ok (.aload_n 0, 1) := by decide +kernel
theorem dX4_wanted_38 : decode cX4_wanted 38 = .ok (.getfield 32, 3) := by decide +kernel
theorem dX4_wanted_41 : decode cX4_wanted 41 = .ok (.iload_n 3, 1) := by decide +kernel
theorem dX4_wanted_42 : decode cX4_wanted 42 = .ok (.aaload, 1) := by decide +kernel
theorem dX4_wanted_43 : decode cX4_wanted 43 = .ok (.getfield 261, 3) := by decide +kernel
theorem dX4_wanted_46 : decode cX4_wanted 46 = .ok (.ireturn, 1) := by decide +kernel
theorem dX4_putLines_0 : decode cX4_putLines 0 = .ok (.iconst 0, 1) := by decide +kernel
theorem dX4_putLines_1 : decode cX4_putLines 1 = .ok (.istore_n 1, 1) := by decide +kernel
theorem dX4_putLines_2 : decode cX4_putLines 2 = .ok (.iload_n 1, 1) := by decide +kernel
theorem dX4_putLines_3 : decode cX4_putLines 3 = .ok (.aload_n 0, 1) := by decide +kernel
theorem dX4_putLines_4 : decode cX4_putLines 4 = .ok (.getfield 159, 3) := by decide +kernel
theorem dX4_putLines_7 : decode cX4_putLines 7 = .ok (.if_icmp .ge 40, 3) := by decide +kernel
theorem dX4_putLines_10 : decode cX4_putLines 10 = .ok (.aload_n 0, 1) := by decide +kernel
theorem dX4_putLines_11 : decode cX4_putLines 11 = .ok (.getfield 32, 3) := by decide +kernel
theorem dX4_putLines_14 : decode cX4_putLines 14 = .ok (.iload_n 1, 1) := by decide +kernel
theorem dX4_putLines_15 : decode cX4_putLines 15 = .ok (.aaload, 1) := by decide +kernel
theorem dX4_putLines_16 : decode cX4_putLines 16 = .ok (.getfield 257, 3) := by decide +kernel
theorem dX4_putLines_19 : decode cX4_putLines 19 = .ok (.ifnull 22, 3) := by decide +kernel
theorem dX4_putLines_22 : decode cX4_putLines 22 = .ok (.aload_n 0, 1) := by decide +kernel
theorem dX4_putLines_23 : decode cX4_putLines 23 = .ok (.aload_n 0, 1) := by decide +kernel
theorem dX4_putLines_24 : decode cX4_putLines 24 = .ok (.getfield 32, 3) := by decide +kernel
theorem dX4_putLines_27 : decode cX4_putLines 27 = .ok (.iload_n 1, 1) := by decide +kernel
theorem dX4_putLines_28 : decode cX4_putLines 28 = .ok (.aaload, 1) := by decide +kernel
theorem dX4_putLines_29 : decode cX4_putLines 29 = .ok (.aload_n 0, 1) := by decide +kernel
theorem dX4_putLines_30 : decode cX4_putLines 30 = .ok (.getfield 32, 3) := by decide +kernel
theorem dX4_putLines_33 : decode cX4_putLines 33 = .ok (.iload_n 1, 1) := by decide +kernel
theorem dX4_putLines_34 : decode cX4_putLines 34 = .ok (.aaload, 1) := by decide +kernel
theorem dX4_putLines_35 : decode cX4_putLines 35 = .ok (.getfield 257, 3) := by decide +kernel
theorem dX4_putLines_38 : decode cX4_putLines 38 = .ok (.invokevirtual 276, 3) := by decide +kernel
theorem dX4_putLines_41 : decode cX4_putLines 41 = .ok (.iinc 1 1, 3) := by decide +kernel
theorem dX4_putLines_44 : decode cX4_putLines 44 = .ok (.goto (-42), 3) := by decide +kernel
theorem dX4_putLines_47 : decode cX4_putLines 47 = .ok (.return_, 1) := by decide +kernel
theorem dX4_putInstruction_0 : decode cX4_putInstruction 0 = .ok (.aload_n 2, 1) := by decide +kernel
theorem dX4_putInstruction_1 : decode cX4_putInstruction 1 = .ok (.getfield 280, 3) := by decide +kernel
theorem dX4_putInstruction_4 : decode cX4_putInstruction 4 = .ok (.istore_n 3, 1) := by decide +kernel
theorem dX4_putInstruction_5 : decode cX4_putInstruction 5 = .ok (.iconst 0, 1) := by decide +kernel
theorem dX4_putInstruction_6 : decode cX4_putInstruction 6 = .ok (.istore 4, 2) := by decide +kernel
theorem dX4_putInstruction_8 : decode cX4_putInstruction 8 = .ok (.iload 4, 2) := by decide +kernel
theorem dX4_putInstruction_10 : decode cX4_putInstruction 10 = .ok (.aload_n 1, 1) := by decide +kernel
theorem dX4_putInstruction_11 : decode cX4_putInstruction 11 = .ok (.getfield 241, 3) := by decide +kernel
theorem dX4_putInstruction_14 : decode cX4_putInstruction 14 = .ok (.if_icmp .ge 38, 3) := by decide +kernel
theorem dX4_putInstruction_17 : decode cX4_putInstruction 17 = .ok (.iload_n 3, 1) := by decide +kernel
theorem dX4_putInstruction_18 : decode cX4_putInstruction 18 = .ok (.aload_n 2, 1) := by decide +kernel
theorem dX4_putInstruction_19 : decode cX4_putInstruction 19 = .ok (.getfield 96, 3) := by decide +kernel
theorem dX4_putInstruction_22 : decode cX4_putInstruction 22 = .ok (.iload 4, 2) := by decide +kernel
theorem dX4_putInstruction_24 : decode cX4_putInstruction 24 = .ok (.aaload, 1) := by decide +kernel
theorem dX4_putInstruction_25 : decode cX4_putInstruction 25 = .ok (.aload_n 0, 1) := by decide +kernel
theorem dX4_putInstruction_26 : decode cX4_putInstruction 26 = .ok (.aload_n 1, 1) := by decide +kernel
theorem dX4_putInstruction_27 : decode cX4_putInstruction 27 = .ok (.iload 4, 2) := by decide +kernel
theorem dX4_putInstruction_29 : decode cX4_putInstruction 29 = .ok (.invokevirtual 268, 3) := by decide +kernel
theorem dX4_putInstruction_32 : decode cX4_putInstruction 32 = .ok (.aload_n 1, 1) := by decide +kernel
theorem dX4_putInstruction_33 : decode cX4_putInstruction 33 = .ok (.getfield 261, 3) := by decide +kernel
theorem dX4_putInstruction_36 : decode cX4_putInstruction 36 = .ok (.aload_n 2, 1) := by decide +kernel
theorem dX4_putInstruction_37 : decode cX4_putInstruction 37 = .ok (.getfield 221, 3) := by decide +kernel
theorem dX4_putInstruction_40 : decode cX4_putInstruction 40 = .ok (.iadd, 1) := by decide +kernel
theorem dX4_putInstruction_41 : decode cX4_putInstruction 41 = .ok (.invokevirtual 283, 3) := by decide +kernel
theorem dX4_putInstruction_44 : decode cX4_putInstruction 44 = .ok (.ior, 1) := by decide +kernel
theorem dX4_putInstruction_45 : decode cX4_putInstruction 45 = .ok (.istore_n 3, 1) := by decide +kernel
theorem dX4_putInstruction_46 : decode cX4_putInstruction 46 = .ok (.iinc 4 1, 3) := by decide +kernel
theorem dX4_putInstruction_49 : decode cX4_putInstruction 49 = .ok (.goto (-41), 3) := by decide +kernel
theorem dX4_putInstruction_52 : decode cX4_putInstruction 52 = .ok (.iconst 0, 1) := by decide +kernel
theorem dX4_putInstruction_53 : decode cX4_putInstruction 53 = .ok (.istore 4, 2) := by decide +kernel
theorem dX4_putInstruction_55 : decode cX4_putInstruction 55 = .ok (.iload 4, 2) := by decide +kernel
theorem dX4_putInstruction_57 : decode cX4_putInstruction 57 = .ok (.aload_n 2, 1) := by decide +kernel
theorem dX4_putInstruction_58 : decode cX4_putInstruction 58 = .ok (.getfield 221, 3) := by decide +kernel
theorem dX4_putInstruction_61 : decode cX4_putInstruction 61 = .ok (.if_icmp .ge 51, 3) := by decide +kernel
theorem dX4_putInstruction_64 : decode cX4_putInstruction 64 = .ok (.aload_n 1, 1) := by decide +kernel
theorem dX4_putInstruction_65 : decode cX4_putInstruction 65 = .ok (.getfield 261, 3) := by decide +kernel
theorem dX4_putInstruction_68 : decode cX4_putInstruction 68 = .ok (.iload 4, 2) := by decide +kernel
theorem dX4_putInstruction_70 : decode cX4_putInstruction 70 = .ok (.iadd, 1) := by decide +kernel
theorem dX4_putInstruction_71 : decode cX4_putInstruction 71 = .ok (.istore 5, 2) := by decide +kernel
theorem dX4_putInstruction_73 : decode cX4_putInstruction 73 = .ok (.iload 5, 2) := by decide +kernel
theorem dX4_putInstruction_75 : decode cX4_putInstruction 75 = .ok (.ifCond .lt 31, 3) := by decide +kernel
theorem dX4_putInstruction_78 : decode cX4_putInstruction 78 = .ok (.iload 5, 2) := by decide +kernel
theorem dX4_putInstruction_80 : decode cX4_putInstruction 80 = .ok (.bipush 64, 2) := by decide +kernel
theorem dX4_putInstruction_82 : decode cX4_putInstruction 82 = .ok (.if_icmp .ge 24, 3) := by decide +kernel
theorem dX4_putInstruction_85 : decode cX4_putInstruction 85 = .ok (.aload_n 0, 1) := by decide +kernel
theorem dX4_putInstruction_86 : decode cX4_putInstruction 86 = .ok (.getfield 19, 3) := by decide +kernel
theorem dX4_putInstruction_89 : decode cX4_putInstruction 89 = .ok (.iload 5, 2) := by decide +kernel
theorem dX4_putInstruction_91 : decode cX4_putInstruction 91 = .ok (.iload_n 3, 1) := by decide +kernel
theorem dX4_putInstruction_92 : decode cX4_putInstruction 92 = .ok (.bipush 16, 2) := by decide +kernel
theorem dX4_putInstruction_94 : decode cX4_putInstruction 94 = .ok (.bipush 8, 2) := by decide +kernel
theorem dX4_putInstruction_96 : decode cX4_putInstruction 96 = .ok (.iload 4, 2) := by decide +kernel
theorem dX4_putInstruction_98 : decode cX4_putInstruction 98 = .ok (.imul, 1) := by decide +kernel
theorem dX4_putInstruction_99 : decode cX4_putInstruction 99 = .ok (.isub, 1) := by decide +kernel
theorem dX4_putInstruction_100 : decode cX4_putInstruction 100 = .ok (.ishr, 1) := by decide +kernel
theorem dX4_putInstruction_101 : decode cX4_putInstruction 101 = .ok (.sipush 255, 3) := by decide +kernel
theorem dX4_putInstruction_104 : decode cX4_putInstruction 104 = .ok (.iand, 1) := by decide +kernel
theorem dX4_putInstruction_105 : decode cX4_putInstruction 105 = .ok (.iastore, 1) := by decide +kernel
theorem dX4_putInstruction_106 : decode cX4_putInstruction 106 = .ok (.iinc 4 1, 3) := by decide +kernel
theorem dX4_putInstruction_109 : decode cX4_putInstruction 109 = .ok (.goto (-54), 3) := by decide +kernel
theorem dX4_putInstruction_112 : decode cX4_putInstruction 112 = .ok (.return_, 1) := by decide +kernel
theorem dJ6_bitCount_0f7a4_0 : decode cJ6_bitCount_0f7a4 0 = .ok (.iload_n 0, 1) := by decide +kernel
theorem dJ6_bitCount_0f7a4_1 : decode cJ6_bitCount_0f7a4 1 = .ok (.iload_n 0, 1) := by decide +kernel
theorem dJ6_bitCount_0f7a4_2 : decode cJ6_bitCount_0f7a4 2 = .ok (.iconst 1, 1) := by decide +kernel
theorem dJ6_bitCount_0f7a4_3 : decode cJ6_bitCount_0f7a4 3 = .ok (.iushr, 1) := by decide +kernel
theorem dJ6_bitCount_0f7a4_4 : decode cJ6_bitCount_0f7a4 4 = .ok (.ldc_w 265, 3) := by decide +kernel
theorem dJ6_bitCount_0f7a4_7 : decode cJ6_bitCount_0f7a4 7 = .ok (.iand, 1) := by decide +kernel
theorem dJ6_bitCount_0f7a4_8 : decode cJ6_bitCount_0f7a4 8 = .ok (.isub, 1) := by decide +kernel
theorem dJ6_bitCount_0f7a4_9 : decode cJ6_bitCount_0f7a4 9 = .ok (.istore_n 0, 1) := by decide +kernel
theorem dJ6_bitCount_0f7a4_10 : decode cJ6_bitCount_0f7a4 10 = .ok (.iload_n 0, 1) := by decide +kernel
theorem dJ6_bitCount_0f7a4_11 : decode cJ6_bitCount_0f7a4 11 = .ok (.ldc_w 266, 3) := by decide +kernel
theorem dJ6_bitCount_0f7a4_14 : decode cJ6_bitCount_0f7a4 14 = .ok (.iand, 1) := by decide +kernel
theorem dJ6_bitCount_0f7a4_15 : decode cJ6_bitCount_0f7a4 15 = .ok (.iload_n 0, 1) := by decide +kernel
theorem dJ6_bitCount_0f7a4_16 : decode cJ6_bitCount_0f7a4 16 = .ok (.iconst 2, 1) := by decide +kernel
theorem dJ6_bitCount_0f7a4_17 : decode cJ6_bitCount_0f7a4 17 = .ok (.iushr, 1) := by decide +kernel
theorem dJ6_bitCount_0f7a4_18 : decode cJ6_bitCount_0f7a4 18 = .ok (.ldc_w 266, 3) := by decide +kernel
theorem dJ6_bitCount_0f7a4_21 : decode cJ6_bitCount_0f7a4 21 = .ok (.iand, 1) := by decide +kernel
theorem dJ6_bitCount_0f7a4_22 : decode cJ6_bitCount_0f7a4 22 = .ok (.iadd, 1) := by decide +kernel
theorem dJ6_bitCount_0f7a4_23 : decode cJ6_bitCount_0f7a4 23 = .ok (.istore_n 0, 1) := by decide +kernel
theorem dJ6_bitCount_0f7a4_24 : decode cJ6_bitCount_0f7a4 24 = .ok (.iload_n 0, 1) := by decide +kernel
theorem dJ6_bitCount_0f7a4_25 : decode cJ6_bitCount_0f7a4 25 = .ok (.iload_n 0, 1) := by decide +kernel
theorem dJ6_bitCount_0f7a4_26 : decode cJ6_bitCount_0f7a4 26 = .ok (.iconst 4, 1) := by decide +kernel
theorem dJ6_bitCount_0f7a4_27 : decode cJ6_bitCount_0f7a4 27 = .ok (.iushr, 1) := by decide +kernel
theorem dJ6_bitCount_0f7a4_28 : decode cJ6_bitCount_0f7a4 28 = .ok (.iadd, 1) := by decide +kernel
theorem dJ6_bitCount_0f7a4_29 : decode cJ6_bitCount_0f7a4 29 = .ok (.ldc_w 267, 3) := by decide +kernel
theorem dJ6_bitCount_0f7a4_32 : decode cJ6_bitCount_0f7a4 32 = .ok (.iand, 1) := by decide +kernel
theorem dJ6_bitCount_0f7a4_33 : decode cJ6_bitCount_0f7a4 33 = .ok (.istore_n 0, 1) := by decide +kernel
theorem dJ6_bitCount_0f7a4_34 : decode cJ6_bitCount_0f7a4 34 = .ok (.iload_n 0, 1) := by decide +kernel
theorem dJ6_bitCount_0f7a4_35 : decode cJ6_bitCount_0f7a4 35 = .ok (.iload_n 0, 1) := by decide +kernel
theorem dJ6_bitCount_0f7a4_36 : decode cJ6_bitCount_0f7a4 36 = .ok (.bipush 8, 2) := by decide +kernel
theorem dJ6_bitCount_0f7a4_38 : decode cJ6_bitCount_0f7a4 38 = .ok (.iushr, 1) := by decide +kernel
theorem dJ6_bitCount_0f7a4_39 : decode cJ6_bitCount_0f7a4 39 = .ok (.iadd, 1) := by decide +kernel
theorem dJ6_bitCount_0f7a4_40 : decode cJ6_bitCount_0f7a4 40 = .ok (.istore_n 0, 1) := by decide +kernel
theorem dJ6_bitCount_0f7a4_41 : decode cJ6_bitCount_0f7a4 41 = .ok (.iload_n 0, 1) := by decide +kernel
theorem dJ6_bitCount_0f7a4_42 : decode cJ6_bitCount_0f7a4 42 = .ok (.iload_n 0, 1) := by decide +kernel
theorem dJ6_bitCount_0f7a4_43 : decode cJ6_bitCount_0f7a4 43 = .ok (.bipush 16, 2) := by decide +kernel
theorem dJ6_bitCount_0f7a4_45 : decode cJ6_bitCount_0f7a4 45 = .ok (.iushr, 1) := by decide +kernel
theorem dJ6_bitCount_0f7a4_46 : decode cJ6_bitCount_0f7a4 46 = .ok (.iadd, 1) := by decide +kernel
theorem dJ6_bitCount_0f7a4_47 : decode cJ6_bitCount_0f7a4 47 = .ok (.istore_n 0, 1) := by decide +kernel
theorem dJ6_bitCount_0f7a4_48 : decode cJ6_bitCount_0f7a4 48 = .ok (.iload_n 0, 1) := by decide +kernel
theorem dJ6_bitCount_0f7a4_49 : decode cJ6_bitCount_0f7a4 49 = .ok (.bipush 63, 2) := by decide +kernel
theorem dJ6_bitCount_0f7a4_51 : decode cJ6_bitCount_0f7a4 51 = .ok (.iand, 1) := by decide +kernel
theorem dJ6_bitCount_0f7a4_52 : decode cJ6_bitCount_0f7a4 52 = .ok (.ireturn, 1) := by decide +kernel
