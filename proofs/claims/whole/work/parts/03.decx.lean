theorem dX0_init_0 : decode cX0_init 0 = .ok (.aload_n 0, 1) := by decide +kernel
theorem dX0_init_1 : decode cX0_init 1 = .ok (.invokespecial 3, 3) := by decide +kernel
theorem dX0_init_4 : decode cX0_init 4 = .ok (.aload_n 0, 1) := by decide +kernel
theorem dX0_init_5 : decode cX0_init 5 = .ok (.bipush 48, 2) := by decide +kernel
theorem dX0_init_7 : decode cX0_init 7 = .ok (.newarray .int, 2) := by decide +kernel
theorem dX0_init_9 : decode cX0_init 9 = .ok (.putfield 9, 3) := by decide +kernel
theorem dX0_init_12 : decode cX0_init 12 = .ok (.aload_n 0, 1) := by decide +kernel
theorem dX0_init_13 : decode cX0_init 13 = .ok (.bipush 48, 2) := by decide +kernel
theorem dX0_init_15 : decode cX0_init 15 = .ok (.newarray .int, 2) := by decide +kernel
theorem dX0_init_17 : decode cX0_init 17 = .ok (.putfield 15, 3) := by decide +kernel
theorem dX0_init_20 : decode cX0_init 20 = .ok (.aload_n 0, 1) := by decide +kernel
theorem dX0_init_21 : decode cX0_init 21 = .ok (.bipush 48, 2) := by decide +kernel
theorem dX0_init_23 : decode cX0_init 23 = .ok (.newarray .int, 2) := by decide +kernel
theorem dX0_init_25 : decode cX0_init 25 = .ok (.putfield 18, 3) := by decide +kernel
theorem dX0_init_28 : decode cX0_init 28 = .ok (.aload_n 0, 1) := by decide +kernel
theorem dX0_init_29 : decode cX0_init 29 = .ok (.bipush 48, 2) := by decide +kernel
theorem dX0_init_31 : decode cX0_init 31 = .ok (.newarray .int, 2) := by decide +kernel
theorem dX0_init_33 : decode cX0_init 33 = .ok (.putfield 21, 3) := by decide +kernel
theorem dX0_init_36 : decode cX0_init 36 = .ok (.aload_n 0, 1) := by decide +kernel
theorem dX0_init_37 : decode cX0_init 37 = .ok (.bipush 48, 2) := by decide +kernel
theorem dX0_init_39 : decode cX0_init 39 = .ok (.newarray .int, 2) := by decide +kernel
theorem dX0_init_41 : decode cX0_init 41 = .ok (.putfield 24, 3) := by decide +kernel
theorem dX0_init_44 : decode cX0_init 44 = .ok (.return_, 1) := by decide +kernel
theorem dX0_settle_0 : decode cX0_settle 0 = .ok (.aload_n 1, 1) := by decide +kernel
theorem dX0_settle_1 : decode cX0_settle 1 = .ok (.getfield 27, 3) := by decide +kernel
theorem dX0_settle_4 : decode cX0_settle 4 = .ok (.ifCond .ne 4, 3) := by decide +kernel
theorem dX0_settle_7 : decode cX0_settle 7 = .ok (.return_, 1) := by decide +kernel
theorem dX0_settle_8 : decode cX0_settle 8 = .ok (.aload_n 1, 1) := by decide +kernel
theorem dX0_settle_9 : decode cX0_settle 9 = .ok (.iconst 0, 1) := by decide +kernel
theorem dX0_settle_10 : decode cX0_settle 10 = .ok (.putfield 27, 3) := by decide +kernel
theorem dX0_settle_13 : decode cX0_settle 13 = .ok (.aload_n 0, 1) := by decide +kernel
theorem dX0_settle_14 : decode cX0_settle 14 = .ok (.iconst 0, 1) := by decide +kernel
theorem dX0_settle_15 : decode cX0_settle 15 = .ok (.putfield 33, 3) := by decide +kernel
theorem dX0_settle_18 : decode cX0_settle 18 = .ok (.aload_n 0, 1) := by decide +kernel
theorem dX0_settle_19 : decode cX0_settle 19 = .ok (.iconst 0, 1) := by decide +kernel
theorem dX0_settle_20 : decode cX0_settle 20 = .ok (.putfield 37, 3) := by decide +kernel
theorem dX0_settle_23 : decode cX0_settle 23 = .ok (.iconst 0, 1) := by decide +kernel
theorem dX0_settle_24 : decode cX0_settle 24 = .ok (.istore_n 2, 1) := by decide +kernel
theorem dX0_settle_25 : decode cX0_settle 25 = .ok (.iload_n 2, 1) := by decide +kernel
theorem dX0_settle_26 : decode cX0_settle 26 = .ok (.aload_n 1, 1) := by decide +kernel
theorem dX0_settle_27 : decode cX0_settle 27 = .ok (.getfield 40, 3) := by decide +kernel
theorem dX0_settle_30 : decode cX0_settle 30 = .ok (.if_icmp .ge 72, 3) := by decide +kernel
theorem dX0_settle_33 : decode cX0_settle 33 = .ok (.iload_n 2, 1) := by decide +kernel
theorem dX0_settle_34 : decode cX0_settle 34 = .ok (.bipush 48, 2) := by decide +kernel
theorem dX0_settle_36 : decode cX0_settle 36 = .ok (.if_icmp .ge 66, 3) := by decide +kernel
theorem dX0_settle_39 : decode cX0_settle 39 = .ok (.aload_n 0, 1) := by decide +kernel
theorem dX0_settle_40 : decode cX0_settle 40 = .ok (.getfield 9, 3) := by decide +kernel
theorem dX0_settle_43 : decode cX0_settle 43 = .ok (.iload_n 2, 1) := by decide +kernel
theorem dX0_settle_44 : decode cX0_settle 44 = .ok (.aload_n 1, 1) := by decide +kernel
theorem dX0_settle_45 : decode cX0_settle 45 = .ok (.iload_n 2, 1) := by decide +kernel
theorem dX0_settle_46 : decode cX0_settle 46 = .ok (.bipush (-4), 2) := by decide +kernel
theorem dX0_settle_48 : decode cX0_settle 48 = .ok (.invokevirtual 43, 3) := by decide +kernel
theorem dX0_settle_51 : decode cX0_settle 51 = .ok (.iastore, 1) := by decide +kernel
theorem dX0_settle_52 : decode cX0_settle 52 = .ok (.aload_n 0, 1) := by decide +kernel
theorem dX0_settle_53 : decode cX0_settle 53 = .ok (.getfield 15, 3) := by decide +kernel
theorem dX0_settle_56 : decode cX0_settle 56 = .ok (.iload_n 2, 1) := by decide +kernel
theorem dX0_settle_57 : decode cX0_settle 57 = .ok (.bipush (-4), 2) := by decide +kernel
theorem dX0_settle_59 : decode cX0_settle 59 = .ok (.iastore, 1) := by decide +kernel
theorem dX0_settle_60 : decode cX0_settle 60 = .ok (.aload_n 1, 1) := by decide +kernel
theorem dX0_settle_61 : decode cX0_settle 61 = .ok (.iload_n 2, 1) := by decide +kernel
theorem dX0_settle_62 : decode cX0_settle 62 = .ok (.aload_n 0, 1) := by decide +kernel
theorem dX0_settle_63 : decode cX0_settle 63 = .ok (.getfield 9, 3) := by decide +kernel
theorem dX0_settle_66 : decode cX0_settle 66 = .ok (.iload_n 2, 1) := by decide +kernel
theorem dX0_settle_67 : decode cX0_settle 67 = .ok (.iaload, 1) := by decide +kernel
theorem dX0_settle_68 : decode cX0_settle 68 = .ok (.aload_n 1, 1) := by decide +kernel
theorem dX0_settle_69 : decode cX0_settle 69 = .ok (.getfield 47, 3) := by decide +kernel
theorem dX0_settle_72 : decode cX0_settle 72 = .ok (.iconst 3, 1) := by decide +kernel
theorem dX0_settle_73 : decode cX0_settle 73 = .ok (.iaload, 1) := by decide +kernel
theorem dX0_settle_74 : decode cX0_settle 74 = .ok (.invokevirtual 50, 3) := by decide +kernel
theorem dX0_settle_77 : decode cX0_settle 77 = .ok (.ifCond .eq 19, 3) := by decide +kernel
theorem dX0_settle_80 : decode cX0_settle 80 = .ok (.aload_n 0, 1) := by decide +kernel
theorem dX0_settle_81 : decode cX0_settle 81 = .ok (.dup, 1) := by decide +kernel
theorem dX0_settle_82 : decode cX0_settle 82 = .ok (.getfield 33, 3) := by decide +kernel
theorem dX0_settle_85 : decode cX0_settle 85 = .ok (.iconst 1, 1) := by decide +kernel
theorem dX0_settle_86 : decode cX0_settle 86 = .ok (.iadd, 1) := by decide +kernel
theorem dX0_settle_87 : decode cX0_settle 87 = .ok (.putfield 33, 3) := by decide +kernel
theorem dX0_settle_90 : decode cX0_settle 90 = .ok (.aload_n 0, 1) := by decide +kernel
theorem dX0_settle_91 : decode cX0_settle 91 = .ok (.iload_n 2, 1) := by decide +kernel
theorem dX0_settle_92 : decode cX0_settle 92 = .ok (.aload_n 1, 1) := by decide +kernel
theorem dX0_settle_93 : decode cX0_settle 93 = .ok (.invokevirtual 54, 3) := by decide +kernel
theorem dX0_settle_96 : decode cX0_settle 96 = .ok (.iinc 2 1, 3) := by decide +kernel
theorem dX0_settle_99 : decode cX0_settle 99 = .ok (.goto (-74), 3) := by decide +kernel
theorem dX0_settle_102 : decode cX0_settle 102 = .ok (.return_, 1) := by decide +kernel
theorem dX0_addToBunch_0 : decode cX0_addToBunch 0 = .ok (.aload_n 0, 1) := by decide +kernel
theorem dX0_addToBunch_1 : decode cX0_addToBunch 1 = .ok (.getfield 37, 3) := by decide +kernel
theorem dX0_addToBunch_4 : decode cX0_addToBunch 4 = .ok (.ifCond .le 24, 3) := by decide +kernel
theorem dX0_addToBunch_7 : decode cX0_addToBunch 7 = .ok (.aload_n 0, 1) := by decide +kernel
theorem dX0_addToBunch_8 : decode cX0_addToBunch 8 = .ok (.getfield 21, 3) := by decide +kernel
theorem dX0_addToBunch_11 : decode cX0_addToBunch 11 = .ok (.aload_n 0, 1) := by decide +kernel
theorem dX0_addToBunch_12 : decode cX0_addToBunch 12 = .ok (.getfield 37, 3) := by decide +kernel
theorem dX0_addToBunch_15 : decode cX0_addToBunch 15 = .ok (.iconst 1, 1) := by decide +kernel
theorem dX0_addToBunch_16 : decode cX0_addToBunch 16 = .ok (.isub, 1) := by decide +kernel
theorem dX0_addToBunch_17 : decode cX0_addToBunch 17 = .ok (.iaload, 1) := by decide +kernel
theorem dX0_addToBunch_18 : decode cX0_addToBunch 18 = .ok (.iload_n 1, 1) := by decide +kernel
theorem dX0_addToBunch_19 : decode cX0_addToBunch 19 = .ok (.iconst 1, 1) := by decide +kernel
theorem dX0_addToBunch_20 : decode cX0_addToBunch 20 = .ok (.isub, 1) := by decide +kernel
theorem dX0_addToBunch_21 : decode cX0_addToBunch 21 = .ok (.if_icmp .ne 7, 3) := by decide +kernel
theorem dX0_addToBunch_24 : decode cX0_addToBunch 24 = .ok (.iconst 1, 1) := by decide +kernel
theorem dX0_addToBunch_25 : decode cX0_addToBunch 25 = .ok (.goto 4, 3) := by decide +kernel
theorem dX0_addToBunch_28 : decode cX0_addToBunch 28 = .ok (.iconst 0, 1) := by decide +kernel
theorem dX0_addToBunch_29 : decode cX0_addToBunch 29 = .ok (.istore_n 3, 1) := by decide +kernel
theorem dX0_addToBunch_30 : decode cX0_addToBunch 30 = .ok (.iload_n 3, 1) := by decide +kernel
theorem dX0_addToBunch_31 : decode cX0_addToBunch 31 = .ok (.ifCond .eq 12, 3) := by decide +kernel
theorem dX0_addToBunch_34 : decode cX0_addToBunch 34 = .ok (.aload_n 0, 1) := by decide +kernel
theorem dX0_addToBunch_35 : decode cX0_addToBunch 35 = .ok (.getfield 37, 3) := by decide +kernel
theorem dX0_addToBunch_38 : decode cX0_addToBunch 38 = .ok (.iconst 1, 1) := by decide +kernel
theorem dX0_addToBunch_39 : decode cX0_addToBunch 39 = .ok (.isub, 1) := by decide +kernel
theorem dX0_addToBunch_40 : decode cX0_addToBunch 40 = .ok (.goto 7, 3) := by decide +kernel
theorem dX0_addToBunch_43 : decode cX0_addToBunch 43 = .ok (.aload_n 0, 1) := by decide +kernel
theorem dX0_addToBunch_44 : decode cX0_addToBunch 44 = .ok (.getfield 37, 3) := by decide +kernel
theorem dX0_addToBunch_47 : decode cX0_addToBunch 47 = .ok (.istore 4, 2) := by decide +kernel
theorem dX0_addToBunch_49 : decode cX0_addToBunch 49 = .ok (.iload 4, 2) := by decide +kernel
theorem dX0_addToBunch_51 : decode cX0_addToBunch 51 = .ok (.bipush 48, 2) := by decide +kernel
theorem dX0_addToBunch_53 : decode cX0_addToBunch 53 = .ok (.if_icmp .lt 4, 3) := by decide +kernel
theorem dX0_addToBunch_56 : decode cX0_addToBunch 56 = .ok (.return_, 1) := by decide +kernel
theorem dX0_addToBunch_57 : decode cX0_addToBunch 57 = .ok (.iload_n 3, 1) := by decide +kernel
theorem dX0_addToBunch_58 : decode cX0_addToBunch 58 = .ok (.ifCond .ne 29, 3) := by decide +kernel
theorem dX0_addToBunch_61 : decode cX0_addToBunch 61 = .ok (.aload_n 0, 1) := by decide +kernel
theorem dX0_addToBunch_62 : decode cX0_addToBunch 62 = .ok (.getfield 18, 3) := by decide +kernel
theorem dX0_addToBunch_65 : decode cX0_addToBunch 65 = .ok (.iload 4, 2) := by decide +kernel
theorem dX0_addToBunch_67 : decode cX0_addToBunch 67 = .ok (.iload_n 1, 1) := by decide +kernel
theorem dX0_addToBunch_68 : decode cX0_addToBunch 68 = .ok (.iastore, 1) := by decide +kernel
theorem dX0_addToBunch_69 : decode cX0_addToBunch 69 = .ok (.aload_n 0, 1) := by decide +kernel
theorem dX0_addToBunch_70 : decode cX0_addToBunch 70 = .ok (.getfield 24, 3) := by decide +kernel
theorem dX0_addToBunch_73 : decode cX0_addToBunch 73 = .ok (.iload 4, 2) := by decide +kernel
theorem dX0_addToBunch_75 : decode cX0_addToBunch 75 = .ok (.iload_n 1, 1) := by decide +kernel
theorem dX0_addToBunch_76 : decode cX0_addToBunch 76 = .ok (.iastore, 1) := by decide +kernel
theorem dX0_addToBunch_77 : decode cX0_addToBunch 77 = .ok (.aload_n 0, 1) := by decide +kernel
theorem dX0_addToBunch_78 : decode cX0_addToBunch 78 = .ok (.dup, 1) := by decide +kernel
theorem dX0_addToBunch_79 : decode cX0_addToBunch 79 = .ok (.getfield 37, 3) := by decide +kernel
theorem dX0_addToBunch_82 : decode cX0_addToBunch 82 = .ok (.iconst 1, 1) := by decide +kernel
theorem dX0_addToBunch_83 : decode cX0_addToBunch 83 = .ok (.iadd, 1) := by decide +kernel
theorem dX0_addToBunch_84 : decode cX0_addToBunch 84 = .ok (.putfield 37, 3) := by decide +kernel
theorem dX0_addToBunch_87 : decode cX0_addToBunch 87 = .ok (.aload_n 0, 1) := by decide +kernel
theorem dX0_addToBunch_88 : decode cX0_addToBunch 88 = .ok (.getfield 21, 3) := by decide +kernel
theorem dX0_addToBunch_91 : decode cX0_addToBunch 91 = .ok (.iload 4, 2) := by decide +kernel
theorem dX0_addToBunch_93 : decode cX0_addToBunch 93 = .ok (.iload_n 1, 1) := by decide +kernel
theorem dX0_addToBunch_94 : decode cX0_addToBunch 94 = .ok (.iastore, 1) := by decide +kernel
theorem dX0_addToBunch_95 : decode cX0_addToBunch 95 = .ok (.aload_n 0, 1) := by decide +kernel
theorem dX0_addToBunch_96 : decode cX0_addToBunch 96 = .ok (.getfield 15, 3) := by decide +kernel
theorem dX0_addToBunch_99 : decode cX0_addToBunch 99 = .ok (.iload_n 1, 1) := by decide +kernel
theorem dX0_addToBunch_100 : decode cX0_addToBunch 100 = .ok (.iload 4, 2) := by decide +kernel
theorem dX0_addToBunch_102 : decode cX0_addToBunch 102 = .ok (.iastore, 1) := by decide +kernel
theorem dX0_addToBunch_103 : decode cX0_addToBunch 103 = .ok (.aload_n 2, 1) := by decide +kernel
theorem dX0_addToBunch_104 : decode cX0_addToBunch 104 = .ok (.getfield 58, 3) := by decide +kernel
theorem dX0_addToBunch_107 : decode cX0_addToBunch 107 = .ok (.iload_n 1, 1) := by decide +kernel
theorem dX0_addToBunch_108 : decode cX0_addToBunch 108 = .ok (.iaload, 1) := by decide +kernel
theorem dX0_addToBunch_109 : decode cX0_addToBunch 109 = .ok (.aload_n 2, 1) := by decide +kernel
theorem dX0_addToBunch_110 : decode cX0_addToBunch 110 = .ok (.getfield 58, 3) := by decide +kernel
theorem dX0_addToBunch_113 : decode cX0_addToBunch 113 = .ok (.aload_n 0, 1) := by decide +kernel
theorem dX0_addToBunch_114 : decode cX0_addToBunch 114 = .ok (.getfield 24, 3) := by decide +kernel
theorem dX0_addToBunch_117 : decode cX0_addToBunch 117 = .ok (.iload 4, 2) := by decide +kernel
theorem dX0_addToBunch_119 : decode cX0_addToBunch 119 = .ok (.iaload, 1) := by decide +kernel
theorem dX0_addToBunch_120 : decode cX0_addToBunch 120 = .ok (.iaload, 1) := by decide +kernel
theorem dX0_addToBunch_121 : decode cX0_addToBunch 121 = .ok (.if_icmp .le 11, 3) := by decide +kernel
theorem dX0_addToBunch_124 : decode cX0_addToBunch 124 = .ok (.aload_n 0, 1) := by decide +kernel
theorem dX0_addToBunch_125 : decode cX0_addToBunch 125 = .ok (.getfield 24, 3) := by decide +kernel
theorem dX0_addToBunch_128 : decode cX0_addToBunch 128 = .ok (.iload 4, 2) := by decide +kernel
theorem dX0_addToBunch_130 : decode cX0_addToBunch 130 = .ok (.iload_n 1, 1) := by decide +kernel
theorem dX0_addToBunch_131 : decode cX0_addToBunch 131 = .ok (.iastore, 1) := by decide +kernel
theorem dX0_addToBunch_132 : decode cX0_addToBunch 132 = .ok (.return_, 1) := by decide +kernel
theorem dX0_howManyBy_0 : decode cX0_howManyBy 0 = .ok (.iconst 0, 1) := by decide +kernel
theorem dX0_howManyBy_1 : decode cX0_howManyBy 1 = .ok (.istore_n 3, 1) := by decide +kernel
theorem dX0_howManyBy_2 : decode cX0_howManyBy 2 = .ok (.iconst 0, 1) := by decide +kernel
theorem dX0_howManyBy_3 : decode cX0_howManyBy 3 = .ok (.istore 4, 2) := by decide +kernel
theorem dX0_howManyBy_5 : decode cX0_howManyBy 5 = .ok (.iload 4, 2) := by decide +kernel
theorem dX0_howManyBy_7 : decode cX0_howManyBy 7 = .ok (.aload_n 2, 1) := by decide +kernel
theorem dX0_howManyBy_8 : decode cX0_howManyBy 8 = .ok (.getfield 40, 3) := by decide +kernel
theorem dX0_howManyBy_11 : decode cX0_howManyBy 11 = .ok (.if_icmp .ge 36, 3) := by decide +kernel
theorem dX0_howManyBy_14 : decode cX0_howManyBy 14 = .ok (.iload 4, 2) := by decide +kernel
theorem dX0_howManyBy_16 : decode cX0_howManyBy 16 = .ok (.bipush 48, 2) := by decide +kernel
theorem dX0_howManyBy_18 : decode cX0_howManyBy 18 = .ok (.if_icmp .ge 29, 3) := by decide +kernel
theorem dX0_howManyBy_21 : decode cX0_howManyBy 21 = .ok (.aload_n 2, 1) := by decide +kernel
theorem dX0_howManyBy_22 : decode cX0_howManyBy 22 = .ok (.iload 4, 2) := by decide +kernel
theorem dX0_howManyBy_24 : decode cX0_howManyBy 24 = .ok (.aload_n 0, 1) := by decide +kernel
theorem dX0_howManyBy_25 : decode cX0_howManyBy 25 = .ok (.getfield 9, 3) := by decide +kernel
theorem dX0_howManyBy_28 : decode cX0_howManyBy 28 = .ok (.iload 4, 2) := by decide +kernel
theorem dX0_howManyBy_30 : decode cX0_howManyBy 30 = .ok (.iaload, 1) := by decide +kernel
theorem dX0_howManyBy_31 : decode cX0_howManyBy 31 = .ok (.iload_n 1, 1) := by decide +kernel
theorem dX0_howManyBy_32 : decode cX0_howManyBy 32 = .ok (.invokevirtual 50, 3) := by decide +kernel
theorem dX0_howManyBy_35 : decode cX0_howManyBy 35 = .ok (.ifCond .eq 6, 3) := by decide +kernel
theorem dX0_howManyBy_38 : decode cX0_howManyBy 38 = .ok (.iinc 3 1, 3) := by decide +kernel
theorem dX0_howManyBy_41 : decode cX0_howManyBy 41 = .ok (.iinc 4 1, 3) := by decide +kernel
theorem dX0_howManyBy_44 : decode cX0_howManyBy 44 = .ok (.goto (-39), 3) := by decide +kernel
theorem dX0_howManyBy_47 : decode cX0_howManyBy 47 = .ok (.iload_n 3, 1) := by decide +kernel
theorem dX0_howManyBy_48 : decode cX0_howManyBy 48 = .ok (.ireturn, 1) := by decide +kernel
theorem dX0_letterOf_0 : decode cX0_letterOf 0 = .ok (.aload_n 0, 1) := by decide +kernel
theorem dX0_letterOf_1 : decode cX0_letterOf 1 = .ok (.getfield 15, 3) := by decide +kernel
theorem dX0_letterOf_4 : decode cX0_letterOf 4 = .ok (.iload_n 1, 1) := by decide +kernel
theorem dX0_letterOf_5 : decode cX0_letterOf 5 = .ok (.iaload, 1) := by decide +kernel
theorem dX0_letterOf_6 : decode cX0_letterOf 6 = .ok (.istore_n 2, 1) := by decide +kernel
theorem dX0_letterOf_7 : decode cX0_letterOf 7 = .ok (.iload_n 2, 1) := by decide +kernel
theorem dX0_letterOf_8 : decode cX0_letterOf 8 = .ok (.ifCond .lt 11, 3) := by decide +kernel
theorem dX0_letterOf_11 : decode cX0_letterOf 11 = .ok (.iload_n 2, 1) := by decide +kernel
theorem dX0_letterOf_12 : decode cX0_letterOf 12 = .ok (.aload_n 0, 1) := by decide +kernel
theorem dX0_letterOf_13 : decode cX0_letterOf 13 = .ok (.getfield 37, 3) := by decide +kernel
theorem dX0_letterOf_16 : decode cX0_letterOf 16 = .ok (.if_icmp .lt 6, 3) := by decide +kernel
theorem dX0_letterOf_19 : decode cX0_letterOf 19 = .ok (.bipush 46, 2) := by decide +kernel
theorem dX0_letterOf_21 : decode cX0_letterOf 21 = .ok (.ireturn, 1) := by decide +kernel
theorem dX0_letterOf_22 : decode cX0_letterOf 22 = .ok (.aload_n 0, 1) := by decide +kernel
theorem dX0_letterOf_23 : decode cX0_letterOf 23 = .ok (.getfield 24, 3) := by decide +kernel
theorem dX0_letterOf_26 : decode cX0_letterOf 26 = .ok (.iload_n 2, 1) := by decide +kernel
theorem dX0_letterOf_27 : decode cX0_letterOf 27 = .ok (.iaload, 1) := by decide +kernel
theorem dX0_letterOf_28 : decode cX0_letterOf 28 = .ok (.iload_n 1, 1) := by decide +kernel
theorem dX0_letterOf_29 : decode cX0_letterOf 29 = .ok (.if_icmp .ne 8, 3) := by decide +kernel
theorem dX0_letterOf_32 : decode cX0_letterOf 32 = .ok (.bipush 94, 2) := by decide +kernel
theorem dX0_letterOf_34 : decode cX0_letterOf 34 = .ok (.goto 5, 3) := by decide +kernel
theorem dX0_letterOf_37 : decode cX0_letterOf 37 = .ok (.bipush 33, 2) := by decide +kernel
theorem dX0_letterOf_39 : decode cX0_letterOf 39 = .ok (.ireturn, 1) := by decide +kernel
theorem dX1_init_0 : decode cX1_init 0 = .ok (.aload_n 0, 1) := by decide +kernel
theorem dX1_init_1 : decode cX1_init 1 = .ok (.invokespecial 3, 3) := by decide +kernel
theorem dX1_init_4 : decode cX1_init 4 = .ok (.aload_n 0, 1) := by decide +kernel
theorem dX1_init_5 : decode cX1_init 5 = .ok (.bipush 8, 2) := by decide +kernel
theorem dX1_init_7 : decode cX1_init 7 = .ok (.newarray .int, 2) := by decide +kernel
theorem dX1_init_9 : decode cX1_init 9 = .ok (.putfield 9, 3) := by decide +kernel
theorem dX1_init_12 : decode cX1_init 12 = .ok (.aload_n 0, 1) := by decide +kernel
theorem dX1_init_13 : decode cX1_init 13 = .ok (.bipush 13, 2) := by decide +kernel
theorem dX1_init_15 : decode cX1_init 15 = .ok (.newarray .long, 2) := by decide +kernel
theorem dX1_init_17 : decode cX1_init 17 = .ok (.putfield 15, 3) := by decide +kernel
theorem dX1_init_20 : decode cX1_init 20 = .ok (.aload_n 0, 1) := by decide +kernel
theorem dX1_init_21 : decode cX1_init 21 = .ok (.bipush 8, 2) := by decide +kernel
theorem dX1_init_23 : decode cX1_init 23 = .ok (.newarray .long, 2) := by decide +kernel
theorem dX1_init_25 : decode cX1_init 25 = .ok (.putfield 19, 3) := by decide +kernel
theorem dX1_init_28 : decode cX1_init 28 = .ok (.return_, 1) := by decide +kernel
theorem dX1_take_0 : decode cX1_take 0 = .ok (.aload_n 0, 1) := by decide +kernel
theorem dX1_take_1 : decode cX1_take 1 = .ok (.iconst 0, 1) := by decide +kernel
theorem dX1_take_2 : decode cX1_take 2 = .ok (.putfield 22, 3) := by decide +kernel
theorem dX1_take_5 : decode cX1_take 5 = .ok (.iconst 0, 1) := by decide +kernel
theorem dX1_take_6 : decode cX1_take 6 = .ok (.istore_n 2, 1) := by decide +kernel
theorem dX1_take_7 : decode cX1_take 7 = .ok (.iload_n 2, 1) := by decide +kernel
theorem dX1_take_8 : decode cX1_take 8 = .ok (.bipush 8, 2) := by decide +kernel
theorem dX1_take_10 : decode cX1_take 10 = .ok (.if_icmp .ge 36, 3) := by decide +kernel
theorem dX1_take_13 : decode cX1_take 13 = .ok (.aload_n 0, 1) := by decide +kernel
theorem dX1_take_14 : decode cX1_take 14 = .ok (.getfield 9, 3) := by decide +kernel
theorem dX1_take_17 : decode cX1_take 17 = .ok (.iload_n 2, 1) := by decide +kernel
theorem dX1_take_18 : decode cX1_take 18 = .ok (.aload_n 1, 1) := by decide +kernel
theorem dX1_take_19 : decode cX1_take 19 = .ok (.getfield 26, 3) := by decide +kernel
theorem dX1_take_22 : decode cX1_take 22 = .ok (.iload_n 2, 1) := by decide +kernel
theorem dX1_take_23 : decode cX1_take 23 = .ok (.iaload, 1) := by decide +kernel
theorem dX1_take_24 : decode cX1_take 24 = .ok (.iastore, 1) := by decide +kernel
theorem dX1_take_25 : decode cX1_take 25 = .ok (.aload_n 0, 1) := by decide +kernel
theorem dX1_take_26 : decode cX1_take 26 = .ok (.dup, 1) := by decide +kernel
theorem dX1_take_27 : decode cX1_take 27 = .ok (.getfield 22, 3) := by decide +kernel
theorem dX1_take_30 : decode cX1_take 30 = .ok (.aload_n 0, 1) := by decide +kernel
theorem dX1_take_31 : decode cX1_take 31 = .ok (.getfield 9, 3) := by decide +kernel
theorem dX1_take_34 : decode cX1_take 34 = .ok (.iload_n 2, 1) := by decide +kernel
theorem dX1_take_35 : decode cX1_take 35 = .ok (.iaload, 1) := by decide +kernel
theorem dX1_take_36 : decode cX1_take 36 = .ok (.iadd, 1) := by decide +kernel
theorem dX1_take_37 : decode cX1_take 37 = .ok (.putfield 22, 3) := by decide +kernel
theorem dX1_take_40 : decode cX1_take 40 = .ok (.iinc 2 1, 3) := by decide +kernel
theorem dX1_take_43 : decode cX1_take 43 = .ok (.goto (-36), 3) := by decide +kernel
theorem dX1_take_46 : decode cX1_take 46 = .ok (.return_, 1) := by decide +kernel
theorem dX1_countFloors_0 : decode cX1_countFloors 0 = .ok (.iconst 0, 1) := by decide +kernel
theorem dX1_countFloors_1 : decode cX1_countFloors 1 = .ok (.istore_n 3, 1) := by decide +kernel
theorem dX1_countFloors_2 : decode cX1_countFloors 2 = .ok (.lconst 0, 1) := by decide +kernel
theorem dX1_countFloors_3 : decode cX1_countFloors 3 = .ok (.lstore 4, 2) := by decide +kernel
theorem dX1_countFloors_5 : decode cX1_countFloors 5 = .ok (.iconst 0, 1) := by decide +kernel
theorem dX1_countFloors_6 : decode cX1_countFloors 6 = .ok (.istore 6, 2) := by decide +kernel
theorem dX1_countFloors_8 : decode cX1_countFloors 8 = .ok (.iload 6, 2) := by decide +kernel
theorem dX1_countFloors_10 : decode cX1_countFloors 10 = .ok (.bipush 8, 2) := by decide +kernel
theorem dX1_countFloors_12 : decode cX1_countFloors 12 = .ok (.if_icmp .ge 49, 3) := by decide +kernel
theorem dX1_countFloors_15 : decode cX1_countFloors 15 = .ok (.iload_n 3, 1) := by decide +kernel
theorem dX1_countFloors_16 : decode cX1_countFloors 16 = .ok (.aload_n 0, 1) := by decide +kernel
theorem dX1_countFloors_17 : decode cX1_countFloors 17 = .ok (.getfield 9, 3) := by decide +kernel
theorem dX1_countFloors_20 : decode cX1_countFloors 20 = .ok (.iload 6, 2) := by decide +kernel
theorem dX1_countFloors_22 : decode cX1_countFloors 22 = .ok (.iaload, 1) := by decide +kernel
theorem dX1_countFloors_23 : decode cX1_countFloors 23 = .ok (.iadd, 1) := by decide +kernel
theorem dX1_countFloors_24 : decode cX1_countFloors 24 = .ok (.istore_n 3, 1) := by decide +kernel
theorem dX1_countFloors_25 : decode cX1_countFloors 25 = .ok (.aload_n 0, 1) := by decide +kernel
theorem dX1_countFloors_26 : decode cX1_countFloors 26 = .ok (.iload_n 3, 1) := by decide +kernel
theorem dX1_countFloors_27 : decode cX1_countFloors 27 = .ok (.aload_n 1, 1) := by decide +kernel
theorem dX1_countFloors_28 : decode cX1_countFloors 28 = .ok (.iconst 0, 1) := by decide +kernel
theorem dX1_countFloors_29 : decode cX1_countFloors 29 = .ok (.iaload, 1) := by decide +kernel
theorem dX1_countFloors_30 : decode cX1_countFloors 30 = .ok (.aload_n 1, 1) := by decide +kernel
theorem dX1_countFloors_31 : decode cX1_countFloors 31 = .ok (.iconst 2, 1) := by decide +kernel
theorem dX1_countFloors_32 : decode cX1_countFloors 32 = .ok (.iaload, 1) := by decide +kernel
theorem dX1_countFloors_33 : decode cX1_countFloors 33 = .ok (.iload_n 2, 1) := by decide +kernel
theorem dX1_countFloors_34 : decode cX1_countFloors 34 = .ok (.invokevirtual 29, 3) := by decide +kernel
theorem dX1_countFloors_37 : decode cX1_countFloors 37 = .ok (.lstore 7, 2) := by decide +kernel
theorem dX1_countFloors_39 : decode cX1_countFloors 39 = .ok (.aload_n 0, 1) := by decide +kernel
theorem dX1_countFloors_40 : decode cX1_countFloors 40 = .ok (.getfield 19, 3) := by decide +kernel
theorem dX1_countFloors_43 : decode cX1_countFloors 43 = .ok (.iload 6, 2) := by decide +kernel
theorem dX1_countFloors_45 : decode cX1_countFloors 45 = .ok (.lload 7, 2) := by decide +kernel
theorem dX1_countFloors_47 : decode cX1_countFloors 47 = .ok (.lload 4, 2) := by decide +kernel
theorem dX1_countFloors_49 : decode cX1_countFloors 49 = .ok (.lsub, 1) := by decide +kernel
theorem dX1_countFloors_50 : decode cX1_countFloors 50 = .ok (.lastore, 1) := by decide +kernel
theorem dX1_countFloors_51 : decode cX1_countFloors 51 = .ok (.lload 7, 2) := by decide +kernel
theorem dX1_countFloors_53 : decode cX1_countFloors 53 = .ok (.lstore 4, 2) := by decide +kernel
theorem dX1_countFloors_55 : decode cX1_countFloors 55 = .ok (.iinc 6 1, 3) := by decide +kernel
theorem dX1_countFloors_58 : decode cX1_countFloors 58 = .ok (.goto (-50), 3) := by decide +kernel
theorem dX1_countFloors_61 : decode cX1_countFloors 61 = .ok (.return_, 1) := by decide +kernel
theorem dX1_waysOfFloorAtMost_0 : decode cX1_waysOfFloorAtMost 0 = .ok (.iload 4, 2) := by decide +kernel
theorem dX1_waysOfFloorAtMost_2 : decode cX1_waysOfFloorAtMost 2 = .ok (.ifCond .ne 13, 3) := by decide +kernel
theorem dX1_waysOfFloorAtMost_5 : decode cX1_waysOfFloorAtMost 5 = .ok (.aload_n 0, 1) := by decide +kernel
theorem dX1_waysOfFloorAtMost_6 : decode cX1_waysOfFloorAtMost 6 = .ok (.iload_n 1, 1) := by decide +kernel
theorem dX1_waysOfFloorAtMost_7 : decode cX1_waysOfFloorAtMost 7 = .ok (.iconst 2, 1) := by decide +kernel
theorem dX1_waysOfFloorAtMost_8 : decode cX1_waysOfFloorAtMost 8 = .ok (.iload_n 2, 1) := by decide +kernel
theorem dX1_waysOfFloorAtMost_9 : decode cX1_waysOfFloorAtMost 9 = .ok (.imul, 1) := by decide +kernel
theorem dX1_waysOfFloorAtMost_10 : decode cX1_waysOfFloorAtMost 10 = .ok (.iload_n 3, 1) := by decide +kernel
theorem dX1_waysOfFloorAtMost_11 : decode cX1_waysOfFloorAtMost 11 = .ok (.invokevirtual 33, 3) := by decide +kernel
theorem dX1_waysOfFloorAtMost_14 : decode cX1_waysOfFloorAtMost 14 = .ok (.lreturn, 1) := by decide +kernel
theorem dX1_waysOfFloorAtMost_15 : decode cX1_waysOfFloorAtMost 15 = .ok (.aload_n 0, 1) := by decide +kernel
theorem dX1_waysOfFloorAtMost_16 : decode cX1_waysOfFloorAtMost 16 = .ok (.iload_n 1, 1) := by decide +kernel
theorem dX1_waysOfFloorAtMost_17 : decode cX1_waysOfFloorAtMost 17 = .ok (.iload_n 2, 1) := by decide +kernel
theorem dX1_waysOfFloorAtMost_18 : decode cX1_waysOfFloorAtMost 18 = .ok (.iload_n 3, 1) := by decide +kernel
theorem dX1_waysOfFloorAtMost_19 : decode cX1_waysOfFloorAtMost 19 = .ok (.invokevirtual 33, 3) := by decide +kernel
theorem dX1_waysOfFloorAtMost_22 : decode cX1_waysOfFloorAtMost 22 = .ok (.lstore 5, 2) := by decide +kernel
theorem dX1_waysOfFloorAtMost_24 : decode cX1_waysOfFloorAtMost 24 = .ok (.iload 4, 2) := by decide +kernel
theorem dX1_waysOfFloorAtMost_26 : decode cX1_waysOfFloorAtMost 26 = .ok (.iconst 1, 1) := by decide +kernel
theorem dX1_waysOfFloorAtMost_27 : decode cX1_waysOfFloorAtMost 27 = .ok (.if_icmp .ne 9, 3) := by decide +kernel
theorem dX1_waysOfFloorAtMost_30 : decode cX1_waysOfFloorAtMost 30 = .ok (.lload 5, 2) := by decide +kernel
theorem dX1_waysOfFloorAtMost_32 : decode cX1_waysOfFloorAtMost 32 = .ok (.lload 5, 2) := by decide +kernel
theorem dX1_waysOfFloorAtMost_34 : decode cX1_waysOfFloorAtMost 34 = .ok (.lmul, 1) := by decide +kernel
theorem dX1_waysOfFloorAtMost_35 : decode cX1_waysOfFloorAtMost 35 = .ok (.lreturn, 1) := by decide +kernel
theorem dX1_waysOfFloorAtMost_36 : decode cX1_waysOfFloorAtMost 36 = .ok (.aload_n 0, 1) := by decide +kernel
theorem dX1_waysOfFloorAtMost_37 : decode cX1_waysOfFloorAtMost 37 = .ok (.iload_n 2, 1) := by decide +kernel
theorem dX1_waysOfFloorAtMost_38 : decode cX1_waysOfFloorAtMost 38 = .ok (.invokevirtual 37, 3) := by decide +kernel
theorem dX1_waysOfFloorAtMost_41 : decode cX1_waysOfFloorAtMost 41 = .ok (.lstore 7, 2) := by decide +kernel
theorem dX1_waysOfFloorAtMost_43 : decode cX1_waysOfFloorAtMost 43 = .ok (.lload 7, 2) := by decide +kernel
theorem dX1_waysOfFloorAtMost_45 : decode cX1_waysOfFloorAtMost 45 = .ok (.lload 7, 2) := by decide +kernel
theorem dX1_waysOfFloorAtMost_47 : decode cX1_waysOfFloorAtMost 47 = .ok (.lmul, 1) := by decide +kernel
theorem dX1_waysOfFloorAtMost_48 : decode cX1_waysOfFloorAtMost 48 = .ok (.lload 7, 2) := by decide +kernel
theorem dX1_waysOfFloorAtMost_50 : decode cX1_waysOfFloorAtMost 50 = .ok (.lload 5, 2) := by decide +kernel
theorem dX1_waysOfFloorAtMost_52 : decode cX1_waysOfFloorAtMost 52 = .ok (.lsub, 1) := by decide +kernel
theorem dX1_waysOfFloorAtMost_53 : decode cX1_waysOfFloorAtMost 53 = .ok (.lload 7, 2) := by decide +kernel
theorem dX1_waysOfFloorAtMost_55 : decode cX1_waysOfFloorAtMost 55 = .ok (.lload 5, 2) := by decide +kernel
theorem dX1_waysOfFloorAtMost_57 : decode cX1_waysOfFloorAtMost 57 = .ok (.lsub, 1) := by decide +kernel
theorem dX1_waysOfFloorAtMost_58 : decode cX1_waysOfFloorAtMost 58 = .ok (.lmul, 1) := by decide +kernel
theorem dX1_waysOfFloorAtMost_59 : decode cX1_waysOfFloorAtMost 59 = .ok (.lsub, 1) := by decide +kernel
theorem dX1_waysOfFloorAtMost_60 : decode cX1_waysOfFloorAtMost 60 = .ok (.lreturn, 1) := by decide +kernel
theorem dX1_waysOfRankAtMost_0 : decode cX1_waysOfRankAtMost 0 = .ok (.aload_n 0, 1) := by decide +kernel
theorem dX1_waysOfRankAtMost_1 : decode cX1_waysOfRankAtMost 1 = .ok (.getfield 22, 3) := by decide +kernel
theorem dX1_waysOfRankAtMost_4 : decode cX1_waysOfRankAtMost 4 = .ok (.iload_n 1, 1) := by decide +kernel
theorem dX1_waysOfRankAtMost_5 : decode cX1_waysOfRankAtMost 5 = .ok (.isub, 1) := by decide +kernel
theorem dX1_waysOfRankAtMost_6 : decode cX1_waysOfRankAtMost 6 = .ok (.istore 4, 2) := by decide +kernel
theorem dX1_waysOfRankAtMost_8 : decode cX1_waysOfRankAtMost 8 = .ok (.aload_n 0, 1) := by decide +kernel
theorem dX1_waysOfRankAtMost_9 : decode cX1_waysOfRankAtMost 9 = .ok (.getfield 15, 3) := by decide +kernel
theorem dX1_waysOfRankAtMost_12 : decode cX1_waysOfRankAtMost 12 = .ok (.lconst 0, 1) := by decide +kernel
theorem dX1_waysOfRankAtMost_13 : decode cX1_waysOfRankAtMost 13 = .ok (.invokestatic 41, 3) := by decide +kernel
theorem dX1_waysOfRankAtMost_16 : decode cX1_waysOfRankAtMost 16 = .ok (.aload_n 0, 1) := by decide +kernel
theorem dX1_waysOfRankAtMost_17 : decode cX1_waysOfRankAtMost 17 = .ok (.getfield 15, 3) := by decide +kernel
theorem dX1_waysOfRankAtMost_20 : decode cX1_waysOfRankAtMost 20 = .ok (.iconst 0, 1) := by decide +kernel
theorem dX1_waysOfRankAtMost_21 : decode cX1_waysOfRankAtMost 21 = .ok (.lconst 1, 1) := by decide +kernel
theorem dX1_waysOfRankAtMost_22 : decode cX1_waysOfRankAtMost 22 = .ok (.lastore, 1) := by decide +kernel
theorem dX1_waysOfRankAtMost_23 : decode cX1_waysOfRankAtMost 23 = .ok (.iconst 1, 1) := by decide +kernel
theorem dX1_waysOfRankAtMost_24 : decode cX1_waysOfRankAtMost 24 = .ok (.istore 5, 2) := by decide +kernel
theorem dX1_waysOfRankAtMost_26 : decode cX1_waysOfRankAtMost 26 = .ok (.iload 5, 2) := by decide +kernel
theorem dX1_waysOfRankAtMost_28 : decode cX1_waysOfRankAtMost 28 = .ok (.iload_n 2, 1) := by decide +kernel
theorem dX1_waysOfRankAtMost_29 : decode cX1_waysOfRankAtMost 29 = .ok (.if_icmp .gt 74, 3) := by decide +kernel
theorem dX1_waysOfRankAtMost_32 : decode cX1_waysOfRankAtMost 32 = .ok (.iload 5, 2) := by decide +kernel
theorem dX1_waysOfRankAtMost_34 : decode cX1_waysOfRankAtMost 34 = .ok (.bipush 12, 2) := by decide +kernel
theorem dX1_waysOfRankAtMost_36 : decode cX1_waysOfRankAtMost 36 = .ok (.if_icmp .gt 67, 3) := by decide +kernel
theorem dX1_waysOfRankAtMost_39 : decode cX1_waysOfRankAtMost 39 = .ok (.iload 5, 2) := by decide +kernel
theorem dX1_waysOfRankAtMost_41 : decode cX1_waysOfRankAtMost 41 = .ok (.istore 6, 2) := by decide +kernel
theorem dX1_waysOfRankAtMost_43 : decode cX1_waysOfRankAtMost 43 = .ok (.iload 6, 2) := by decide +kernel
theorem dX1_waysOfRankAtMost_45 : decode cX1_waysOfRankAtMost 45 = .ok (.ifCond .le 40, 3) := by decide +kernel
theorem dX1_waysOfRankAtMost_48 : decode cX1_waysOfRankAtMost 48 = .ok (.aload_n 0, 1) := by decide +kernel
theorem dX1_waysOfRankAtMost_49 : decode cX1_waysOfRankAtMost 49 = .ok (.getfield 15, 3) := by decide +kernel
theorem dX1_waysOfRankAtMost_52 : decode cX1_waysOfRankAtMost 52 = .ok (.iload 6, 2) := by decide +kernel
theorem dX1_waysOfRankAtMost_54 : decode cX1_waysOfRankAtMost 54 = .ok (.aload_n 0, 1) := by decide +kernel
theorem dX1_waysOfRankAtMost_55 : decode cX1_waysOfRankAtMost 55 = .ok (.getfield 15, 3) := by decide +kernel
theorem dX1_waysOfRankAtMost_58 : decode cX1_waysOfRankAtMost 58 = .ok (.iload 6, 2) := by decide +kernel
theorem dX1_waysOfRankAtMost_60 : decode cX1_waysOfRankAtMost 60 = .ok (.laload, 1) := by decide +kernel
theorem dX1_waysOfRankAtMost_61 : decode cX1_waysOfRankAtMost 61 = .ok (.iload 4, 2) := by decide +kernel
theorem dX1_waysOfRankAtMost_63 : decode cX1_waysOfRankAtMost 63 = .ok (.i2l, 1) := by decide +kernel
theorem dX1_waysOfRankAtMost_64 : decode cX1_waysOfRankAtMost 64 = .ok (.lmul, 1) := by decide +kernel
theorem dX1_waysOfRankAtMost_65 : decode cX1_waysOfRankAtMost 65 = .ok (.aload_n 0, 1) := by decide +kernel
theorem dX1_waysOfRankAtMost_66 : decode cX1_waysOfRankAtMost 66 = .ok (.getfield 15, 3) := by decide +kernel
theorem dX1_waysOfRankAtMost_69 : decode cX1_waysOfRankAtMost 69 = .ok (.iload 6, 2) := by decide +kernel
theorem dX1_waysOfRankAtMost_71 : decode cX1_waysOfRankAtMost 71 = .ok (.iconst 1, 1) := by decide +kernel
theorem dX1_waysOfRankAtMost_72 : decode cX1_waysOfRankAtMost 72 = .ok (.isub, 1) := by decide +kernel
theorem dX1_waysOfRankAtMost_73 : decode cX1_waysOfRankAtMost 73 = .ok (.laload, 1) := by decide +kernel
theorem dX1_waysOfRankAtMost_74 : decode cX1_waysOfRankAtMost 74 = .ok (.iload_n 1, 1) := by decide +kernel
theorem dX1_waysOfRankAtMost_75 : decode cX1_waysOfRankAtMost 75 = .ok (.i2l, 1) := by decide +kernel
theorem dX1_waysOfRankAtMost_76 : decode cX1_waysOfRankAtMost 76 = .ok (.lmul, 1) := by decide +kernel
theorem dX1_waysOfRankAtMost_77 : decode cX1_waysOfRankAtMost 77 = .ok (.ladd, 1) := by decide +kernel
theorem dX1_waysOfRankAtMost_78 : decode cX1_waysOfRankAtMost 78 = .ok (.lastore, 1) := by decide +kernel
theorem dX1_waysOfRankAtMost_79 : decode cX1_waysOfRankAtMost 79 = .ok (.iinc 6 (-1), 3) := by decide +kernel
theorem dX1_waysOfRankAtMost_82 : decode cX1_waysOfRankAtMost 82 = .ok (.goto (-39), 3) := by decide +kernel
theorem dX1_waysOfRankAtMost_85 : decode cX1_waysOfRankAtMost 85 = .ok (.aload_n 0, 1) := by decide +kernel
theorem dX1_waysOfRankAtMost_86 : decode cX1_waysOfRankAtMost 86 = .ok (.getfield 15, 3) := by decide +kernel
theorem dX1_waysOfRankAtMost_89 : decode cX1_waysOfRankAtMost 89 = .ok (.iconst 0, 1) := by decide +kernel
theorem dX1_waysOfRankAtMost_90 : decode cX1_waysOfRankAtMost 90 = .ok (.dup2, 1) := by decide +kernel
theorem dX1_waysOfRankAtMost_91 : decode cX1_waysOfRankAtMost 91 = .ok (.laload, 1) := by decide +kernel
theorem dX1_waysOfRankAtMost_92 : decode cX1_waysOfRankAtMost 92 = .ok (.iload 4, 2) := by decide +kernel
theorem dX1_waysOfRankAtMost_94 : decode cX1_waysOfRankAtMost 94 = .ok (.i2l, 1) := by decide +kernel
theorem dX1_waysOfRankAtMost_95 : decode cX1_waysOfRankAtMost 95 = .ok (.lmul, 1) := by decide +kernel
theorem dX1_waysOfRankAtMost_96 : decode cX1_waysOfRankAtMost 96 = .ok (.lastore, 1) := by decide +kernel
theorem dX1_waysOfRankAtMost_97 : decode cX1_waysOfRankAtMost 97 = .ok (.iinc 5 1, 3) := by decide +kernel
theorem dX1_waysOfRankAtMost_100 : decode cX1_waysOfRankAtMost 100 = .ok (.goto (-74), 3) := by decide +kernel
theorem dX1_waysOfRankAtMost_103 : decode cX1_waysOfRankAtMost 103 = .ok (.lconst 0, 1) := by decide +kernel
theorem dX1_waysOfRankAtMost_104 : decode cX1_waysOfRankAtMost 104 = .ok (.lstore 5, 2) := by decide +kernel
theorem dX1_waysOfRankAtMost_106 : decode cX1_waysOfRankAtMost 106 = .ok (.iload_n 3, 1) := by decide +kernel
theorem dX1_waysOfRankAtMost_107 : decode cX1_waysOfRankAtMost 107 = .ok (.iload_n 2, 1) := by decide +kernel
theorem dX1_waysOfRankAtMost_108 : decode cX1_waysOfRankAtMost 108 = .ok (.invokestatic 47, 3) := by decide +kernel
theorem dX1_waysOfRankAtMost_111 : decode cX1_waysOfRankAtMost 111 = .ok (.istore 7, 2) := by decide +kernel
theorem dX1_waysOfRankAtMost_113 : decode cX1_waysOfRankAtMost 113 = .ok (.iload 7, 2) := by decide +kernel
theorem dX1_waysOfRankAtMost_115 : decode cX1_waysOfRankAtMost 115 = .ok (.iload_n 2, 1) := by decide +kernel
theorem dX1_waysOfRankAtMost_116 : decode cX1_waysOfRankAtMost 116 = .ok (.if_icmp .gt 28, 3) := by decide +kernel
theorem dX1_waysOfRankAtMost_119 : decode cX1_waysOfRankAtMost 119 = .ok (.iload 7, 2) := by decide +kernel
theorem dX1_waysOfRankAtMost_121 : decode cX1_waysOfRankAtMost 121 = .ok (.bipush 12, 2) := by decide +kernel
theorem dX1_waysOfRankAtMost_123 : decode cX1_waysOfRankAtMost 123 = .ok (.if_icmp .gt 21, 3) := by decide +kernel
theorem dX1_waysOfRankAtMost_126 : decode cX1_waysOfRankAtMost 126 = .ok (.lload 5, 2) := by decide +kernel
theorem dX1_waysOfRankAtMost_128 : decode cX1_waysOfRankAtMost 128 = .ok (.aload_n 0, 1) := by decide +kernel
theorem dX1_waysOfRankAtMost_129 : decode cX1_waysOfRankAtMost 129 = .ok (.getfield 15, 3) := by decide +kernel
theorem dX1_waysOfRankAtMost_132 : decode cX1_waysOfRankAtMost 132 = .ok (.iload 7, 2) := by decide +kernel
theorem dX1_waysOfRankAtMost_134 : decode cX1_waysOfRankAtMost 134 = .ok (.laload, 1) := by decide +kernel
theorem dX1_waysOfRankAtMost_135 : decode cX1_waysOfRankAtMost 135 = .ok (.ladd, 1) := by decide +kernel
theorem dX1_waysOfRankAtMost_136 : decode cX1_waysOfRankAtMost 136 = .ok (.lstore 5, 2) := by decide +kernel
theorem dX1_waysOfRankAtMost_138 : decode cX1_waysOfRankAtMost 138 = .ok (.iinc 7 1, 3) := by decide +kernel
theorem dX1_waysOfRankAtMost_141 : decode cX1_waysOfRankAtMost 141 = .ok (.goto (-28), 3) := by decide +kernel
theorem dX1_waysOfRankAtMost_144 : decode cX1_waysOfRankAtMost 144 = .ok (.lload 5, 2) := by decide +kernel
theorem dX1_waysOfRankAtMost_146 : decode cX1_waysOfRankAtMost 146 = .ok (.lreturn, 1) := by decide +kernel
theorem dX1_raised_0 : decode cX1_raised 0 = .ok (.lconst 1, 1) := by decide +kernel
theorem dX1_raised_1 : decode cX1_raised 1 = .ok (.lstore_n 2, 1) := by decide +kernel
theorem dX1_raised_2 : decode cX1_raised 2 = .ok (.iconst 0, 1) := by decide +kernel
theorem dX1_raised_3 : decode cX1_raised 3 = .ok (.istore 4, 2) := by decide +kernel
theorem dX1_raised_5 : decode cX1_raised 5 = .ok (.iload 4, 2) := by decide +kernel
theorem dX1_raised_7 : decode cX1_raised 7 = .ok (.iload_n 1, 1) := by decide +kernel
theorem dX1_raised_8 : decode cX1_raised 8 = .ok (.if_icmp .ge 17, 3) := by decide +kernel
theorem dX1_raised_11 : decode cX1_raised 11 = .ok (.lload_n 2, 1) := by decide +kernel
theorem dX1_raised_12 : decode cX1_raised 12 = .ok (.aload_n 0, 1) := by decide +kernel
theorem dX1_raised_13 : decode cX1_raised 13 = .ok (.getfield 22, 3) := by decide +kernel
theorem dX1_raised_16 : decode cX1_raised 16 = .ok (.i2l, 1) := by decide +kernel
theorem dX1_raised_17 : decode cX1_raised 17 = .ok (.lmul, 1) := by decide +kernel
theorem dX1_raised_18 : decode cX1_raised 18 = .ok (.lstore_n 2, 1) := by decide +kernel
theorem dX1_raised_19 : decode cX1_raised 19 = .ok (.iinc 4 1, 3) := by decide +kernel
theorem dX1_raised_22 : decode cX1_raised 22 = .ok (.goto (-17), 3) := by decide +kernel
theorem dX1_raised_25 : decode cX1_raised 25 = .ok (.lload_n 2, 1) := by decide +kernel
theorem dX1_raised_26 : decode cX1_raised 26 = .ok (.lreturn, 1) := by decide +kernel
theorem dX1_allWays_0 : decode cX1_allWays 0 = .ok (.aload_n 0, 1) := by decide +kernel
theorem dX1_allWays_1 : decode cX1_allWays 1 = .ok (.iconst 2, 1) := by decide +kernel
theorem dX1_allWays_2 : decode cX1_allWays 2 = .ok (.iload_n 1, 1) := by decide +kernel
theorem dX1_allWays_3 : decode cX1_allWays 3 = .ok (.imul, 1) := by decide +kernel
theorem dX1_allWays_4 : decode cX1_allWays 4 = .ok (.iconst 1, 1) := by decide +kernel
theorem dX1_allWays_5 : decode cX1_allWays 5 = .ok (.iadd, 1) := by decide +kernel
theorem dX1_allWays_6 : decode cX1_allWays 6 = .ok (.invokevirtual 37, 3) := by decide +kernel
theorem dX1_allWays_9 : decode cX1_allWays 9 = .ok (.lreturn, 1) := by decide +kernel
theorem dX1_alarmWays_0 : decode cX1_alarmWays 0 = .ok (.lconst 0, 1) := by decide +kernel
theorem dX1_alarmWays_1 : decode cX1_alarmWays 1 = .ok (.lstore_n 3, 1) := by decide +kernel
theorem dX1_alarmWays_2 : decode cX1_alarmWays 2 = .ok (.iconst 0, 1) := by decide +kernel
theorem dX1_alarmWays_3 : decode cX1_alarmWays 3 = .ok (.istore 5, 2) := by decide +kernel
theorem dX1_alarmWays_5 : decode cX1_alarmWays 5 = .ok (.iload 5, 2) := by decide +kernel
theorem dX1_alarmWays_7 : decode cX1_alarmWays 7 = .ok (.bipush 8, 2) := by decide +kernel
theorem dX1_alarmWays_9 : decode cX1_alarmWays 9 = .ok (.if_icmp .ge 55, 3) := by decide +kernel
theorem dX1_alarmWays_12 : decode cX1_alarmWays 12 = .ok (.iconst 0, 1) := by decide +kernel
theorem dX1_alarmWays_13 : decode cX1_alarmWays 13 = .ok (.istore 6, 2) := by decide +kernel
theorem dX1_alarmWays_15 : decode cX1_alarmWays 15 = .ok (.iload 6, 2) := by decide +kernel
theorem dX1_alarmWays_17 : decode cX1_alarmWays 17 = .ok (.bipush 8, 2) := by decide +kernel
theorem dX1_alarmWays_19 : decode cX1_alarmWays 19 = .ok (.if_icmp .ge 39, 3) := by decide +kernel
theorem dX1_alarmWays_22 : decode cX1_alarmWays 22 = .ok (.iload_n 1, 1) := by decide +kernel
theorem dX1_alarmWays_23 : decode cX1_alarmWays 23 = .ok (.iload 6, 2) := by decide +kernel
theorem dX1_alarmWays_25 : decode cX1_alarmWays 25 = .ok (.imul, 1) := by decide +kernel
theorem dX1_alarmWays_26 : decode cX1_alarmWays 26 = .ok (.iload_n 2, 1) := by decide +kernel
theorem dX1_alarmWays_27 : decode cX1_alarmWays 27 = .ok (.iload 5, 2) := by decide +kernel
theorem dX1_alarmWays_29 : decode cX1_alarmWays 29 = .ok (.imul, 1) := by decide +kernel
theorem dX1_alarmWays_30 : decode cX1_alarmWays 30 = .ok (.if_icmp .ge 28, 3) := by decide +kernel
theorem dX1_alarmWays_33 : decode cX1_alarmWays 33 = .ok (.lload_n 3, 1) := by decide +kernel
theorem dX1_alarmWays_34 : decode cX1_alarmWays 34 = .ok (.aload_n 0, 1) := by decide +kernel
theorem dX1_alarmWays_35 : decode cX1_alarmWays 35 = .ok (.getfield 9, 3) := by decide +kernel
theorem dX1_alarmWays_38 : decode cX1_alarmWays 38 = .ok (.iload 5, 2) := by decide +kernel
theorem dX1_alarmWays_40 : decode cX1_alarmWays 40 = .ok (.iaload, 1) := by decide +kernel
theorem dX1_alarmWays_41 : decode cX1_alarmWays 41 = .ok (.i2l, 1) := by decide +kernel
theorem dX1_alarmWays_42 : decode cX1_alarmWays 42 = .ok (.aload_n 0, 1) := by decide +kernel
theorem dX1_alarmWays_43 : decode cX1_alarmWays 43 = .ok (.getfield 19, 3) := by decide +kernel
theorem dX1_alarmWays_46 : decode cX1_alarmWays 46 = .ok (.iload 6, 2) := by decide +kernel
theorem dX1_alarmWays_48 : decode cX1_alarmWays 48 = .ok (.laload, 1) := by decide +kernel
theorem dX1_alarmWays_49 : decode cX1_alarmWays 49 = .ok (.lmul, 1) := by decide +kernel
theorem dX1_alarmWays_50 : decode cX1_alarmWays 50 = .ok (.ladd, 1) := by decide +kernel
theorem dX1_alarmWays_51 : decode cX1_alarmWays 51 = .ok (.lstore_n 3, 1) := by decide +kernel
theorem dX1_alarmWays_52 : decode cX1_alarmWays 52 = .ok (.iinc 6 1, 3) := by decide +kernel
theorem dX1_alarmWays_55 : decode cX1_alarmWays 55 = .ok (.goto (-40), 3) := by decide +kernel
theorem dX1_alarmWays_58 : decode cX1_alarmWays 58 = .ok (.iinc 5 1, 3) := by decide +kernel
theorem dX1_alarmWays_61 : decode cX1_alarmWays 61 = .ok (.goto (-56), 3) := by decide +kernel
theorem dX1_alarmWays_64 : decode cX1_alarmWays 64 = .ok (.lload_n 3, 1) := by decide +kernel
theorem dX1_alarmWays_65 : decode cX1_alarmWays 65 = .ok (.lreturn, 1) := by decide +kernel
theorem dX2_init_0 : decode cX2_init 0 = .ok (.aload_n 0, 1) := by decide +kernel
theorem dX2_init_1 : decode cX2_init 1 = .ok (.invokespecial 3, 3) := by decide +kernel
theorem dX2_init_4 : decode cX2_init 4 = .ok (.aload_n 0, 1) := by decide +kernel
theorem dX2_init_5 : decode cX2_init 5 = .ok (.bipush 6, 2) := by decide +kernel
theorem dX2_init_7 : decode cX2_init 7 = .ok (.newarray .int, 2) := by decide +kernel
theorem dX2_init_9 : decode cX2_init 9 = .ok (.putfield 9, 3) := by decide +kernel
theorem dX2_init_12 : decode cX2_init 12 = .ok (.aload_n 0, 1) := by decide +kernel
theorem dX2_init_13 : decode cX2_init 13 = .ok (.bipush 6, 2) := by decide +kernel
theorem dX2_init_15 : decode cX2_init 15 = .ok (.newarray .int, 2) := by decide +kernel
theorem dX2_init_17 : decode cX2_init 17 = .ok (.putfield 15, 3) := by decide +kernel
theorem dX2_init_20 : decode cX2_init 20 = .ok (.aload_n 0, 1) := by decide +kernel
theorem dX2_init_21 : decode cX2_init 21 = .ok (.bipush 6, 2) := by decide +kernel
theorem dX2_init_23 : decode cX2_init 23 = .ok (.newarray .int, 2) := by decide +kernel
theorem dX2_init_25 : decode cX2_init 25 = .ok (.putfield 18, 3) := by decide +kernel
theorem dX2_init_28 : decode cX2_init 28 = .ok (.return_, 1) := by decide +kernel
theorem dX2_keep_0 : decode cX2_keep 0 = .ok (.aload_n 0, 1) := by decide +kernel
theorem dX2_keep_1 : decode cX2_keep 1 = .ok (.getfield 21, 3) := by decide +kernel
theorem dX2_keep_4 : decode cX2_keep 4 = .ok (.bipush 6, 2) := by decide +kernel
theorem dX2_keep_6 : decode cX2_keep 6 = .ok (.if_icmp .lt 7, 3) := by decide +kernel
theorem dX2_keep_9 : decode cX2_keep 9 = .ok (.aload_n 0, 1) := by decide +kernel
theorem dX2_keep_10 : decode cX2_keep 10 = .ok (.invokevirtual 25, 3) := by decide +kernel
theorem dX2_keep_13 : decode cX2_keep 13 = .ok (.aload_n 0, 1) := by decide +kernel
theorem dX2_keep_14 : decode cX2_keep 14 = .ok (.getfield 9, 3) := by decide +kernel
theorem dX2_keep_17 : decode cX2_keep 17 = .ok (.aload_n 0, 1) := by decide +kernel
theorem dX2_keep_18 : decode cX2_keep 18 = .ok (.getfield 21, 3) := by decide +kernel
theorem dX2_keep_21 : decode cX2_keep 21 = .ok (.iload_n 1, 1) := by decide +kernel
theorem dX2_keep_22 : decode cX2_keep 22 = .ok (.iastore, 1) := by decide +kernel
theorem dX2_keep_23 : decode cX2_keep 23 = .ok (.aload_n 0, 1) := by decide +kernel
theorem dX2_keep_24 : decode cX2_keep 24 = .ok (.getfield 15, 3) := by decide +kernel
theorem dX2_keep_27 : decode cX2_keep 27 = .ok (.aload_n 0, 1) := by decide +kernel
theorem dX2_keep_28 : decode cX2_keep 28 = .ok (.getfield 21, 3) := by decide +kernel
theorem dX2_keep_31 : decode cX2_keep 31 = .ok (.iload_n 2, 1) := by decide +kernel
theorem dX2_keep_32 : decode cX2_keep 32 = .ok (.iastore, 1) := by decide +kernel
theorem dX2_keep_33 : decode cX2_keep 33 = .ok (.aload_n 0, 1) := by decide +kernel
theorem dX2_keep_34 : decode cX2_keep 34 = .ok (.getfield 18, 3) := by decide +kernel
theorem dX2_keep_37 : decode cX2_keep 37 = .ok (.aload_n 0, 1) := by decide +kernel
theorem dX2_keep_38 : decode cX2_keep 38 = .ok (.getfield 21, 3) := by decide +kernel
theorem dX2_keep_41 : decode cX2_keep 41 = .ok (.iload_n 3, 1) := by decide +kernel
theorem dX2_keep_42 : decode cX2_keep 42 = .ok (.iastore, 1) := by decide +kernel
theorem dX2_keep_43 : decode cX2_keep 43 = .ok (.aload_n 0, 1) := by decide +kernel
theorem dX2_keep_44 : decode cX2_keep 44 = .ok (.dup, 1) := by decide +kernel
theorem dX2_keep_45 : decode cX2_keep 45 = .ok (.getfield 21, 3) := by decide +kernel
theorem dX2_keep_48 : decode cX2_keep 48 = .ok (.iconst 1, 1) := by decide +kernel
theorem dX2_keep_49 : decode cX2_keep 49 = .ok (.iadd, 1) := by decide +kernel
theorem dX2_keep_50 : decode cX2_keep 50 = .ok (.putfield 21, 3) := by decide +kernel
theorem dX2_keep_53 : decode cX2_keep 53 = .ok (.return_, 1) := by decide +kernel
theorem dX2_forgetOldest_0 : decode cX2_forgetOldest 0 = .ok (.aload_n 0, 1) := by decide +kernel
theorem dX2_forgetOldest_1 : decode cX2_forgetOldest 1 = .ok (.iconst 5, 1) := by decide +kernel
theorem dX2_forgetOldest_2 : decode cX2_forgetOldest 2 = .ok (.putfield 21, 3) := by decide +kernel
theorem dX2_forgetOldest_5 : decode cX2_forgetOldest 5 = .ok (.aload_n 0, 1) := by decide +kernel
theorem dX2_forgetOldest_6 : decode cX2_forgetOldest 6 = .ok (.getfield 9, 3) := by decide +kernel
theorem dX2_forgetOldest_9 : decode cX2_forgetOldest 9 = .ok (.iconst 1, 1) := by decide +kernel
theorem dX2_forgetOldest_10 : decode cX2_forgetOldest 10 = .ok (.aload_n 0, 1) := by decide +kernel
theorem dX2_forgetOldest_11 : decode cX2_forgetOldest 11 = .ok (.getfield 9, 3) := by decide +kernel
theorem dX2_forgetOldest_14 : decode cX2_forgetOldest 14 = .ok (.iconst 0, 1) := by decide +kernel
theorem dX2_forgetOldest_15 : decode cX2_forgetOldest 15 = .ok (.aload_n 0, 1) := by decide +kernel
theorem dX2_forgetOldest_16 : decode cX2_forgetOldest 16 = .ok (.getfield 21, 3) := by decide +kernel
theorem dX2_forgetOldest_19 : decode cX2_forgetOldest 19 = .ok (.invokestatic 28, 3) := by decide +kernel
theorem dX2_forgetOldest_22 : decode cX2_forgetOldest 22 = .ok (.aload_n 0, 1) := by decide +kernel
theorem dX2_forgetOldest_23 : decode cX2_forgetOldest 23 = .ok (.getfield 15, 3) := by decide +kernel
theorem dX2_forgetOldest_26 : decode cX2_forgetOldest 26 = .ok (.iconst 1, 1) := by decide +kernel
theorem dX2_forgetOldest_27 : decode cX2_forgetOldest 27 = .ok (.aload_n 0, 1) := by decide +kernel
theorem dX2_forgetOldest_28 : decode cX2_forgetOldest 28 = .ok (.getfield 15, 3) := by decide +kernel
theorem dX2_forgetOldest_31 : decode cX2_forgetOldest 31 = .ok (.iconst 0, 1) := by decide +kernel
theorem dX2_forgetOldest_32 : decode cX2_forgetOldest 32 = .ok (.aload_n 0, 1) := by decide +kernel
theorem dX2_forgetOldest_33 : decode cX2_forgetOldest 33 = .ok (.getfield 21, 3) := by decide +kernel
theorem dX2_forgetOldest_36 : decode cX2_forgetOldest 36 = .ok (.invokestatic 28, 3) := by decide +kernel
theorem dX2_forgetOldest_39 : decode cX2_forgetOldest 39 = .ok (.aload_n 0, 1) := by decide +kernel
theorem dX2_forgetOldest_40 : decode cX2_forgetOldest 40 = .ok (.getfield 18, 3) := by decide +kernel
theorem dX2_forgetOldest_43 : decode cX2_forgetOldest 43 = .ok (.iconst 1, 1) := by decide +kernel
theorem dX2_forgetOldest_44 : decode cX2_forgetOldest 44 = .ok (.aload_n 0, 1) := by decide +kernel
theorem dX2_forgetOldest_45 : decode cX2_forgetOldest 45 = .ok (.getfield 18, 3) := by decide +kernel
theorem dX2_forgetOldest_48 : decode cX2_forgetOldest 48 = .ok (.iconst 0, 1) := by decide +kernel
theorem dX2_forgetOldest_49 : decode cX2_forgetOldest 49 = .ok (.aload_n 0, 1) := by decide +kernel
theorem dX2_forgetOldest_50 : decode cX2_forgetOldest 50 = .ok (.getfield 21, 3) := by decide +kernel
theorem dX2_forgetOldest_53 : decode cX2_forgetOldest 53 = .ok (.invokestatic 28, 3) := by decide +kernel
theorem dX2_forgetOldest_56 : decode cX2_forgetOldest 56 = .ok (.return_, 1) := by decide +kernel
theorem dX3_init_0 : decode cX3_init 0 = .ok (.aload_n 0, 1) := by decide +kernel
theorem dX3_init_1 : decode cX3_init 1 = .ok (.invokespecial 3, 3) := by decide +kernel
theorem dX3_init_4 : decode cX3_init 4 = .ok (.aload_n 0, 1) := by decide +kernel
theorem dX3_init_5 : decode cX3_init 5 = .ok (.bipush 48, 2) := by decide +kernel
theorem dX3_init_7 : decode cX3_init 7 = .ok (.newarray .int, 2) := by decide +kernel
theorem dX3_init_9 : decode cX3_init 9 = .ok (.putfield 9, 3) := by decide +kernel
theorem dX3_init_12 : decode cX3_init 12 = .ok (.aload_n 0, 1) := by decide +kernel
theorem dX3_init_13 : decode cX3_init 13 = .ok (.bipush 48, 2) := by decide +kernel
theorem dX3_init_15 : decode cX3_init 15 = .ok (.newarray .int, 2) := by decide +kernel
theorem dX3_init_17 : decode cX3_init 17 = .ok (.putfield 15, 3) := by decide +kernel
theorem dX3_init_20 : decode cX3_init 20 = .ok (.aload_n 0, 1) := by decide +kernel
theorem dX3_init_21 : decode cX3_init 21 = .ok (.getstatic 18, 3) := by decide +kernel
theorem dX3_init_24 : decode cX3_init 24 = .ok (.arraylength, 1) := by decide +kernel
theorem dX3_init_25 : decode cX3_init 25 = .ok (.newarray .int, 2) := by decide +kernel
theorem dX3_init_27 : decode cX3_init 27 = .ok (.putfield 21, 3) := by decide +kernel
theorem dX3_init_30 : decode cX3_init 30 = .ok (.aload_n 0, 1) := by decide +kernel
theorem dX3_init_31 : decode cX3_init 31 = .ok (.bipush 12, 2) := by decide +kernel
theorem dX3_init_33 : decode cX3_init 33 = .ok (.newarray .int, 2) := by decide +kernel
theorem dX3_init_35 : decode cX3_init 35 = .ok (.putfield 24, 3) := by decide +kernel
theorem dX3_init_38 : decode cX3_init 38 = .ok (.return_, 1) := by decide +kernel
theorem dX3_has_0 : decode cX3_has 0 = .ok (.iload_n 1, 1) := by decide +kernel
theorem dX3_has_1 : decode cX3_has 1 = .ok (.ifCond .lt 21, 3) := by decide +kernel
theorem dX3_has_4 : decode cX3_has 4 = .ok (.iload_n 1, 1) := by decide +kernel
theorem dX3_has_5 : decode cX3_has 5 = .ok (.aload_n 0, 1) := by decide +kernel
theorem dX3_has_6 : decode cX3_has 6 = .ok (.getfield 27, 3) := by decide +kernel
theorem dX3_has_9 : decode cX3_has 9 = .ok (.if_icmp .ge 13, 3) := by decide +kernel
theorem dX3_has_12 : decode cX3_has 12 = .ok (.iload_n 1, 1) := by decide +kernel
theorem dX3_has_13 : decode cX3_has 13 = .ok (.bipush 48, 2) := by decide +kernel
theorem dX3_has_15 : decode cX3_has 15 = .ok (.if_icmp .ge 7, 3) := by decide +kernel
theorem dX3_has_18 : decode cX3_has 18 = .ok (.iconst 1, 1) := by decide +kernel
theorem dX3_has_19 : decode cX3_has 19 = .ok (.goto 4, 3) := by decide +kernel
theorem dX3_has_22 : decode cX3_has 22 = .ok (.iconst 0, 1) := by decide +kernel
theorem dX3_has_23 : decode cX3_has 23 = .ok (.ireturn, 1) := by decide +kernel
theorem dX3_take_0 : decode cX3_take 0 = .ok (.aload_n 1, 1) := by decide +kernel
theorem dX3_take_1 : decode cX3_take 1 = .ok (.getfield 31, 3) := by decide +kernel
theorem dX3_take_4 : decode cX3_take 4 = .ok (.iconst 0, 1) := by decide +kernel
theorem dX3_take_5 : decode cX3_take 5 = .ok (.aload_n 0, 1) := by decide +kernel
theorem dX3_take_6 : decode cX3_take 6 = .ok (.getfield 9, 3) := by decide +kernel
theorem dX3_take_9 : decode cX3_take 9 = .ok (.iconst 0, 1) := by decide +kernel
theorem dX3_take_10 : decode cX3_take 10 = .ok (.bipush 48, 2) := by decide +kernel
theorem dX3_take_12 : decode cX3_take 12 = .ok (.invokestatic 34, 3) := by decide +kernel
theorem dX3_take_15 : decode cX3_take 15 = .ok (.aload_n 1, 1) := by decide +kernel
theorem dX3_take_16 : decode cX3_take 16 = .ok (.getfield 40, 3) := by decide +kernel
theorem dX3_take_19 : decode cX3_take 19 = .ok (.iconst 0, 1) := by decide +kernel
theorem dX3_take_20 : decode cX3_take 20 = .ok (.aload_n 0, 1) := by decide +kernel
theorem dX3_take_21 : decode cX3_take 21 = .ok (.getfield 21, 3) := by decide +kernel
theorem dX3_take_24 : decode cX3_take 24 = .ok (.iconst 0, 1) := by decide +kernel
theorem dX3_take_25 : decode cX3_take 25 = .ok (.aload_n 0, 1) := by decide +kernel
theorem dX3_take_26 : decode cX3_take 26 = .ok (.getfield 21, 3) := by decide +kernel
theorem dX3_take_29 : decode cX3_take 29 = .ok (.arraylength, 1) := by decide +kernel
theorem dX3_take_30 : decode cX3_take 30 = .ok (.invokestatic 34, 3) := by decide +kernel
theorem dX3_take_33 : decode cX3_take 33 = .ok (.aload_n 0, 1) := by decide +kernel
theorem dX3_take_34 : decode cX3_take 34 = .ok (.getfield 15, 3) := by decide +kernel
theorem dX3_take_37 : decode cX3_take 37 = .ok (.iconst 0, 1) := by decide +kernel
theorem dX3_take_38 : decode cX3_take 38 = .ok (.invokestatic 41, 3) := by decide +kernel
theorem dX3_take_41 : decode cX3_take 41 = .ok (.aload_n 0, 1) := by decide +kernel
theorem dX3_take_42 : decode cX3_take 42 = .ok (.aload_n 1, 1) := by decide +kernel
theorem dX3_take_43 : decode cX3_take 43 = .ok (.getfield 47, 3) := by decide +kernel
theorem dX3_take_46 : decode cX3_take 46 = .ok (.putfield 27, 3) := by decide +kernel
theorem dX3_take_49 : decode cX3_take 49 = .ok (.aload_n 0, 1) := by decide +kernel
theorem dX3_take_50 : decode cX3_take 50 = .ok (.aload_n 1, 1) := by decide +kernel
theorem dX3_take_51 : decode cX3_take 51 = .ok (.getfield 48, 3) := by decide +kernel
theorem dX3_take_54 : decode cX3_take 54 = .ok (.putfield 51, 3) := by decide +kernel
theorem dX3_take_57 : decode cX3_take 57 = .ok (.aload_n 0, 1) := by decide +kernel
theorem dX3_take_58 : decode cX3_take 58 = .ok (.iconst 1, 1) := by decide +kernel
theorem dX3_take_59 : decode cX3_take 59 = .ok (.putfield 52, 3) := by decide +kernel
theorem dX3_take_62 : decode cX3_take 62 = .ok (.return_, 1) := by decide +kernel
theorem dX3_setPower_0 : decode cX3_setPower 0 = .ok (.aload_n 0, 1) := by decide +kernel
theorem dX3_setPower_1 : decode cX3_setPower 1 = .ok (.iload_n 1, 1) := by decide +kernel
theorem dX3_setPower_2 : decode cX3_setPower 2 = .ok (.invokevirtual 56, 3) := by decide +kernel
theorem dX3_setPower_5 : decode cX3_setPower 5 = .ok (.ifCond .eq 15, 3) := by decide +kernel
theorem dX3_setPower_8 : decode cX3_setPower 8 = .ok (.aload_n 0, 1) := by decide +kernel
theorem dX3_setPower_9 : decode cX3_setPower 9 = .ok (.getfield 9, 3) := by decide +kernel
theorem dX3_setPower_12 : decode cX3_setPower 12 = .ok (.iload_n 1, 1) := by decide +kernel
theorem dX3_setPower_13 : decode cX3_setPower 13 = .ok (.iload_n 2, 1) := by decide +kernel
theorem dX3_setPower_14 : decode cX3_setPower 14 = .ok (.iastore, 1) := by decide +kernel
theorem dX3_setPower_15 : decode cX3_setPower 15 = .ok (.aload_n 0, 1) := by decide +kernel
theorem dX3_setPower_16 : decode cX3_setPower 16 = .ok (.iconst 1, 1) := by decide +kernel
theorem dX3_setPower_17 : decode cX3_setPower 17 = .ok (.putfield 52, 3) := by decide +kernel
theorem dX3_setPower_20 : decode cX3_setPower 20 = .ok (.return_, 1) := by decide +kernel
theorem dX3_setLeft_0 : decode cX3_setLeft 0 = .ok (.aload_n 0, 1) := by decide +kernel
theorem dX3_setLeft_1 : decode cX3_setLeft 1 = .ok (.iload_n 1, 1) := by decide +kernel
theorem dX3_setLeft_2 : decode cX3_setLeft 2 = .ok (.invokevirtual 56, 3) := by decide +kernel
theorem dX3_setLeft_5 : decode cX3_setLeft 5 = .ok (.ifCond .eq 15, 3) := by decide +kernel
theorem dX3_setLeft_8 : decode cX3_setLeft 8 = .ok (.aload_n 0, 1) := by decide +kernel
theorem dX3_setLeft_9 : decode cX3_setLeft 9 = .ok (.getfield 15, 3) := by decide +kernel
theorem dX3_setLeft_12 : decode cX3_setLeft 12 = .ok (.iload_n 1, 1) := by decide +kernel
theorem dX3_setLeft_13 : decode cX3_setLeft 13 = .ok (.iload_n 2, 1) := by decide +kernel
theorem dX3_setLeft_14 : decode cX3_setLeft 14 = .ok (.iastore, 1) := by decide +kernel
theorem dX3_setLeft_15 : decode cX3_setLeft 15 = .ok (.aload_n 0, 1) := by decide +kernel
theorem dX3_setLeft_16 : decode cX3_setLeft 16 = .ok (.iconst 1, 1) := by decide +kernel
theorem dX3_setLeft_17 : decode cX3_setLeft 17 = .ok (.putfield 52, 3) := by decide +kernel
theorem dX3_setLeft_20 : decode cX3_setLeft 20 = .ok (.return_, 1) := by decide +kernel
theorem dX3_setLook_0 : decode cX3_setLook 0 = .ok (.iload_n 1, 1) := by decide +kernel
theorem dX3_setLook_1 : decode cX3_setLook 1 = .ok (.iload_n 2, 1) := by decide +kernel
theorem dX3_setLook_2 : decode cX3_setLook 2 = .ok (.invokestatic 60, 3) := by decide +kernel
theorem dX3_setLook_5 : decode cX3_setLook 5 = .ok (.ifCond .eq 15, 3) := by decide +kernel
theorem dX3_setLook_8 : decode cX3_setLook 8 = .ok (.aload_n 0, 1) := by decide +kernel
theorem dX3_setLook_9 : decode cX3_setLook 9 = .ok (.getfield 21, 3) := by decide +kernel
theorem dX3_setLook_12 : decode cX3_setLook 12 = .ok (.iload_n 1, 1) := by decide +kernel
theorem dX3_setLook_13 : decode cX3_setLook 13 = .ok (.iload_n 2, 1) := by decide +kernel
theorem dX3_setLook_14 : decode cX3_setLook 14 = .ok (.iastore, 1) := by decide +kernel
theorem dX3_setLook_15 : decode cX3_setLook 15 = .ok (.aload_n 0, 1) := by decide +kernel
theorem dX3_setLook_16 : decode cX3_setLook 16 = .ok (.iconst 1, 1) := by decide +kernel
theorem dX3_setLook_17 : decode cX3_setLook 17 = .ok (.putfield 52, 3) := by decide +kernel
theorem dX3_setLook_20 : decode cX3_setLook 20 = .ok (.return_, 1) := by decide +kernel
theorem dX3_setMode_0 : decode cX3_setMode 0 = .ok (.aload_n 0, 1) := by decide +kernel
theorem dX3_setMode_1 : decode cX3_setMode 1 = .ok (.iload_n 1, 1) := by decide +kernel
theorem dX3_setMode_2 : decode cX3_setMode 2 = .ok (.putfield 51, 3) := by decide +kernel
theorem dX3_setMode_5 : decode cX3_setMode 5 = .ok (.aload_n 0, 1) := by decide +kernel
theorem dX3_setMode_6 : decode cX3_setMode 6 = .ok (.iconst 1, 1) := by decide +kernel
theorem dX3_setMode_7 : decode cX3_setMode 7 = .ok (.putfield 52, 3) := by decide +kernel
theorem dX3_setMode_10 : decode cX3_setMode 10 = .ok (.return_, 1) := by decide +kernel
theorem dX3_slideOn_0 : decode cX3_slideOn 0 = .ok (.aload_n 0, 1) := by decide +kernel
theorem dX3_slideOn_1 : decode cX3_slideOn 1 = .ok (.getfield 27, 3) := by decide +kernel
theorem dX3_slideOn_4 : decode cX3_slideOn 4 = .ok (.iconst 1, 1) := by decide +kernel
theorem dX3_slideOn_5 : decode cX3_slideOn 5 = .ok (.isub, 1) := by decide +kernel
theorem dX3_slideOn_6 : decode cX3_slideOn 6 = .ok (.istore_n 2, 1) := by decide +kernel
theorem dX3_slideOn_7 : decode cX3_slideOn 7 = .ok (.aload_n 0, 1) := by decide +kernel
theorem dX3_slideOn_8 : decode cX3_slideOn 8 = .ok (.iload_n 2, 1) := by decide +kernel
theorem dX3_slideOn_9 : decode cX3_slideOn 9 = .ok (.invokevirtual 56, 3) := by decide +kernel
theorem dX3_slideOn_12 : decode cX3_slideOn 12 = .ok (.ifCond .eq 50, 3) := by decide +kernel
theorem dX3_slideOn_15 : decode cX3_slideOn 15 = .ok (.aload_n 0, 1) := by decide +kernel
theorem dX3_slideOn_16 : decode cX3_slideOn 16 = .ok (.getfield 9, 3) := by decide +kernel
theorem dX3_slideOn_19 : decode cX3_slideOn 19 = .ok (.iconst 1, 1) := by decide +kernel
theorem dX3_slideOn_20 : decode cX3_slideOn 20 = .ok (.aload_n 0, 1) := by decide +kernel
theorem dX3_slideOn_21 : decode cX3_slideOn 21 = .ok (.getfield 9, 3) := by decide +kernel
theorem dX3_slideOn_24 : decode cX3_slideOn 24 = .ok (.iconst 0, 1) := by decide +kernel
theorem dX3_slideOn_25 : decode cX3_slideOn 25 = .ok (.iload_n 2, 1) := by decide +kernel
theorem dX3_slideOn_26 : decode cX3_slideOn 26 = .ok (.invokestatic 34, 3) := by decide +kernel
theorem dX3_slideOn_29 : decode cX3_slideOn 29 = .ok (.aload_n 0, 1) := by decide +kernel
theorem dX3_slideOn_30 : decode cX3_slideOn 30 = .ok (.getfield 15, 3) := by decide +kernel
theorem dX3_slideOn_33 : decode cX3_slideOn 33 = .ok (.iconst 1, 1) := by decide +kernel
theorem dX3_slideOn_34 : decode cX3_slideOn 34 = .ok (.aload_n 0, 1) := by decide +kernel
theorem dX3_slideOn_35 : decode cX3_slideOn 35 = .ok (.getfield 15, 3) := by decide +kernel
theorem dX3_slideOn_38 : decode cX3_slideOn 38 = .ok (.iconst 0, 1) := by decide +kernel
theorem dX3_slideOn_39 : decode cX3_slideOn 39 = .ok (.iload_n 2, 1) := by decide +kernel
theorem dX3_slideOn_40 : decode cX3_slideOn 40 = .ok (.invokestatic 34, 3) := by decide +kernel
theorem dX3_slideOn_43 : decode cX3_slideOn 43 = .ok (.aload_n 0, 1) := by decide +kernel
theorem dX3_slideOn_44 : decode cX3_slideOn 44 = .ok (.getfield 9, 3) := by decide +kernel
theorem dX3_slideOn_47 : decode cX3_slideOn 47 = .ok (.iload_n 2, 1) := by decide +kernel
theorem dX3_slideOn_48 : decode cX3_slideOn 48 = .ok (.iload_n 1, 1) := by decide +kernel
theorem dX3_slideOn_49 : decode cX3_slideOn 49 = .ok (.iastore, 1) := by decide +kernel
theorem dX3_slideOn_50 : decode cX3_slideOn 50 = .ok (.aload_n 0, 1) := by decide +kernel
theorem dX3_slideOn_51 : decode cX3_slideOn 51 = .ok (.getfield 15, 3) := by decide +kernel
theorem dX3_slideOn_54 : decode cX3_slideOn 54 = .ok (.iload_n 2, 1) := by decide +kernel
theorem dX3_slideOn_55 : decode cX3_slideOn 55 = .ok (.iconst 0, 1) := by decide +kernel
theorem dX3_slideOn_56 : decode cX3_slideOn 56 = .ok (.iastore, 1) := by decide +kernel
theorem dX3_slideOn_57 : decode cX3_slideOn 57 = .ok (.aload_n 0, 1) := by decide +kernel
theorem dX3_slideOn_58 : decode cX3_slideOn 58 = .ok (.iconst 1, 1) := by decide +kernel
theorem dX3_slideOn_59 : decode cX3_slideOn 59 = .ok (.putfield 52, 3) := by decide +kernel
theorem dX3_slideOn_62 : decode cX3_slideOn 62 = .ok (.return_, 1) := by decide +kernel
theorem dX3_slideBack_0 : decode cX3_slideBack 0 = .ok (.aload_n 0, 1) := by decide +kernel
theorem dX3_slideBack_1 : decode cX3_slideBack 1 = .ok (.getfield 27, 3) := by decide +kernel
theorem dX3_slideBack_4 : decode cX3_slideBack 4 = .ok (.iconst 1, 1) := by decide +kernel
theorem dX3_slideBack_5 : decode cX3_slideBack 5 = .ok (.isub, 1) := by decide +kernel
theorem dX3_slideBack_6 : decode cX3_slideBack 6 = .ok (.istore_n 3, 1) := by decide +kernel
theorem dX3_slideBack_7 : decode cX3_slideBack 7 = .ok (.aload_n 0, 1) := by decide +kernel
theorem dX3_slideBack_8 : decode cX3_slideBack 8 = .ok (.iload_n 3, 1) := by decide +kernel
theorem dX3_slideBack_9 : decode cX3_slideBack 9 = .ok (.invokevirtual 56, 3) := by decide +kernel
theorem dX3_slideBack_12 : decode cX3_slideBack 12 = .ok (.ifCond .eq 50, 3) := by decide +kernel
theorem dX3_slideBack_15 : decode cX3_slideBack 15 = .ok (.aload_n 0, 1) := by decide +kernel
theorem dX3_slideBack_16 : decode cX3_slideBack 16 = .ok (.getfield 9, 3) := by decide +kernel
theorem dX3_slideBack_19 : decode cX3_slideBack 19 = .ok (.iconst 0, 1) := by decide +kernel
theorem dX3_slideBack_20 : decode cX3_slideBack 20 = .ok (.aload_n 0, 1) := by decide +kernel
theorem dX3_slideBack_21 : decode cX3_slideBack 21 = .ok (.getfield 9, 3) := by decide +kernel
theorem dX3_slideBack_24 : decode cX3_slideBack 24 = .ok (.iconst 1, 1) := by decide +kernel
theorem dX3_slideBack_25 : decode cX3_slideBack 25 = .ok (.iload_n 3, 1) := by decide +kernel
theorem dX3_slideBack_26 : decode cX3_slideBack 26 = .ok (.invokestatic 34, 3) := by decide +kernel
theorem dX3_slideBack_29 : decode cX3_slideBack 29 = .ok (.aload_n 0, 1) := by decide +kernel
theorem dX3_slideBack_30 : decode cX3_slideBack 30 = .ok (.getfield 15, 3) := by decide +kernel
theorem dX3_slideBack_33 : decode cX3_slideBack 33 = .ok (.iconst 0, 1) := by decide +kernel
theorem dX3_slideBack_34 : decode cX3_slideBack 34 = .ok (.aload_n 0, 1) := by decide +kernel
theorem dX3_slideBack_35 : decode cX3_slideBack 35 = .ok (.getfield 15, 3) := by decide +kernel
theorem dX3_slideBack_38 : decode cX3_slideBack 38 = .ok (.iconst 1, 1) := by decide +kernel
theorem dX3_slideBack_39 : decode cX3_slideBack 39 = .ok (.iload_n 3, 1) := by decide +kernel
theorem dX3_slideBack_40 : decode cX3_slideBack 40 = .ok (.invokestatic 34, 3) := by decide +kernel
theorem dX3_slideBack_43 : decode cX3_slideBack 43 = .ok (.aload_n 0, 1) := by decide +kernel
theorem dX3_slideBack_44 : decode cX3_slideBack 44 = .ok (.getfield 9, 3) := by decide +kernel
theorem dX3_slideBack_47 : decode cX3_slideBack 47 = .ok (.iconst 0, 1) := by decide +kernel
theorem dX3_slideBack_48 : decode cX3_slideBack 48 = .ok (.iload_n 1, 1) := by decide +kernel
theorem dX3_slideBack_49 : decode cX3_slideBack 49 = .ok (.iastore, 1) := by decide +kernel
theorem dX3_slideBack_50 : decode cX3_slideBack 50 = .ok (.aload_n 0, 1) := by decide +kernel
theorem dX3_slideBack_51 : decode cX3_slideBack 51 = .ok (.getfield 15, 3) := by decide +kernel
theorem dX3_slideBack_54 : decode cX3_slideBack 54 = .ok (.iconst 0, 1) := by decide +kernel
theorem dX3_slideBack_55 : decode cX3_slideBack 55 = .ok (.iload_n 2, 1) := by decide +kernel
theorem dX3_slideBack_56 : decode cX3_slideBack 56 = .ok (.iastore, 1) := by decide +kernel
theorem dX3_slideBack_57 : decode cX3_slideBack 57 = .ok (.aload_n 0, 1) := by decide +kernel
theorem dX3_slideBack_58 : decode cX3_slideBack 58 = .ok (.iconst 1, 1) := by decide +kernel
theorem dX3_slideBack_59 : decode cX3_slideBack 59 = .ok (.putfield 52, 3) := by decide +kernel
theorem dX3_slideBack_62 : decode cX3_slideBack 62 = .ok (.return_, 1) := by decide +kernel
theorem dX3_takeBack_0 : decode cX3_takeBack 0 = .ok (.iload_n 1, 1) := by decide +kernel
theorem dX3_takeBack_1 : decode cX3_takeBack 1 = .ok (.tableswitch 66 0 3 #[31, 40, 49, 58], 31) := by decide +kernel
theorem dX3_takeBack_32 : decode cX3_takeBack 32 = .ok (.aload_n 0, 1) := by decide +kernel
theorem dX3_takeBack_33 : decode cX3_takeBack 33 = .ok (.iload_n 2, 1) := by decide +kernel
theorem dX3_takeBack_34 : decode cX3_takeBack 34 = .ok (.iload_n 3, 1) := by decide +kernel
theorem dX3_takeBack_35 : decode cX3_takeBack 35 = .ok (.invokevirtual 64, 3) := by decide +kernel
theorem dX3_takeBack_38 : decode cX3_takeBack 38 = .ok (.goto 35, 3) := by decide +kernel
theorem dX3_takeBack_41 : decode cX3_takeBack 41 = .ok (.aload_n 0, 1) := by decide +kernel
theorem dX3_takeBack_42 : decode cX3_takeBack 42 = .ok (.iload_n 2, 1) := by decide +kernel
theorem dX3_takeBack_43 : decode cX3_takeBack 43 = .ok (.iload_n 3, 1) := by decide +kernel
theorem dX3_takeBack_44 : decode cX3_takeBack 44 = .ok (.invokevirtual 68, 3) := by decide +kernel
theorem dX3_takeBack_47 : decode cX3_takeBack 47 = .ok (.goto 26, 3) := by decide +kernel
theorem dX3_takeBack_50 : decode cX3_takeBack 50 = .ok (.aload_n 0, 1) := by decide +kernel
theorem dX3_takeBack_51 : decode cX3_takeBack 51 = .ok (.iload_n 2, 1) := by decide +kernel
theorem dX3_takeBack_52 : decode cX3_takeBack 52 = .ok (.iload_n 3, 1) := by decide +kernel
theorem dX3_takeBack_53 : decode cX3_takeBack 53 = .ok (.invokevirtual 71, 3) := by decide +kernel
theorem dX3_takeBack_56 : decode cX3_takeBack 56 = .ok (.goto 17, 3) := by decide +kernel
theorem dX3_takeBack_59 : decode cX3_takeBack 59 = .ok (.aload_n 0, 1) := by decide +kernel
theorem dX3_takeBack_60 : decode cX3_takeBack 60 = .ok (.iload_n 3, 1) := by decide +kernel
theorem dX3_takeBack_61 : decode cX3_takeBack 61 = .ok (.invokevirtual 74, 3) := by decide +kernel
theorem dX3_takeBack_64 : decode cX3_takeBack 64 = .ok (.goto 9, 3) := by decide +kernel
theorem dX3_takeBack_67 : decode cX3_takeBack 67 = .ok (.aload_n 0, 1) := by decide +kernel
theorem dX3_takeBack_68 : decode cX3_takeBack 68 = .ok (.iload_n 3, 1) := by decide +kernel
theorem dX3_takeBack_69 : decode cX3_takeBack 69 = .ok (.iload_n 2, 1) := by decide +kernel
theorem dX3_takeBack_70 : decode cX3_takeBack 70 = .ok (.invokevirtual 78, 3) := by decide +kernel
theorem dX3_takeBack_73 : decode cX3_takeBack 73 = .ok (.return_, 1) := by decide +kernel
theorem dX3_howManyLeft_0 : decode cX3_howManyLeft 0 = .ok (.iconst 0, 1) := by decide +kernel
theorem dX3_howManyLeft_1 : decode cX3_howManyLeft 1 = .ok (.istore_n 1, 1) := by decide +kernel
theorem dX3_howManyLeft_2 : decode cX3_howManyLeft 2 = .ok (.iconst 0, 1) := by decide +kernel
theorem dX3_howManyLeft_3 : decode cX3_howManyLeft 3 = .ok (.istore_n 2, 1) := by decide +kernel
theorem dX3_howManyLeft_4 : decode cX3_howManyLeft 4 = .ok (.iload_n 2, 1) := by decide +kernel
theorem dX3_howManyLeft_5 : decode cX3_howManyLeft 5 = .ok (.aload_n 0, 1) := by decide +kernel
theorem dX3_howManyLeft_6 : decode cX3_howManyLeft 6 = .ok (.getfield 27, 3) := by decide +kernel
theorem dX3_howManyLeft_9 : decode cX3_howManyLeft 9 = .ok (.if_icmp .ge 24, 3) := by decide +kernel
theorem dX3_howManyLeft_12 : decode cX3_howManyLeft 12 = .ok (.iload_n 2, 1) := by decide +kernel
theorem dX3_howManyLeft_13 : decode cX3_howManyLeft 13 = .ok (.bipush 48, 2) := by decide +kernel
theorem dX3_howManyLeft_15 : decode cX3_howManyLeft 15 = .ok (.if_icmp .ge 18, 3) := by decide +kernel
theorem dX3_howManyLeft_18 : decode cX3_howManyLeft 18 = .ok (.iload_n 1, 1) := by decide +kernel
theorem dX3_howManyLeft_19 : decode cX3_howManyLeft 19 = .ok (.aload_n 0, 1) := by decide +kernel
theorem dX3_howManyLeft_20 : decode cX3_howManyLeft 20 = .ok (.getfield 15, 3) := by decide +kernel
theorem dX3_howManyLeft_23 : decode cX3_howManyLeft 23 = .ok (.iload_n 2, 1) := by decide +kernel
theorem dX3_howManyLeft_24 : decode cX3_howManyLeft 24 = .ok (.iaload, 1) := by decide +kernel
theorem dX3_howManyLeft_25 : decode cX3_howManyLeft 25 = .ok (.iadd, 1) := by decide +kernel
theorem dX3_howManyLeft_26 : decode cX3_howManyLeft 26 = .ok (.istore_n 1, 1) := by decide +kernel
theorem dX3_howManyLeft_27 : decode cX3_howManyLeft 27 = .ok (.iinc 2 1, 3) := by decide +kernel
theorem dX3_howManyLeft_30 : decode cX3_howManyLeft 30 = .ok (.goto (-26), 3) := by decide +kernel
theorem dX3_howManyLeft_33 : decode cX3_howManyLeft 33 = .ok (.iload_n 1, 1) := by decide +kernel
theorem dX3_howManyLeft_34 : decode cX3_howManyLeft 34 = .ok (.ireturn, 1) := by decide +kernel
theorem dX3_gather_0 : decode cX3_gather 0 = .ok (.aload_n 0, 1) := by decide +kernel
theorem dX3_gather_1 : decode cX3_gather 1 = .ok (.getfield 21, 3) := by decide +kernel
theorem dX3_gather_4 : decode cX3_gather 4 = .ok (.iconst 0, 1) := by decide +kernel
theorem dX3_gather_5 : decode cX3_gather 5 = .ok (.iaload, 1) := by decide +kernel
theorem dX3_gather_6 : decode cX3_gather 6 = .ok (.istore 4, 2) := by decide +kernel
theorem dX3_gather_8 : decode cX3_gather 8 = .ok (.aload_n 0, 1) := by decide +kernel
theorem dX3_gather_9 : decode cX3_gather 9 = .ok (.getfield 21, 3) := by decide +kernel
theorem dX3_gather_12 : decode cX3_gather 12 = .ok (.iconst 1, 1) := by decide +kernel
theorem dX3_gather_13 : decode cX3_gather 13 = .ok (.iaload, 1) := by decide +kernel
theorem dX3_gather_14 : decode cX3_gather 14 = .ok (.istore 5, 2) := by decide +kernel
theorem dX3_gather_16 : decode cX3_gather 16 = .ok (.aload_n 0, 1) := by decide +kernel
theorem dX3_gather_17 : decode cX3_gather 17 = .ok (.iconst 0, 1) := by decide +kernel
theorem dX3_gather_18 : decode cX3_gather 18 = .ok (.putfield 81, 3) := by decide +kernel
theorem dX3_gather_21 : decode cX3_gather 21 = .ok (.iload_n 2, 1) := by decide +kernel
theorem dX3_gather_22 : decode cX3_gather 22 = .ok (.iconst 1, 1) := by decide +kernel
theorem dX3_gather_23 : decode cX3_gather 23 = .ok (.if_icmp .eq 21, 3) := by decide +kernel
theorem dX3_gather_26 : decode cX3_gather 26 = .ok (.aload_n 0, 1) := by decide +kernel
theorem dX3_gather_27 : decode cX3_gather 27 = .ok (.iload_n 1, 1) := by decide +kernel
theorem dX3_gather_28 : decode cX3_gather 28 = .ok (.iload 5, 2) := by decide +kernel
theorem dX3_gather_30 : decode cX3_gather 30 = .ok (.isub, 1) := by decide +kernel
theorem dX3_gather_31 : decode cX3_gather 31 = .ok (.iload 4, 2) := by decide +kernel
theorem dX3_gather_33 : decode cX3_gather 33 = .ok (.isub, 1) := by decide +kernel
theorem dX3_gather_34 : decode cX3_gather 34 = .ok (.iload_n 1, 1) := by decide +kernel
theorem dX3_gather_35 : decode cX3_gather 35 = .ok (.iload 5, 2) := by decide +kernel
theorem dX3_gather_37 : decode cX3_gather 37 = .ok (.isub, 1) := by decide +kernel
theorem dX3_gather_38 : decode cX3_gather 38 = .ok (.iconst 1, 1) := by decide +kernel
theorem dX3_gather_39 : decode cX3_gather 39 = .ok (.isub, 1) := by decide +kernel
theorem dX3_gather_40 : decode cX3_gather 40 = .ok (.iload_n 3, 1) := by decide +kernel
theorem dX3_gather_41 : decode cX3_gather 41 = .ok (.invokevirtual 84, 3) := by decide +kernel
theorem dX3_gather_44 : decode cX3_gather 44 = .ok (.iload_n 2, 1) := by decide +kernel
theorem dX3_gather_45 : decode cX3_gather 45 = .ok (.ifCond .eq 21, 3) := by decide +kernel
theorem dX3_gather_48 : decode cX3_gather 48 = .ok (.aload_n 0, 1) := by decide +kernel
theorem dX3_gather_49 : decode cX3_gather 49 = .ok (.iload_n 1, 1) := by decide +kernel
theorem dX3_gather_50 : decode cX3_gather 50 = .ok (.iload 5, 2) := by decide +kernel
theorem dX3_gather_52 : decode cX3_gather 52 = .ok (.iadd, 1) := by decide +kernel
theorem dX3_gather_53 : decode cX3_gather 53 = .ok (.iconst 1, 1) := by decide +kernel
theorem dX3_gather_54 : decode cX3_gather 54 = .ok (.iadd, 1) := by decide +kernel
theorem dX3_gather_55 : decode cX3_gather 55 = .ok (.iload_n 1, 1) := by decide +kernel
theorem dX3_gather_56 : decode cX3_gather 56 = .ok (.iload 5, 2) := by decide +kernel
theorem dX3_gather_58 : decode cX3_gather 58 = .ok (.iadd, 1) := by decide +kernel
theorem dX3_gather_59 : decode cX3_gather 59 = .ok (.iload 4, 2) := by decide +kernel
theorem dX3_gather_61 : decode cX3_gather 61 = .ok (.iadd, 1) := by decide +kernel
theorem dX3_gather_62 : decode cX3_gather 62 = .ok (.iload_n 3, 1) := by decide +kernel
theorem dX3_gather_63 : decode cX3_gather 63 = .ok (.invokevirtual 84, 3) := by decide +kernel
theorem dX3_gather_66 : decode cX3_gather 66 = .ok (.aload_n 0, 1) := by decide +kernel
theorem dX3_gather_67 : decode cX3_gather 67 = .ok (.getfield 81, 3) := by decide +kernel
theorem dX3_gather_70 : decode cX3_gather 70 = .ok (.ireturn, 1) := by decide +kernel
theorem dX3_gatherFrom_0 : decode cX3_gatherFrom 0 = .ok (.iload_n 1, 1) := by decide +kernel
theorem dX3_gatherFrom_1 : decode cX3_gatherFrom 1 = .ok (.iconst 0, 1) := by decide +kernel
theorem dX3_gatherFrom_2 : decode cX3_gatherFrom 2 = .ok (.invokestatic 88, 3) := by decide +kernel
theorem dX3_gatherFrom_5 : decode cX3_gatherFrom 5 = .ok (.istore 4, 2) := by decide +kernel
theorem dX3_gatherFrom_7 : decode cX3_gatherFrom 7 = .ok (.iload 4, 2) := by decide +kernel
theorem dX3_gatherFrom_9 : decode cX3_gatherFrom 9 = .ok (.iload_n 2, 1) := by decide +kernel
theorem dX3_gatherFrom_10 : decode cX3_gatherFrom 10 = .ok (.if_icmp .gt 52, 3) := by decide +kernel
theorem dX3_gatherFrom_13 : decode cX3_gatherFrom 13 = .ok (.iload 4, 2) := by decide +kernel
theorem dX3_gatherFrom_15 : decode cX3_gatherFrom 15 = .ok (.aload_n 0, 1) := by decide +kernel
theorem dX3_gatherFrom_16 : decode cX3_gatherFrom 16 = .ok (.getfield 27, 3) := by decide +kernel
theorem dX3_gatherFrom_19 : decode cX3_gatherFrom 19 = .ok (.if_icmp .ge 43, 3) := by decide +kernel
theorem dX3_gatherFrom_22 : decode cX3_gatherFrom 22 = .ok (.iload 4, 2) := by decide +kernel
theorem dX3_gatherFrom_24 : decode cX3_gatherFrom 24 = .ok (.bipush 48, 2) := by decide +kernel
theorem dX3_gatherFrom_26 : decode cX3_gatherFrom 26 = .ok (.if_icmp .ge 36, 3) := by decide +kernel
theorem dX3_gatherFrom_29 : decode cX3_gatherFrom 29 = .ok (.aload_n 0, 1) := by decide +kernel
theorem dX3_gatherFrom_30 : decode cX3_gatherFrom 30 = .ok (.getfield 15, 3) := by decide +kernel
theorem dX3_gatherFrom_33 : decode cX3_gatherFrom 33 = .ok (.iload 4, 2) := by decide +kernel
theorem dX3_gatherFrom_35 : decode cX3_gatherFrom 35 = .ok (.iaload, 1) := by decide +kernel
theorem dX3_gatherFrom_36 : decode cX3_gatherFrom 36 = .ok (.ifCond .ne 20, 3) := by decide +kernel
theorem dX3_gatherFrom_39 : decode cX3_gatherFrom 39 = .ok (.iload 4, 2) := by decide +kernel
theorem dX3_gatherFrom_41 : decode cX3_gatherFrom 41 = .ok (.iload_n 3, 1) := by decide +kernel
theorem dX3_gatherFrom_42 : decode cX3_gatherFrom 42 = .ok (.if_icmp .eq 14, 3) := by decide +kernel
theorem dX3_gatherFrom_45 : decode cX3_gatherFrom 45 = .ok (.aload_n 0, 1) := by decide +kernel
theorem dX3_gatherFrom_46 : decode cX3_gatherFrom 46 = .ok (.aload_n 0, 1) := by decide +kernel
theorem dX3_gatherFrom_47 : decode cX3_gatherFrom 47 = .ok (.getfield 9, 3) := by decide +kernel
theorem dX3_gatherFrom_50 : decode cX3_gatherFrom 50 = .ok (.iload 4, 2) := by decide +kernel
theorem dX3_gatherFrom_52 : decode cX3_gatherFrom 52 = .ok (.iaload, 1) := by decide +kernel
theorem dX3_gatherFrom_53 : decode cX3_gatherFrom 53 = .ok (.invokevirtual 94, 3) := by decide +kernel
theorem dX3_gatherFrom_56 : decode cX3_gatherFrom 56 = .ok (.iinc 4 1, 3) := by decide +kernel
theorem dX3_gatherFrom_59 : decode cX3_gatherFrom 59 = .ok (.goto (-52), 3) := by decide +kernel
theorem dX3_gatherFrom_62 : decode cX3_gatherFrom 62 = .ok (.return_, 1) := by decide +kernel
theorem dX3_sortIn_0 : decode cX3_sortIn 0 = .ok (.aload_n 0, 1) := by decide +kernel
theorem dX3_sortIn_1 : decode cX3_sortIn 1 = .ok (.getfield 81, 3) := by decide +kernel
theorem dX3_sortIn_4 : decode cX3_sortIn 4 = .ok (.ifCond .lt 12, 3) := by decide +kernel
theorem dX3_sortIn_7 : decode cX3_sortIn 7 = .ok (.aload_n 0, 1) := by decide +kernel
theorem dX3_sortIn_8 : decode cX3_sortIn 8 = .ok (.getfield 81, 3) := by decide +kernel
theorem dX3_sortIn_11 : decode cX3_sortIn 11 = .ok (.bipush 12, 2) := by decide +kernel
theorem dX3_sortIn_13 : decode cX3_sortIn 13 = .ok (.if_icmp .lt 4, 3) := by decide +kernel
theorem dX3_sortIn_16 : decode cX3_sortIn 16 = .ok (.return_, 1) := by decide +kernel
theorem dX3_sortIn_17 : decode cX3_sortIn 17 = .ok (.aload_n 0, 1) := by decide +kernel
theorem dX3_sortIn_18 : decode cX3_sortIn 18 = .ok (.getfield 81, 3) := by decide +kernel
theorem dX3_sortIn_21 : decode cX3_sortIn 21 = .ok (.istore_n 2, 1) := by decide +kernel
theorem dX3_sortIn_22 : decode cX3_sortIn 22 = .ok (.iload_n 2, 1) := by decide +kernel
theorem dX3_sortIn_23 : decode cX3_sortIn 23 = .ok (.ifCond .le 35, 3) := by decide +kernel
theorem dX3_sortIn_26 : decode cX3_sortIn 26 = .ok (.aload_n 0, 1) := by decide +kernel
theorem dX3_sortIn_27 : decode cX3_sortIn 27 = .ok (.getfield 24, 3) := by decide +kernel
theorem dX3_sortIn_30 : decode cX3_sortIn 30 = .ok (.iload_n 2, 1) := by decide +kernel
theorem dX3_sortIn_31 : decode cX3_sortIn 31 = .ok (.iconst 1, 1) := by decide +kernel
theorem dX3_sortIn_32 : decode cX3_sortIn 32 = .ok (.isub, 1) := by decide +kernel
theorem dX3_sortIn_33 : decode cX3_sortIn 33 = .ok (.iaload, 1) := by decide +kernel
theorem dX3_sortIn_34 : decode cX3_sortIn 34 = .ok (.iload_n 1, 1) := by decide +kernel
theorem dX3_sortIn_35 : decode cX3_sortIn 35 = .ok (.if_icmp .le 23, 3) := by decide +kernel
theorem dX3_sortIn_38 : decode cX3_sortIn 38 = .ok (.aload_n 0, 1) := by decide +kernel
theorem dX3_sortIn_39 : decode cX3_sortIn 39 = .ok (.getfield 24, 3) := by decide +kernel
theorem dX3_sortIn_42 : decode cX3_sortIn 42 = .ok (.iload_n 2, 1) := by decide +kernel
theorem dX3_sortIn_43 : decode cX3_sortIn 43 = .ok (.aload_n 0, 1) := by decide +kernel
theorem dX3_sortIn_44 : decode cX3_sortIn 44 = .ok (.getfield 24, 3) := by decide +kernel
theorem dX3_sortIn_47 : decode cX3_sortIn 47 = .ok (.iload_n 2, 1) := by decide +kernel
theorem dX3_sortIn_48 : decode cX3_sortIn 48 = .ok (.iconst 1, 1) := by decide +kernel
theorem dX3_sortIn_49 : decode cX3_sortIn 49 = .ok (.isub, 1) := by decide +kernel
theorem dX3_sortIn_50 : decode cX3_sortIn 50 = .ok (.iaload, 1) := by decide +kernel
theorem dX3_sortIn_51 : decode cX3_sortIn 51 = .ok (.iastore, 1) := by decide +kernel
theorem dX3_sortIn_52 : decode cX3_sortIn 52 = .ok (.iinc 2 (-1), 3) := by decide +kernel
theorem dX3_sortIn_55 : decode cX3_sortIn 55 = .ok (.goto (-33), 3) := by decide +kernel
theorem dX3_sortIn_58 : decode cX3_sortIn 58 = .ok (.aload_n 0, 1) := by decide +kernel
theorem dX3_sortIn_59 : decode cX3_sortIn 59 = .ok (.getfield 24, 3) := by decide +kernel
theorem dX3_sortIn_62 : decode cX3_sortIn 62 = .ok (.iload_n 2, 1) := by decide +kernel
theorem dX3_sortIn_63 : decode cX3_sortIn 63 = .ok (.iload_n 1, 1) := by decide +kernel
theorem dX3_sortIn_64 : decode cX3_sortIn 64 = .ok (.iastore, 1) := by decide +kernel
theorem dX3_sortIn_65 : decode cX3_sortIn 65 = .ok (.aload_n 0, 1) := by decide +kernel
theorem dX3_sortIn_66 : decode cX3_sortIn 66 = .ok (.dup, 1) := by decide +kernel
theorem dX3_sortIn_67 : decode cX3_sortIn 67 = .ok (.getfield 81, 3) := by decide +kernel
theorem dX3_sortIn_70 : decode cX3_sortIn 70 = .ok (.iconst 1, 1) := by decide +kernel
theorem dX3_sortIn_71 : decode cX3_sortIn 71 = .ok (.iadd, 1) := by decide +kernel
theorem dX3_sortIn_72 : decode cX3_sortIn 72 = .ok (.putfield 81, 3) := by decide +kernel
theorem dX3_sortIn_75 : decode cX3_sortIn 75 = .ok (.return_, 1) := by decide +kernel
theorem dX3_floorOf_0 : decode cX3_floorOf 0 = .ok (.aload_n 0, 1) := by decide +kernel
theorem dX3_floorOf_1 : decode cX3_floorOf 1 = .ok (.getfield 51, 3) := by decide +kernel
theorem dX3_floorOf_4 : decode cX3_floorOf 4 = .ok (.ifCond .ne 11, 3) := by decide +kernel
theorem dX3_floorOf_7 : decode cX3_floorOf 7 = .ok (.aload_n 0, 1) := by decide +kernel
theorem dX3_floorOf_8 : decode cX3_floorOf 8 = .ok (.iload_n 1, 1) := by decide +kernel
theorem dX3_floorOf_9 : decode cX3_floorOf 9 = .ok (.iconst 2, 1) := by decide +kernel
theorem dX3_floorOf_10 : decode cX3_floorOf 10 = .ok (.iload_n 2, 1) := by decide +kernel
theorem dX3_floorOf_11 : decode cX3_floorOf 11 = .ok (.invokevirtual 97, 3) := by decide +kernel
theorem dX3_floorOf_14 : decode cX3_floorOf 14 = .ok (.ireturn, 1) := by decide +kernel
theorem dX3_floorOf_15 : decode cX3_floorOf 15 = .ok (.aload_n 0, 1) := by decide +kernel
theorem dX3_floorOf_16 : decode cX3_floorOf 16 = .ok (.iload_n 1, 1) := by decide +kernel
theorem dX3_floorOf_17 : decode cX3_floorOf 17 = .ok (.iconst 0, 1) := by decide +kernel
theorem dX3_floorOf_18 : decode cX3_floorOf 18 = .ok (.iload_n 2, 1) := by decide +kernel
theorem dX3_floorOf_19 : decode cX3_floorOf 19 = .ok (.invokevirtual 97, 3) := by decide +kernel
theorem dX3_floorOf_22 : decode cX3_floorOf 22 = .ok (.istore_n 3, 1) := by decide +kernel
theorem dX3_floorOf_23 : decode cX3_floorOf 23 = .ok (.aload_n 0, 1) := by decide +kernel
theorem dX3_floorOf_24 : decode cX3_floorOf 24 = .ok (.iload_n 1, 1) := by decide +kernel
theorem dX3_floorOf_25 : decode cX3_floorOf 25 = .ok (.iconst 1, 1) := by decide +kernel
theorem dX3_floorOf_26 : decode cX3_floorOf 26 = .ok (.iload_n 2, 1) := by decide +kernel
theorem dX3_floorOf_27 : decode cX3_floorOf 27 = .ok (.invokevirtual 97, 3) := by decide +kernel
theorem dX3_floorOf_30 : decode cX3_floorOf 30 = .ok (.istore 4, 2) := by decide +kernel
theorem dX3_floorOf_32 : decode cX3_floorOf 32 = .ok (.iload_n 3, 1) := by decide +kernel
theorem dX3_floorOf_33 : decode cX3_floorOf 33 = .ok (.bipush (-4), 2) := by decide +kernel
theorem dX3_floorOf_35 : decode cX3_floorOf 35 = .ok (.if_icmp .ne 6, 3) := by decide +kernel
theorem dX3_floorOf_38 : decode cX3_floorOf 38 = .ok (.iload 4, 2) := by decide +kernel
theorem dX3_floorOf_40 : decode cX3_floorOf 40 = .ok (.ireturn, 1) := by decide +kernel
theorem dX3_floorOf_41 : decode cX3_floorOf 41 = .ok (.iload 4, 2) := by decide +kernel
theorem dX3_floorOf_43 : decode cX3_floorOf 43 = .ok (.bipush (-4), 2) := by decide +kernel
theorem dX3_floorOf_45 : decode cX3_floorOf 45 = .ok (.if_icmp .ne 5, 3) := by decide +kernel
theorem dX3_floorOf_48 : decode cX3_floorOf 48 = .ok (.iload_n 3, 1) := by decide +kernel
theorem dX3_floorOf_49 : decode cX3_floorOf 49 = .ok (.ireturn, 1) := by decide +kernel
theorem dX3_floorOf_50 : decode cX3_floorOf 50 = .ok (.aload_n 0, 1) := by decide +kernel
theorem dX3_floorOf_51 : decode cX3_floorOf 51 = .ok (.getfield 51, 3) := by decide +kernel
theorem dX3_floorOf_54 : decode cX3_floorOf 54 = .ok (.iconst 1, 1) := by decide +kernel
theorem dX3_floorOf_55 : decode cX3_floorOf 55 = .ok (.if_icmp .ne 12, 3) := by decide +kernel
theorem dX3_floorOf_58 : decode cX3_floorOf 58 = .ok (.iload_n 3, 1) := by decide +kernel
theorem dX3_floorOf_59 : decode cX3_floorOf 59 = .ok (.iload 4, 2) := by decide +kernel
theorem dX3_floorOf_61 : decode cX3_floorOf 61 = .ok (.invokestatic 88, 3) := by decide +kernel
theorem dX3_floorOf_64 : decode cX3_floorOf 64 = .ok (.goto 9, 3) := by decide +kernel
theorem dX3_floorOf_67 : decode cX3_floorOf 67 = .ok (.iload_n 3, 1) := by decide +kernel
theorem dX3_floorOf_68 : decode cX3_floorOf 68 = .ok (.iload 4, 2) := by decide +kernel
theorem dX3_floorOf_70 : decode cX3_floorOf 70 = .ok (.invokestatic 101, 3) := by decide +kernel
theorem dX3_floorOf_73 : decode cX3_floorOf 73 = .ok (.ireturn, 1) := by decide +kernel
theorem dX3_rankOn_0 : decode cX3_rankOn 0 = .ok (.aload_n 0, 1) := by decide +kernel
theorem dX3_rankOn_1 : decode cX3_rankOn 1 = .ok (.iload_n 1, 1) := by decide +kernel
theorem dX3_rankOn_2 : decode cX3_rankOn 2 = .ok (.iload_n 2, 1) := by decide +kernel
theorem dX3_rankOn_3 : decode cX3_rankOn 3 = .ok (.iload_n 3, 1) := by decide +kernel
theorem dX3_rankOn_4 : decode cX3_rankOn 4 = .ok (.invokevirtual 104, 3) := by decide +kernel
theorem dX3_rankOn_7 : decode cX3_rankOn 7 = .ok (.aload_n 0, 1) := by decide +kernel
theorem dX3_rankOn_8 : decode cX3_rankOn 8 = .ok (.getfield 21, 3) := by decide +kernel
theorem dX3_rankOn_11 : decode cX3_rankOn 11 = .ok (.iconst 2, 1) := by decide +kernel
theorem dX3_rankOn_12 : decode cX3_rankOn 12 = .ok (.iaload, 1) := by decide +kernel
theorem dX3_rankOn_13 : decode cX3_rankOn 13 = .ok (.invokestatic 101, 3) := by decide +kernel
theorem dX3_rankOn_16 : decode cX3_rankOn 16 = .ok (.iconst 1, 1) := by decide +kernel
theorem dX3_rankOn_17 : decode cX3_rankOn 17 = .ok (.isub, 1) := by decide +kernel
theorem dX3_rankOn_18 : decode cX3_rankOn 18 = .ok (.istore 4, 2) := by decide +kernel
theorem dX3_rankOn_20 : decode cX3_rankOn 20 = .ok (.iload 4, 2) := by decide +kernel
theorem dX3_rankOn_22 : decode cX3_rankOn 22 = .ok (.ifCond .lt 20, 3) := by decide +kernel
theorem dX3_rankOn_25 : decode cX3_rankOn 25 = .ok (.iload 4, 2) := by decide +kernel
theorem dX3_rankOn_27 : decode cX3_rankOn 27 = .ok (.bipush 12, 2) := by decide +kernel
theorem dX3_rankOn_29 : decode cX3_rankOn 29 = .ok (.if_icmp .ge 13, 3) := by decide +kernel
theorem dX3_rankOn_32 : decode cX3_rankOn 32 = .ok (.aload_n 0, 1) := by decide +kernel
theorem dX3_rankOn_33 : decode cX3_rankOn 33 = .ok (.getfield 24, 3) := by decide +kernel
theorem dX3_rankOn_36 : decode cX3_rankOn 36 = .ok (.iload 4, 2) := by decide +kernel
theorem dX3_rankOn_38 : decode cX3_rankOn 38 = .ok (.iaload, 1) := by decide +kernel
theorem dX3_rankOn_39 : decode cX3_rankOn 39 = .ok (.goto 5, 3) := by decide +kernel
theorem dX3_rankOn_42 : decode cX3_rankOn 42 = .ok (.bipush (-4), 2) := by decide +kernel
theorem dX3_rankOn_44 : decode cX3_rankOn 44 = .ok (.ireturn, 1) := by decide +kernel
theorem dX3_outdoes_0 : decode cX3_outdoes 0 = .ok (.aload_n 0, 1) := by decide +kernel
theorem dX3_outdoes_1 : decode cX3_outdoes 1 = .ok (.iload_n 1, 1) := by decide +kernel
theorem dX3_outdoes_2 : decode cX3_outdoes 2 = .ok (.invokevirtual 56, 3) := by decide +kernel
theorem dX3_outdoes_5 : decode cX3_outdoes 5 = .ok (.ifCond .eq 41, 3) := by decide +kernel
theorem dX3_outdoes_8 : decode cX3_outdoes 8 = .ok (.aload_n 0, 1) := by decide +kernel
theorem dX3_outdoes_9 : decode cX3_outdoes 9 = .ok (.getfield 15, 3) := by decide +kernel
theorem dX3_outdoes_12 : decode cX3_outdoes 12 = .ok (.iload_n 1, 1) := by decide +kernel
theorem dX3_outdoes_13 : decode cX3_outdoes 13 = .ok (.iaload, 1) := by decide +kernel
theorem dX3_outdoes_14 : decode cX3_outdoes 14 = .ok (.ifCond .ne 32, 3) := by decide +kernel
theorem dX3_outdoes_17 : decode cX3_outdoes 17 = .ok (.iload_n 2, 1) := by decide +kernel
theorem dX3_outdoes_18 : decode cX3_outdoes 18 = .ok (.bipush (-4), 2) := by decide +kernel
theorem dX3_outdoes_20 : decode cX3_outdoes 20 = .ok (.if_icmp .eq 26, 3) := by decide +kernel
theorem dX3_outdoes_23 : decode cX3_outdoes 23 = .ok (.aload_n 0, 1) := by decide +kernel
theorem dX3_outdoes_24 : decode cX3_outdoes 24 = .ok (.getfield 21, 3) := by decide +kernel
theorem dX3_outdoes_27 : decode cX3_outdoes 27 = .ok (.iconst 4, 1) := by decide +kernel
theorem dX3_outdoes_28 : decode cX3_outdoes 28 = .ok (.iaload, 1) := by decide +kernel
theorem dX3_outdoes_29 : decode cX3_outdoes 29 = .ok (.aload_n 0, 1) := by decide +kernel
theorem dX3_outdoes_30 : decode cX3_outdoes 30 = .ok (.getfield 9, 3) := by decide +kernel
theorem dX3_outdoes_33 : decode cX3_outdoes 33 = .ok (.iload_n 1, 1) := by decide +kernel
theorem dX3_outdoes_34 : decode cX3_outdoes 34 = .ok (.iaload, 1) := by decide +kernel
theorem dX3_outdoes_35 : decode cX3_outdoes 35 = .ok (.imul, 1) := by decide +kernel
theorem dX3_outdoes_36 : decode cX3_outdoes 36 = .ok (.iload_n 3, 1) := by decide +kernel
theorem dX3_outdoes_37 : decode cX3_outdoes 37 = .ok (.iload_n 2, 1) := by decide +kernel
theorem dX3_outdoes_38 : decode cX3_outdoes 38 = .ok (.imul, 1) := by decide +kernel
theorem dX3_outdoes_39 : decode cX3_outdoes 39 = .ok (.if_icmp .le 7, 3) := by decide +kernel
theorem dX3_outdoes_42 : decode cX3_outdoes 42 = .ok (.iconst 1, 1) := by decide +kernel
theorem dX3_outdoes_43 : decode cX3_outdoes 43 = .ok (.goto 4, 3) := by decide +kernel
theorem dX3_outdoes_46 : decode cX3_outdoes 46 = .ok (.iconst 0, 1) := by decide +kernel
theorem dX3_outdoes_47 : decode cX3_outdoes 47 = .ok (.ireturn, 1) := by decide +kernel
theorem dX3_alarmsWithout_0 : decode cX3_alarmsWithout 0 = .ok (.aload_n 0, 1) := by decide +kernel
theorem dX3_alarmsWithout_1 : decode cX3_alarmsWithout 1 = .ok (.iload_n 1, 1) := by decide +kernel
theorem dX3_alarmsWithout_2 : decode cX3_alarmsWithout 2 = .ok (.aload_n 0, 1) := by decide +kernel
theorem dX3_alarmsWithout_3 : decode cX3_alarmsWithout 3 = .ok (.iload_n 1, 1) := by decide +kernel
theorem dX3_alarmsWithout_4 : decode cX3_alarmsWithout 4 = .ok (.iload_n 2, 1) := by decide +kernel
theorem dX3_alarmsWithout_5 : decode cX3_alarmsWithout 5 = .ok (.invokevirtual 107, 3) := by decide +kernel
theorem dX3_alarmsWithout_8 : decode cX3_alarmsWithout 8 = .ok (.aload_n 0, 1) := by decide +kernel
theorem dX3_alarmsWithout_9 : decode cX3_alarmsWithout 9 = .ok (.getfield 21, 3) := by decide +kernel
theorem dX3_alarmsWithout_12 : decode cX3_alarmsWithout 12 = .ok (.iconst 3, 1) := by decide +kernel
theorem dX3_alarmsWithout_13 : decode cX3_alarmsWithout 13 = .ok (.iaload, 1) := by decide +kernel
theorem dX3_alarmsWithout_14 : decode cX3_alarmsWithout 14 = .ok (.invokevirtual 110, 3) := by decide +kernel
theorem dX3_alarmsWithout_17 : decode cX3_alarmsWithout 17 = .ok (.ireturn, 1) := by decide +kernel
theorem dX4_init_0 : decode cX4_init 0 = .ok (.aload_n 0, 1) := by decide +kernel
theorem dX4_init_1 : decode cX4_init 1 = .ok (.invokespecial 3, 3) := by decide +kernel
theorem dX4_init_4 : decode cX4_init 4 = .ok (.aload_n 0, 1) := by decide +kernel
theorem dX4_init_5 : decode cX4_init 5 = .ok (.sipush 200, 3) := by decide +kernel
theorem dX4_init_8 : decode cX4_init 8 = .ok (.newarray .int, 2) := by decide +kernel
theorem dX4_init_10 : decode cX4_init 10 = .ok (.putfield 9, 3) := by decide +kernel
theorem dX4_init_13 : decode cX4_init 13 = .ok (.aload_n 0, 1) := by decide +kernel
theorem dX4_init_14 : decode cX4_init 14 = .ok (.bipush 48, 2) := by decide +kernel
theorem dX4_init_16 : decode cX4_init 16 = .ok (.newarray .int, 2) := by decide +kernel
theorem dX4_init_18 : decode cX4_init 18 = .ok (.putfield 15, 3) := by decide +kernel
theorem dX4_init_21 : decode cX4_init 21 = .ok (.return_, 1) := by decide +kernel
theorem dX4_append_0 : decode cX4_append 0 = .ok (.aload_n 0, 1) := by decide +kernel
theorem dX4_append_1 : decode cX4_append 1 = .ok (.getfield 18, 3) := by decide +kernel
theorem dX4_append_4 : decode cX4_append 4 = .ok (.sipush 200, 3) := by decide +kernel
theorem dX4_append_7 : decode cX4_append 7 = .ok (.if_icmp .ge 23, 3) := by decide +kernel
theorem dX4_append_10 : decode cX4_append 10 = .ok (.aload_n 0, 1) := by decide +kernel
theorem dX4_append_11 : decode cX4_append 11 = .ok (.getfield 9, 3) := by decide +kernel
theorem dX4_append_14 : decode cX4_append 14 = .ok (.aload_n 0, 1) := by decide +kernel
theorem dX4_append_15 : decode cX4_append 15 = .ok (.getfield 18, 3) := by decide +kernel
theorem dX4_append_18 : decode cX4_append 18 = .ok (.iload_n 1, 1) := by decide +kernel
theorem dX4_append_19 : decode cX4_append 19 = .ok (.iastore, 1) := by decide +kernel
theorem dX4_append_20 : decode cX4_append 20 = .ok (.aload_n 0, 1) := by decide +kernel
theorem dX4_append_21 : decode cX4_append 21 = .ok (.dup, 1) := by decide +kernel
theorem dX4_append_22 : decode cX4_append 22 = .ok (.getfield 18, 3) := by decide +kernel
theorem dX4_append_25 : decode cX4_append 25 = .ok (.iconst 1, 1) := by decide +kernel
theorem dX4_append_26 : decode cX4_append 26 = .ok (.iadd, 1) := by decide +kernel
theorem dX4_append_27 : decode cX4_append 27 = .ok (.putfield 18, 3) := by decide +kernel
theorem dX4_append_30 : decode cX4_append 30 = .ok (.return_, 1) := by decide +kernel
theorem dX4_readInto_0 : decode cX4_readInto 0 = .ok (.aload_n 1, 1) := by decide +kernel
theorem dX4_readInto_1 : decode cX4_readInto 1 = .ok (.invokevirtual 22, 3) := by decide +kernel
theorem dX4_readInto_4 : decode cX4_readInto 4 = .ok (.iconst 0, 1) := by decide +kernel
theorem dX4_readInto_5 : decode cX4_readInto 5 = .ok (.istore_n 2, 1) := by decide +kernel
theorem dX4_readInto_6 : decode cX4_readInto 6 = .ok (.iconst 0, 1) := by decide +kernel
theorem dX4_readInto_7 : decode cX4_readInto 7 = .ok (.istore_n 3, 1) := by decide +kernel
theorem dX4_readInto_8 : decode cX4_readInto 8 = .ok (.iload_n 3, 1) := by decide +kernel
theorem dX4_readInto_9 : decode cX4_readInto 9 = .ok (.sipush 200, 3) := by decide +kernel
theorem dX4_readInto_12 : decode cX4_readInto 12 = .ok (.if_icmp .ge 49, 3) := by decide +kernel
theorem dX4_readInto_15 : decode cX4_readInto 15 = .ok (.iload_n 2, 1) := by decide +kernel
theorem dX4_readInto_16 : decode cX4_readInto 16 = .ok (.aload_n 0, 1) := by decide +kernel
theorem dX4_readInto_17 : decode cX4_readInto 17 = .ok (.getfield 18, 3) := by decide +kernel
theorem dX4_readInto_20 : decode cX4_readInto 20 = .ok (.if_icmp .ge 41, 3) := by decide +kernel
theorem dX4_readInto_23 : decode cX4_readInto 23 = .ok (.aload_n 0, 1) := by decide +kernel
theorem dX4_readInto_24 : decode cX4_readInto 24 = .ok (.iload_n 2, 1) := by decide +kernel
theorem dX4_readInto_25 : decode cX4_readInto 25 = .ok (.invokevirtual 27, 3) := by decide +kernel
theorem dX4_readInto_28 : decode cX4_readInto 28 = .ok (.istore 4, 2) := by decide +kernel
theorem dX4_readInto_30 : decode cX4_readInto 30 = .ok (.iload 4, 2) := by decide +kernel
theorem dX4_readInto_32 : decode cX4_readInto 32 = .ok (.bipush (-4), 2) := by decide +kernel
theorem dX4_readInto_34 : decode cX4_readInto 34 = .ok (.if_icmp .eq 14, 3) := by decide +kernel
theorem dX4_readInto_37 : decode cX4_readInto 37 = .ok (.aload_n 0, 1) := by decide +kernel
theorem dX4_readInto_38 : decode cX4_readInto 38 = .ok (.iload_n 2, 1) := by decide +kernel
theorem dX4_readInto_39 : decode cX4_readInto 39 = .ok (.iload 4, 2) := by decide +kernel
theorem dX4_readInto_41 : decode cX4_readInto 41 = .ok (.aload_n 1, 1) := by decide +kernel
theorem dX4_readInto_42 : decode cX4_readInto 42 = .ok (.invokevirtual 31, 3) := by decide +kernel
theorem dX4_readInto_45 : decode cX4_readInto 45 = .ok (.ifCond .ne 5, 3) := by decide +kernel
theorem dX4_readInto_48 : decode cX4_readInto 48 = .ok (.iload_n 2, 1) := by decide +kernel
theorem dX4_readInto_49 : decode cX4_readInto 49 = .ok (.ireturn, 1) := by decide +kernel
theorem dX4_readInto_50 : decode cX4_readInto 50 = .ok (.iload 4, 2) := by decide +kernel
theorem dX4_readInto_52 : decode cX4_readInto 52 = .ok (.iconst 1, 1) := by decide +kernel
theorem dX4_readInto_53 : decode cX4_readInto 53 = .ok (.iadd, 1) := by decide +kernel
theorem dX4_readInto_54 : decode cX4_readInto 54 = .ok (.istore_n 2, 1) := by decide +kernel
theorem dX4_readInto_55 : decode cX4_readInto 55 = .ok (.iinc 3 1, 3) := by decide +kernel
theorem dX4_readInto_58 : decode cX4_readInto 58 = .ok (.goto (-50), 3) := by decide +kernel
theorem dX4_readInto_61 : decode cX4_readInto 61 = .ok (.bipush (-4), 2) := by decide +kernel
theorem dX4_readInto_63 : decode cX4_readInto 63 = .ok (.ireturn, 1) := by decide +kernel
theorem dX4_endOfItem_0 : decode cX4_endOfItem 0 = .ok (.iload_n 1, 1) := by decide +kernel
theorem dX4_endOfItem_1 : decode cX4_endOfItem 1 = .ok (.istore_n 2, 1) := by decide +kernel
theorem dX4_endOfItem_2 : decode cX4_endOfItem 2 = .ok (.iload_n 2, 1) := by decide +kernel
theorem dX4_endOfItem_3 : decode cX4_endOfItem 3 = .ok (.aload_n 0, 1) := by decide +kernel
theorem dX4_endOfItem_4 : decode cX4_endOfItem 4 = .ok (.getfield 18, 3) := by decide +kernel
theorem dX4_endOfItem_7 : decode cX4_endOfItem 7 = .ok (.if_icmp .ge 22, 3) := by decide +kernel
theorem dX4_endOfItem_10 : decode cX4_endOfItem 10 = .ok (.aload_n 0, 1) := by decide +kernel
theorem dX4_endOfItem_11 : decode cX4_endOfItem 11 = .ok (.getfield 9, 3) := by decide +kernel
theorem dX4_endOfItem_14 : decode cX4_endOfItem 14 = .ok (.iload_n 2, 1) := by decide +kernel
theorem dX4_endOfItem_15 : decode cX4_endOfItem 15 = .ok (.iaload, 1) := by decide +kernel
theorem dX4_endOfItem_16 : decode cX4_endOfItem 16 = .ok (.bipush 59, 2) := by decide +kernel
theorem dX4_endOfItem_18 : decode cX4_endOfItem 18 = .ok (.if_icmp .ne 5, 3) := by decide +kernel
theorem dX4_endOfItem_21 : decode cX4_endOfItem 21 = .ok (.iload_n 2, 1) := by decide +kernel
theorem dX4_endOfItem_22 : decode cX4_endOfItem 22 = .ok (.ireturn, 1) := by decide +kernel
theorem dX4_endOfItem_23 : decode cX4_endOfItem 23 = .ok (.iinc 2 1, 3) := by decide +kernel
theorem dX4_endOfItem_26 : decode cX4_endOfItem 26 = .ok (.goto (-24), 3) := by decide +kernel
theorem dX4_endOfItem_29 : decode cX4_endOfItem 29 = .ok (.bipush (-4), 2) := by decide +kernel
theorem dX4_endOfItem_31 : decode cX4_endOfItem 31 = .ok (.ireturn, 1) := by decide +kernel
theorem dX4_readItem_0 : decode cX4_readItem 0 = .ok (.iload_n 1, 1) := by decide +kernel
theorem dX4_readItem_1 : decode cX4_readItem 1 = .ok (.iconst 5, 1) := by decide +kernel
theorem dX4_readItem_2 : decode cX4_readItem 2 = .ok (.iadd, 1) := by decide +kernel
theorem dX4_readItem_3 : decode cX4_readItem 3 = .ok (.istore 4, 2) := by decide +kernel
theorem dX4_readItem_5 : decode cX4_readItem 5 = .ok (.aload_n 0, 1) := by decide +kernel
theorem dX4_readItem_6 : decode cX4_readItem 6 = .ok (.ldc 35, 2) := by decide +kernel
theorem dX4_readItem_8 : decode cX4_readItem 8 = .ok (.iload_n 1, 1) := by decide +kernel
theorem dX4_readItem_9 : decode cX4_readItem 9 = .ok (.iload 4, 2) := by decide +kernel
theorem dX4_readItem_11 : decode cX4_readItem 11 = .ok (.invokevirtual 37, 3) := by decide +kernel
theorem dX4_readItem_14 : decode cX4_readItem 14 = .ok (.ifCond .eq 12, 3) := by decide +kernel
theorem dX4_readItem_17 : decode cX4_readItem 17 = .ok (.aload_n 0, 1) := by decide +kernel
theorem dX4_readItem_18 : decode cX4_readItem 18 = .ok (.iload 4, 2) := by decide +kernel
theorem dX4_readItem_20 : decode cX4_readItem 20 = .ok (.iload_n 2, 1) := by decide +kernel
theorem dX4_readItem_21 : decode cX4_readItem 21 = .ok (.aload_n 3, 1) := by decide +kernel
theorem dX4_readItem_22 : decode cX4_readItem 22 = .ok (.invokevirtual 41, 3) := by decide +kernel
theorem dX4_readItem_25 : decode cX4_readItem 25 = .ok (.ireturn, 1) := by decide +kernel
theorem dX4_readItem_26 : decode cX4_readItem 26 = .ok (.aload_n 0, 1) := by decide +kernel
theorem dX4_readItem_27 : decode cX4_readItem 27 = .ok (.ldc 44, 2) := by decide +kernel
theorem dX4_readItem_29 : decode cX4_readItem 29 = .ok (.iload_n 1, 1) := by decide +kernel
theorem dX4_readItem_30 : decode cX4_readItem 30 = .ok (.iload 4, 2) := by decide +kernel
theorem dX4_readItem_32 : decode cX4_readItem 32 = .ok (.invokevirtual 37, 3) := by decide +kernel
theorem dX4_readItem_35 : decode cX4_readItem 35 = .ok (.ifCond .eq 19, 3) := by decide +kernel
theorem dX4_readItem_38 : decode cX4_readItem 38 = .ok (.aload_n 3, 1) := by decide +kernel
theorem dX4_readItem_39 : decode cX4_readItem 39 = .ok (.aload_n 0, 1) := by decide +kernel
theorem dX4_readItem_40 : decode cX4_readItem 40 = .ok (.getfield 15, 3) := by decide +kernel
theorem dX4_readItem_43 : decode cX4_readItem 43 = .ok (.aload_n 0, 1) := by decide +kernel
theorem dX4_readItem_44 : decode cX4_readItem 44 = .ok (.iload 4, 2) := by decide +kernel
theorem dX4_readItem_46 : decode cX4_readItem 46 = .ok (.iload_n 2, 1) := by decide +kernel
theorem dX4_readItem_47 : decode cX4_readItem 47 = .ok (.invokevirtual 46, 3) := by decide +kernel
theorem dX4_readItem_50 : decode cX4_readItem 50 = .ok (.invokevirtual 50, 3) := by decide +kernel
theorem dX4_readItem_53 : decode cX4_readItem 53 = .ok (.ireturn, 1) := by decide +kernel
theorem dX4_readItem_54 : decode cX4_readItem 54 = .ok (.aload_n 0, 1) := by decide +kernel
theorem dX4_readItem_55 : decode cX4_readItem 55 = .ok (.ldc 54, 2) := by decide +kernel
theorem dX4_readItem_57 : decode cX4_readItem 57 = .ok (.iload_n 1, 1) := by decide +kernel
theorem dX4_readItem_58 : decode cX4_readItem 58 = .ok (.iload 4, 2) := by decide +kernel
theorem dX4_readItem_60 : decode cX4_readItem 60 = .ok (.invokevirtual 37, 3) := by decide +kernel
theorem dX4_readItem_63 : decode cX4_readItem 63 = .ok (.ifCond .eq 19, 3) := by decide +kernel
theorem dX4_readItem_66 : decode cX4_readItem 66 = .ok (.aload_n 3, 1) := by decide +kernel
theorem dX4_readItem_67 : decode cX4_readItem 67 = .ok (.aload_n 0, 1) := by decide +kernel
theorem dX4_readItem_68 : decode cX4_readItem 68 = .ok (.getfield 15, 3) := by decide +kernel
theorem dX4_readItem_71 : decode cX4_readItem 71 = .ok (.aload_n 0, 1) := by decide +kernel
theorem dX4_readItem_72 : decode cX4_readItem 72 = .ok (.iload 4, 2) := by decide +kernel
theorem dX4_readItem_74 : decode cX4_readItem 74 = .ok (.iload_n 2, 1) := by decide +kernel
theorem dX4_readItem_75 : decode cX4_readItem 75 = .ok (.invokevirtual 46, 3) := by decide +kernel
theorem dX4_readItem_78 : decode cX4_readItem 78 = .ok (.invokevirtual 56, 3) := by decide +kernel
theorem dX4_readItem_81 : decode cX4_readItem 81 = .ok (.ireturn, 1) := by decide +kernel
theorem dX4_readItem_82 : decode cX4_readItem 82 = .ok (.aload_n 0, 1) := by decide +kernel
theorem dX4_readItem_83 : decode cX4_readItem 83 = .ok (.ldc 59, 2) := by decide +kernel
theorem dX4_readItem_85 : decode cX4_readItem 85 = .ok (.iload_n 1, 1) := by decide +kernel
theorem dX4_readItem_86 : decode cX4_readItem 86 = .ok (.iload 4, 2) := by decide +kernel
theorem dX4_readItem_88 : decode cX4_readItem 88 = .ok (.invokevirtual 37, 3) := by decide +kernel
theorem dX4_readItem_91 : decode cX4_readItem 91 = .ok (.ifCond .eq 19, 3) := by decide +kernel
theorem dX4_readItem_94 : decode cX4_readItem 94 = .ok (.aload_n 3, 1) := by decide +kernel
theorem dX4_readItem_95 : decode cX4_readItem 95 = .ok (.aload_n 0, 1) := by decide +kernel
theorem dX4_readItem_96 : decode cX4_readItem 96 = .ok (.getfield 15, 3) := by decide +kernel
theorem dX4_readItem_99 : decode cX4_readItem 99 = .ok (.aload_n 0, 1) := by decide +kernel
theorem dX4_readItem_100 : decode cX4_readItem 100 = .ok (.iload 4, 2) := by decide +kernel
theorem dX4_readItem_102 : decode cX4_readItem 102 = .ok (.iload_n 2, 1) := by decide +kernel
theorem dX4_readItem_103 : decode cX4_readItem 103 = .ok (.invokevirtual 46, 3) := by decide +kernel
theorem dX4_readItem_106 : decode cX4_readItem 106 = .ok (.invokevirtual 61, 3) := by decide +kernel
theorem dX4_readItem_109 : decode cX4_readItem 109 = .ok (.ireturn, 1) := by decide +kernel
theorem dX4_readItem_110 : decode cX4_readItem 110 = .ok (.iconst 0, 1) := by decide +kernel
theorem dX4_readItem_111 : decode cX4_readItem 111 = .ok (.ireturn, 1) := by decide +kernel
theorem dX4_readMode_0 : decode cX4_readMode 0 = .ok (.aload_n 0, 1) := by decide +kernel
theorem dX4_readMode_1 : decode cX4_readMode 1 = .ok (.ldc 64, 2) := by decide +kernel
theorem dX4_readMode_3 : decode cX4_readMode 3 = .ok (.iload_n 1, 1) := by decide +kernel
theorem dX4_readMode_4 : decode cX4_readMode 4 = .ok (.iload_n 2, 1) := by decide +kernel
theorem dX4_readMode_5 : decode cX4_readMode 5 = .ok (.invokevirtual 37, 3) := by decide +kernel
theorem dX4_readMode_8 : decode cX4_readMode 8 = .ok (.ifCond .eq 11, 3) := by decide +kernel
theorem dX4_readMode_11 : decode cX4_readMode 11 = .ok (.aload_n 3, 1) := by decide +kernel
theorem dX4_readMode_12 : decode cX4_readMode 12 = .ok (.iconst 0, 1) := by decide +kernel
theorem dX4_readMode_13 : decode cX4_readMode 13 = .ok (.putfield 66, 3) := by decide +kernel
theorem dX4_readMode_16 : decode cX4_readMode 16 = .ok (.goto 43, 3) := by decide +kernel
theorem dX4_readMode_19 : decode cX4_readMode 19 = .ok (.aload_n 0, 1) := by decide +kernel
theorem dX4_readMode_20 : decode cX4_readMode 20 = .ok (.ldc 69, 2) := by decide +kernel
theorem dX4_readMode_22 : decode cX4_readMode 22 = .ok (.iload_n 1, 1) := by decide +kernel
theorem dX4_readMode_23 : decode cX4_readMode 23 = .ok (.iload_n 2, 1) := by decide +kernel
theorem dX4_readMode_24 : decode cX4_readMode 24 = .ok (.invokevirtual 37, 3) := by decide +kernel
theorem dX4_readMode_27 : decode cX4_readMode 27 = .ok (.ifCond .eq 11, 3) := by decide +kernel
theorem dX4_readMode_30 : decode cX4_readMode 30 = .ok (.aload_n 3, 1) := by decide +kernel
theorem dX4_readMode_31 : decode cX4_readMode 31 = .ok (.iconst 1, 1) := by decide +kernel
theorem dX4_readMode_32 : decode cX4_readMode 32 = .ok (.putfield 66, 3) := by decide +kernel
theorem dX4_readMode_35 : decode cX4_readMode 35 = .ok (.goto 24, 3) := by decide +kernel
theorem dX4_readMode_38 : decode cX4_readMode 38 = .ok (.aload_n 0, 1) := by decide +kernel
theorem dX4_readMode_39 : decode cX4_readMode 39 = .ok (.ldc 71, 2) := by decide +kernel
theorem dX4_readMode_41 : decode cX4_readMode 41 = .ok (.iload_n 1, 1) := by decide +kernel
theorem dX4_readMode_42 : decode cX4_readMode 42 = .ok (.iload_n 2, 1) := by decide +kernel
theorem dX4_readMode_43 : decode cX4_readMode 43 = .ok (.invokevirtual 37, 3) := by decide +kernel
theorem dX4_readMode_46 : decode cX4_readMode 46 = .ok (.ifCond .eq 11, 3) := by decide +kernel
theorem dX4_readMode_49 : decode cX4_readMode 49 = .ok (.aload_n 3, 1) := by decide +kernel
theorem dX4_readMode_50 : decode cX4_readMode 50 = .ok (.iconst 2, 1) := by decide +kernel
theorem dX4_readMode_51 : decode cX4_readMode 51 = .ok (.putfield 66, 3) := by decide +kernel
theorem dX4_readMode_54 : decode cX4_readMode 54 = .ok (.goto 5, 3) := by decide +kernel
theorem dX4_readMode_57 : decode cX4_readMode 57 = .ok (.iconst 0, 1) := by decide +kernel
theorem dX4_readMode_58 : decode cX4_readMode 58 = .ok (.ireturn, 1) := by decide +kernel
theorem dX4_readMode_59 : decode cX4_readMode 59 = .ok (.iconst 1, 1) := by decide +kernel
theorem dX4_readMode_60 : decode cX4_readMode 60 = .ok (.ireturn, 1) := by decide +kernel
theorem dX4_stands_0 : decode cX4_stands 0 = .ok (.iload_n 2, 1) := by decide +kernel
theorem dX4_stands_1 : decode cX4_stands 1 = .ok (.ifCond .lt 21, 3) := by decide +kernel
theorem dX4_stands_4 : decode cX4_stands 4 = .ok (.iload_n 3, 1) := by decide +kernel
theorem dX4_stands_5 : decode cX4_stands 5 = .ok (.aload_n 0, 1) := by decide +kernel
theorem dX4_stands_6 : decode cX4_stands 6 = .ok (.getfield 18, 3) := by decide +kernel
theorem dX4_stands_9 : decode cX4_stands 9 = .ok (.if_icmp .gt 13, 3) := by decide +kernel
theorem dX4_stands_12 : decode cX4_stands 12 = .ok (.iload_n 3, 1) := by decide +kernel
theorem dX4_stands_13 : decode cX4_stands 13 = .ok (.iload_n 2, 1) := by decide +kernel
theorem dX4_stands_14 : decode cX4_stands 14 = .ok (.isub, 1) := by decide +kernel
theorem dX4_stands_15 : decode cX4_stands 15 = .ok (.aload_n 1, 1) := by decide +kernel
theorem dX4_stands_16 : decode cX4_stands 16 = .ok (.invokevirtual 73, 3) := by decide +kernel
theorem dX4_stands_19 : decode cX4_stands 19 = .ok (.if_icmp .eq 5, 3) := by decide +kernel
theorem dX4_stands_22 : decode cX4_stands 22 = .ok (.iconst 0, 1) := by decide +kernel
theorem dX4_stands_23 : decode cX4_stands 23 = .ok (.ireturn, 1) := by decide +kernel
theorem dX4_stands_24 : decode cX4_stands 24 = .ok (.iconst 0, 1) := by decide +kernel
theorem dX4_stands_25 : decode cX4_stands 25 = .ok (.istore 4, 2) := by decide +kernel
theorem dX4_stands_27 : decode cX4_stands 27 = .ok (.iload 4, 2) := by decide +kernel
theorem dX4_stands_29 : decode cX4_stands 29 = .ok (.aload_n 1, 1) := by decide +kernel
theorem dX4_stands_30 : decode cX4_stands 30 = .ok (.invokevirtual 73, 3) := by decide +kernel
theorem dX4_stands_33 : decode cX4_stands 33 = .ok (.if_icmp .ge 29, 3) := by decide +kernel
theorem dX4_stands_36 : decode cX4_stands 36 = .ok (.aload_n 0, 1) := by decide +kernel
theorem dX4_stands_37 : decode cX4_stands 37 = .ok (.getfield 9, 3) := by decide +kernel
theorem dX4_stands_40 : decode cX4_stands 40 = .ok (.iload_n 2, 1) := by decide +kernel
theorem dX4_stands_41 : decode cX4_stands 41 = .ok (.iload 4, 2) := by decide +kernel
theorem dX4_stands_43 : decode cX4_stands 43 = .ok (.iadd, 1) := by decide +kernel
theorem dX4_stands_44 : decode cX4_stands 44 = .ok (.iaload, 1) := by decide +kernel
theorem dX4_stands_45 : decode cX4_stands 45 = .ok (.aload_n 1, 1) := by decide +kernel
theorem dX4_stands_46 : decode cX4_stands 46 = .ok (.iload 4, 2) := by decide +kernel
theorem dX4_stands_48 : decode cX4_stands 48 = .ok (.invokevirtual 78, 3) := by decide +kernel
theorem dX4_stands_51 : decode cX4_stands 51 = .ok (.if_icmp .eq 5, 3) := by decide +kernel
theorem dX4_stands_54 : decode cX4_stands 54 = .ok (.iconst 0, 1) := by decide +kernel
theorem dX4_stands_55 : decode cX4_stands 55 = .ok (.ireturn, 1) := by decide +kernel
theorem dX4_stands_56 : decode cX4_stands 56 = .ok (.iinc 4 1, 3) := by decide +kernel
theorem dX4_stands_59 : decode cX4_stands 59 = .ok (.goto (-32), 3) := by decide +kernel
theorem dX4_stands_62 : decode cX4_stands 62 = .ok (.iconst 1, 1) := by decide +kernel
theorem dX4_stands_63 : decode cX4_stands 63 = .ok (.ireturn, 1) := by decide +kernel
theorem dX4_readNumbers_0 : decode cX4_readNumbers 0 = .ok (.iconst 0, 1) := by decide +kernel
theorem dX4_readNumbers_1 : decode cX4_readNumbers 1 = .ok (.istore_n 3, 1) := by decide +kernel
theorem dX4_readNumbers_2 : decode cX4_readNumbers 2 = .ok (.iconst 0, 1) := by decide +kernel
theorem dX4_readNumbers_3 : decode cX4_readNumbers 3 = .ok (.istore 4, 2) := by decide +kernel
theorem dX4_readNumbers_5 : decode cX4_readNumbers 5 = .ok (.iconst 0, 1) := by decide +kernel
theorem dX4_readNumbers_6 : decode cX4_readNumbers 6 = .ok (.istore 5, 2) := by decide +kernel
theorem dX4_readNumbers_8 : decode cX4_readNumbers 8 = .ok (.iload_n 1, 1) := by decide +kernel
theorem dX4_readNumbers_9 : decode cX4_readNumbers 9 = .ok (.istore 6, 2) := by decide +kernel
theorem dX4_readNumbers_11 : decode cX4_readNumbers 11 = .ok (.iload 6, 2) := by decide +kernel
theorem dX4_readNumbers_13 : decode cX4_readNumbers 13 = .ok (.iload_n 2, 1) := by decide +kernel
theorem dX4_readNumbers_14 : decode cX4_readNumbers 14 = .ok (.if_icmp .gt 114, 3) := by decide +kernel
theorem dX4_readNumbers_17 : decode cX4_readNumbers 17 = .ok (.iload 6, 2) := by decide +kernel
theorem dX4_readNumbers_19 : decode cX4_readNumbers 19 = .ok (.aload_n 0, 1) := by decide +kernel
theorem dX4_readNumbers_20 : decode cX4_readNumbers 20 = .ok (.getfield 18, 3) := by decide +kernel
theorem dX4_readNumbers_23 : decode cX4_readNumbers 23 = .ok (.if_icmp .ge 105, 3) := by decide +kernel
theorem dX4_readNumbers_26 : decode cX4_readNumbers 26 = .ok (.aload_n 0, 1) := by decide +kernel
theorem dX4_readNumbers_27 : decode cX4_readNumbers 27 = .ok (.getfield 9, 3) := by decide +kernel
theorem dX4_readNumbers_30 : decode cX4_readNumbers 30 = .ok (.iload 6, 2) := by decide +kernel
theorem dX4_readNumbers_32 : decode cX4_readNumbers 32 = .ok (.iaload, 1) := by decide +kernel
theorem dX4_readNumbers_33 : decode cX4_readNumbers 33 = .ok (.istore 7, 2) := by decide +kernel
theorem dX4_readNumbers_35 : decode cX4_readNumbers 35 = .ok (.iload 7, 2) := by decide +kernel
theorem dX4_readNumbers_37 : decode cX4_readNumbers 37 = .ok (.bipush 48, 2) := by decide +kernel
theorem dX4_readNumbers_39 : decode cX4_readNumbers 39 = .ok (.if_icmp .lt 35, 3) := by decide +kernel
theorem dX4_readNumbers_42 : decode cX4_readNumbers 42 = .ok (.iload 7, 2) := by decide +kernel
theorem dX4_readNumbers_44 : decode cX4_readNumbers 44 = .ok (.bipush 57, 2) := by decide +kernel
theorem dX4_readNumbers_46 : decode cX4_readNumbers 46 = .ok (.if_icmp .gt 28, 3) := by decide +kernel
theorem dX4_readNumbers_49 : decode cX4_readNumbers 49 = .ok (.iload 4, 2) := by decide +kernel
theorem dX4_readNumbers_51 : decode cX4_readNumbers 51 = .ok (.iconst 2, 1) := by decide +kernel
theorem dX4_readNumbers_52 : decode cX4_readNumbers 52 = .ok (.if_icmp .ge 22, 3) := by decide +kernel
theorem dX4_readNumbers_55 : decode cX4_readNumbers 55 = .ok (.iload 5, 2) := by decide +kernel
theorem dX4_readNumbers_57 : decode cX4_readNumbers 57 = .ok (.bipush 10, 2) := by decide +kernel
theorem dX4_readNumbers_59 : decode cX4_readNumbers 59 = .ok (.imul, 1) := by decide +kernel
theorem dX4_readNumbers_60 : decode cX4_readNumbers 60 = .ok (.iload 7, 2) := by decide +kernel
theorem dX4_readNumbers_62 : decode cX4_readNumbers 62 = .ok (.iadd, 1) := by decide +kernel
theorem dX4_readNumbers_63 : decode cX4_readNumbers 63 = .ok (.bipush 48, 2) := by decide +kernel
theorem dX4_readNumbers_65 : decode cX4_readNumbers 65 = .ok (.isub, 1) := by decide +kernel
theorem dX4_readNumbers_66 : decode cX4_readNumbers 66 = .ok (.istore 5, 2) := by decide +kernel
theorem dX4_readNumbers_68 : decode cX4_readNumbers 68 = .ok (.iinc 4 1, 3) := by decide +kernel
theorem dX4_readNumbers_71 : decode cX4_readNumbers 71 = .ok (.goto 51, 3) := by decide +kernel
theorem dX4_readNumbers_74 : decode cX4_readNumbers 74 = .ok (.iload 7, 2) := by decide +kernel
theorem dX4_readNumbers_76 : decode cX4_readNumbers 76 = .ok (.bipush 44, 2) := by decide +kernel
theorem dX4_readNumbers_78 : decode cX4_readNumbers 78 = .ok (.if_icmp .eq 10, 3) := by decide +kernel
theorem dX4_readNumbers_81 : decode cX4_readNumbers 81 = .ok (.iload 7, 2) := by decide +kernel
theorem dX4_readNumbers_83 : decode cX4_readNumbers 83 = .ok (.bipush 59, 2) := by decide +kernel
theorem dX4_readNumbers_85 : decode cX4_readNumbers 85 = .ok (.if_icmp .ne 34, 3) := by decide +kernel
theorem dX4_readNumbers_88 : decode cX4_readNumbers 88 = .ok (.iload 4, 2) := by decide +kernel
theorem dX4_readNumbers_90 : decode cX4_readNumbers 90 = .ok (.ifCond .le 29, 3) := by decide +kernel
theorem dX4_readNumbers_93 : decode cX4_readNumbers 93 = .ok (.iload_n 3, 1) := by decide +kernel
theorem dX4_readNumbers_94 : decode cX4_readNumbers 94 = .ok (.bipush 48, 2) := by decide +kernel
theorem dX4_readNumbers_96 : decode cX4_readNumbers 96 = .ok (.if_icmp .ge 23, 3) := by decide +kernel
theorem dX4_readNumbers_99 : decode cX4_readNumbers 99 = .ok (.aload_n 0, 1) := by decide +kernel
theorem dX4_readNumbers_100 : decode cX4_readNumbers 100 = .ok (.getfield 15, 3) := by decide +kernel
theorem dX4_readNumbers_103 : decode cX4_readNumbers 103 = .ok (.iload_n 3, 1) := by decide +kernel
theorem dX4_readNumbers_104 : decode cX4_readNumbers 104 = .ok (.iload 5, 2) := by decide +kernel
theorem dX4_readNumbers_106 : decode cX4_readNumbers 106 = .ok (.iastore, 1) := by decide +kernel
theorem dX4_readNumbers_107 : decode cX4_readNumbers 107 = .ok (.iinc 3 1, 3) := by decide +kernel
theorem dX4_readNumbers_110 : decode cX4_readNumbers 110 = .ok (.iconst 0, 1) := by decide +kernel
theorem dX4_readNumbers_111 : decode cX4_readNumbers 111 = .ok (.istore 4, 2) := by decide +kernel
theorem dX4_readNumbers_113 : decode cX4_readNumbers 113 = .ok (.iconst 0, 1) := by decide +kernel
theorem dX4_readNumbers_114 : decode cX4_readNumbers 114 = .ok (.istore 5, 2) := by decide +kernel
theorem dX4_readNumbers_116 : decode cX4_readNumbers 116 = .ok (.goto 6, 3) := by decide +kernel
theorem dX4_readNumbers_119 : decode cX4_readNumbers 119 = .ok (.bipush (-4), 2) := by decide +kernel
theorem dX4_readNumbers_121 : decode cX4_readNumbers 121 = .ok (.ireturn, 1) := by decide +kernel
theorem dX4_readNumbers_122 : decode cX4_readNumbers 122 = .ok (.iinc 6 1, 3) := by decide +kernel
theorem dX4_readNumbers_125 : decode cX4_readNumbers 125 = .ok (.goto (-114), 3) := by decide +kernel
theorem dX4_readNumbers_128 : decode cX4_readNumbers 128 = .ok (.iload_n 3, 1) := by decide +kernel
theorem dX4_readNumbers_129 : decode cX4_readNumbers 129 = .ok (.ireturn, 1) := by decide +kernel
theorem dX5_init_0 : decode cX5_init 0 = .ok (.aload_n 0, 1) := by decide +kernel
theorem dX5_init_1 : decode cX5_init 1 = .ok (.invokespecial 3, 3) := by decide +kernel
theorem dX5_init_4 : decode cX5_init 4 = .ok (.aload_n 0, 1) := by decide +kernel
theorem dX5_init_5 : decode cX5_init 5 = .ok (.bipush 48, 2) := by decide +kernel
theorem dX5_init_7 : decode cX5_init 7 = .ok (.newarray .int, 2) := by decide +kernel
theorem dX5_init_9 : decode cX5_init 9 = .ok (.putfield 9, 3) := by decide +kernel
theorem dX5_init_12 : decode cX5_init 12 = .ok (.aload_n 0, 1) := by decide +kernel
theorem dX5_init_13 : decode cX5_init 13 = .ok (.getstatic 15, 3) := by decide +kernel
theorem dX5_init_16 : decode cX5_init 16 = .ok (.arraylength, 1) := by decide +kernel
theorem dX5_init_17 : decode cX5_init 17 = .ok (.newarray .int, 2) := by decide +kernel
theorem dX5_init_19 : decode cX5_init 19 = .ok (.putfield 18, 3) := by decide +kernel
theorem dX5_init_22 : decode cX5_init 22 = .ok (.aload_n 0, 1) := by decide +kernel
theorem dX5_init_23 : decode cX5_init 23 = .ok (.bipush 8, 2) := by decide +kernel
theorem dX5_init_25 : decode cX5_init 25 = .ok (.newarray .int, 2) := by decide +kernel
theorem dX5_init_27 : decode cX5_init 27 = .ok (.putfield 21, 3) := by decide +kernel
theorem dX5_init_30 : decode cX5_init 30 = .ok (.return_, 1) := by decide +kernel
theorem dX5_startAnew_0 : decode cX5_startAnew 0 = .ok (.aload_n 0, 1) := by decide +kernel
theorem dX5_startAnew_1 : decode cX5_startAnew 1 = .ok (.iconst 0, 1) := by decide +kernel
theorem dX5_startAnew_2 : decode cX5_startAnew 2 = .ok (.putfield 24, 3) := by decide +kernel
theorem dX5_startAnew_5 : decode cX5_startAnew 5 = .ok (.aload_n 0, 1) := by decide +kernel
theorem dX5_startAnew_6 : decode cX5_startAnew 6 = .ok (.iconst 0, 1) := by decide +kernel
theorem dX5_startAnew_7 : decode cX5_startAnew 7 = .ok (.putfield 28, 3) := by decide +kernel
theorem dX5_startAnew_10 : decode cX5_startAnew 10 = .ok (.getstatic 15, 3) := by decide +kernel
theorem dX5_startAnew_13 : decode cX5_startAnew 13 = .ok (.iconst 0, 1) := by decide +kernel
theorem dX5_startAnew_14 : decode cX5_startAnew 14 = .ok (.aload_n 0, 1) := by decide +kernel
theorem dX5_startAnew_15 : decode cX5_startAnew 15 = .ok (.getfield 18, 3) := by decide +kernel
theorem dX5_startAnew_18 : decode cX5_startAnew 18 = .ok (.iconst 0, 1) := by decide +kernel
theorem dX5_startAnew_19 : decode cX5_startAnew 19 = .ok (.getstatic 15, 3) := by decide +kernel
theorem dX5_startAnew_22 : decode cX5_startAnew 22 = .ok (.arraylength, 1) := by decide +kernel
theorem dX5_startAnew_23 : decode cX5_startAnew 23 = .ok (.invokestatic 31, 3) := by decide +kernel
theorem dX5_startAnew_26 : decode cX5_startAnew 26 = .ok (.getstatic 37, 3) := by decide +kernel
theorem dX5_startAnew_29 : decode cX5_startAnew 29 = .ok (.iconst 0, 1) := by decide +kernel
theorem dX5_startAnew_30 : decode cX5_startAnew 30 = .ok (.aload_n 0, 1) := by decide +kernel
theorem dX5_startAnew_31 : decode cX5_startAnew 31 = .ok (.getfield 21, 3) := by decide +kernel
theorem dX5_startAnew_34 : decode cX5_startAnew 34 = .ok (.iconst 0, 1) := by decide +kernel
theorem dX5_startAnew_35 : decode cX5_startAnew 35 = .ok (.bipush 8, 2) := by decide +kernel
theorem dX5_startAnew_37 : decode cX5_startAnew 37 = .ok (.invokestatic 31, 3) := by decide +kernel
theorem dX5_startAnew_40 : decode cX5_startAnew 40 = .ok (.return_, 1) := by decide +kernel
theorem dX5_addCells_0 : decode cX5_addCells 0 = .ok (.iload_n 2, 1) := by decide +kernel
theorem dX5_addCells_1 : decode cX5_addCells 1 = .ok (.iconst 1, 1) := by decide +kernel
theorem dX5_addCells_2 : decode cX5_addCells 2 = .ok (.if_icmp .lt 20, 3) := by decide +kernel
theorem dX5_addCells_5 : decode cX5_addCells 5 = .ok (.iload_n 2, 1) := by decide +kernel
theorem dX5_addCells_6 : decode cX5_addCells 6 = .ok (.aload_n 1, 1) := by decide +kernel
theorem dX5_addCells_7 : decode cX5_addCells 7 = .ok (.arraylength, 1) := by decide +kernel
theorem dX5_addCells_8 : decode cX5_addCells 8 = .ok (.if_icmp .gt 14, 3) := by decide +kernel
theorem dX5_addCells_11 : decode cX5_addCells 11 = .ok (.aload_n 0, 1) := by decide +kernel
theorem dX5_addCells_12 : decode cX5_addCells 12 = .ok (.getfield 24, 3) := by decide +kernel
theorem dX5_addCells_15 : decode cX5_addCells 15 = .ok (.iload_n 2, 1) := by decide +kernel
theorem dX5_addCells_16 : decode cX5_addCells 16 = .ok (.iadd, 1) := by decide +kernel
theorem dX5_addCells_17 : decode cX5_addCells 17 = .ok (.bipush 48, 2) := by decide +kernel
theorem dX5_addCells_19 : decode cX5_addCells 19 = .ok (.if_icmp .le 5, 3) := by decide +kernel
theorem dX5_addCells_22 : decode cX5_addCells 22 = .ok (.iconst 0, 1) := by decide +kernel
theorem dX5_addCells_23 : decode cX5_addCells 23 = .ok (.ireturn, 1) := by decide +kernel
theorem dX5_addCells_24 : decode cX5_addCells 24 = .ok (.aload_n 1, 1) := by decide +kernel
theorem dX5_addCells_25 : decode cX5_addCells 25 = .ok (.iconst 0, 1) := by decide +kernel
theorem dX5_addCells_26 : decode cX5_addCells 26 = .ok (.aload_n 0, 1) := by decide +kernel
theorem dX5_addCells_27 : decode cX5_addCells 27 = .ok (.getfield 9, 3) := by decide +kernel
theorem dX5_addCells_30 : decode cX5_addCells 30 = .ok (.aload_n 0, 1) := by decide +kernel
theorem dX5_addCells_31 : decode cX5_addCells 31 = .ok (.getfield 24, 3) := by decide +kernel
theorem dX5_addCells_34 : decode cX5_addCells 34 = .ok (.iload_n 2, 1) := by decide +kernel
theorem dX5_addCells_35 : decode cX5_addCells 35 = .ok (.invokestatic 31, 3) := by decide +kernel
theorem dX5_addCells_38 : decode cX5_addCells 38 = .ok (.aload_n 0, 1) := by decide +kernel
theorem dX5_addCells_39 : decode cX5_addCells 39 = .ok (.dup, 1) := by decide +kernel
theorem dX5_addCells_40 : decode cX5_addCells 40 = .ok (.getfield 24, 3) := by decide +kernel
theorem dX5_addCells_43 : decode cX5_addCells 43 = .ok (.iload_n 2, 1) := by decide +kernel
theorem dX5_addCells_44 : decode cX5_addCells 44 = .ok (.iadd, 1) := by decide +kernel
theorem dX5_addCells_45 : decode cX5_addCells 45 = .ok (.putfield 24, 3) := by decide +kernel
theorem dX5_addCells_48 : decode cX5_addCells 48 = .ok (.iconst 1, 1) := by decide +kernel
theorem dX5_addCells_49 : decode cX5_addCells 49 = .ok (.ireturn, 1) := by decide +kernel
theorem dX5_setLookTo_0 : decode cX5_setLookTo 0 = .ok (.iload_n 2, 1) := by decide +kernel
theorem dX5_setLookTo_1 : decode cX5_setLookTo 1 = .ok (.aload_n 0, 1) := by decide +kernel
theorem dX5_setLookTo_2 : decode cX5_setLookTo 2 = .ok (.getfield 18, 3) := by decide +kernel
theorem dX5_setLookTo_5 : decode cX5_setLookTo 5 = .ok (.arraylength, 1) := by decide +kernel
theorem dX5_setLookTo_6 : decode cX5_setLookTo 6 = .ok (.if_icmp .ne 9, 3) := by decide +kernel
theorem dX5_setLookTo_9 : decode cX5_setLookTo 9 = .ok (.iload_n 2, 1) := by decide +kernel
theorem dX5_setLookTo_10 : decode cX5_setLookTo 10 = .ok (.aload_n 1, 1) := by decide +kernel
theorem dX5_setLookTo_11 : decode cX5_setLookTo 11 = .ok (.arraylength, 1) := by decide +kernel
theorem dX5_setLookTo_12 : decode cX5_setLookTo 12 = .ok (.if_icmp .le 5, 3) := by decide +kernel
theorem dX5_setLookTo_15 : decode cX5_setLookTo 15 = .ok (.iconst 0, 1) := by decide +kernel
theorem dX5_setLookTo_16 : decode cX5_setLookTo 16 = .ok (.ireturn, 1) := by decide +kernel
theorem dX5_setLookTo_17 : decode cX5_setLookTo 17 = .ok (.iconst 0, 1) := by decide +kernel
theorem dX5_setLookTo_18 : decode cX5_setLookTo 18 = .ok (.istore_n 3, 1) := by decide +kernel
theorem dX5_setLookTo_19 : decode cX5_setLookTo 19 = .ok (.iload_n 3, 1) := by decide +kernel
theorem dX5_setLookTo_20 : decode cX5_setLookTo 20 = .ok (.iload_n 2, 1) := by decide +kernel
theorem dX5_setLookTo_21 : decode cX5_setLookTo 21 = .ok (.if_icmp .ge 21, 3) := by decide +kernel
theorem dX5_setLookTo_24 : decode cX5_setLookTo 24 = .ok (.iload_n 3, 1) := by decide +kernel
theorem dX5_setLookTo_25 : decode cX5_setLookTo 25 = .ok (.aload_n 1, 1) := by decide +kernel
theorem dX5_setLookTo_26 : decode cX5_setLookTo 26 = .ok (.iload_n 3, 1) := by decide +kernel
theorem dX5_setLookTo_27 : decode cX5_setLookTo 27 = .ok (.iaload, 1) := by decide +kernel
theorem dX5_setLookTo_28 : decode cX5_setLookTo 28 = .ok (.invokestatic 40, 3) := by decide +kernel
theorem dX5_setLookTo_31 : decode cX5_setLookTo 31 = .ok (.ifCond .ne 5, 3) := by decide +kernel
theorem dX5_setLookTo_34 : decode cX5_setLookTo 34 = .ok (.iconst 0, 1) := by decide +kernel
theorem dX5_setLookTo_35 : decode cX5_setLookTo 35 = .ok (.ireturn, 1) := by decide +kernel
theorem dX5_setLookTo_36 : decode cX5_setLookTo 36 = .ok (.iinc 3 1, 3) := by decide +kernel
theorem dX5_setLookTo_39 : decode cX5_setLookTo 39 = .ok (.goto (-20), 3) := by decide +kernel
theorem dX5_setLookTo_42 : decode cX5_setLookTo 42 = .ok (.aload_n 1, 1) := by decide +kernel
theorem dX5_setLookTo_43 : decode cX5_setLookTo 43 = .ok (.iconst 0, 1) := by decide +kernel
theorem dX5_setLookTo_44 : decode cX5_setLookTo 44 = .ok (.aload_n 0, 1) := by decide +kernel
theorem dX5_setLookTo_45 : decode cX5_setLookTo 45 = .ok (.getfield 18, 3) := by decide +kernel
theorem dX5_setLookTo_48 : decode cX5_setLookTo 48 = .ok (.iconst 0, 1) := by decide +kernel
theorem dX5_setLookTo_49 : decode cX5_setLookTo 49 = .ok (.iload_n 2, 1) := by decide +kernel
theorem dX5_setLookTo_50 : decode cX5_setLookTo 50 = .ok (.invokestatic 31, 3) := by decide +kernel
theorem dX5_setLookTo_53 : decode cX5_setLookTo 53 = .ok (.iconst 1, 1) := by decide +kernel
theorem dX5_setLookTo_54 : decode cX5_setLookTo 54 = .ok (.ireturn, 1) := by decide +kernel
theorem dX5_setWeightsTo_0 : decode cX5_setWeightsTo 0 = .ok (.iload_n 2, 1) := by decide +kernel
theorem dX5_setWeightsTo_1 : decode cX5_setWeightsTo 1 = .ok (.iconst 2, 1) := by decide +kernel
theorem dX5_setWeightsTo_2 : decode cX5_setWeightsTo 2 = .ok (.if_icmp .lt 15, 3) := by decide +kernel
theorem dX5_setWeightsTo_5 : decode cX5_setWeightsTo 5 = .ok (.iload_n 2, 1) := by decide +kernel
theorem dX5_setWeightsTo_6 : decode cX5_setWeightsTo 6 = .ok (.bipush 8, 2) := by decide +kernel
theorem dX5_setWeightsTo_8 : decode cX5_setWeightsTo 8 = .ok (.if_icmp .gt 9, 3) := by decide +kernel
theorem dX5_setWeightsTo_11 : decode cX5_setWeightsTo 11 = .ok (.iload_n 2, 1) := by decide +kernel
theorem dX5_setWeightsTo_12 : decode cX5_setWeightsTo 12 = .ok (.aload_n 1, 1) := by decide +kernel
theorem dX5_setWeightsTo_13 : decode cX5_setWeightsTo 13 = .ok (.arraylength, 1) := by decide +kernel
theorem dX5_setWeightsTo_14 : decode cX5_setWeightsTo 14 = .ok (.if_icmp .le 5, 3) := by decide +kernel
theorem dX5_setWeightsTo_17 : decode cX5_setWeightsTo 17 = .ok (.iconst 0, 1) := by decide +kernel
theorem dX5_setWeightsTo_18 : decode cX5_setWeightsTo 18 = .ok (.ireturn, 1) := by decide +kernel
theorem dX5_setWeightsTo_19 : decode cX5_setWeightsTo 19 = .ok (.iconst 0, 1) := by decide +kernel
theorem dX5_setWeightsTo_20 : decode cX5_setWeightsTo 20 = .ok (.istore_n 3, 1) := by decide +kernel
theorem dX5_setWeightsTo_21 : decode cX5_setWeightsTo 21 = .ok (.iconst 0, 1) := by decide +kernel
theorem dX5_setWeightsTo_22 : decode cX5_setWeightsTo 22 = .ok (.istore 4, 2) := by decide +kernel
theorem dX5_setWeightsTo_24 : decode cX5_setWeightsTo 24 = .ok (.iload 4, 2) := by decide +kernel
theorem dX5_setWeightsTo_26 : decode cX5_setWeightsTo 26 = .ok (.iload_n 2, 1) := by decide +kernel
theorem dX5_setWeightsTo_27 : decode cX5_setWeightsTo 27 = .ok (.if_icmp .ge 16, 3) := by decide +kernel
theorem dX5_setWeightsTo_30 : decode cX5_setWeightsTo 30 = .ok (.iload_n 3, 1) := by decide +kernel
theorem dX5_setWeightsTo_31 : decode cX5_setWeightsTo 31 = .ok (.aload_n 1, 1) := by decide +kernel
theorem dX5_setWeightsTo_32 : decode cX5_setWeightsTo 32 = .ok (.iload 4, 2) := by decide +kernel
theorem dX5_setWeightsTo_34 : decode cX5_setWeightsTo 34 = .ok (.iaload, 1) := by decide +kernel
theorem dX5_setWeightsTo_35 : decode cX5_setWeightsTo 35 = .ok (.iadd, 1) := by decide +kernel
theorem dX5_setWeightsTo_36 : decode cX5_setWeightsTo 36 = .ok (.istore_n 3, 1) := by decide +kernel
theorem dX5_setWeightsTo_37 : decode cX5_setWeightsTo 37 = .ok (.iinc 4 1, 3) := by decide +kernel
theorem dX5_setWeightsTo_40 : decode cX5_setWeightsTo 40 = .ok (.goto (-16), 3) := by decide +kernel
theorem dX5_setWeightsTo_43 : decode cX5_setWeightsTo 43 = .ok (.iload_n 3, 1) := by decide +kernel
theorem dX5_setWeightsTo_44 : decode cX5_setWeightsTo 44 = .ok (.iconst 1, 1) := by decide +kernel
theorem dX5_setWeightsTo_45 : decode cX5_setWeightsTo 45 = .ok (.if_icmp .lt 9, 3) := by decide +kernel
theorem dX5_setWeightsTo_48 : decode cX5_setWeightsTo 48 = .ok (.iload_n 3, 1) := by decide +kernel
theorem dX5_setWeightsTo_49 : decode cX5_setWeightsTo 49 = .ok (.bipush 16, 2) := by decide +kernel
theorem dX5_setWeightsTo_51 : decode cX5_setWeightsTo 51 = .ok (.if_icmp .le 5, 3) := by decide +kernel
theorem dX5_setWeightsTo_54 : decode cX5_setWeightsTo 54 = .ok (.iconst 0, 1) := by decide +kernel
theorem dX5_setWeightsTo_55 : decode cX5_setWeightsTo 55 = .ok (.ireturn, 1) := by decide +kernel
theorem dX5_setWeightsTo_56 : decode cX5_setWeightsTo 56 = .ok (.aload_n 0, 1) := by decide +kernel
theorem dX5_setWeightsTo_57 : decode cX5_setWeightsTo 57 = .ok (.getfield 21, 3) := by decide +kernel
theorem dX5_setWeightsTo_60 : decode cX5_setWeightsTo 60 = .ok (.iconst 0, 1) := by decide +kernel
theorem dX5_setWeightsTo_61 : decode cX5_setWeightsTo 61 = .ok (.invokestatic 44, 3) := by decide +kernel
theorem dX5_setWeightsTo_64 : decode cX5_setWeightsTo 64 = .ok (.aload_n 1, 1) := by decide +kernel
theorem dX5_setWeightsTo_65 : decode cX5_setWeightsTo 65 = .ok (.iconst 0, 1) := by decide +kernel
theorem dX5_setWeightsTo_66 : decode cX5_setWeightsTo 66 = .ok (.aload_n 0, 1) := by decide +kernel
theorem dX5_setWeightsTo_67 : decode cX5_setWeightsTo 67 = .ok (.getfield 21, 3) := by decide +kernel
theorem dX5_setWeightsTo_70 : decode cX5_setWeightsTo 70 = .ok (.iconst 0, 1) := by decide +kernel
theorem dX5_setWeightsTo_71 : decode cX5_setWeightsTo 71 = .ok (.iload_n 2, 1) := by decide +kernel
theorem dX5_setWeightsTo_72 : decode cX5_setWeightsTo 72 = .ok (.invokestatic 31, 3) := by decide +kernel
theorem dX5_setWeightsTo_75 : decode cX5_setWeightsTo 75 = .ok (.iconst 1, 1) := by decide +kernel
theorem dX5_setWeightsTo_76 : decode cX5_setWeightsTo 76 = .ok (.ireturn, 1) := by decide +kernel
theorem dX6_init_0 : decode cX6_init 0 = .ok (.aload_n 0, 1) := by decide +kernel
theorem dX6_init_1 : decode cX6_init 1 = .ok (.invokespecial 1, 3) := by decide +kernel
theorem dX6_init_4 : decode cX6_init 4 = .ok (.aload_n 0, 1) := by decide +kernel
theorem dX6_init_5 : decode cX6_init 5 = .ok (.new 7, 3) := by decide +kernel
theorem dX6_init_8 : decode cX6_init 8 = .ok (.dup, 1) := by decide +kernel
theorem dX6_init_9 : decode cX6_init 9 = .ok (.invokespecial 9, 3) := by decide +kernel
theorem dX6_init_12 : decode cX6_init 12 = .ok (.putfield 10, 3) := by decide +kernel
theorem dX6_init_15 : decode cX6_init 15 = .ok (.aload_n 0, 1) := by decide +kernel
theorem dX6_init_16 : decode cX6_init 16 = .ok (.new 16, 3) := by decide +kernel
theorem dX6_init_19 : decode cX6_init 19 = .ok (.dup, 1) := by decide +kernel
theorem dX6_init_20 : decode cX6_init 20 = .ok (.invokespecial 18, 3) := by decide +kernel
theorem dX6_init_23 : decode cX6_init 23 = .ok (.putfield 19, 3) := by decide +kernel
theorem dX6_init_26 : decode cX6_init 26 = .ok (.aload_n 0, 1) := by decide +kernel
theorem dX6_init_27 : decode cX6_init 27 = .ok (.new 23, 3) := by decide +kernel
theorem dX6_init_30 : decode cX6_init 30 = .ok (.dup, 1) := by decide +kernel
theorem dX6_init_31 : decode cX6_init 31 = .ok (.invokespecial 25, 3) := by decide +kernel
theorem dX6_init_34 : decode cX6_init 34 = .ok (.putfield 26, 3) := by decide +kernel
theorem dX6_init_37 : decode cX6_init 37 = .ok (.aload_n 0, 1) := by decide +kernel
theorem dX6_init_38 : decode cX6_init 38 = .ok (.new 30, 3) := by decide +kernel
theorem dX6_init_41 : decode cX6_init 41 = .ok (.dup, 1) := by decide +kernel
theorem dX6_init_42 : decode cX6_init 42 = .ok (.invokespecial 32, 3) := by decide +kernel
theorem dX6_init_45 : decode cX6_init 45 = .ok (.putfield 33, 3) := by decide +kernel
theorem dX6_init_48 : decode cX6_init 48 = .ok (.aload_n 0, 1) := by decide +kernel
theorem dX6_init_49 : decode cX6_init 49 = .ok (.new 37, 3) := by decide +kernel
theorem dX6_init_52 : decode cX6_init 52 = .ok (.dup, 1) := by decide +kernel
theorem dX6_init_53 : decode cX6_init 53 = .ok (.invokespecial 39, 3) := by decide +kernel
theorem dX6_init_56 : decode cX6_init 56 = .ok (.putfield 40, 3) := by decide +kernel
theorem dX6_init_59 : decode cX6_init 59 = .ok (.aload_n 0, 1) := by decide +kernel
theorem dX6_init_60 : decode cX6_init 60 = .ok (.new 44, 3) := by decide +kernel
theorem dX6_init_63 : decode cX6_init 63 = .ok (.dup, 1) := by decide +kernel
theorem dX6_init_64 : decode cX6_init 64 = .ok (.invokespecial 46, 3) := by decide +kernel
theorem dX6_init_67 : decode cX6_init 67 = .ok (.putfield 47, 3) := by decide +kernel
theorem dX6_init_70 : decode cX6_init 70 = .ok (.aload_n 0, 1) := by decide +kernel
theorem dX6_init_71 : decode cX6_init 71 = .ok (.getfield 19, 3) := by decide +kernel
theorem dX6_init_74 : decode cX6_init 74 = .ok (.invokevirtual 51, 3) := by decide +kernel
theorem dX6_init_77 : decode cX6_init 77 = .ok (.aload_n 0, 1) := by decide +kernel
theorem dX6_init_78 : decode cX6_init 78 = .ok (.getfield 19, 3) := by decide +kernel
theorem dX6_init_81 : decode cX6_init 81 = .ok (.getstatic 54, 3) := by decide +kernel
theorem dX6_init_84 : decode cX6_init 84 = .ok (.getstatic 54, 3) := by decide +kernel
theorem dX6_init_87 : decode cX6_init 87 = .ok (.arraylength, 1) := by decide +kernel
theorem dX6_init_88 : decode cX6_init 88 = .ok (.invokevirtual 58, 3) := by decide +kernel
theorem dX6_init_91 : decode cX6_init 91 = .ok (.pop, 1) := by decide +kernel
theorem dX6_init_92 : decode cX6_init 92 = .ok (.aload_n 0, 1) := by decide +kernel
theorem dX6_init_93 : decode cX6_init 93 = .ok (.invokevirtual 62, 3) := by decide +kernel
theorem dX6_init_96 : decode cX6_init 96 = .ok (.return_, 1) := by decide +kernel
theorem dX6_write_0 : decode cX6_write 0 = .ok (.iload_n 1, 1) := by decide +kernel
theorem dX6_write_1 : decode cX6_write 1 = .ok (.bipush 32, 2) := by decide +kernel
theorem dX6_write_3 : decode cX6_write 3 = .ok (.if_icmp .lt 9, 3) := by decide +kernel
theorem dX6_write_6 : decode cX6_write 6 = .ok (.iload_n 1, 1) := by decide +kernel
theorem dX6_write_7 : decode cX6_write 7 = .ok (.bipush 126, 2) := by decide +kernel
theorem dX6_write_9 : decode cX6_write 9 = .ok (.if_icmp .le 5, 3) := by decide +kernel
theorem dX6_write_12 : decode cX6_write 12 = .ok (.iconst (-1), 1) := by decide +kernel
theorem dX6_write_13 : decode cX6_write 13 = .ok (.ireturn, 1) := by decide +kernel
theorem dX6_write_14 : decode cX6_write 14 = .ok (.aload_n 0, 1) := by decide +kernel
theorem dX6_write_15 : decode cX6_write 15 = .ok (.getfield 10, 3) := by decide +kernel
theorem dX6_write_18 : decode cX6_write 18 = .ok (.getfield 65, 3) := by decide +kernel
theorem dX6_write_21 : decode cX6_write 21 = .ok (.sipush 200, 3) := by decide +kernel
theorem dX6_write_24 : decode cX6_write 24 = .ok (.if_icmp .lt 6, 3) := by decide +kernel
theorem dX6_write_27 : decode cX6_write 27 = .ok (.bipush (-3), 2) := by decide +kernel
theorem dX6_write_29 : decode cX6_write 29 = .ok (.ireturn, 1) := by decide +kernel
theorem dX6_write_30 : decode cX6_write 30 = .ok (.aload_n 0, 1) := by decide +kernel
theorem dX6_write_31 : decode cX6_write 31 = .ok (.getfield 10, 3) := by decide +kernel
theorem dX6_write_34 : decode cX6_write 34 = .ok (.iload_n 1, 1) := by decide +kernel
theorem dX6_write_35 : decode cX6_write 35 = .ok (.invokevirtual 69, 3) := by decide +kernel
theorem dX6_write_38 : decode cX6_write 38 = .ok (.aload_n 0, 1) := by decide +kernel
theorem dX6_write_39 : decode cX6_write 39 = .ok (.getfield 10, 3) := by decide +kernel
theorem dX6_write_42 : decode cX6_write 42 = .ok (.getfield 65, 3) := by decide +kernel
theorem dX6_write_45 : decode cX6_write 45 = .ok (.ireturn, 1) := by decide +kernel
theorem dX6_wipe_0 : decode cX6_wipe 0 = .ok (.aload_n 0, 1) := by decide +kernel
theorem dX6_wipe_1 : decode cX6_wipe 1 = .ok (.getfield 10, 3) := by decide +kernel
theorem dX6_wipe_4 : decode cX6_wipe 4 = .ok (.getfield 65, 3) := by decide +kernel
theorem dX6_wipe_7 : decode cX6_wipe 7 = .ok (.istore_n 1, 1) := by decide +kernel
theorem dX6_wipe_8 : decode cX6_wipe 8 = .ok (.aload_n 0, 1) := by decide +kernel
theorem dX6_wipe_9 : decode cX6_wipe 9 = .ok (.getfield 10, 3) := by decide +kernel
theorem dX6_wipe_12 : decode cX6_wipe 12 = .ok (.iconst 0, 1) := by decide +kernel
theorem dX6_wipe_13 : decode cX6_wipe 13 = .ok (.putfield 65, 3) := by decide +kernel
theorem dX6_wipe_16 : decode cX6_wipe 16 = .ok (.iload_n 1, 1) := by decide +kernel
theorem dX6_wipe_17 : decode cX6_wipe 17 = .ok (.ireturn, 1) := by decide +kernel
theorem dX6_fault_0 : decode cX6_fault 0 = .ok (.aload_n 0, 1) := by decide +kernel
theorem dX6_fault_1 : decode cX6_fault 1 = .ok (.getfield 10, 3) := by decide +kernel
theorem dX6_fault_4 : decode cX6_fault 4 = .ok (.aload_n 0, 1) := by decide +kernel
theorem dX6_fault_5 : decode cX6_fault 5 = .ok (.getfield 19, 3) := by decide +kernel
theorem dX6_fault_8 : decode cX6_fault 8 = .ok (.invokevirtual 73, 3) := by decide +kernel
theorem dX6_fault_11 : decode cX6_fault 11 = .ok (.ireturn, 1) := by decide +kernel
theorem dX6_lay_0 : decode cX6_lay 0 = .ok (.aload_n 0, 1) := by decide +kernel
theorem dX6_lay_1 : decode cX6_lay 1 = .ok (.getfield 10, 3) := by decide +kernel
theorem dX6_lay_4 : decode cX6_lay 4 = .ok (.aload_n 0, 1) := by decide +kernel
theorem dX6_lay_5 : decode cX6_lay 5 = .ok (.getfield 19, 3) := by decide +kernel
theorem dX6_lay_8 : decode cX6_lay 8 = .ok (.invokevirtual 73, 3) := by decide +kernel
theorem dX6_lay_11 : decode cX6_lay 11 = .ok (.bipush (-4), 2) := by decide +kernel
theorem dX6_lay_13 : decode cX6_lay 13 = .ok (.if_icmp .ne 13, 3) := by decide +kernel
theorem dX6_lay_16 : decode cX6_lay 16 = .ok (.aload_n 0, 1) := by decide +kernel
theorem dX6_lay_17 : decode cX6_lay 17 = .ok (.getfield 19, 3) := by decide +kernel
theorem dX6_lay_20 : decode cX6_lay 20 = .ok (.getfield 77, 3) := by decide +kernel
theorem dX6_lay_23 : decode cX6_lay 23 = .ok (.ifCond .ne 6, 3) := by decide +kernel
theorem dX6_lay_26 : decode cX6_lay 26 = .ok (.bipush (-2), 2) := by decide +kernel
theorem dX6_lay_28 : decode cX6_lay 28 = .ok (.ireturn, 1) := by decide +kernel
theorem dX6_lay_29 : decode cX6_lay 29 = .ok (.aload_n 0, 1) := by decide +kernel
theorem dX6_lay_30 : decode cX6_lay 30 = .ok (.invokevirtual 62, 3) := by decide +kernel
theorem dX6_lay_33 : decode cX6_lay 33 = .ok (.aload_n 0, 1) := by decide +kernel
theorem dX6_lay_34 : decode cX6_lay 34 = .ok (.getfield 26, 3) := by decide +kernel
theorem dX6_lay_37 : decode cX6_lay 37 = .ok (.getfield 80, 3) := by decide +kernel
theorem dX6_lay_40 : decode cX6_lay 40 = .ok (.ireturn, 1) := by decide +kernel
theorem dX6_layWhatIsTold_0 : decode cX6_layWhatIsTold 0 = .ok (.aload_n 0, 1) := by decide +kernel
theorem dX6_layWhatIsTold_1 : decode cX6_layWhatIsTold 1 = .ok (.getfield 26, 3) := by decide +kernel
theorem dX6_layWhatIsTold_4 : decode cX6_layWhatIsTold 4 = .ok (.aload_n 0, 1) := by decide +kernel
theorem dX6_layWhatIsTold_5 : decode cX6_layWhatIsTold 5 = .ok (.getfield 19, 3) := by decide +kernel
theorem dX6_layWhatIsTold_8 : decode cX6_layWhatIsTold 8 = .ok (.invokevirtual 81, 3) := by decide +kernel
theorem dX6_layWhatIsTold_11 : decode cX6_layWhatIsTold 11 = .ok (.aload_n 0, 1) := by decide +kernel
theorem dX6_layWhatIsTold_12 : decode cX6_layWhatIsTold 12 = .ok (.getfield 40, 3) := by decide +kernel
theorem dX6_layWhatIsTold_15 : decode cX6_layWhatIsTold 15 = .ok (.aload_n 0, 1) := by decide +kernel
theorem dX6_layWhatIsTold_16 : decode cX6_layWhatIsTold 16 = .ok (.getfield 19, 3) := by decide +kernel
theorem dX6_layWhatIsTold_19 : decode cX6_layWhatIsTold 19 = .ok (.invokevirtual 85, 3) := by decide +kernel
theorem dX6_layWhatIsTold_22 : decode cX6_layWhatIsTold 22 = .ok (.aload_n 0, 1) := by decide +kernel
theorem dX6_layWhatIsTold_23 : decode cX6_layWhatIsTold 23 = .ok (.getfield 47, 3) := by decide +kernel
theorem dX6_layWhatIsTold_26 : decode cX6_layWhatIsTold 26 = .ok (.iconst 0, 1) := by decide +kernel
theorem dX6_layWhatIsTold_27 : decode cX6_layWhatIsTold 27 = .ok (.putfield 86, 3) := by decide +kernel
theorem dX6_layWhatIsTold_30 : decode cX6_layWhatIsTold 30 = .ok (.return_, 1) := by decide +kernel
theorem dX6_power_0 : decode cX6_power 0 = .ok (.aload_n 0, 1) := by decide +kernel
theorem dX6_power_1 : decode cX6_power 1 = .ok (.getfield 26, 3) := by decide +kernel
theorem dX6_power_4 : decode cX6_power 4 = .ok (.iload_n 1, 1) := by decide +kernel
theorem dX6_power_5 : decode cX6_power 5 = .ok (.invokevirtual 87, 3) := by decide +kernel
theorem dX6_power_8 : decode cX6_power 8 = .ok (.ifCond .eq 10, 3) := by decide +kernel
theorem dX6_power_11 : decode cX6_power 11 = .ok (.iload_n 2, 1) := by decide +kernel
theorem dX6_power_12 : decode cX6_power 12 = .ok (.invokestatic 91, 3) := by decide +kernel
theorem dX6_power_15 : decode cX6_power 15 = .ok (.ifCond .ne 5, 3) := by decide +kernel
theorem dX6_power_18 : decode cX6_power 18 = .ok (.iconst (-1), 1) := by decide +kernel
theorem dX6_power_19 : decode cX6_power 19 = .ok (.ireturn, 1) := by decide +kernel
theorem dX6_power_20 : decode cX6_power 20 = .ok (.aload_n 0, 1) := by decide +kernel
theorem dX6_power_21 : decode cX6_power 21 = .ok (.getfield 26, 3) := by decide +kernel
theorem dX6_power_24 : decode cX6_power 24 = .ok (.getfield 94, 3) := by decide +kernel
theorem dX6_power_27 : decode cX6_power 27 = .ok (.iload_n 1, 1) := by decide +kernel
theorem dX6_power_28 : decode cX6_power 28 = .ok (.iaload, 1) := by decide +kernel
theorem dX6_power_29 : decode cX6_power 29 = .ok (.istore_n 3, 1) := by decide +kernel
theorem dX6_power_30 : decode cX6_power 30 = .ok (.iload_n 3, 1) := by decide +kernel
theorem dX6_power_31 : decode cX6_power 31 = .ok (.iload_n 2, 1) := by decide +kernel
theorem dX6_power_32 : decode cX6_power 32 = .ok (.if_icmp .ne 6, 3) := by decide +kernel
theorem dX6_power_35 : decode cX6_power 35 = .ok (.bipush (-2), 2) := by decide +kernel
theorem dX6_power_37 : decode cX6_power 37 = .ok (.ireturn, 1) := by decide +kernel
theorem dX6_power_38 : decode cX6_power 38 = .ok (.aload_n 0, 1) := by decide +kernel
theorem dX6_power_39 : decode cX6_power 39 = .ok (.getfield 47, 3) := by decide +kernel
theorem dX6_power_42 : decode cX6_power 42 = .ok (.iconst 0, 1) := by decide +kernel
theorem dX6_power_43 : decode cX6_power 43 = .ok (.iload_n 1, 1) := by decide +kernel
theorem dX6_power_44 : decode cX6_power 44 = .ok (.iload_n 3, 1) := by decide +kernel
theorem dX6_power_45 : decode cX6_power 45 = .ok (.invokevirtual 97, 3) := by decide +kernel
theorem dX6_power_48 : decode cX6_power 48 = .ok (.aload_n 0, 1) := by decide +kernel
theorem dX6_power_49 : decode cX6_power 49 = .ok (.getfield 26, 3) := by decide +kernel
theorem dX6_power_52 : decode cX6_power 52 = .ok (.iload_n 1, 1) := by decide +kernel
theorem dX6_power_53 : decode cX6_power 53 = .ok (.iload_n 2, 1) := by decide +kernel
theorem dX6_power_54 : decode cX6_power 54 = .ok (.invokevirtual 101, 3) := by decide +kernel
theorem dX6_power_57 : decode cX6_power 57 = .ok (.iload_n 3, 1) := by decide +kernel
theorem dX6_power_58 : decode cX6_power 58 = .ok (.ireturn, 1) := by decide +kernel
theorem dX6_leave_0 : decode cX6_leave 0 = .ok (.aload_n 0, 1) := by decide +kernel
theorem dX6_leave_1 : decode cX6_leave 1 = .ok (.getfield 26, 3) := by decide +kernel
theorem dX6_leave_4 : decode cX6_leave 4 = .ok (.iload_n 1, 1) := by decide +kernel
theorem dX6_leave_5 : decode cX6_leave 5 = .ok (.invokevirtual 87, 3) := by decide +kernel
theorem dX6_leave_8 : decode cX6_leave 8 = .ok (.ifCond .eq 12, 3) := by decide +kernel
theorem dX6_leave_11 : decode cX6_leave 11 = .ok (.iload_n 2, 1) := by decide +kernel
theorem dX6_leave_12 : decode cX6_leave 12 = .ok (.ifCond .lt 8, 3) := by decide +kernel
theorem dX6_leave_15 : decode cX6_leave 15 = .ok (.iload_n 2, 1) := by decide +kernel
theorem dX6_leave_16 : decode cX6_leave 16 = .ok (.iconst 1, 1) := by decide +kernel
theorem dX6_leave_17 : decode cX6_leave 17 = .ok (.if_icmp .le 5, 3) := by decide +kernel
theorem dX6_leave_20 : decode cX6_leave 20 = .ok (.iconst (-1), 1) := by decide +kernel
theorem dX6_leave_21 : decode cX6_leave 21 = .ok (.ireturn, 1) := by decide +kernel
theorem dX6_leave_22 : decode cX6_leave 22 = .ok (.aload_n 0, 1) := by decide +kernel
theorem dX6_leave_23 : decode cX6_leave 23 = .ok (.getfield 26, 3) := by decide +kernel
theorem dX6_leave_26 : decode cX6_leave 26 = .ok (.getfield 105, 3) := by decide +kernel
theorem dX6_leave_29 : decode cX6_leave 29 = .ok (.iload_n 1, 1) := by decide +kernel
theorem dX6_leave_30 : decode cX6_leave 30 = .ok (.iaload, 1) := by decide +kernel
theorem dX6_leave_31 : decode cX6_leave 31 = .ok (.istore_n 3, 1) := by decide +kernel
theorem dX6_leave_32 : decode cX6_leave 32 = .ok (.iload_n 3, 1) := by decide +kernel
theorem dX6_leave_33 : decode cX6_leave 33 = .ok (.iload_n 2, 1) := by decide +kernel
theorem dX6_leave_34 : decode cX6_leave 34 = .ok (.if_icmp .ne 6, 3) := by decide +kernel
theorem dX6_leave_37 : decode cX6_leave 37 = .ok (.bipush (-2), 2) := by decide +kernel
theorem dX6_leave_39 : decode cX6_leave 39 = .ok (.ireturn, 1) := by decide +kernel
theorem dX6_leave_40 : decode cX6_leave 40 = .ok (.aload_n 0, 1) := by decide +kernel
theorem dX6_leave_41 : decode cX6_leave 41 = .ok (.getfield 47, 3) := by decide +kernel
theorem dX6_leave_44 : decode cX6_leave 44 = .ok (.iconst 1, 1) := by decide +kernel
theorem dX6_leave_45 : decode cX6_leave 45 = .ok (.iload_n 1, 1) := by decide +kernel
theorem dX6_leave_46 : decode cX6_leave 46 = .ok (.iload_n 3, 1) := by decide +kernel
theorem dX6_leave_47 : decode cX6_leave 47 = .ok (.invokevirtual 97, 3) := by decide +kernel
theorem dX6_leave_50 : decode cX6_leave 50 = .ok (.aload_n 0, 1) := by decide +kernel
theorem dX6_leave_51 : decode cX6_leave 51 = .ok (.getfield 26, 3) := by decide +kernel
theorem dX6_leave_54 : decode cX6_leave 54 = .ok (.iload_n 1, 1) := by decide +kernel
theorem dX6_leave_55 : decode cX6_leave 55 = .ok (.iload_n 2, 1) := by decide +kernel
theorem dX6_leave_56 : decode cX6_leave 56 = .ok (.invokevirtual 108, 3) := by decide +kernel
theorem dX6_leave_59 : decode cX6_leave 59 = .ok (.aload_n 0, 1) := by decide +kernel
theorem dX6_leave_60 : decode cX6_leave 60 = .ok (.getfield 26, 3) := by decide +kernel
theorem dX6_leave_63 : decode cX6_leave 63 = .ok (.invokevirtual 111, 3) := by decide +kernel
theorem dX6_leave_66 : decode cX6_leave 66 = .ok (.ireturn, 1) := by decide +kernel
theorem dX6_look_0 : decode cX6_look 0 = .ok (.iload_n 1, 1) := by decide +kernel
theorem dX6_look_1 : decode cX6_look 1 = .ok (.ifCond .lt 16, 3) := by decide +kernel
theorem dX6_look_4 : decode cX6_look 4 = .ok (.iload_n 1, 1) := by decide +kernel
theorem dX6_look_5 : decode cX6_look 5 = .ok (.iconst 4, 1) := by decide +kernel
theorem dX6_look_6 : decode cX6_look 6 = .ok (.if_icmp .gt 11, 3) := by decide +kernel
theorem dX6_look_9 : decode cX6_look 9 = .ok (.iload_n 1, 1) := by decide +kernel
theorem dX6_look_10 : decode cX6_look 10 = .ok (.iload_n 2, 1) := by decide +kernel
theorem dX6_look_11 : decode cX6_look 11 = .ok (.invokestatic 115, 3) := by decide +kernel
theorem dX6_look_14 : decode cX6_look 14 = .ok (.ifCond .ne 5, 3) := by decide +kernel
theorem dX6_look_17 : decode cX6_look 17 = .ok (.iconst (-1), 1) := by decide +kernel
theorem dX6_look_18 : decode cX6_look 18 = .ok (.ireturn, 1) := by decide +kernel
theorem dX6_look_19 : decode cX6_look 19 = .ok (.aload_n 0, 1) := by decide +kernel
theorem dX6_look_20 : decode cX6_look 20 = .ok (.getfield 26, 3) := by decide +kernel
theorem dX6_look_23 : decode cX6_look 23 = .ok (.getfield 119, 3) := by decide +kernel
theorem dX6_look_26 : decode cX6_look 26 = .ok (.iload_n 1, 1) := by decide +kernel
theorem dX6_look_27 : decode cX6_look 27 = .ok (.iaload, 1) := by decide +kernel
theorem dX6_look_28 : decode cX6_look 28 = .ok (.istore_n 3, 1) := by decide +kernel
theorem dX6_look_29 : decode cX6_look 29 = .ok (.iload_n 3, 1) := by decide +kernel
theorem dX6_look_30 : decode cX6_look 30 = .ok (.iload_n 2, 1) := by decide +kernel
theorem dX6_look_31 : decode cX6_look 31 = .ok (.if_icmp .ne 6, 3) := by decide +kernel
theorem dX6_look_34 : decode cX6_look 34 = .ok (.bipush (-2), 2) := by decide +kernel
theorem dX6_look_36 : decode cX6_look 36 = .ok (.ireturn, 1) := by decide +kernel
theorem dX6_look_37 : decode cX6_look 37 = .ok (.aload_n 0, 1) := by decide +kernel
theorem dX6_look_38 : decode cX6_look 38 = .ok (.getfield 47, 3) := by decide +kernel
theorem dX6_look_41 : decode cX6_look 41 = .ok (.iconst 2, 1) := by decide +kernel
theorem dX6_look_42 : decode cX6_look 42 = .ok (.iload_n 1, 1) := by decide +kernel
theorem dX6_look_43 : decode cX6_look 43 = .ok (.iload_n 3, 1) := by decide +kernel
theorem dX6_look_44 : decode cX6_look 44 = .ok (.invokevirtual 97, 3) := by decide +kernel
theorem dX6_look_47 : decode cX6_look 47 = .ok (.aload_n 0, 1) := by decide +kernel
theorem dX6_look_48 : decode cX6_look 48 = .ok (.getfield 26, 3) := by decide +kernel
theorem dX6_look_51 : decode cX6_look 51 = .ok (.iload_n 1, 1) := by decide +kernel
theorem dX6_look_52 : decode cX6_look 52 = .ok (.iload_n 2, 1) := by decide +kernel
theorem dX6_look_53 : decode cX6_look 53 = .ok (.invokevirtual 122, 3) := by decide +kernel
theorem dX6_look_56 : decode cX6_look 56 = .ok (.iload_n 3, 1) := by decide +kernel
theorem dX6_look_57 : decode cX6_look 57 = .ok (.ireturn, 1) := by decide +kernel
theorem dX6_mode_0 : decode cX6_mode 0 = .ok (.iload_n 1, 1) := by decide +kernel
theorem dX6_mode_1 : decode cX6_mode 1 = .ok (.ifCond .lt 8, 3) := by decide +kernel
theorem dX6_mode_4 : decode cX6_mode 4 = .ok (.iload_n 1, 1) := by decide +kernel
theorem dX6_mode_5 : decode cX6_mode 5 = .ok (.iconst 2, 1) := by decide +kernel
theorem dX6_mode_6 : decode cX6_mode 6 = .ok (.if_icmp .le 5, 3) := by decide +kernel
theorem dX6_mode_9 : decode cX6_mode 9 = .ok (.iconst (-1), 1) := by decide +kernel
theorem dX6_mode_10 : decode cX6_mode 10 = .ok (.ireturn, 1) := by decide +kernel
theorem dX6_mode_11 : decode cX6_mode 11 = .ok (.aload_n 0, 1) := by decide +kernel
theorem dX6_mode_12 : decode cX6_mode 12 = .ok (.getfield 26, 3) := by decide +kernel
theorem dX6_mode_15 : decode cX6_mode 15 = .ok (.getfield 125, 3) := by decide +kernel
theorem dX6_mode_18 : decode cX6_mode 18 = .ok (.istore_n 2, 1) := by decide +kernel
theorem dX6_mode_19 : decode cX6_mode 19 = .ok (.iload_n 2, 1) := by decide +kernel
theorem dX6_mode_20 : decode cX6_mode 20 = .ok (.iload_n 1, 1) := by decide +kernel
theorem dX6_mode_21 : decode cX6_mode 21 = .ok (.if_icmp .ne 6, 3) := by decide +kernel
theorem dX6_mode_24 : decode cX6_mode 24 = .ok (.bipush (-2), 2) := by decide +kernel
theorem dX6_mode_26 : decode cX6_mode 26 = .ok (.ireturn, 1) := by decide +kernel
theorem dX6_mode_27 : decode cX6_mode 27 = .ok (.aload_n 0, 1) := by decide +kernel
theorem dX6_mode_28 : decode cX6_mode 28 = .ok (.getfield 47, 3) := by decide +kernel
theorem dX6_mode_31 : decode cX6_mode 31 = .ok (.iconst 3, 1) := by decide +kernel
theorem dX6_mode_32 : decode cX6_mode 32 = .ok (.iconst 0, 1) := by decide +kernel
theorem dX6_mode_33 : decode cX6_mode 33 = .ok (.iload_n 2, 1) := by decide +kernel
theorem dX6_mode_34 : decode cX6_mode 34 = .ok (.invokevirtual 97, 3) := by decide +kernel
theorem dX6_mode_37 : decode cX6_mode 37 = .ok (.aload_n 0, 1) := by decide +kernel
theorem dX6_mode_38 : decode cX6_mode 38 = .ok (.getfield 26, 3) := by decide +kernel
theorem dX6_mode_41 : decode cX6_mode 41 = .ok (.iload_n 1, 1) := by decide +kernel
theorem dX6_mode_42 : decode cX6_mode 42 = .ok (.invokevirtual 128, 3) := by decide +kernel
theorem dX6_mode_45 : decode cX6_mode 45 = .ok (.iload_n 2, 1) := by decide +kernel
theorem dX6_mode_46 : decode cX6_mode 46 = .ok (.ireturn, 1) := by decide +kernel
theorem dX6_slide_0 : decode cX6_slide 0 = .ok (.iload_n 1, 1) := by decide +kernel
theorem dX6_slide_1 : decode cX6_slide 1 = .ok (.invokestatic 91, 3) := by decide +kernel
theorem dX6_slide_4 : decode cX6_slide 4 = .ok (.ifCond .ne 5, 3) := by decide +kernel
theorem dX6_slide_7 : decode cX6_slide 7 = .ok (.iconst (-1), 1) := by decide +kernel
theorem dX6_slide_8 : decode cX6_slide 8 = .ok (.ireturn, 1) := by decide +kernel
theorem dX6_slide_9 : decode cX6_slide 9 = .ok (.aload_n 0, 1) := by decide +kernel
theorem dX6_slide_10 : decode cX6_slide 10 = .ok (.getfield 26, 3) := by decide +kernel
theorem dX6_slide_13 : decode cX6_slide 13 = .ok (.getfield 94, 3) := by decide +kernel
theorem dX6_slide_16 : decode cX6_slide 16 = .ok (.iconst 0, 1) := by decide +kernel
theorem dX6_slide_17 : decode cX6_slide 17 = .ok (.iaload, 1) := by decide +kernel
theorem dX6_slide_18 : decode cX6_slide 18 = .ok (.istore_n 2, 1) := by decide +kernel
theorem dX6_slide_19 : decode cX6_slide 19 = .ok (.aload_n 0, 1) := by decide +kernel
theorem dX6_slide_20 : decode cX6_slide 20 = .ok (.getfield 47, 3) := by decide +kernel
theorem dX6_slide_23 : decode cX6_slide 23 = .ok (.iconst 4, 1) := by decide +kernel
theorem dX6_slide_24 : decode cX6_slide 24 = .ok (.aload_n 0, 1) := by decide +kernel
theorem dX6_slide_25 : decode cX6_slide 25 = .ok (.getfield 26, 3) := by decide +kernel
theorem dX6_slide_28 : decode cX6_slide 28 = .ok (.getfield 105, 3) := by decide +kernel
theorem dX6_slide_31 : decode cX6_slide 31 = .ok (.iconst 0, 1) := by decide +kernel
theorem dX6_slide_32 : decode cX6_slide 32 = .ok (.iaload, 1) := by decide +kernel
theorem dX6_slide_33 : decode cX6_slide 33 = .ok (.iload_n 2, 1) := by decide +kernel
theorem dX6_slide_34 : decode cX6_slide 34 = .ok (.invokevirtual 97, 3) := by decide +kernel
theorem dX6_slide_37 : decode cX6_slide 37 = .ok (.aload_n 0, 1) := by decide +kernel
theorem dX6_slide_38 : decode cX6_slide 38 = .ok (.getfield 26, 3) := by decide +kernel
theorem dX6_slide_41 : decode cX6_slide 41 = .ok (.iload_n 1, 1) := by decide +kernel
theorem dX6_slide_42 : decode cX6_slide 42 = .ok (.invokevirtual 131, 3) := by decide +kernel
theorem dX6_slide_45 : decode cX6_slide 45 = .ok (.iload_n 2, 1) := by decide +kernel
theorem dX6_slide_46 : decode cX6_slide 46 = .ok (.ireturn, 1) := by decide +kernel
theorem dX6_undo_0 : decode cX6_undo 0 = .ok (.aload_n 0, 1) := by decide +kernel
theorem dX6_undo_1 : decode cX6_undo 1 = .ok (.getfield 47, 3) := by decide +kernel
theorem dX6_undo_4 : decode cX6_undo 4 = .ok (.getfield 86, 3) := by decide +kernel
theorem dX6_undo_7 : decode cX6_undo 7 = .ok (.ifCond .gt 6, 3) := by decide +kernel
theorem dX6_undo_10 : decode cX6_undo 10 = .ok (.bipush (-2), 2) := by decide +kernel
theorem dX6_undo_12 : decode cX6_undo 12 = .ok (.ireturn, 1) := by decide +kernel
theorem dX6_undo_13 : decode cX6_undo 13 = .ok (.aload_n 0, 1) := by decide +kernel
theorem dX6_undo_14 : decode cX6_undo 14 = .ok (.getfield 47, 3) := by decide +kernel
theorem dX6_undo_17 : decode cX6_undo 17 = .ok (.dup, 1) := by decide +kernel
theorem dX6_undo_18 : decode cX6_undo 18 = .ok (.getfield 86, 3) := by decide +kernel
theorem dX6_undo_21 : decode cX6_undo 21 = .ok (.iconst 1, 1) := by decide +kernel
theorem dX6_undo_22 : decode cX6_undo 22 = .ok (.isub, 1) := by decide +kernel
theorem dX6_undo_23 : decode cX6_undo 23 = .ok (.putfield 86, 3) := by decide +kernel
theorem dX6_undo_26 : decode cX6_undo 26 = .ok (.aload_n 0, 1) := by decide +kernel
theorem dX6_undo_27 : decode cX6_undo 27 = .ok (.getfield 26, 3) := by decide +kernel
theorem dX6_undo_30 : decode cX6_undo 30 = .ok (.aload_n 0, 1) := by decide +kernel
theorem dX6_undo_31 : decode cX6_undo 31 = .ok (.getfield 47, 3) := by decide +kernel
theorem dX6_undo_34 : decode cX6_undo 34 = .ok (.getfield 134, 3) := by decide +kernel
theorem dX6_undo_37 : decode cX6_undo 37 = .ok (.aload_n 0, 1) := by decide +kernel
theorem dX6_undo_38 : decode cX6_undo 38 = .ok (.getfield 47, 3) := by decide +kernel
theorem dX6_undo_41 : decode cX6_undo 41 = .ok (.getfield 86, 3) := by decide +kernel
theorem dX6_undo_44 : decode cX6_undo 44 = .ok (.iaload, 1) := by decide +kernel
theorem dX6_undo_45 : decode cX6_undo 45 = .ok (.aload_n 0, 1) := by decide +kernel
theorem dX6_undo_46 : decode cX6_undo 46 = .ok (.getfield 47, 3) := by decide +kernel
theorem dX6_undo_49 : decode cX6_undo 49 = .ok (.getfield 137, 3) := by decide +kernel
theorem dX6_undo_52 : decode cX6_undo 52 = .ok (.aload_n 0, 1) := by decide +kernel
theorem dX6_undo_53 : decode cX6_undo 53 = .ok (.getfield 47, 3) := by decide +kernel
theorem dX6_undo_56 : decode cX6_undo 56 = .ok (.getfield 86, 3) := by decide +kernel
theorem dX6_undo_59 : decode cX6_undo 59 = .ok (.iaload, 1) := by decide +kernel
theorem dX6_undo_60 : decode cX6_undo 60 = .ok (.aload_n 0, 1) := by decide +kernel
theorem dX6_undo_61 : decode cX6_undo 61 = .ok (.getfield 47, 3) := by decide +kernel
theorem dX6_undo_64 : decode cX6_undo 64 = .ok (.getfield 140, 3) := by decide +kernel
theorem dX6_undo_67 : decode cX6_undo 67 = .ok (.aload_n 0, 1) := by decide +kernel
theorem dX6_undo_68 : decode cX6_undo 68 = .ok (.getfield 47, 3) := by decide +kernel
theorem dX6_undo_71 : decode cX6_undo 71 = .ok (.getfield 86, 3) := by decide +kernel
theorem dX6_undo_74 : decode cX6_undo 74 = .ok (.iaload, 1) := by decide +kernel
theorem dX6_undo_75 : decode cX6_undo 75 = .ok (.invokevirtual 143, 3) := by decide +kernel
theorem dX6_undo_78 : decode cX6_undo 78 = .ok (.aload_n 0, 1) := by decide +kernel
theorem dX6_undo_79 : decode cX6_undo 79 = .ok (.getfield 47, 3) := by decide +kernel
theorem dX6_undo_82 : decode cX6_undo 82 = .ok (.getfield 86, 3) := by decide +kernel
theorem dX6_undo_85 : decode cX6_undo 85 = .ok (.ireturn, 1) := by decide +kernel
theorem dX6_cell_0 : decode cX6_cell 0 = .ok (.aload_n 0, 1) := by decide +kernel
theorem dX6_cell_1 : decode cX6_cell 1 = .ok (.getfield 26, 3) := by decide +kernel
theorem dX6_cell_4 : decode cX6_cell 4 = .ok (.iload_n 1, 1) := by decide +kernel
theorem dX6_cell_5 : decode cX6_cell 5 = .ok (.invokevirtual 87, 3) := by decide +kernel
theorem dX6_cell_8 : decode cX6_cell 8 = .ok (.ifCond .ne 5, 3) := by decide +kernel
theorem dX6_cell_11 : decode cX6_cell 11 = .ok (.iconst (-1), 1) := by decide +kernel
theorem dX6_cell_12 : decode cX6_cell 12 = .ok (.ireturn, 1) := by decide +kernel
theorem dX6_cell_13 : decode cX6_cell 13 = .ok (.iload_n 2, 1) := by decide +kernel
theorem dX6_cell_14 : decode cX6_cell 14 = .ok (.tableswitch 137 0 6 #[42, 52, 62, 74, 86, 97, 116], 42) := by decide +kernel
theorem dX6_cell_56 : decode cX6_cell 56 = .ok (.aload_n 0, 1) := by decide +kernel
theorem dX6_cell_57 : decode cX6_cell 57 = .ok (.getfield 26, 3) := by decide +kernel
theorem dX6_cell_60 : decode cX6_cell 60 = .ok (.getfield 94, 3) := by decide +kernel
theorem dX6_cell_63 : decode cX6_cell 63 = .ok (.iload_n 1, 1) := by decide +kernel
theorem dX6_cell_64 : decode cX6_cell 64 = .ok (.iaload, 1) := by decide +kernel
theorem dX6_cell_65 : decode cX6_cell 65 = .ok (.ireturn, 1) := by decide +kernel
theorem dX6_cell_66 : decode cX6_cell 66 = .ok (.aload_n 0, 1) := by decide +kernel
theorem dX6_cell_67 : decode cX6_cell 67 = .ok (.getfield 26, 3) := by decide +kernel
theorem dX6_cell_70 : decode cX6_cell 70 = .ok (.getfield 105, 3) := by decide +kernel
theorem dX6_cell_73 : decode cX6_cell 73 = .ok (.iload_n 1, 1) := by decide +kernel
theorem dX6_cell_74 : decode cX6_cell 74 = .ok (.iaload, 1) := by decide +kernel
theorem dX6_cell_75 : decode cX6_cell 75 = .ok (.ireturn, 1) := by decide +kernel
theorem dX6_cell_76 : decode cX6_cell 76 = .ok (.aload_n 0, 1) := by decide +kernel
theorem dX6_cell_77 : decode cX6_cell 77 = .ok (.getfield 26, 3) := by decide +kernel
theorem dX6_cell_80 : decode cX6_cell 80 = .ok (.iload_n 1, 1) := by decide +kernel
theorem dX6_cell_81 : decode cX6_cell 81 = .ok (.iconst 0, 1) := by decide +kernel
theorem dX6_cell_82 : decode cX6_cell 82 = .ok (.bipush (-4), 2) := by decide +kernel
theorem dX6_cell_84 : decode cX6_cell 84 = .ok (.invokevirtual 146, 3) := by decide +kernel
theorem dX6_cell_87 : decode cX6_cell 87 = .ok (.ireturn, 1) := by decide +kernel
theorem dX6_cell_88 : decode cX6_cell 88 = .ok (.aload_n 0, 1) := by decide +kernel
theorem dX6_cell_89 : decode cX6_cell 89 = .ok (.getfield 26, 3) := by decide +kernel
theorem dX6_cell_92 : decode cX6_cell 92 = .ok (.iload_n 1, 1) := by decide +kernel
theorem dX6_cell_93 : decode cX6_cell 93 = .ok (.iconst 1, 1) := by decide +kernel
theorem dX6_cell_94 : decode cX6_cell 94 = .ok (.bipush (-4), 2) := by decide +kernel
theorem dX6_cell_96 : decode cX6_cell 96 = .ok (.invokevirtual 146, 3) := by decide +kernel
theorem dX6_cell_99 : decode cX6_cell 99 = .ok (.ireturn, 1) := by decide +kernel
theorem dX6_cell_100 : decode cX6_cell 100 = .ok (.aload_n 0, 1) := by decide +kernel
theorem dX6_cell_101 : decode cX6_cell 101 = .ok (.getfield 26, 3) := by decide +kernel
theorem dX6_cell_104 : decode cX6_cell 104 = .ok (.iload_n 1, 1) := by decide +kernel
theorem dX6_cell_105 : decode cX6_cell 105 = .ok (.bipush (-4), 2) := by decide +kernel
theorem dX6_cell_107 : decode cX6_cell 107 = .ok (.invokevirtual 150, 3) := by decide +kernel
theorem dX6_cell_110 : decode cX6_cell 110 = .ok (.ireturn, 1) := by decide +kernel
theorem dX6_cell_111 : decode cX6_cell 111 = .ok (.aload_n 0, 1) := by decide +kernel
theorem dX6_cell_112 : decode cX6_cell 112 = .ok (.getfield 26, 3) := by decide +kernel
theorem dX6_cell_115 : decode cX6_cell 115 = .ok (.iload_n 1, 1) := by decide +kernel
theorem dX6_cell_116 : decode cX6_cell 116 = .ok (.bipush (-4), 2) := by decide +kernel
theorem dX6_cell_118 : decode cX6_cell 118 = .ok (.invokevirtual 154, 3) := by decide +kernel
theorem dX6_cell_121 : decode cX6_cell 121 = .ok (.ifCond .eq 7, 3) := by decide +kernel
theorem dX6_cell_124 : decode cX6_cell 124 = .ok (.iconst 1, 1) := by decide +kernel
theorem dX6_cell_125 : decode cX6_cell 125 = .ok (.goto 4, 3) := by decide +kernel
theorem dX6_cell_128 : decode cX6_cell 128 = .ok (.iconst 0, 1) := by decide +kernel
theorem dX6_cell_129 : decode cX6_cell 129 = .ok (.ireturn, 1) := by decide +kernel
theorem dX6_cell_130 : decode cX6_cell 130 = .ok (.aload_n 0, 1) := by decide +kernel
theorem dX6_cell_131 : decode cX6_cell 131 = .ok (.getfield 33, 3) := by decide +kernel
theorem dX6_cell_134 : decode cX6_cell 134 = .ok (.aload_n 0, 1) := by decide +kernel
theorem dX6_cell_135 : decode cX6_cell 135 = .ok (.getfield 26, 3) := by decide +kernel
theorem dX6_cell_138 : decode cX6_cell 138 = .ok (.invokevirtual 157, 3) := by decide +kernel
theorem dX6_cell_141 : decode cX6_cell 141 = .ok (.aload_n 0, 1) := by decide +kernel
theorem dX6_cell_142 : decode cX6_cell 142 = .ok (.getfield 33, 3) := by decide +kernel
theorem dX6_cell_145 : decode cX6_cell 145 = .ok (.getfield 161, 3) := by decide +kernel
theorem dX6_cell_148 : decode cX6_cell 148 = .ok (.iload_n 1, 1) := by decide +kernel
theorem dX6_cell_149 : decode cX6_cell 149 = .ok (.iaload, 1) := by decide +kernel
theorem dX6_cell_150 : decode cX6_cell 150 = .ok (.ireturn, 1) := by decide +kernel
theorem dX6_cell_151 : decode cX6_cell 151 = .ok (.iconst (-1), 1) := by decide +kernel
theorem dX6_cell_152 : decode cX6_cell 152 = .ok (.ireturn, 1) := by decide +kernel
theorem dX6_ranked_0 : decode cX6_ranked 0 = .ok (.aload_n 0, 1) := by decide +kernel
theorem dX6_ranked_1 : decode cX6_ranked 1 = .ok (.getfield 26, 3) := by decide +kernel
theorem dX6_ranked_4 : decode cX6_ranked 4 = .ok (.iload_n 1, 1) := by decide +kernel
theorem dX6_ranked_5 : decode cX6_ranked 5 = .ok (.invokevirtual 87, 3) := by decide +kernel
theorem dX6_ranked_8 : decode cX6_ranked 8 = .ok (.ifCond .eq 17, 3) := by decide +kernel
theorem dX6_ranked_11 : decode cX6_ranked 11 = .ok (.iload_n 2, 1) := by decide +kernel
theorem dX6_ranked_12 : decode cX6_ranked 12 = .ok (.ifCond .lt 13, 3) := by decide +kernel
theorem dX6_ranked_15 : decode cX6_ranked 15 = .ok (.iload_n 2, 1) := by decide +kernel
theorem dX6_ranked_16 : decode cX6_ranked 16 = .ok (.iconst 2, 1) := by decide +kernel
theorem dX6_ranked_17 : decode cX6_ranked 17 = .ok (.if_icmp .gt 8, 3) := by decide +kernel
theorem dX6_ranked_20 : decode cX6_ranked 20 = .ok (.iload_n 3, 1) := by decide +kernel
theorem dX6_ranked_21 : decode cX6_ranked 21 = .ok (.iconst 1, 1) := by decide +kernel
theorem dX6_ranked_22 : decode cX6_ranked 22 = .ok (.if_icmp .ge 5, 3) := by decide +kernel
theorem dX6_ranked_25 : decode cX6_ranked 25 = .ok (.iconst (-1), 1) := by decide +kernel
theorem dX6_ranked_26 : decode cX6_ranked 26 = .ok (.ireturn, 1) := by decide +kernel
theorem dX6_ranked_27 : decode cX6_ranked 27 = .ok (.aload_n 0, 1) := by decide +kernel
theorem dX6_ranked_28 : decode cX6_ranked 28 = .ok (.getfield 26, 3) := by decide +kernel
theorem dX6_ranked_31 : decode cX6_ranked 31 = .ok (.iload_n 1, 1) := by decide +kernel
theorem dX6_ranked_32 : decode cX6_ranked 32 = .ok (.iload_n 2, 1) := by decide +kernel
theorem dX6_ranked_33 : decode cX6_ranked 33 = .ok (.bipush (-4), 2) := by decide +kernel
theorem dX6_ranked_35 : decode cX6_ranked 35 = .ok (.invokevirtual 146, 3) := by decide +kernel
theorem dX6_ranked_38 : decode cX6_ranked 38 = .ok (.istore 4, 2) := by decide +kernel
theorem dX6_ranked_40 : decode cX6_ranked 40 = .ok (.iload_n 3, 1) := by decide +kernel
theorem dX6_ranked_41 : decode cX6_ranked 41 = .ok (.iload 4, 2) := by decide +kernel
theorem dX6_ranked_43 : decode cX6_ranked 43 = .ok (.if_icmp .gt 9, 3) := by decide +kernel
theorem dX6_ranked_46 : decode cX6_ranked 46 = .ok (.iload_n 3, 1) := by decide +kernel
theorem dX6_ranked_47 : decode cX6_ranked 47 = .ok (.bipush 12, 2) := by decide +kernel
theorem dX6_ranked_49 : decode cX6_ranked 49 = .ok (.if_icmp .le 8, 3) := by decide +kernel
theorem dX6_ranked_52 : decode cX6_ranked 52 = .ok (.bipush (-4), 2) := by decide +kernel
theorem dX6_ranked_54 : decode cX6_ranked 54 = .ok (.goto 14, 3) := by decide +kernel
theorem dX6_ranked_57 : decode cX6_ranked 57 = .ok (.aload_n 0, 1) := by decide +kernel
theorem dX6_ranked_58 : decode cX6_ranked 58 = .ok (.getfield 26, 3) := by decide +kernel
theorem dX6_ranked_61 : decode cX6_ranked 61 = .ok (.getfield 164, 3) := by decide +kernel
theorem dX6_ranked_64 : decode cX6_ranked 64 = .ok (.iload_n 3, 1) := by decide +kernel
theorem dX6_ranked_65 : decode cX6_ranked 65 = .ok (.iconst 1, 1) := by decide +kernel
theorem dX6_ranked_66 : decode cX6_ranked 66 = .ok (.isub, 1) := by decide +kernel
theorem dX6_ranked_67 : decode cX6_ranked 67 = .ok (.iaload, 1) := by decide +kernel
theorem dX6_ranked_68 : decode cX6_ranked 68 = .ok (.ireturn, 1) := by decide +kernel
theorem dX6_hides_0 : decode cX6_hides 0 = .ok (.aload_n 0, 1) := by decide +kernel
theorem dX6_hides_1 : decode cX6_hides 1 = .ok (.getfield 26, 3) := by decide +kernel
theorem dX6_hides_4 : decode cX6_hides 4 = .ok (.iload_n 1, 1) := by decide +kernel
theorem dX6_hides_5 : decode cX6_hides 5 = .ok (.invokevirtual 87, 3) := by decide +kernel
theorem dX6_hides_8 : decode cX6_hides 8 = .ok (.ifCond .eq 24, 3) := by decide +kernel
theorem dX6_hides_11 : decode cX6_hides 11 = .ok (.iload_n 1, 1) := by decide +kernel
theorem dX6_hides_12 : decode cX6_hides 12 = .ok (.iload_n 2, 1) := by decide +kernel
theorem dX6_hides_13 : decode cX6_hides 13 = .ok (.if_icmp .eq 19, 3) := by decide +kernel
theorem dX6_hides_16 : decode cX6_hides 16 = .ok (.iload_n 2, 1) := by decide +kernel
theorem dX6_hides_17 : decode cX6_hides 17 = .ok (.iconst (-1), 1) := by decide +kernel
theorem dX6_hides_18 : decode cX6_hides 18 = .ok (.if_icmp .eq 16, 3) := by decide +kernel
theorem dX6_hides_21 : decode cX6_hides 21 = .ok (.aload_n 0, 1) := by decide +kernel
theorem dX6_hides_22 : decode cX6_hides 22 = .ok (.getfield 26, 3) := by decide +kernel
theorem dX6_hides_25 : decode cX6_hides 25 = .ok (.iload_n 2, 1) := by decide +kernel
theorem dX6_hides_26 : decode cX6_hides 26 = .ok (.invokevirtual 87, 3) := by decide +kernel
theorem dX6_hides_29 : decode cX6_hides 29 = .ok (.ifCond .ne 5, 3) := by decide +kernel
theorem dX6_hides_32 : decode cX6_hides 32 = .ok (.iconst (-1), 1) := by decide +kernel
theorem dX6_hides_33 : decode cX6_hides 33 = .ok (.ireturn, 1) := by decide +kernel
theorem dX6_hides_34 : decode cX6_hides 34 = .ok (.aload_n 0, 1) := by decide +kernel
theorem dX6_hides_35 : decode cX6_hides 35 = .ok (.getfield 26, 3) := by decide +kernel
theorem dX6_hides_38 : decode cX6_hides 38 = .ok (.getfield 105, 3) := by decide +kernel
theorem dX6_hides_41 : decode cX6_hides 41 = .ok (.iload_n 1, 1) := by decide +kernel
theorem dX6_hides_42 : decode cX6_hides 42 = .ok (.iaload, 1) := by decide +kernel
theorem dX6_hides_43 : decode cX6_hides 43 = .ok (.iconst 1, 1) := by decide +kernel
theorem dX6_hides_44 : decode cX6_hides 44 = .ok (.if_icmp .eq 21, 3) := by decide +kernel
theorem dX6_hides_47 : decode cX6_hides 47 = .ok (.iload_n 2, 1) := by decide +kernel
theorem dX6_hides_48 : decode cX6_hides 48 = .ok (.iconst (-1), 1) := by decide +kernel
theorem dX6_hides_49 : decode cX6_hides 49 = .ok (.if_icmp .eq 19, 3) := by decide +kernel
theorem dX6_hides_52 : decode cX6_hides 52 = .ok (.aload_n 0, 1) := by decide +kernel
theorem dX6_hides_53 : decode cX6_hides 53 = .ok (.getfield 26, 3) := by decide +kernel
theorem dX6_hides_56 : decode cX6_hides 56 = .ok (.getfield 105, 3) := by decide +kernel
theorem dX6_hides_59 : decode cX6_hides 59 = .ok (.iload_n 2, 1) := by decide +kernel
theorem dX6_hides_60 : decode cX6_hides 60 = .ok (.iaload, 1) := by decide +kernel
theorem dX6_hides_61 : decode cX6_hides 61 = .ok (.iconst 1, 1) := by decide +kernel
theorem dX6_hides_62 : decode cX6_hides 62 = .ok (.if_icmp .ne 6, 3) := by decide +kernel
theorem dX6_hides_65 : decode cX6_hides 65 = .ok (.bipush (-2), 2) := by decide +kernel
theorem dX6_hides_67 : decode cX6_hides 67 = .ok (.ireturn, 1) := by decide +kernel
theorem dX6_hides_68 : decode cX6_hides 68 = .ok (.aload_n 0, 1) := by decide +kernel
theorem dX6_hides_69 : decode cX6_hides 69 = .ok (.getfield 33, 3) := by decide +kernel
theorem dX6_hides_72 : decode cX6_hides 72 = .ok (.aload_n 0, 1) := by decide +kernel
theorem dX6_hides_73 : decode cX6_hides 73 = .ok (.getfield 26, 3) := by decide +kernel
theorem dX6_hides_76 : decode cX6_hides 76 = .ok (.invokevirtual 157, 3) := by decide +kernel
theorem dX6_hides_79 : decode cX6_hides 79 = .ok (.iconst 0, 1) := by decide +kernel
theorem dX6_hides_80 : decode cX6_hides 80 = .ok (.istore_n 3, 1) := by decide +kernel
theorem dX6_hides_81 : decode cX6_hides 81 = .ok (.iconst 0, 1) := by decide +kernel
theorem dX6_hides_82 : decode cX6_hides 82 = .ok (.istore 4, 2) := by decide +kernel
theorem dX6_hides_84 : decode cX6_hides 84 = .ok (.iload 4, 2) := by decide +kernel
theorem dX6_hides_86 : decode cX6_hides 86 = .ok (.aload_n 0, 1) := by decide +kernel
theorem dX6_hides_87 : decode cX6_hides 87 = .ok (.getfield 26, 3) := by decide +kernel
theorem dX6_hides_90 : decode cX6_hides 90 = .ok (.getfield 80, 3) := by decide +kernel
theorem dX6_hides_93 : decode cX6_hides 93 = .ok (.if_icmp .ge 76, 3) := by decide +kernel
theorem dX6_hides_96 : decode cX6_hides 96 = .ok (.iload 4, 2) := by decide +kernel
theorem dX6_hides_98 : decode cX6_hides 98 = .ok (.bipush 48, 2) := by decide +kernel
theorem dX6_hides_100 : decode cX6_hides 100 = .ok (.if_icmp .ge 69, 3) := by decide +kernel
theorem dX6_hides_103 : decode cX6_hides 103 = .ok (.iload 4, 2) := by decide +kernel
theorem dX6_hides_105 : decode cX6_hides 105 = .ok (.iload_n 1, 1) := by decide +kernel
theorem dX6_hides_106 : decode cX6_hides 106 = .ok (.if_icmp .eq 18, 3) := by decide +kernel
theorem dX6_hides_109 : decode cX6_hides 109 = .ok (.iload_n 2, 1) := by decide +kernel
theorem dX6_hides_110 : decode cX6_hides 110 = .ok (.iconst (-1), 1) := by decide +kernel
theorem dX6_hides_111 : decode cX6_hides 111 = .ok (.if_icmp .eq 9, 3) := by decide +kernel
theorem dX6_hides_114 : decode cX6_hides 114 = .ok (.iload_n 2, 1) := by decide +kernel
theorem dX6_hides_115 : decode cX6_hides 115 = .ok (.iload 4, 2) := by decide +kernel
theorem dX6_hides_117 : decode cX6_hides 117 = .ok (.if_icmp .ne 7, 3) := by decide +kernel
theorem dX6_hides_120 : decode cX6_hides 120 = .ok (.iconst 1, 1) := by decide +kernel
theorem dX6_hides_121 : decode cX6_hides 121 = .ok (.goto 4, 3) := by decide +kernel
theorem dX6_hides_124 : decode cX6_hides 124 = .ok (.iconst 0, 1) := by decide +kernel
theorem dX6_hides_125 : decode cX6_hides 125 = .ok (.istore 5, 2) := by decide +kernel
theorem dX6_hides_127 : decode cX6_hides 127 = .ok (.iload 5, 2) := by decide +kernel
theorem dX6_hides_129 : decode cX6_hides 129 = .ok (.ifCond .eq 34, 3) := by decide +kernel
theorem dX6_hides_132 : decode cX6_hides 132 = .ok (.aload_n 0, 1) := by decide +kernel
theorem dX6_hides_133 : decode cX6_hides 133 = .ok (.getfield 33, 3) := by decide +kernel
theorem dX6_hides_136 : decode cX6_hides 136 = .ok (.getfield 161, 3) := by decide +kernel
theorem dX6_hides_139 : decode cX6_hides 139 = .ok (.iload 4, 2) := by decide +kernel
theorem dX6_hides_141 : decode cX6_hides 141 = .ok (.iaload, 1) := by decide +kernel
theorem dX6_hides_142 : decode cX6_hides 142 = .ok (.bipush (-4), 2) := by decide +kernel
theorem dX6_hides_144 : decode cX6_hides 144 = .ok (.if_icmp .ne 19, 3) := by decide +kernel
theorem dX6_hides_147 : decode cX6_hides 147 = .ok (.aload_n 0, 1) := by decide +kernel
theorem dX6_hides_148 : decode cX6_hides 148 = .ok (.getfield 26, 3) := by decide +kernel
theorem dX6_hides_151 : decode cX6_hides 151 = .ok (.iload 4, 2) := by decide +kernel
theorem dX6_hides_153 : decode cX6_hides 153 = .ok (.iload_n 1, 1) := by decide +kernel
theorem dX6_hides_154 : decode cX6_hides 154 = .ok (.invokevirtual 154, 3) := by decide +kernel
theorem dX6_hides_157 : decode cX6_hides 157 = .ok (.ifCond .eq 6, 3) := by decide +kernel
theorem dX6_hides_160 : decode cX6_hides 160 = .ok (.iinc 3 1, 3) := by decide +kernel
theorem dX6_hides_163 : decode cX6_hides 163 = .ok (.iinc 4 1, 3) := by decide +kernel
theorem dX6_hides_166 : decode cX6_hides 166 = .ok (.goto (-82), 3) := by decide +kernel
theorem dX6_hides_169 : decode cX6_hides 169 = .ok (.iload_n 3, 1) := by decide +kernel
theorem dX6_hides_170 : decode cX6_hides 170 = .ok (.ireturn, 1) := by decide +kernel
theorem dX6_bunch_0 : decode cX6_bunch 0 = .ok (.iload_n 1, 1) := by decide +kernel
theorem dX6_bunch_1 : decode cX6_bunch 1 = .ok (.iconst (-1), 1) := by decide +kernel
theorem dX6_bunch_2 : decode cX6_bunch 2 = .ok (.if_icmp .lt 12, 3) := by decide +kernel
theorem dX6_bunch_5 : decode cX6_bunch 5 = .ok (.iload_n 2, 1) := by decide +kernel
theorem dX6_bunch_6 : decode cX6_bunch 6 = .ok (.ifCond .lt 8, 3) := by decide +kernel
theorem dX6_bunch_9 : decode cX6_bunch 9 = .ok (.iload_n 2, 1) := by decide +kernel
theorem dX6_bunch_10 : decode cX6_bunch 10 = .ok (.iconst 2, 1) := by decide +kernel
theorem dX6_bunch_11 : decode cX6_bunch 11 = .ok (.if_icmp .le 5, 3) := by decide +kernel
theorem dX6_bunch_14 : decode cX6_bunch 14 = .ok (.iconst (-1), 1) := by decide +kernel
theorem dX6_bunch_15 : decode cX6_bunch 15 = .ok (.ireturn, 1) := by decide +kernel
theorem dX6_bunch_16 : decode cX6_bunch 16 = .ok (.aload_n 0, 1) := by decide +kernel
theorem dX6_bunch_17 : decode cX6_bunch 17 = .ok (.getfield 33, 3) := by decide +kernel
theorem dX6_bunch_20 : decode cX6_bunch 20 = .ok (.aload_n 0, 1) := by decide +kernel
theorem dX6_bunch_21 : decode cX6_bunch 21 = .ok (.getfield 26, 3) := by decide +kernel
theorem dX6_bunch_24 : decode cX6_bunch 24 = .ok (.invokevirtual 157, 3) := by decide +kernel
theorem dX6_bunch_27 : decode cX6_bunch 27 = .ok (.iload_n 1, 1) := by decide +kernel
theorem dX6_bunch_28 : decode cX6_bunch 28 = .ok (.iconst (-1), 1) := by decide +kernel
theorem dX6_bunch_29 : decode cX6_bunch 29 = .ok (.if_icmp .ne 11, 3) := by decide +kernel
theorem dX6_bunch_32 : decode cX6_bunch 32 = .ok (.aload_n 0, 1) := by decide +kernel
theorem dX6_bunch_33 : decode cX6_bunch 33 = .ok (.getfield 33, 3) := by decide +kernel
theorem dX6_bunch_36 : decode cX6_bunch 36 = .ok (.getfield 167, 3) := by decide +kernel
theorem dX6_bunch_39 : decode cX6_bunch 39 = .ok (.ireturn, 1) := by decide +kernel
theorem dX6_bunch_40 : decode cX6_bunch 40 = .ok (.iload_n 1, 1) := by decide +kernel
theorem dX6_bunch_41 : decode cX6_bunch 41 = .ok (.aload_n 0, 1) := by decide +kernel
theorem dX6_bunch_42 : decode cX6_bunch 42 = .ok (.getfield 33, 3) := by decide +kernel
theorem dX6_bunch_45 : decode cX6_bunch 45 = .ok (.getfield 167, 3) := by decide +kernel
theorem dX6_bunch_48 : decode cX6_bunch 48 = .ok (.if_icmp .ge 9, 3) := by decide +kernel
theorem dX6_bunch_51 : decode cX6_bunch 51 = .ok (.iload_n 1, 1) := by decide +kernel
theorem dX6_bunch_52 : decode cX6_bunch 52 = .ok (.bipush 48, 2) := by decide +kernel
theorem dX6_bunch_54 : decode cX6_bunch 54 = .ok (.if_icmp .lt 6, 3) := by decide +kernel
theorem dX6_bunch_57 : decode cX6_bunch 57 = .ok (.bipush (-4), 2) := by decide +kernel
theorem dX6_bunch_59 : decode cX6_bunch 59 = .ok (.ireturn, 1) := by decide +kernel
theorem dX6_bunch_60 : decode cX6_bunch 60 = .ok (.iload_n 2, 1) := by decide +kernel
theorem dX6_bunch_61 : decode cX6_bunch 61 = .ok (.ifCond .ne 15, 3) := by decide +kernel
theorem dX6_bunch_64 : decode cX6_bunch 64 = .ok (.aload_n 0, 1) := by decide +kernel
theorem dX6_bunch_65 : decode cX6_bunch 65 = .ok (.getfield 33, 3) := by decide +kernel
theorem dX6_bunch_68 : decode cX6_bunch 68 = .ok (.getfield 170, 3) := by decide +kernel
theorem dX6_bunch_71 : decode cX6_bunch 71 = .ok (.iload_n 1, 1) := by decide +kernel
theorem dX6_bunch_72 : decode cX6_bunch 72 = .ok (.iaload, 1) := by decide +kernel
theorem dX6_bunch_73 : decode cX6_bunch 73 = .ok (.goto 29, 3) := by decide +kernel
theorem dX6_bunch_76 : decode cX6_bunch 76 = .ok (.iload_n 2, 1) := by decide +kernel
theorem dX6_bunch_77 : decode cX6_bunch 77 = .ok (.iconst 1, 1) := by decide +kernel
theorem dX6_bunch_78 : decode cX6_bunch 78 = .ok (.if_icmp .ne 15, 3) := by decide +kernel
theorem dX6_bunch_81 : decode cX6_bunch 81 = .ok (.aload_n 0, 1) := by decide +kernel
theorem dX6_bunch_82 : decode cX6_bunch 82 = .ok (.getfield 33, 3) := by decide +kernel
theorem dX6_bunch_85 : decode cX6_bunch 85 = .ok (.getfield 173, 3) := by decide +kernel
theorem dX6_bunch_88 : decode cX6_bunch 88 = .ok (.iload_n 1, 1) := by decide +kernel
theorem dX6_bunch_89 : decode cX6_bunch 89 = .ok (.iaload, 1) := by decide +kernel
theorem dX6_bunch_90 : decode cX6_bunch 90 = .ok (.goto 12, 3) := by decide +kernel
theorem dX6_bunch_93 : decode cX6_bunch 93 = .ok (.aload_n 0, 1) := by decide +kernel
theorem dX6_bunch_94 : decode cX6_bunch 94 = .ok (.getfield 33, 3) := by decide +kernel
theorem dX6_bunch_97 : decode cX6_bunch 97 = .ok (.getfield 176, 3) := by decide +kernel
theorem dX6_bunch_100 : decode cX6_bunch 100 = .ok (.iload_n 1, 1) := by decide +kernel
theorem dX6_bunch_101 : decode cX6_bunch 101 = .ok (.iaload, 1) := by decide +kernel
theorem dX6_bunch_102 : decode cX6_bunch 102 = .ok (.ireturn, 1) := by decide +kernel
theorem dX6_enough_0 : decode cX6_enough 0 = .ok (.iload_n 1, 1) := by decide +kernel
theorem dX6_enough_1 : decode cX6_enough 1 = .ok (.ifCond .lt 9, 3) := by decide +kernel
theorem dX6_enough_4 : decode cX6_enough 4 = .ok (.iload_n 1, 1) := by decide +kernel
theorem dX6_enough_5 : decode cX6_enough 5 = .ok (.bipush 48, 2) := by decide +kernel
theorem dX6_enough_7 : decode cX6_enough 7 = .ok (.if_icmp .le 5, 3) := by decide +kernel
theorem dX6_enough_10 : decode cX6_enough 10 = .ok (.iconst (-1), 1) := by decide +kernel
theorem dX6_enough_11 : decode cX6_enough 11 = .ok (.ireturn, 1) := by decide +kernel
theorem dX6_enough_12 : decode cX6_enough 12 = .ok (.aload_n 0, 1) := by decide +kernel
theorem dX6_enough_13 : decode cX6_enough 13 = .ok (.getfield 33, 3) := by decide +kernel
theorem dX6_enough_16 : decode cX6_enough 16 = .ok (.aload_n 0, 1) := by decide +kernel
theorem dX6_enough_17 : decode cX6_enough 17 = .ok (.getfield 26, 3) := by decide +kernel
theorem dX6_enough_20 : decode cX6_enough 20 = .ok (.invokevirtual 157, 3) := by decide +kernel
theorem dX6_enough_23 : decode cX6_enough 23 = .ok (.iconst 1, 1) := by decide +kernel
theorem dX6_enough_24 : decode cX6_enough 24 = .ok (.istore_n 2, 1) := by decide +kernel
theorem dX6_enough_25 : decode cX6_enough 25 = .ok (.iload_n 2, 1) := by decide +kernel
theorem dX6_enough_26 : decode cX6_enough 26 = .ok (.bipush 40, 2) := by decide +kernel
theorem dX6_enough_28 : decode cX6_enough 28 = .ok (.if_icmp .gt 27, 3) := by decide +kernel
theorem dX6_enough_31 : decode cX6_enough 31 = .ok (.aload_n 0, 1) := by decide +kernel
theorem dX6_enough_32 : decode cX6_enough 32 = .ok (.getfield 33, 3) := by decide +kernel
theorem dX6_enough_35 : decode cX6_enough 35 = .ok (.iload_n 2, 1) := by decide +kernel
theorem dX6_enough_36 : decode cX6_enough 36 = .ok (.aload_n 0, 1) := by decide +kernel
theorem dX6_enough_37 : decode cX6_enough 37 = .ok (.getfield 26, 3) := by decide +kernel
theorem dX6_enough_40 : decode cX6_enough 40 = .ok (.invokevirtual 179, 3) := by decide +kernel
theorem dX6_enough_43 : decode cX6_enough 43 = .ok (.iload_n 1, 1) := by decide +kernel
theorem dX6_enough_44 : decode cX6_enough 44 = .ok (.if_icmp .gt 5, 3) := by decide +kernel
theorem dX6_enough_47 : decode cX6_enough 47 = .ok (.iload_n 2, 1) := by decide +kernel
theorem dX6_enough_48 : decode cX6_enough 48 = .ok (.ireturn, 1) := by decide +kernel
theorem dX6_enough_49 : decode cX6_enough 49 = .ok (.iinc 2 1, 3) := by decide +kernel
theorem dX6_enough_52 : decode cX6_enough 52 = .ok (.goto (-27), 3) := by decide +kernel
theorem dX6_enough_55 : decode cX6_enough 55 = .ok (.bipush (-4), 2) := by decide +kernel
theorem dX6_enough_57 : decode cX6_enough 57 = .ok (.ireturn, 1) := by decide +kernel
theorem dX6_noise_0 : decode cX6_noise 0 = .ok (.iload_n 1, 1) := by decide +kernel
theorem dX6_noise_1 : decode cX6_noise 1 = .ok (.invokestatic 91, 3) := by decide +kernel
theorem dX6_noise_4 : decode cX6_noise 4 = .ok (.ifCond .ne 5, 3) := by decide +kernel
theorem dX6_noise_7 : decode cX6_noise 7 = .ok (.iconst (-1), 1) := by decide +kernel
theorem dX6_noise_8 : decode cX6_noise 8 = .ok (.ireturn, 1) := by decide +kernel
theorem dX6_noise_9 : decode cX6_noise 9 = .ok (.iload_n 1, 1) := by decide +kernel
theorem dX6_noise_10 : decode cX6_noise 10 = .ok (.bipush 8, 2) := by decide +kernel
theorem dX6_noise_12 : decode cX6_noise 12 = .ok (.if_icmp .ge 15, 3) := by decide +kernel
theorem dX6_noise_15 : decode cX6_noise 15 = .ok (.aload_n 0, 1) := by decide +kernel
theorem dX6_noise_16 : decode cX6_noise 16 = .ok (.getfield 40, 3) := by decide +kernel
theorem dX6_noise_19 : decode cX6_noise 19 = .ok (.getfield 183, 3) := by decide +kernel
theorem dX6_noise_22 : decode cX6_noise 22 = .ok (.iload_n 1, 1) := by decide +kernel
theorem dX6_noise_23 : decode cX6_noise 23 = .ok (.iaload, 1) := by decide +kernel
theorem dX6_noise_24 : decode cX6_noise 24 = .ok (.goto 4, 3) := by decide +kernel
theorem dX6_noise_27 : decode cX6_noise 27 = .ok (.iconst 0, 1) := by decide +kernel
theorem dX6_noise_28 : decode cX6_noise 28 = .ok (.ireturn, 1) := by decide +kernel
theorem dX6_odds_0 : decode cX6_odds 0 = .ok (.iload_n 1, 1) := by decide +kernel
theorem dX6_odds_1 : decode cX6_odds 1 = .ok (.ifCond .lt 8, 3) := by decide +kernel
theorem dX6_odds_4 : decode cX6_odds 4 = .ok (.iload_n 1, 1) := by decide +kernel
theorem dX6_odds_5 : decode cX6_odds 5 = .ok (.iconst 1, 1) := by decide +kernel
theorem dX6_odds_6 : decode cX6_odds 6 = .ok (.if_icmp .le 7, 3) := by decide +kernel
theorem dX6_odds_9 : decode cX6_odds 9 = .ok (.ldc2_w 186, 3) := by decide +kernel
theorem dX6_odds_12 : decode cX6_odds 12 = .ok (.lreturn, 1) := by decide +kernel
theorem dX6_odds_13 : decode cX6_odds 13 = .ok (.aload_n 0, 1) := by decide +kernel
theorem dX6_odds_14 : decode cX6_odds 14 = .ok (.getfield 40, 3) := by decide +kernel
theorem dX6_odds_17 : decode cX6_odds 17 = .ok (.aload_n 0, 1) := by decide +kernel
theorem dX6_odds_18 : decode cX6_odds 18 = .ok (.getfield 26, 3) := by decide +kernel
theorem dX6_odds_21 : decode cX6_odds 21 = .ok (.getfield 119, 3) := by decide +kernel
theorem dX6_odds_24 : decode cX6_odds 24 = .ok (.aload_n 0, 1) := by decide +kernel
theorem dX6_odds_25 : decode cX6_odds 25 = .ok (.getfield 26, 3) := by decide +kernel
theorem dX6_odds_28 : decode cX6_odds 28 = .ok (.getfield 125, 3) := by decide +kernel
theorem dX6_odds_31 : decode cX6_odds 31 = .ok (.invokevirtual 188, 3) := by decide +kernel
theorem dX6_odds_34 : decode cX6_odds 34 = .ok (.aload_n 0, 1) := by decide +kernel
theorem dX6_odds_35 : decode cX6_odds 35 = .ok (.getfield 40, 3) := by decide +kernel
theorem dX6_odds_38 : decode cX6_odds 38 = .ok (.aload_n 0, 1) := by decide +kernel
theorem dX6_odds_39 : decode cX6_odds 39 = .ok (.getfield 26, 3) := by decide +kernel
theorem dX6_odds_42 : decode cX6_odds 42 = .ok (.getfield 119, 3) := by decide +kernel
theorem dX6_odds_45 : decode cX6_odds 45 = .ok (.iconst 3, 1) := by decide +kernel
theorem dX6_odds_46 : decode cX6_odds 46 = .ok (.iaload, 1) := by decide +kernel
theorem dX6_odds_47 : decode cX6_odds 47 = .ok (.aload_n 0, 1) := by decide +kernel
theorem dX6_odds_48 : decode cX6_odds 48 = .ok (.getfield 26, 3) := by decide +kernel
theorem dX6_odds_51 : decode cX6_odds 51 = .ok (.getfield 119, 3) := by decide +kernel
theorem dX6_odds_54 : decode cX6_odds 54 = .ok (.iconst 4, 1) := by decide +kernel
theorem dX6_odds_55 : decode cX6_odds 55 = .ok (.iaload, 1) := by decide +kernel
theorem dX6_odds_56 : decode cX6_odds 56 = .ok (.invokevirtual 192, 3) := by decide +kernel
theorem dX6_odds_59 : decode cX6_odds 59 = .ok (.lstore_n 2, 1) := by decide +kernel
theorem dX6_odds_60 : decode cX6_odds 60 = .ok (.aload_n 0, 1) := by decide +kernel
theorem dX6_odds_61 : decode cX6_odds 61 = .ok (.getfield 40, 3) := by decide +kernel
theorem dX6_odds_64 : decode cX6_odds 64 = .ok (.aload_n 0, 1) := by decide +kernel
theorem dX6_odds_65 : decode cX6_odds 65 = .ok (.getfield 26, 3) := by decide +kernel
theorem dX6_odds_68 : decode cX6_odds 68 = .ok (.getfield 119, 3) := by decide +kernel
theorem dX6_odds_71 : decode cX6_odds 71 = .ok (.iconst 0, 1) := by decide +kernel
theorem dX6_odds_72 : decode cX6_odds 72 = .ok (.iaload, 1) := by decide +kernel
theorem dX6_odds_73 : decode cX6_odds 73 = .ok (.invokevirtual 196, 3) := by decide +kernel
theorem dX6_odds_76 : decode cX6_odds 76 = .ok (.lstore 4, 2) := by decide +kernel
theorem dX6_odds_78 : decode cX6_odds 78 = .ok (.lload_n 2, 1) := by decide +kernel
theorem dX6_odds_79 : decode cX6_odds 79 = .ok (.lload 4, 2) := by decide +kernel
theorem dX6_odds_81 : decode cX6_odds 81 = .ok (.invokestatic 200, 3) := by decide +kernel
theorem dX6_odds_84 : decode cX6_odds 84 = .ok (.lstore 6, 2) := by decide +kernel
theorem dX6_odds_86 : decode cX6_odds 86 = .ok (.lload 6, 2) := by decide +kernel
theorem dX6_odds_88 : decode cX6_odds 88 = .ok (.lconst 0, 1) := by decide +kernel
theorem dX6_odds_89 : decode cX6_odds 89 = .ok (.lcmp, 1) := by decide +kernel
theorem dX6_odds_90 : decode cX6_odds 90 = .ok (.ifCond .gt 7, 3) := by decide +kernel
theorem dX6_odds_93 : decode cX6_odds 93 = .ok (.ldc2_w 186, 3) := by decide +kernel
theorem dX6_odds_96 : decode cX6_odds 96 = .ok (.lreturn, 1) := by decide +kernel
theorem dX6_odds_97 : decode cX6_odds 97 = .ok (.iload_n 1, 1) := by decide +kernel
theorem dX6_odds_98 : decode cX6_odds 98 = .ok (.ifCond .ne 7, 3) := by decide +kernel
theorem dX6_odds_101 : decode cX6_odds 101 = .ok (.lload_n 2, 1) := by decide +kernel
theorem dX6_odds_102 : decode cX6_odds 102 = .ok (.goto 5, 3) := by decide +kernel
theorem dX6_odds_105 : decode cX6_odds 105 = .ok (.lload 4, 2) := by decide +kernel
theorem dX6_odds_107 : decode cX6_odds 107 = .ok (.lload 6, 2) := by decide +kernel
theorem dX6_odds_109 : decode cX6_odds 109 = .ok (.ldiv, 1) := by decide +kernel
theorem dX6_odds_110 : decode cX6_odds 110 = .ok (.lreturn, 1) := by decide +kernel
theorem dX6_factor_0 : decode cX6_factor 0 = .ok (.iload_n 1, 1) := by decide +kernel
theorem dX6_factor_1 : decode cX6_factor 1 = .ok (.iconst 1, 1) := by decide +kernel
theorem dX6_factor_2 : decode cX6_factor 2 = .ok (.if_icmp .lt 20, 3) := by decide +kernel
theorem dX6_factor_5 : decode cX6_factor 5 = .ok (.iload_n 1, 1) := by decide +kernel
theorem dX6_factor_6 : decode cX6_factor 6 = .ok (.ldc 204, 2) := by decide +kernel
theorem dX6_factor_8 : decode cX6_factor 8 = .ok (.if_icmp .gt 14, 3) := by decide +kernel
theorem dX6_factor_11 : decode cX6_factor 11 = .ok (.iload_n 2, 1) := by decide +kernel
theorem dX6_factor_12 : decode cX6_factor 12 = .ok (.iconst 1, 1) := by decide +kernel
theorem dX6_factor_13 : decode cX6_factor 13 = .ok (.if_icmp .lt 9, 3) := by decide +kernel
theorem dX6_factor_16 : decode cX6_factor 16 = .ok (.iload_n 2, 1) := by decide +kernel
theorem dX6_factor_17 : decode cX6_factor 17 = .ok (.ldc 204, 2) := by decide +kernel
theorem dX6_factor_19 : decode cX6_factor 19 = .ok (.if_icmp .le 5, 3) := by decide +kernel
theorem dX6_factor_22 : decode cX6_factor 22 = .ok (.iconst (-1), 1) := by decide +kernel
theorem dX6_factor_23 : decode cX6_factor 23 = .ok (.ireturn, 1) := by decide +kernel
theorem dX6_factor_24 : decode cX6_factor 24 = .ok (.aload_n 0, 1) := by decide +kernel
theorem dX6_factor_25 : decode cX6_factor 25 = .ok (.getfield 40, 3) := by decide +kernel
theorem dX6_factor_28 : decode cX6_factor 28 = .ok (.aload_n 0, 1) := by decide +kernel
theorem dX6_factor_29 : decode cX6_factor 29 = .ok (.getfield 26, 3) := by decide +kernel
theorem dX6_factor_32 : decode cX6_factor 32 = .ok (.getfield 119, 3) := by decide +kernel
theorem dX6_factor_35 : decode cX6_factor 35 = .ok (.aload_n 0, 1) := by decide +kernel
theorem dX6_factor_36 : decode cX6_factor 36 = .ok (.getfield 26, 3) := by decide +kernel
theorem dX6_factor_39 : decode cX6_factor 39 = .ok (.getfield 125, 3) := by decide +kernel
theorem dX6_factor_42 : decode cX6_factor 42 = .ok (.invokevirtual 188, 3) := by decide +kernel
theorem dX6_factor_45 : decode cX6_factor 45 = .ok (.aload_n 0, 1) := by decide +kernel
theorem dX6_factor_46 : decode cX6_factor 46 = .ok (.getfield 40, 3) := by decide +kernel
theorem dX6_factor_49 : decode cX6_factor 49 = .ok (.aload_n 0, 1) := by decide +kernel
theorem dX6_factor_50 : decode cX6_factor 50 = .ok (.getfield 26, 3) := by decide +kernel
theorem dX6_factor_53 : decode cX6_factor 53 = .ok (.getfield 119, 3) := by decide +kernel
theorem dX6_factor_56 : decode cX6_factor 56 = .ok (.iconst 0, 1) := by decide +kernel
theorem dX6_factor_57 : decode cX6_factor 57 = .ok (.iaload, 1) := by decide +kernel
theorem dX6_factor_58 : decode cX6_factor 58 = .ok (.invokevirtual 196, 3) := by decide +kernel
theorem dX6_factor_61 : decode cX6_factor 61 = .ok (.lstore_n 3, 1) := by decide +kernel
theorem dX6_factor_62 : decode cX6_factor 62 = .ok (.iconst 1, 1) := by decide +kernel
theorem dX6_factor_63 : decode cX6_factor 63 = .ok (.istore 5, 2) := by decide +kernel
theorem dX6_factor_65 : decode cX6_factor 65 = .ok (.iload 5, 2) := by decide +kernel
theorem dX6_factor_67 : decode cX6_factor 67 = .ok (.bipush 40, 2) := by decide +kernel
theorem dX6_factor_69 : decode cX6_factor 69 = .ok (.if_icmp .gt 41, 3) := by decide +kernel
theorem dX6_factor_72 : decode cX6_factor 72 = .ok (.aload_n 0, 1) := by decide +kernel
theorem dX6_factor_73 : decode cX6_factor 73 = .ok (.getfield 40, 3) := by decide +kernel
theorem dX6_factor_76 : decode cX6_factor 76 = .ok (.iload 5, 2) := by decide +kernel
theorem dX6_factor_78 : decode cX6_factor 78 = .ok (.aload_n 0, 1) := by decide +kernel
theorem dX6_factor_79 : decode cX6_factor 79 = .ok (.getfield 26, 3) := by decide +kernel
theorem dX6_factor_82 : decode cX6_factor 82 = .ok (.getfield 119, 3) := by decide +kernel
theorem dX6_factor_85 : decode cX6_factor 85 = .ok (.iconst 4, 1) := by decide +kernel
theorem dX6_factor_86 : decode cX6_factor 86 = .ok (.iaload, 1) := by decide +kernel
theorem dX6_factor_87 : decode cX6_factor 87 = .ok (.invokevirtual 192, 3) := by decide +kernel
theorem dX6_factor_90 : decode cX6_factor 90 = .ok (.iload_n 2, 1) := by decide +kernel
theorem dX6_factor_91 : decode cX6_factor 91 = .ok (.i2l, 1) := by decide +kernel
theorem dX6_factor_92 : decode cX6_factor 92 = .ok (.lload_n 3, 1) := by decide +kernel
theorem dX6_factor_93 : decode cX6_factor 93 = .ok (.iload_n 1, 1) := by decide +kernel
theorem dX6_factor_94 : decode cX6_factor 94 = .ok (.i2l, 1) := by decide +kernel
theorem dX6_factor_95 : decode cX6_factor 95 = .ok (.invokestatic 205, 3) := by decide +kernel
theorem dX6_factor_98 : decode cX6_factor 98 = .ok (.ifCond .eq 6, 3) := by decide +kernel
theorem dX6_factor_101 : decode cX6_factor 101 = .ok (.iload 5, 2) := by decide +kernel
theorem dX6_factor_103 : decode cX6_factor 103 = .ok (.ireturn, 1) := by decide +kernel
theorem dX6_factor_104 : decode cX6_factor 104 = .ok (.iinc 5 1, 3) := by decide +kernel
theorem dX6_factor_107 : decode cX6_factor 107 = .ok (.goto (-42), 3) := by decide +kernel
theorem dX6_factor_110 : decode cX6_factor 110 = .ok (.bipush (-4), 2) := by decide +kernel
theorem dX6_factor_112 : decode cX6_factor 112 = .ok (.ireturn, 1) := by decide +kernel
theorem dX6_drawn_0 : decode cX6_drawn 0 = .ok (.iload_n 1, 1) := by decide +kernel
theorem dX6_drawn_1 : decode cX6_drawn 1 = .ok (.ifCond .ge 5, 3) := by decide +kernel
theorem dX6_drawn_4 : decode cX6_drawn 4 = .ok (.iconst (-1), 1) := by decide +kernel
theorem dX6_drawn_5 : decode cX6_drawn 5 = .ok (.ireturn, 1) := by decide +kernel
theorem dX6_drawn_6 : decode cX6_drawn 6 = .ok (.aload_n 0, 1) := by decide +kernel
theorem dX6_drawn_7 : decode cX6_drawn 7 = .ok (.getfield 33, 3) := by decide +kernel
theorem dX6_drawn_10 : decode cX6_drawn 10 = .ok (.aload_n 0, 1) := by decide +kernel
theorem dX6_drawn_11 : decode cX6_drawn 11 = .ok (.getfield 26, 3) := by decide +kernel
theorem dX6_drawn_14 : decode cX6_drawn 14 = .ok (.invokevirtual 157, 3) := by decide +kernel
theorem dX6_drawn_17 : decode cX6_drawn 17 = .ok (.aload_n 0, 1) := by decide +kernel
theorem dX6_drawn_18 : decode cX6_drawn 18 = .ok (.getfield 26, 3) := by decide +kernel
theorem dX6_drawn_21 : decode cX6_drawn 21 = .ok (.iload_n 1, 1) := by decide +kernel
theorem dX6_drawn_22 : decode cX6_drawn 22 = .ok (.invokevirtual 87, 3) := by decide +kernel
theorem dX6_drawn_25 : decode cX6_drawn 25 = .ok (.ifCond .eq 30, 3) := by decide +kernel
theorem dX6_drawn_28 : decode cX6_drawn 28 = .ok (.aload_n 0, 1) := by decide +kernel
theorem dX6_drawn_29 : decode cX6_drawn 29 = .ok (.getfield 26, 3) := by decide +kernel
theorem dX6_drawn_32 : decode cX6_drawn 32 = .ok (.getfield 105, 3) := by decide +kernel
theorem dX6_drawn_35 : decode cX6_drawn 35 = .ok (.iload_n 1, 1) := by decide +kernel
theorem dX6_drawn_36 : decode cX6_drawn 36 = .ok (.iaload, 1) := by decide +kernel
theorem dX6_drawn_37 : decode cX6_drawn 37 = .ok (.iconst 1, 1) := by decide +kernel
theorem dX6_drawn_38 : decode cX6_drawn 38 = .ok (.if_icmp .ne 8, 3) := by decide +kernel
theorem dX6_drawn_41 : decode cX6_drawn 41 = .ok (.bipush 120, 2) := by decide +kernel
theorem dX6_drawn_43 : decode cX6_drawn 43 = .ok (.goto 11, 3) := by decide +kernel
theorem dX6_drawn_46 : decode cX6_drawn 46 = .ok (.aload_n 0, 1) := by decide +kernel
theorem dX6_drawn_47 : decode cX6_drawn 47 = .ok (.getfield 33, 3) := by decide +kernel
theorem dX6_drawn_50 : decode cX6_drawn 50 = .ok (.iload_n 1, 1) := by decide +kernel
theorem dX6_drawn_51 : decode cX6_drawn 51 = .ok (.invokevirtual 209, 3) := by decide +kernel
theorem dX6_drawn_54 : decode cX6_drawn 54 = .ok (.ireturn, 1) := by decide +kernel
theorem dX6_drawn_55 : decode cX6_drawn 55 = .ok (.aload_n 0, 1) := by decide +kernel
theorem dX6_drawn_56 : decode cX6_drawn 56 = .ok (.iload_n 1, 1) := by decide +kernel
theorem dX6_drawn_57 : decode cX6_drawn 57 = .ok (.aload_n 0, 1) := by decide +kernel
theorem dX6_drawn_58 : decode cX6_drawn 58 = .ok (.getfield 26, 3) := by decide +kernel
theorem dX6_drawn_61 : decode cX6_drawn 61 = .ok (.getfield 80, 3) := by decide +kernel
theorem dX6_drawn_64 : decode cX6_drawn 64 = .ok (.isub, 1) := by decide +kernel
theorem dX6_drawn_65 : decode cX6_drawn 65 = .ok (.invokevirtual 213, 3) := by decide +kernel
theorem dX6_drawn_68 : decode cX6_drawn 68 = .ok (.ireturn, 1) := by decide +kernel
theorem dX6_count_0 : decode cX6_count 0 = .ok (.iload_n 1, 1) := by decide +kernel
theorem dX6_count_1 : decode cX6_count 1 = .ok (.tableswitch 153 0 11 #[63, 71, 71, 71, 71, 71, 83, 91, 110, 129, 137, 145], 63) := by decide +kernel
theorem dX6_count_64 : decode cX6_count 64 = .ok (.aload_n 0, 1) := by decide +kernel
theorem dX6_count_65 : decode cX6_count 65 = .ok (.getfield 26, 3) := by decide +kernel
theorem dX6_count_68 : decode cX6_count 68 = .ok (.getfield 80, 3) := by decide +kernel
theorem dX6_count_71 : decode cX6_count 71 = .ok (.ireturn, 1) := by decide +kernel
theorem dX6_count_72 : decode cX6_count 72 = .ok (.aload_n 0, 1) := by decide +kernel
theorem dX6_count_73 : decode cX6_count 73 = .ok (.getfield 26, 3) := by decide +kernel
theorem dX6_count_76 : decode cX6_count 76 = .ok (.getfield 119, 3) := by decide +kernel
theorem dX6_count_79 : decode cX6_count 79 = .ok (.iload_n 1, 1) := by decide +kernel
theorem dX6_count_80 : decode cX6_count 80 = .ok (.iconst 1, 1) := by decide +kernel
theorem dX6_count_81 : decode cX6_count 81 = .ok (.isub, 1) := by decide +kernel
theorem dX6_count_82 : decode cX6_count 82 = .ok (.iaload, 1) := by decide +kernel
theorem dX6_count_83 : decode cX6_count 83 = .ok (.ireturn, 1) := by decide +kernel
theorem dX6_count_84 : decode cX6_count 84 = .ok (.aload_n 0, 1) := by decide +kernel
theorem dX6_count_85 : decode cX6_count 85 = .ok (.getfield 26, 3) := by decide +kernel
theorem dX6_count_88 : decode cX6_count 88 = .ok (.getfield 125, 3) := by decide +kernel
theorem dX6_count_91 : decode cX6_count 91 = .ok (.ireturn, 1) := by decide +kernel
theorem dX6_count_92 : decode cX6_count 92 = .ok (.aload_n 0, 1) := by decide +kernel
theorem dX6_count_93 : decode cX6_count 93 = .ok (.getfield 33, 3) := by decide +kernel
theorem dX6_count_96 : decode cX6_count 96 = .ok (.aload_n 0, 1) := by decide +kernel
theorem dX6_count_97 : decode cX6_count 97 = .ok (.getfield 26, 3) := by decide +kernel
theorem dX6_count_100 : decode cX6_count 100 = .ok (.invokevirtual 157, 3) := by decide +kernel
theorem dX6_count_103 : decode cX6_count 103 = .ok (.aload_n 0, 1) := by decide +kernel
theorem dX6_count_104 : decode cX6_count 104 = .ok (.getfield 33, 3) := by decide +kernel
theorem dX6_count_107 : decode cX6_count 107 = .ok (.getfield 216, 3) := by decide +kernel
theorem dX6_count_110 : decode cX6_count 110 = .ok (.ireturn, 1) := by decide +kernel
theorem dX6_count_111 : decode cX6_count 111 = .ok (.aload_n 0, 1) := by decide +kernel
theorem dX6_count_112 : decode cX6_count 112 = .ok (.getfield 33, 3) := by decide +kernel
theorem dX6_count_115 : decode cX6_count 115 = .ok (.aload_n 0, 1) := by decide +kernel
theorem dX6_count_116 : decode cX6_count 116 = .ok (.getfield 26, 3) := by decide +kernel
theorem dX6_count_119 : decode cX6_count 119 = .ok (.invokevirtual 157, 3) := by decide +kernel
theorem dX6_count_122 : decode cX6_count 122 = .ok (.aload_n 0, 1) := by decide +kernel
theorem dX6_count_123 : decode cX6_count 123 = .ok (.getfield 33, 3) := by decide +kernel
theorem dX6_count_126 : decode cX6_count 126 = .ok (.getfield 167, 3) := by decide +kernel
theorem dX6_count_129 : decode cX6_count 129 = .ok (.ireturn, 1) := by decide +kernel
theorem dX6_count_130 : decode cX6_count 130 = .ok (.aload_n 0, 1) := by decide +kernel
theorem dX6_count_131 : decode cX6_count 131 = .ok (.getfield 26, 3) := by decide +kernel
theorem dX6_count_134 : decode cX6_count 134 = .ok (.invokevirtual 111, 3) := by decide +kernel
theorem dX6_count_137 : decode cX6_count 137 = .ok (.ireturn, 1) := by decide +kernel
theorem dX6_count_138 : decode cX6_count 138 = .ok (.aload_n 0, 1) := by decide +kernel
theorem dX6_count_139 : decode cX6_count 139 = .ok (.getfield 47, 3) := by decide +kernel
theorem dX6_count_142 : decode cX6_count 142 = .ok (.getfield 86, 3) := by decide +kernel
theorem dX6_count_145 : decode cX6_count 145 = .ok (.ireturn, 1) := by decide +kernel
theorem dX6_count_146 : decode cX6_count 146 = .ok (.aload_n 0, 1) := by decide +kernel
theorem dX6_count_147 : decode cX6_count 147 = .ok (.getfield 10, 3) := by decide +kernel
theorem dX6_count_150 : decode cX6_count 150 = .ok (.getfield 65, 3) := by decide +kernel
theorem dX6_count_153 : decode cX6_count 153 = .ok (.ireturn, 1) := by decide +kernel
theorem dX6_count_154 : decode cX6_count 154 = .ok (.iconst (-1), 1) := by decide +kernel
theorem dX6_count_155 : decode cX6_count 155 = .ok (.ireturn, 1) := by decide +kernel
theorem dX6_letterBehindCells_0 : decode cX6_letterBehindCells 0 = .ok (.iload_n 1, 1) := by decide +kernel
theorem dX6_letterBehindCells_1 : decode cX6_letterBehindCells 1 = .ok (.ifCond .ne 6, 3) := by decide +kernel
theorem dX6_letterBehindCells_4 : decode cX6_letterBehindCells 4 = .ok (.bipush 61, 2) := by decide +kernel
theorem dX6_letterBehindCells_6 : decode cX6_letterBehindCells 6 = .ok (.ireturn, 1) := by decide +kernel
theorem dX6_letterBehindCells_7 : decode cX6_letterBehindCells 7 = .ok (.iconst 1, 1) := by decide +kernel
theorem dX6_letterBehindCells_8 : decode cX6_letterBehindCells 8 = .ok (.aload_n 0, 1) := by decide +kernel
theorem dX6_letterBehindCells_9 : decode cX6_letterBehindCells 9 = .ok (.getfield 33, 3) := by decide +kernel
theorem dX6_letterBehindCells_12 : decode cX6_letterBehindCells 12 = .ok (.getfield 216, 3) := by decide +kernel
theorem dX6_letterBehindCells_15 : decode cX6_letterBehindCells 15 = .ok (.invokestatic 219, 3) := by decide +kernel
theorem dX6_letterBehindCells_18 : decode cX6_letterBehindCells 18 = .ok (.iadd, 1) := by decide +kernel
theorem dX6_letterBehindCells_19 : decode cX6_letterBehindCells 19 = .ok (.istore_n 2, 1) := by decide +kernel
theorem dX6_letterBehindCells_20 : decode cX6_letterBehindCells 20 = .ok (.iload_n 1, 1) := by decide +kernel
theorem dX6_letterBehindCells_21 : decode cX6_letterBehindCells 21 = .ok (.iload_n 2, 1) := by decide +kernel
theorem dX6_letterBehindCells_22 : decode cX6_letterBehindCells 22 = .ok (.if_icmp .ge 19, 3) := by decide +kernel
theorem dX6_letterBehindCells_25 : decode cX6_letterBehindCells 25 = .ok (.aload_n 0, 1) := by decide +kernel
theorem dX6_letterBehindCells_26 : decode cX6_letterBehindCells 26 = .ok (.getfield 33, 3) := by decide +kernel
theorem dX6_letterBehindCells_29 : decode cX6_letterBehindCells 29 = .ok (.getfield 216, 3) := by decide +kernel
theorem dX6_letterBehindCells_32 : decode cX6_letterBehindCells 32 = .ok (.iload_n 2, 1) := by decide +kernel
theorem dX6_letterBehindCells_33 : decode cX6_letterBehindCells 33 = .ok (.iconst 1, 1) := by decide +kernel
theorem dX6_letterBehindCells_34 : decode cX6_letterBehindCells 34 = .ok (.isub, 1) := by decide +kernel
theorem dX6_letterBehindCells_35 : decode cX6_letterBehindCells 35 = .ok (.iload_n 1, 1) := by decide +kernel
theorem dX6_letterBehindCells_36 : decode cX6_letterBehindCells 36 = .ok (.isub, 1) := by decide +kernel
theorem dX6_letterBehindCells_37 : decode cX6_letterBehindCells 37 = .ok (.invokestatic 222, 3) := by decide +kernel
theorem dX6_letterBehindCells_40 : decode cX6_letterBehindCells 40 = .ok (.ireturn, 1) := by decide +kernel
theorem dX6_letterBehindCells_41 : decode cX6_letterBehindCells 41 = .ok (.iload_n 1, 1) := by decide +kernel
theorem dX6_letterBehindCells_42 : decode cX6_letterBehindCells 42 = .ok (.iload_n 2, 1) := by decide +kernel
theorem dX6_letterBehindCells_43 : decode cX6_letterBehindCells 43 = .ok (.if_icmp .ne 6, 3) := by decide +kernel
theorem dX6_letterBehindCells_46 : decode cX6_letterBehindCells 46 = .ok (.bipush 32, 2) := by decide +kernel
theorem dX6_letterBehindCells_48 : decode cX6_letterBehindCells 48 = .ok (.ireturn, 1) := by decide +kernel
theorem dX6_letterBehindCells_49 : decode cX6_letterBehindCells 49 = .ok (.iload_n 2, 1) := by decide +kernel
theorem dX6_letterBehindCells_50 : decode cX6_letterBehindCells 50 = .ok (.iconst 1, 1) := by decide +kernel
theorem dX6_letterBehindCells_51 : decode cX6_letterBehindCells 51 = .ok (.iadd, 1) := by decide +kernel
theorem dX6_letterBehindCells_52 : decode cX6_letterBehindCells 52 = .ok (.aload_n 0, 1) := by decide +kernel
theorem dX6_letterBehindCells_53 : decode cX6_letterBehindCells 53 = .ok (.getfield 33, 3) := by decide +kernel
theorem dX6_letterBehindCells_56 : decode cX6_letterBehindCells 56 = .ok (.getfield 167, 3) := by decide +kernel
theorem dX6_letterBehindCells_59 : decode cX6_letterBehindCells 59 = .ok (.invokestatic 219, 3) := by decide +kernel
theorem dX6_letterBehindCells_62 : decode cX6_letterBehindCells 62 = .ok (.iadd, 1) := by decide +kernel
theorem dX6_letterBehindCells_63 : decode cX6_letterBehindCells 63 = .ok (.istore_n 3, 1) := by decide +kernel
theorem dX6_letterBehindCells_64 : decode cX6_letterBehindCells 64 = .ok (.iload_n 1, 1) := by decide +kernel
theorem dX6_letterBehindCells_65 : decode cX6_letterBehindCells 65 = .ok (.iload_n 3, 1) := by decide +kernel
theorem dX6_letterBehindCells_66 : decode cX6_letterBehindCells 66 = .ok (.if_icmp .ge 21, 3) := by decide +kernel
theorem dX6_letterBehindCells_69 : decode cX6_letterBehindCells 69 = .ok (.aload_n 0, 1) := by decide +kernel
theorem dX6_letterBehindCells_70 : decode cX6_letterBehindCells 70 = .ok (.getfield 33, 3) := by decide +kernel
theorem dX6_letterBehindCells_73 : decode cX6_letterBehindCells 73 = .ok (.getfield 167, 3) := by decide +kernel
theorem dX6_letterBehindCells_76 : decode cX6_letterBehindCells 76 = .ok (.iload_n 3, 1) := by decide +kernel
theorem dX6_letterBehindCells_77 : decode cX6_letterBehindCells 77 = .ok (.iconst 1, 1) := by decide +kernel
theorem dX6_letterBehindCells_78 : decode cX6_letterBehindCells 78 = .ok (.isub, 1) := by decide +kernel
theorem dX6_letterBehindCells_79 : decode cX6_letterBehindCells 79 = .ok (.iload_n 1, 1) := by decide +kernel
theorem dX6_letterBehindCells_80 : decode cX6_letterBehindCells 80 = .ok (.isub, 1) := by decide +kernel
theorem dX6_letterBehindCells_81 : decode cX6_letterBehindCells 81 = .ok (.invokestatic 222, 3) := by decide +kernel
theorem dX6_letterBehindCells_84 : decode cX6_letterBehindCells 84 = .ok (.goto 5, 3) := by decide +kernel
theorem dX6_letterBehindCells_87 : decode cX6_letterBehindCells 87 = .ok (.bipush (-4), 2) := by decide +kernel
theorem dX6_letterBehindCells_89 : decode cX6_letterBehindCells 89 = .ok (.ireturn, 1) := by decide +kernel
theorem dX6_figuresOf_0 : decode cX6_figuresOf 0 = .ok (.iload_n 0, 1) := by decide +kernel
theorem dX6_figuresOf_1 : decode cX6_figuresOf 1 = .ok (.bipush 10, 2) := by decide +kernel
theorem dX6_figuresOf_3 : decode cX6_figuresOf 3 = .ok (.if_icmp .ge 7, 3) := by decide +kernel
theorem dX6_figuresOf_6 : decode cX6_figuresOf 6 = .ok (.iconst 1, 1) := by decide +kernel
theorem dX6_figuresOf_7 : decode cX6_figuresOf 7 = .ok (.goto 4, 3) := by decide +kernel
theorem dX6_figuresOf_10 : decode cX6_figuresOf 10 = .ok (.iconst 2, 1) := by decide +kernel
theorem dX6_figuresOf_11 : decode cX6_figuresOf 11 = .ok (.ireturn, 1) := by decide +kernel
theorem dX6_figureOf_0 : decode cX6_figureOf 0 = .ok (.bipush 48, 2) := by decide +kernel
theorem dX6_figureOf_2 : decode cX6_figureOf 2 = .ok (.iload_n 1, 1) := by decide +kernel
theorem dX6_figureOf_3 : decode cX6_figureOf 3 = .ok (.ifCond .ne 10, 3) := by decide +kernel
theorem dX6_figureOf_6 : decode cX6_figureOf 6 = .ok (.iload_n 0, 1) := by decide +kernel
theorem dX6_figureOf_7 : decode cX6_figureOf 7 = .ok (.bipush 10, 2) := by decide +kernel
theorem dX6_figureOf_9 : decode cX6_figureOf 9 = .ok (.irem, 1) := by decide +kernel
theorem dX6_figureOf_10 : decode cX6_figureOf 10 = .ok (.goto 7, 3) := by decide +kernel
theorem dX6_figureOf_13 : decode cX6_figureOf 13 = .ok (.iload_n 0, 1) := by decide +kernel
theorem dX6_figureOf_14 : decode cX6_figureOf 14 = .ok (.bipush 10, 2) := by decide +kernel
theorem dX6_figureOf_16 : decode cX6_figureOf 16 = .ok (.idiv, 1) := by decide +kernel
theorem dX6_figureOf_17 : decode cX6_figureOf 17 = .ok (.iadd, 1) := by decide +kernel
theorem dX6_figureOf_18 : decode cX6_figureOf 18 = .ok (.ireturn, 1) := by decide +kernel
theorem dX6_isPower_0 : decode cX6_isPower 0 = .ok (.iload_n 0, 1) := by decide +kernel
theorem dX6_isPower_1 : decode cX6_isPower 1 = .ok (.ifCond .lt 13, 3) := by decide +kernel
theorem dX6_isPower_4 : decode cX6_isPower 4 = .ok (.iload_n 0, 1) := by decide +kernel
theorem dX6_isPower_5 : decode cX6_isPower 5 = .ok (.bipush 99, 2) := by decide +kernel
theorem dX6_isPower_7 : decode cX6_isPower 7 = .ok (.if_icmp .gt 7, 3) := by decide +kernel
theorem dX6_isPower_10 : decode cX6_isPower 10 = .ok (.iconst 1, 1) := by decide +kernel
theorem dX6_isPower_11 : decode cX6_isPower 11 = .ok (.goto 4, 3) := by decide +kernel
theorem dX6_isPower_14 : decode cX6_isPower 14 = .ok (.iconst 0, 1) := by decide +kernel
theorem dX6_isPower_15 : decode cX6_isPower 15 = .ok (.ireturn, 1) := by decide +kernel
theorem dX6_isLook_0 : decode cX6_isLook 0 = .ok (.iload_n 0, 1) := by decide +kernel
theorem dX6_isLook_1 : decode cX6_isLook 1 = .ok (.ifCond .lt 30, 3) := by decide +kernel
theorem dX6_isLook_4 : decode cX6_isLook 4 = .ok (.iload_n 0, 1) := by decide +kernel
theorem dX6_isLook_5 : decode cX6_isLook 5 = .ok (.iconst 4, 1) := by decide +kernel
theorem dX6_isLook_6 : decode cX6_isLook 6 = .ok (.if_icmp .gt 25, 3) := by decide +kernel
theorem dX6_isLook_9 : decode cX6_isLook 9 = .ok (.iload_n 1, 1) := by decide +kernel
theorem dX6_isLook_10 : decode cX6_isLook 10 = .ok (.getstatic 225, 3) := by decide +kernel
theorem dX6_isLook_13 : decode cX6_isLook 13 = .ok (.iload_n 0, 1) := by decide +kernel
theorem dX6_isLook_14 : decode cX6_isLook 14 = .ok (.iaload, 1) := by decide +kernel
theorem dX6_isLook_15 : decode cX6_isLook 15 = .ok (.if_icmp .lt 16, 3) := by decide +kernel
theorem dX6_isLook_18 : decode cX6_isLook 18 = .ok (.iload_n 1, 1) := by decide +kernel
theorem dX6_isLook_19 : decode cX6_isLook 19 = .ok (.getstatic 228, 3) := by decide +kernel
theorem dX6_isLook_22 : decode cX6_isLook 22 = .ok (.iload_n 0, 1) := by decide +kernel
theorem dX6_isLook_23 : decode cX6_isLook 23 = .ok (.iaload, 1) := by decide +kernel
theorem dX6_isLook_24 : decode cX6_isLook 24 = .ok (.if_icmp .gt 7, 3) := by decide +kernel
theorem dX6_isLook_27 : decode cX6_isLook 27 = .ok (.iconst 1, 1) := by decide +kernel
theorem dX6_isLook_28 : decode cX6_isLook 28 = .ok (.goto 4, 3) := by decide +kernel
theorem dX6_isLook_31 : decode cX6_isLook 31 = .ok (.iconst 0, 1) := by decide +kernel
theorem dX6_isLook_32 : decode cX6_isLook 32 = .ok (.ireturn, 1) := by decide +kernel
theorem dX6_commonDivisor_0 : decode cX6_commonDivisor 0 = .ok (.lload_n 0, 1) := by decide +kernel
theorem dX6_commonDivisor_1 : decode cX6_commonDivisor 1 = .ok (.lstore 4, 2) := by decide +kernel
theorem dX6_commonDivisor_3 : decode cX6_commonDivisor 3 = .ok (.lload_n 2, 1) := by decide +kernel
theorem dX6_commonDivisor_4 : decode cX6_commonDivisor 4 = .ok (.lstore 6, 2) := by decide +kernel
theorem dX6_commonDivisor_6 : decode cX6_commonDivisor 6 = .ok (.iconst 0, 1) := by decide +kernel
theorem dX6_commonDivisor_7 : decode cX6_commonDivisor 7 = .ok (.istore 8, 2) := by decide +kernel
theorem dX6_commonDivisor_9 : decode cX6_commonDivisor 9 = .ok (.iload 8, 2) := by decide +kernel
theorem dX6_commonDivisor_11 : decode cX6_commonDivisor 11 = .ok (.sipush 200, 3) := by decide +kernel
theorem dX6_commonDivisor_14 : decode cX6_commonDivisor 14 = .ok (.if_icmp .ge 31, 3) := by decide +kernel
theorem dX6_commonDivisor_17 : decode cX6_commonDivisor 17 = .ok (.lload 6, 2) := by decide +kernel
theorem dX6_commonDivisor_19 : decode cX6_commonDivisor 19 = .ok (.lconst 0, 1) := by decide +kernel
theorem dX6_commonDivisor_20 : decode cX6_commonDivisor 20 = .ok (.lcmp, 1) := by decide +kernel
theorem dX6_commonDivisor_21 : decode cX6_commonDivisor 21 = .ok (.ifCond .eq 24, 3) := by decide +kernel
theorem dX6_commonDivisor_24 : decode cX6_commonDivisor 24 = .ok (.lload 4, 2) := by decide +kernel
theorem dX6_commonDivisor_26 : decode cX6_commonDivisor 26 = .ok (.lload 6, 2) := by decide +kernel
theorem dX6_commonDivisor_28 : decode cX6_commonDivisor 28 = .ok (.lrem, 1) := by decide +kernel
theorem dX6_commonDivisor_29 : decode cX6_commonDivisor 29 = .ok (.lstore 9, 2) := by decide +kernel
theorem dX6_commonDivisor_31 : decode cX6_commonDivisor 31 = .ok (.lload 6, 2) := by decide +kernel
theorem dX6_commonDivisor_33 : decode cX6_commonDivisor 33 = .ok (.lstore 4, 2) := by decide +kernel
theorem dX6_commonDivisor_35 : decode cX6_commonDivisor 35 = .ok (.lload 9, 2) := by decide +kernel
theorem dX6_commonDivisor_37 : decode cX6_commonDivisor 37 = .ok (.lstore 6, 2) := by decide +kernel
theorem dX6_commonDivisor_39 : decode cX6_commonDivisor 39 = .ok (.iinc 8 1, 3) := by decide +kernel
theorem dX6_commonDivisor_42 : decode cX6_commonDivisor 42 = .ok (.goto (-33), 3) := by decide +kernel
theorem dX6_commonDivisor_45 : decode cX6_commonDivisor 45 = .ok (.lload 4, 2) := by decide +kernel
theorem dX6_commonDivisor_47 : decode cX6_commonDivisor 47 = .ok (.lreturn, 1) := by decide +kernel
theorem dX6_productIsNoMore_0 : decode cX6_productIsNoMore 0 = .ok (.bipush 26, 2) := by decide +kernel
theorem dX6_productIsNoMore_2 : decode cX6_productIsNoMore 2 = .ok (.istore 8, 2) := by decide +kernel
theorem dX6_productIsNoMore_4 : decode cX6_productIsNoMore 4 = .ok (.lconst 1, 1) := by decide +kernel
theorem dX6_productIsNoMore_5 : decode cX6_productIsNoMore 5 = .ok (.iload 8, 2) := by decide +kernel
theorem dX6_productIsNoMore_7 : decode cX6_productIsNoMore 7 = .ok (.lshl, 1) := by decide +kernel
theorem dX6_productIsNoMore_8 : decode cX6_productIsNoMore 8 = .ok (.lconst 1, 1) := by decide +kernel
theorem dX6_productIsNoMore_9 : decode cX6_productIsNoMore 9 = .ok (.lsub, 1) := by decide +kernel
theorem dX6_productIsNoMore_10 : decode cX6_productIsNoMore 10 = .ok (.lstore 9, 2) := by decide +kernel
theorem dX6_productIsNoMore_12 : decode cX6_productIsNoMore 12 = .ok (.lload_n 0, 1) := by decide +kernel
theorem dX6_productIsNoMore_13 : decode cX6_productIsNoMore 13 = .ok (.lload 9, 2) := by decide +kernel
theorem dX6_productIsNoMore_15 : decode cX6_productIsNoMore 15 = .ok (.land, 1) := by decide +kernel
theorem dX6_productIsNoMore_16 : decode cX6_productIsNoMore 16 = .ok (.lload_n 2, 1) := by decide +kernel
theorem dX6_productIsNoMore_17 : decode cX6_productIsNoMore 17 = .ok (.lmul, 1) := by decide +kernel
theorem dX6_productIsNoMore_18 : decode cX6_productIsNoMore 18 = .ok (.lstore 11, 2) := by decide +kernel
theorem dX6_productIsNoMore_20 : decode cX6_productIsNoMore 20 = .ok (.lload_n 0, 1) := by decide +kernel
theorem dX6_productIsNoMore_21 : decode cX6_productIsNoMore 21 = .ok (.iload 8, 2) := by decide +kernel
theorem dX6_productIsNoMore_23 : decode cX6_productIsNoMore 23 = .ok (.lshr, 1) := by decide +kernel
theorem dX6_productIsNoMore_24 : decode cX6_productIsNoMore 24 = .ok (.lload_n 2, 1) := by decide +kernel
theorem dX6_productIsNoMore_25 : decode cX6_productIsNoMore 25 = .ok (.lmul, 1) := by decide +kernel
theorem dX6_productIsNoMore_26 : decode cX6_productIsNoMore 26 = .ok (.lload 11, 2) := by decide +kernel
theorem dX6_productIsNoMore_28 : decode cX6_productIsNoMore 28 = .ok (.iload 8, 2) := by decide +kernel
theorem dX6_productIsNoMore_30 : decode cX6_productIsNoMore 30 = .ok (.lshr, 1) := by decide +kernel
theorem dX6_productIsNoMore_31 : decode cX6_productIsNoMore 31 = .ok (.ladd, 1) := by decide +kernel
theorem dX6_productIsNoMore_32 : decode cX6_productIsNoMore 32 = .ok (.lstore 13, 2) := by decide +kernel
theorem dX6_productIsNoMore_34 : decode cX6_productIsNoMore 34 = .ok (.lload 4, 2) := by decide +kernel
theorem dX6_productIsNoMore_36 : decode cX6_productIsNoMore 36 = .ok (.lload 9, 2) := by decide +kernel
theorem dX6_productIsNoMore_38 : decode cX6_productIsNoMore 38 = .ok (.land, 1) := by decide +kernel
theorem dX6_productIsNoMore_39 : decode cX6_productIsNoMore 39 = .ok (.lload 6, 2) := by decide +kernel
theorem dX6_productIsNoMore_41 : decode cX6_productIsNoMore 41 = .ok (.lmul, 1) := by decide +kernel
theorem dX6_productIsNoMore_42 : decode cX6_productIsNoMore 42 = .ok (.lstore 15, 2) := by decide +kernel
theorem dX6_productIsNoMore_44 : decode cX6_productIsNoMore 44 = .ok (.lload 4, 2) := by decide +kernel
theorem dX6_productIsNoMore_46 : decode cX6_productIsNoMore 46 = .ok (.iload 8, 2) := by decide +kernel
theorem dX6_productIsNoMore_48 : decode cX6_productIsNoMore 48 = .ok (.lshr, 1) := by decide +kernel
theorem dX6_productIsNoMore_49 : decode cX6_productIsNoMore 49 = .ok (.lload 6, 2) := by decide +kernel
theorem dX6_productIsNoMore_51 : decode cX6_productIsNoMore 51 = .ok (.lmul, 1) := by decide +kernel
theorem dX6_productIsNoMore_52 : decode cX6_productIsNoMore 52 = .ok (.lload 15, 2) := by decide +kernel
theorem dX6_productIsNoMore_54 : decode cX6_productIsNoMore 54 = .ok (.iload 8, 2) := by decide +kernel
theorem dX6_productIsNoMore_56 : decode cX6_productIsNoMore 56 = .ok (.lshr, 1) := by decide +kernel
theorem dX6_productIsNoMore_57 : decode cX6_productIsNoMore 57 = .ok (.ladd, 1) := by decide +kernel
theorem dX6_productIsNoMore_58 : decode cX6_productIsNoMore 58 = .ok (.lstore 17, 2) := by decide +kernel
theorem dX6_productIsNoMore_60 : decode cX6_productIsNoMore 60 = .ok (.lload 13, 2) := by decide +kernel
theorem dX6_productIsNoMore_62 : decode cX6_productIsNoMore 62 = .ok (.lload 17, 2) := by decide +kernel
theorem dX6_productIsNoMore_64 : decode cX6_productIsNoMore 64 = .ok (.lcmp, 1) := by decide +kernel
theorem dX6_productIsNoMore_65 : decode cX6_productIsNoMore 65 = .ok (.ifCond .eq 17, 3) := by decide +kernel
theorem dX6_productIsNoMore_68 : decode cX6_productIsNoMore 68 = .ok (.lload 13, 2) := by decide +kernel
theorem dX6_productIsNoMore_70 : decode cX6_productIsNoMore 70 = .ok (.lload 17, 2) := by decide +kernel
theorem dX6_productIsNoMore_72 : decode cX6_productIsNoMore 72 = .ok (.lcmp, 1) := by decide +kernel
theorem dX6_productIsNoMore_73 : decode cX6_productIsNoMore 73 = .ok (.ifCond .ge 7, 3) := by decide +kernel
theorem dX6_productIsNoMore_76 : decode cX6_productIsNoMore 76 = .ok (.iconst 1, 1) := by decide +kernel
theorem dX6_productIsNoMore_77 : decode cX6_productIsNoMore 77 = .ok (.goto 4, 3) := by decide +kernel
theorem dX6_productIsNoMore_80 : decode cX6_productIsNoMore 80 = .ok (.iconst 0, 1) := by decide +kernel
theorem dX6_productIsNoMore_81 : decode cX6_productIsNoMore 81 = .ok (.ireturn, 1) := by decide +kernel
theorem dX6_productIsNoMore_82 : decode cX6_productIsNoMore 82 = .ok (.lload 11, 2) := by decide +kernel
theorem dX6_productIsNoMore_84 : decode cX6_productIsNoMore 84 = .ok (.lload 9, 2) := by decide +kernel
theorem dX6_productIsNoMore_86 : decode cX6_productIsNoMore 86 = .ok (.land, 1) := by decide +kernel
theorem dX6_productIsNoMore_87 : decode cX6_productIsNoMore 87 = .ok (.lload 15, 2) := by decide +kernel
theorem dX6_productIsNoMore_89 : decode cX6_productIsNoMore 89 = .ok (.lload 9, 2) := by decide +kernel
theorem dX6_productIsNoMore_91 : decode cX6_productIsNoMore 91 = .ok (.land, 1) := by decide +kernel
theorem dX6_productIsNoMore_92 : decode cX6_productIsNoMore 92 = .ok (.lcmp, 1) := by decide +kernel
theorem dX6_productIsNoMore_93 : decode cX6_productIsNoMore 93 = .ok (.ifCond .gt 7, 3) := by decide +kernel
theorem dX6_productIsNoMore_96 : decode cX6_productIsNoMore 96 = .ok (.iconst 1, 1) := by decide +kernel
theorem dX6_productIsNoMore_97 : decode cX6_productIsNoMore 97 = .ok (.goto 4, 3) := by decide +kernel
theorem dX6_productIsNoMore_100 : decode cX6_productIsNoMore 100 = .ok (.iconst 0, 1) := by decide +kernel
theorem dX6_productIsNoMore_101 : decode cX6_productIsNoMore 101 = .ok (.ireturn, 1) := by decide +kernel
theorem dJ9_max_7cf53_0 : decode cJ9_max_7cf53 0 = .ok (.iload_n 0, 1) := by decide +kernel
theorem dJ9_max_7cf53_1 : decode cJ9_max_7cf53 1 = .ok (.iload_n 1, 1) := by decide +kernel
theorem dJ9_max_7cf53_2 : decode cJ9_max_7cf53 2 = .ok (.if_icmp .lt 7, 3) := by decide +kernel
theorem dJ9_max_7cf53_5 : decode cJ9_max_7cf53 5 = .ok (.iload_n 0, 1) := by decide +kernel
theorem dJ9_max_7cf53_6 : decode cJ9_max_7cf53 6 = .ok (.goto 4, 3) := by decide +kernel
theorem dJ9_max_7cf53_9 : decode cJ9_max_7cf53 9 = .ok (.iload_n 1, 1) := by decide +kernel
theorem dJ9_max_7cf53_10 : decode cJ9_max_7cf53 10 = .ok (.ireturn, 1) := by decide +kernel
theorem dJ9_min_7cf53_0 : decode cJ9_min_7cf53 0 = .ok (.iload_n 0, 1) := by decide +kernel
theorem dJ9_min_7cf53_1 : decode cJ9_min_7cf53 1 = .ok (.iload_n 1, 1) := by decide +kernel
theorem dJ9_min_7cf53_2 : decode cJ9_min_7cf53 2 = .ok (.if_icmp .gt 7, 3) := by decide +kernel
theorem dJ9_min_7cf53_5 : decode cJ9_min_7cf53 5 = .ok (.iload_n 0, 1) := by decide +kernel
theorem dJ9_min_7cf53_6 : decode cJ9_min_7cf53 6 = .ok (.goto 4, 3) := by decide +kernel
theorem dJ9_min_7cf53_9 : decode cJ9_min_7cf53 9 = .ok (.iload_n 1, 1) := by decide +kernel
theorem dJ9_min_7cf53_10 : decode cJ9_min_7cf53 10 = .ok (.ireturn, 1) := by decide +kernel
theorem dJ0_length_8abf5_0 : decode cJ0_length_8abf5 0 = .ok (.aload_n 0, 1) := by decide +kernel
theorem dJ0_length_8abf5_1 : decode cJ0_length_8abf5 1 = .ok (.getfield 9, 3) := by decide +kernel
theorem dJ0_length_8abf5_4 : decode cJ0_length_8abf5 4 = .ok (.arraylength, 1) := by decide +kernel
theorem dJ0_length_8abf5_5 : decode cJ0_length_8abf5 5 = .ok (.aload_n 0, 1) := by decide +kernel
theorem dJ0_length_8abf5_6 : decode cJ0_length_8abf5 6 = .ok (.invokevirtual 335, 3) := by decide +kernel
theorem dJ0_length_8abf5_9 : decode cJ0_length_8abf5 9 = .ok (.ishr, 1) := by decide +kernel
theorem dJ0_length_8abf5_10 : decode cJ0_length_8abf5 10 = .ok (.ireturn, 1) := by decide +kernel
theorem dJ0_charAt_5068e_0 : decode cJ0_charAt_5068e 0 = .ok (.aload_n 0, 1) := by decide +kernel
theorem dJ0_charAt_5068e_1 : decode cJ0_charAt_5068e 1 = .ok (.invokevirtual 492, 3) := by decide +kernel
theorem dJ0_charAt_5068e_4 : decode cJ0_charAt_5068e 4 = .ok (.ifCond .eq 12, 3) := by decide +kernel
theorem dJ0_charAt_5068e_7 : decode cJ0_charAt_5068e 7 = .ok (.aload_n 0, 1) := by decide +kernel
theorem dJ0_charAt_5068e_8 : decode cJ0_charAt_5068e 8 = .ok (.getfield 9, 3) := by decide +kernel
theorem dJ0_charAt_5068e_11 : decode cJ0_charAt_5068e 11 = .ok (.iload_n 1, 1) := by decide +kernel
theorem dJ0_charAt_5068e_12 : decode cJ0_charAt_5068e 12 = .ok (.invokestatic 495, 3) := by decide +kernel
theorem dJ0_charAt_5068e_15 : decode cJ0_charAt_5068e 15 = .ok (.ireturn, 1) := by decide +kernel
theorem dJ0_charAt_5068e_16 : decode cJ0_charAt_5068e 16 = .ok (.aload_n 0, 1) := by decide +kernel
theorem dJ0_charAt_5068e_17 : decode cJ0_charAt_5068e 17 = .ok (.getfield 9, 3) := by decide +kernel
theorem dJ0_charAt_5068e_20 : decode cJ0_charAt_5068e 20 = .ok (.iload_n 1, 1) := by decide +kernel
theorem dJ0_charAt_5068e_21 : decode cJ0_charAt_5068e 21 = .ok (.invokestatic 498, 3) := by decide +kernel
theorem dJ0_charAt_5068e_24 : decode cJ0_charAt_5068e 24 = .ok (.ireturn, 1) := by decide +kernel
theorem dJ0_coder_7d493_0 : decode cJ0_coder_7d493 0 = .ok (.getstatic 38, 3) := by decide +kernel
theorem dJ0_coder_7d493_3 : decode cJ0_coder_7d493 3 = .ok (.ifCond .eq 10, 3) := by decide +kernel
theorem dJ0_coder_7d493_6 : decode cJ0_coder_7d493 6 = .ok (.aload_n 0, 1) := by decide +kernel
theorem dJ0_coder_7d493_7 : decode cJ0_coder_7d493 7 = .ok (.getfield 15, 3) := by decide +kernel
theorem dJ0_coder_7d493_10 : decode cJ0_coder_7d493 10 = .ok (.goto 4, 3) := by decide +kernel
theorem dJ0_coder_7d493_13 : decode cJ0_coder_7d493 13 = .ok (.iconst 1, 1) := by decide +kernel
theorem dJ0_coder_7d493_14 : decode cJ0_coder_7d493 14 = .ok (.ireturn, 1) := by decide +kernel
theorem dJ0_isLatin1_aae02_0 : decode cJ0_isLatin1_aae02 0 = .ok (.getstatic 38, 3) := by decide +kernel
theorem dJ0_isLatin1_aae02_3 : decode cJ0_isLatin1_aae02 3 = .ok (.ifCond .eq 14, 3) := by decide +kernel
theorem dJ0_isLatin1_aae02_6 : decode cJ0_isLatin1_aae02 6 = .ok (.aload_n 0, 1) := by decide +kernel
theorem dJ0_isLatin1_aae02_7 : decode cJ0_isLatin1_aae02 7 = .ok (.getfield 15, 3) := by decide +kernel
theorem dJ0_isLatin1_aae02_10 : decode cJ0_isLatin1_aae02 10 = .ok (.ifCond .ne 7, 3) := by decide +kernel
theorem dJ0_isLatin1_aae02_13 : decode cJ0_isLatin1_aae02 13 = .ok (.iconst 1, 1) := by decide +kernel
theorem dJ0_isLatin1_aae02_14 : decode cJ0_isLatin1_aae02 14 = .ok (.goto 4, 3) := by decide +kernel
theorem dJ0_isLatin1_aae02_17 : decode cJ0_isLatin1_aae02 17 = .ok (.iconst 0, 1) := by decide +kernel
theorem dJ0_isLatin1_aae02_18 : decode cJ0_isLatin1_aae02 18 = .ok (.ireturn, 1) := by decide +kernel
theorem dJ0_checkIndex_df160_0 : decode cJ0_checkIndex_df160 0 = .ok (.iload_n 0, 1) := by decide +kernel
theorem dJ0_checkIndex_df160_1 : decode cJ0_checkIndex_df160 1 = .ok (.iload_n 1, 1) := by decide +kernel
theorem dJ0_checkIndex_df160_2 : decode cJ0_checkIndex_df160 2 = .ok (.getstatic 1053, 3) := by decide +kernel
theorem dJ0_checkIndex_df160_5 : decode cJ0_checkIndex_df160 5 = .ok (.invokestatic 1059, 3) := by decide +kernel
theorem dJ0_checkIndex_df160_8 : decode cJ0_checkIndex_df160 8 = .ok (.pop, 1) := by decide +kernel
theorem dJ0_checkIndex_df160_9 : decode cJ0_checkIndex_df160 9 = .ok (.return_, 1) := by decide +kernel
theorem dJ1_charAt_3b067_0 : decode cJ1_charAt_3b067 0 = .ok (.iload_n 1, 1) := by decide +kernel
theorem dJ1_charAt_3b067_1 : decode cJ1_charAt_3b067 1 = .ok (.aload_n 0, 1) := by decide +kernel
theorem dJ1_charAt_3b067_2 : decode cJ1_charAt_3b067 2 = .ok (.arraylength, 1) := by decide +kernel
theorem dJ1_charAt_3b067_3 : decode cJ1_charAt_3b067 3 = .ok (.invokestatic 9, 3) := by decide +kernel
theorem dJ1_charAt_3b067_6 : decode cJ1_charAt_3b067 6 = .ok (.aload_n 0, 1) := by decide +kernel
theorem dJ1_charAt_3b067_7 : decode cJ1_charAt_3b067 7 = .ok (.iload_n 1, 1) := by decide +kernel
theorem dJ1_charAt_3b067_8 : decode cJ1_charAt_3b067 8 = .ok (.baload, 1) := by decide +kernel
theorem dJ1_charAt_3b067_9 : decode cJ1_charAt_3b067 9 = .ok (.sipush 255, 3) := by decide +kernel
theorem dJ1_charAt_3b067_12 : decode cJ1_charAt_3b067 12 = .ok (.iand, 1) := by decide +kernel
theorem dJ1_charAt_3b067_13 : decode cJ1_charAt_3b067 13 = .ok (.i2c, 1) := by decide +kernel
theorem dJ1_charAt_3b067_14 : decode cJ1_charAt_3b067 14 = .ok (.ireturn, 1) := by decide +kernel
theorem dJ2_getChar_3b067_0 : decode cJ2_getChar_3b067 0 = .ok (.getstatic 44, 3) := by decide +kernel
theorem dJ2_getChar_3b067_3 : decode cJ2_getChar_3b067 3 = .ok (.ifCond .ne 25, 3) := by decide +kernel
theorem dJ2_getChar_3b067_6 : decode cJ2_getChar_3b067 6 = .ok (.iload_n 1, 1) := by decide +kernel
theorem dJ2_getChar_3b067_7 : decode cJ2_getChar_3b067 7 = .ok (.ifCond .lt 11, 3) := by decide +kernel
theorem dJ2_getChar_3b067_10 : decode cJ2_getChar_3b067 10 = .ok (.iload_n 1, 1) := by decide +kernel
theorem dJ2_getChar_3b067_11 : decode cJ2_getChar_3b067 11 = .ok (.aload_n 0, 1) := by decide +kernel
theorem dJ2_getChar_3b067_12 : decode cJ2_getChar_3b067 12 = .ok (.invokestatic 48, 3) := by decide +kernel
theorem dJ2_getChar_3b067_15 : decode cJ2_getChar_3b067 15 = .ok (.if_icmp .lt 13, 3) := by decide +kernel
theorem dJ2_getChar_3b067_18 : decode cJ2_getChar_3b067 18 = .ok (.new 52, 3) := by decide +kernel
theorem dJ2_getChar_3b067_21 : decode cJ2_getChar_3b067 21 = .ok (.dup, 1) := by decide +kernel
theorem dJ2_getChar_3b067_22 : decode cJ2_getChar_3b067 22 = .ok (.ldc 54, 2) := by decide +kernel
theorem dJ2_getChar_3b067_24 : decode cJ2_getChar_3b067 24 = .ok (.invokespecial 56, 3) := by decide +kernel
theorem dJ2_getChar_3b067_27 : decode cJ2_getChar_3b067 27 = .ok (.athrow, 1) := by decide +kernel
theorem dJ2_getChar_3b067_28 : decode cJ2_getChar_3b067 28 = .ok (.iload_n 1, 1) := by decide +kernel
theorem dJ2_getChar_3b067_29 : decode cJ2_getChar_3b067 29 = .ok (.iconst 1, 1) := by decide +kernel
theorem dJ2_getChar_3b067_30 : decode cJ2_getChar_3b067 30 = .ok (.ishl, 1) := by decide +kernel
theorem dJ2_getChar_3b067_31 : decode cJ2_getChar_3b067 31 = .ok (.istore_n 1, 1) := by decide +kernel
theorem dJ2_getChar_3b067_32 : decode cJ2_getChar_3b067 32 = .ok (.aload_n 0, 1) := by decide +kernel
theorem dJ2_getChar_3b067_33 : decode cJ2_getChar_3b067 33 = .ok (.iload_n 1, 1) := by decide +kernel
theorem dJ2_getChar_3b067_34 : decode cJ2_getChar_3b067 34 = .ok (.iinc 1 1, 3) := by decide +kernel
theorem dJ2_getChar_3b067_37 : decode cJ2_getChar_3b067 37 = .ok (.baload, 1) := by decide +kernel
theorem dJ2_getChar_3b067_38 : decode cJ2_getChar_3b067 38 = .ok (.sipush 255, 3) := by decide +kernel
theorem dJ2_getChar_3b067_41 : decode cJ2_getChar_3b067 41 = .ok (.iand, 1) := by decide +kernel
theorem dJ2_getChar_3b067_42 : decode cJ2_getChar_3b067 42 = .ok (.getstatic 59, 3) := by decide +kernel
theorem dJ2_getChar_3b067_45 : decode cJ2_getChar_3b067 45 = .ok (.ishl, 1) := by decide +kernel
theorem dJ2_getChar_3b067_46 : decode cJ2_getChar_3b067 46 = .ok (.aload_n 0, 1) := by decide +kernel
theorem dJ2_getChar_3b067_47 : decode cJ2_getChar_3b067 47 = .ok (.iload_n 1, 1) := by decide +kernel
theorem dJ2_getChar_3b067_48 : decode cJ2_getChar_3b067 48 = .ok (.baload, 1) := by decide +kernel
theorem dJ2_getChar_3b067_49 : decode cJ2_getChar_3b067 49 = .ok (.sipush 255, 3) := by decide +kernel
theorem dJ2_getChar_3b067_52 : decode cJ2_getChar_3b067 52 = .ok (.iand, 1) := by decide +kernel
theorem dJ2_getChar_3b067_53 : decode cJ2_getChar_3b067 53 = .ok (.getstatic 63, 3) := by decide +kernel
theorem dJ2_getChar_3b067_56 : decode cJ2_getChar_3b067 56 = .ok (.ishl, 1) := by decide +kernel
theorem dJ2_getChar_3b067_57 : decode cJ2_getChar_3b067 57 = .ok (.ior, 1) := by decide +kernel
theorem dJ2_getChar_3b067_58 : decode cJ2_getChar_3b067 58 = .ok (.i2c, 1) := by decide +kernel
theorem dJ2_getChar_3b067_59 : decode cJ2_getChar_3b067 59 = .ok (.ireturn, 1) := by decide +kernel
theorem dJ2_length_9d52b_0 : decode cJ2_length_9d52b 0 = .ok (.aload_n 0, 1) := by decide +kernel
theorem dJ2_length_9d52b_1 : decode cJ2_length_9d52b 1 = .ok (.arraylength, 1) := by decide +kernel
theorem dJ2_length_9d52b_2 : decode cJ2_length_9d52b 2 = .ok (.iconst 1, 1) := by decide +kernel
theorem dJ2_length_9d52b_3 : decode cJ2_length_9d52b 3 = .ok (.ishr, 1) := by decide +kernel
theorem dJ2_length_9d52b_4 : decode cJ2_length_9d52b 4 = .ok (.ireturn, 1) := by decide +kernel
theorem dJ2_charAt_3b067_0 : decode cJ2_charAt_3b067 0 = .ok (.iload_n 1, 1) := by decide +kernel
theorem dJ2_charAt_3b067_1 : decode cJ2_charAt_3b067 1 = .ok (.aload_n 0, 1) := by decide +kernel
theorem dJ2_charAt_3b067_2 : decode cJ2_charAt_3b067 2 = .ok (.invokestatic 67, 3) := by decide +kernel
theorem dJ2_charAt_3b067_5 : decode cJ2_charAt_3b067 5 = .ok (.aload_n 0, 1) := by decide +kernel
theorem dJ2_charAt_3b067_6 : decode cJ2_charAt_3b067 6 = .ok (.iload_n 1, 1) := by decide +kernel
theorem dJ2_charAt_3b067_7 : decode cJ2_charAt_3b067 7 = .ok (.invokestatic 71, 3) := by decide +kernel
theorem dJ2_charAt_3b067_10 : decode cJ2_charAt_3b067 10 = .ok (.ireturn, 1) := by decide +kernel
theorem dJ2_checkIndex_2214a_0 : decode cJ2_checkIndex_2214a 0 = .ok (.iload_n 0, 1) := by decide +kernel
theorem dJ2_checkIndex_2214a_1 : decode cJ2_checkIndex_2214a 1 = .ok (.aload_n 1, 1) := by decide +kernel
theorem dJ2_checkIndex_2214a_2 : decode cJ2_checkIndex_2214a 2 = .ok (.invokestatic 48, 3) := by decide +kernel
theorem dJ2_checkIndex_2214a_5 : decode cJ2_checkIndex_2214a 5 = .ok (.invokestatic 414, 3) := by decide +kernel
theorem dJ2_checkIndex_2214a_8 : decode cJ2_checkIndex_2214a 8 = .ok (.return_, 1) := by decide +kernel
theorem dJ7_fill_d0a16_0 : decode cJ7_fill_d0a16 0 = .ok (.iconst 0, 1) := by decide +kernel
theorem dJ7_fill_d0a16_1 : decode cJ7_fill_d0a16 1 = .ok (.istore_n 3, 1) := by decide +kernel
theorem dJ7_fill_d0a16_2 : decode cJ7_fill_d0a16 2 = .ok (.aload_n 0, 1) := by decide +kernel
theorem dJ7_fill_d0a16_3 : decode cJ7_fill_d0a16 3 = .ok (.arraylength, 1) := by decide +kernel
theorem dJ7_fill_d0a16_4 : decode cJ7_fill_d0a16 4 = .ok (.istore 4, 2) := by decide +kernel
theorem dJ7_fill_d0a16_6 : decode cJ7_fill_d0a16 6 = .ok (.iload_n 3, 1) := by decide +kernel
theorem dJ7_fill_d0a16_7 : decode cJ7_fill_d0a16 7 = .ok (.iload 4, 2) := by decide +kernel
theorem dJ7_fill_d0a16_9 : decode cJ7_fill_d0a16 9 = .ok (.if_icmp .ge 13, 3) := by decide +kernel
theorem dJ7_fill_d0a16_12 : decode cJ7_fill_d0a16 12 = .ok (.aload_n 0, 1) := by decide +kernel
theorem dJ7_fill_d0a16_13 : decode cJ7_fill_d0a16 13 = .ok (.iload_n 3, 1) := by decide +kernel
theorem dJ7_fill_d0a16_14 : decode cJ7_fill_d0a16 14 = .ok (.lload_n 1, 1) := by decide +kernel
theorem dJ7_fill_d0a16_15 : decode cJ7_fill_d0a16 15 = .ok (.lastore, 1) := by decide +kernel
theorem dJ7_fill_d0a16_16 : decode cJ7_fill_d0a16 16 = .ok (.iinc 3 1, 3) := by decide +kernel
theorem dJ7_fill_d0a16_19 : decode cJ7_fill_d0a16 19 = .ok (.goto (-13), 3) := by decide +kernel
theorem dJ7_fill_d0a16_22 : decode cJ7_fill_d0a16 22 = .ok (.return_, 1) := by decide +kernel
theorem dJ7_fill_53178_0 : decode cJ7_fill_53178 0 = .ok (.iconst 0, 1) := by decide +kernel
theorem dJ7_fill_53178_1 : decode cJ7_fill_53178 1 = .ok (.istore_n 2, 1) := by decide +kernel
theorem dJ7_fill_53178_2 : decode cJ7_fill_53178 2 = .ok (.aload_n 0, 1) := by decide +kernel
theorem dJ7_fill_53178_3 : decode cJ7_fill_53178 3 = .ok (.arraylength, 1) := by decide +kernel
theorem dJ7_fill_53178_4 : decode cJ7_fill_53178 4 = .ok (.istore_n 3, 1) := by decide +kernel
theorem dJ7_fill_53178_5 : decode cJ7_fill_53178 5 = .ok (.iload_n 2, 1) := by decide +kernel
theorem dJ7_fill_53178_6 : decode cJ7_fill_53178 6 = .ok (.iload_n 3, 1) := by decide +kernel
theorem dJ7_fill_53178_7 : decode cJ7_fill_53178 7 = .ok (.if_icmp .ge 13, 3) := by decide +kernel
theorem dJ7_fill_53178_10 : decode cJ7_fill_53178 10 = .ok (.aload_n 0, 1) := by decide +kernel
theorem dJ7_fill_53178_11 : decode cJ7_fill_53178 11 = .ok (.iload_n 2, 1) := by decide +kernel
theorem dJ7_fill_53178_12 : decode cJ7_fill_53178 12 = .ok (.iload_n 1, 1) := by decide +kernel
theorem dJ7_fill_53178_13 : decode cJ7_fill_53178 13 = .ok (.iastore, 1) := by decide +kernel
theorem dJ7_fill_53178_14 : decode cJ7_fill_53178 14 = .ok (.iinc 2 1, 3) := by decide +kernel
theorem dJ7_fill_53178_17 : decode cJ7_fill_53178 17 = .ok (.goto (-12), 3) := by decide +kernel
theorem dJ7_fill_53178_20 : decode cJ7_fill_53178 20 = .ok (.return_, 1) := by decide +kernel
theorem dJ3_checkIndex_8e157_0 : decode cJ3_checkIndex_8e157 0 = .ok (.iload_n 0, 1) := by decide +kernel
theorem dJ3_checkIndex_8e157_1 : decode cJ3_checkIndex_8e157 1 = .ok (.ifCond .lt 8, 3) := by decide +kernel
theorem dJ3_checkIndex_8e157_4 : decode cJ3_checkIndex_8e157 4 = .ok (.iload_n 0, 1) := by decide +kernel
theorem dJ3_checkIndex_8e157_5 : decode cJ3_checkIndex_8e157 5 = .ok (.iload_n 1, 1) := by decide +kernel
theorem dJ3_checkIndex_8e157_6 : decode cJ3_checkIndex_8e157 6 = .ok (.if_icmp .lt 10, 3) := by decide +kernel
theorem dJ3_checkIndex_8e157_9 : decode cJ3_checkIndex_8e157 9 = .ok (.aload_n 2, 1) := by decide +kernel
theorem dJ3_checkIndex_8e157_10 : decode cJ3_checkIndex_8e157 10 = .ok (.iload_n 0, 1) := by decide +kernel
theorem dJ3_checkIndex_8e157_11 : decode cJ3_checkIndex_8e157 11 = .ok (.iload_n 1, 1) := by decide +kernel
theorem dJ3_checkIndex_8e157_12 : decode cJ3_checkIndex_8e157 12 = .ok (.invokestatic 95, 3) := by decide +kernel
theorem dJ3_checkIndex_8e157_15 : decode cJ3_checkIndex_8e157 15 = .ok (.athrow, 1) := by decide +kernel
theorem dJ3_checkIndex_8e157_16 : decode cJ3_checkIndex_8e157 16 = .ok (.iload_n 0, 1) := by decide +kernel
theorem dJ3_checkIndex_8e157_17 : decode cJ3_checkIndex_8e157 17 = .ok (.ireturn, 1) := by decide +kernel
theorem dL_law_0 : decode cL_law 0 = .ok (.new 7, 3) := by decide +kernel
theorem dL_law_3 : decode cL_law 3 = .ok (.dup, 1) := by decide +kernel
theorem dL_law_4 : decode cL_law 4 = .ok (.invokespecial 9, 3) := by decide +kernel
theorem dL_law_7 : decode cL_law 7 = .ok (.astore_n 1, 1) := by decide +kernel
theorem dL_law_8 : decode cL_law 8 = .ok (.new 10, 3) := by decide +kernel
theorem dL_law_11 : decode cL_law 11 = .ok (.dup, 1) := by decide +kernel
theorem dL_law_12 : decode cL_law 12 = .ok (.invokespecial 12, 3) := by decide +kernel
theorem dL_law_15 : decode cL_law 15 = .ok (.astore_n 2, 1) := by decide +kernel
theorem dL_law_16 : decode cL_law 16 = .ok (.iconst 0, 1) := by decide +kernel
theorem dL_law_17 : decode cL_law 17 = .ok (.istore_n 3, 1) := by decide +kernel
theorem dL_law_18 : decode cL_law 18 = .ok (.iload_n 3, 1) := by decide +kernel
theorem dL_law_19 : decode cL_law 19 = .ok (.aload_n 0, 1) := by decide +kernel
theorem dL_law_20 : decode cL_law 20 = .ok (.arraylength, 1) := by decide +kernel
theorem dL_law_21 : decode cL_law 21 = .ok (.iconst 4, 1) := by decide +kernel
theorem dL_law_22 : decode cL_law 22 = .ok (.isub, 1) := by decide +kernel
theorem dL_law_23 : decode cL_law 23 = .ok (.if_icmp .gt 622, 3) := by decide +kernel
theorem dL_law_26 : decode cL_law 26 = .ok (.aload_n 0, 1) := by decide +kernel
theorem dL_law_27 : decode cL_law 27 = .ok (.iload_n 3, 1) := by decide +kernel
theorem dL_law_28 : decode cL_law 28 = .ok (.iaload, 1) := by decide +kernel
theorem dL_law_29 : decode cL_law 29 = .ok (.bipush 31, 2) := by decide +kernel
theorem dL_law_31 : decode cL_law 31 = .ok (.iand, 1) := by decide +kernel
theorem dL_law_32 : decode cL_law 32 = .ok (.tableswitch 607 0 19 #[96, 119, 132, 145, 158, 191, 224, 257, 280, 303, 316, 349, 392, 425, 458, 481, 504, 528, 561, 584], 96) := by decide +kernel
theorem dL_law_128 : decode cL_law 128 = .ok (.aload_n 1, 1) := by decide +kernel
theorem dL_law_129 : decode cL_law 129 = .ok (.aload_n 0, 1) := by decide +kernel
theorem dL_law_130 : decode cL_law 130 = .ok (.iload_n 3, 1) := by decide +kernel
theorem dL_law_131 : decode cL_law 131 = .ok (.iconst 1, 1) := by decide +kernel
theorem dL_law_132 : decode cL_law 132 = .ok (.iadd, 1) := by decide +kernel
theorem dL_law_133 : decode cL_law 133 = .ok (.iaload, 1) := by decide +kernel
theorem dL_law_134 : decode cL_law 134 = .ok (.invokevirtual 13, 3) := by decide +kernel
theorem dL_law_137 : decode cL_law 137 = .ok (.aload_n 2, 1) := by decide +kernel
theorem dL_law_138 : decode cL_law 138 = .ok (.aload_n 0, 1) := by decide +kernel
theorem dL_law_139 : decode cL_law 139 = .ok (.iload_n 3, 1) := by decide +kernel
theorem dL_law_140 : decode cL_law 140 = .ok (.iconst 1, 1) := by decide +kernel
theorem dL_law_141 : decode cL_law 141 = .ok (.iadd, 1) := by decide +kernel
theorem dL_law_142 : decode cL_law 142 = .ok (.iaload, 1) := by decide +kernel
theorem dL_law_143 : decode cL_law 143 = .ok (.invokevirtual 17, 3) := by decide +kernel
theorem dL_law_146 : decode cL_law 146 = .ok (.if_icmp .eq 493, 3) := by decide +kernel
theorem dL_law_149 : decode cL_law 149 = .ok (.iconst 0, 1) := by decide +kernel
theorem dL_law_150 : decode cL_law 150 = .ok (.ireturn, 1) := by decide +kernel
theorem dL_law_151 : decode cL_law 151 = .ok (.aload_n 1, 1) := by decide +kernel
theorem dL_law_152 : decode cL_law 152 = .ok (.invokevirtual 18, 3) := by decide +kernel
theorem dL_law_155 : decode cL_law 155 = .ok (.aload_n 2, 1) := by decide +kernel
theorem dL_law_156 : decode cL_law 156 = .ok (.invokevirtual 22, 3) := by decide +kernel
theorem dL_law_159 : decode cL_law 159 = .ok (.if_icmp .eq 480, 3) := by decide +kernel
theorem dL_law_162 : decode cL_law 162 = .ok (.iconst 0, 1) := by decide +kernel
theorem dL_law_163 : decode cL_law 163 = .ok (.ireturn, 1) := by decide +kernel
theorem dL_law_164 : decode cL_law 164 = .ok (.aload_n 1, 1) := by decide +kernel
theorem dL_law_165 : decode cL_law 165 = .ok (.invokevirtual 23, 3) := by decide +kernel
theorem dL_law_168 : decode cL_law 168 = .ok (.aload_n 2, 1) := by decide +kernel
theorem dL_law_169 : decode cL_law 169 = .ok (.invokevirtual 26, 3) := by decide +kernel
theorem dL_law_172 : decode cL_law 172 = .ok (.if_icmp .eq 467, 3) := by decide +kernel
theorem dL_law_175 : decode cL_law 175 = .ok (.iconst 0, 1) := by decide +kernel
theorem dL_law_176 : decode cL_law 176 = .ok (.ireturn, 1) := by decide +kernel
theorem dL_law_177 : decode cL_law 177 = .ok (.aload_n 1, 1) := by decide +kernel
theorem dL_law_178 : decode cL_law 178 = .ok (.invokevirtual 27, 3) := by decide +kernel
theorem dL_law_181 : decode cL_law 181 = .ok (.aload_n 2, 1) := by decide +kernel
theorem dL_law_182 : decode cL_law 182 = .ok (.invokevirtual 30, 3) := by decide +kernel
theorem dL_law_185 : decode cL_law 185 = .ok (.if_icmp .eq 454, 3) := by decide +kernel
theorem dL_law_188 : decode cL_law 188 = .ok (.iconst 0, 1) := by decide +kernel
theorem dL_law_189 : decode cL_law 189 = .ok (.ireturn, 1) := by decide +kernel
theorem dL_law_190 : decode cL_law 190 = .ok (.aload_n 1, 1) := by decide +kernel
theorem dL_law_191 : decode cL_law 191 = .ok (.aload_n 0, 1) := by decide +kernel
theorem dL_law_192 : decode cL_law 192 = .ok (.iload_n 3, 1) := by decide +kernel
theorem dL_law_193 : decode cL_law 193 = .ok (.iconst 1, 1) := by decide +kernel
theorem dL_law_194 : decode cL_law 194 = .ok (.iadd, 1) := by decide +kernel
theorem dL_law_195 : decode cL_law 195 = .ok (.iaload, 1) := by decide +kernel
theorem dL_law_196 : decode cL_law 196 = .ok (.aload_n 0, 1) := by decide +kernel
theorem dL_law_197 : decode cL_law 197 = .ok (.iload_n 3, 1) := by decide +kernel
theorem dL_law_198 : decode cL_law 198 = .ok (.iconst 2, 1) := by decide +kernel
theorem dL_law_199 : decode cL_law 199 = .ok (.iadd, 1) := by decide +kernel
theorem dL_law_200 : decode cL_law 200 = .ok (.iaload, 1) := by decide +kernel
theorem dL_law_201 : decode cL_law 201 = .ok (.invokevirtual 31, 3) := by decide +kernel
theorem dL_law_204 : decode cL_law 204 = .ok (.aload_n 2, 1) := by decide +kernel
theorem dL_law_205 : decode cL_law 205 = .ok (.aload_n 0, 1) := by decide +kernel
theorem dL_law_206 : decode cL_law 206 = .ok (.iload_n 3, 1) := by decide +kernel
theorem dL_law_207 : decode cL_law 207 = .ok (.iconst 1, 1) := by decide +kernel
theorem dL_law_208 : decode cL_law 208 = .ok (.iadd, 1) := by decide +kernel
theorem dL_law_209 : decode cL_law 209 = .ok (.iaload, 1) := by decide +kernel
theorem dL_law_210 : decode cL_law 210 = .ok (.aload_n 0, 1) := by decide +kernel
theorem dL_law_211 : decode cL_law 211 = .ok (.iload_n 3, 1) := by decide +kernel
theorem dL_law_212 : decode cL_law 212 = .ok (.iconst 2, 1) := by decide +kernel
theorem dL_law_213 : decode cL_law 213 = .ok (.iadd, 1) := by decide +kernel
theorem dL_law_214 : decode cL_law 214 = .ok (.iaload, 1) := by decide +kernel
theorem dL_law_215 : decode cL_law 215 = .ok (.invokevirtual 35, 3) := by decide +kernel
theorem dL_law_218 : decode cL_law 218 = .ok (.if_icmp .eq 421, 3) := by decide +kernel
theorem dL_law_221 : decode cL_law 221 = .ok (.iconst 0, 1) := by decide +kernel
theorem dL_law_222 : decode cL_law 222 = .ok (.ireturn, 1) := by decide +kernel
theorem dL_law_223 : decode cL_law 223 = .ok (.aload_n 1, 1) := by decide +kernel
theorem dL_law_224 : decode cL_law 224 = .ok (.aload_n 0, 1) := by decide +kernel
theorem dL_law_225 : decode cL_law 225 = .ok (.iload_n 3, 1) := by decide +kernel
theorem dL_law_226 : decode cL_law 226 = .ok (.iconst 1, 1) := by decide +kernel
theorem dL_law_227 : decode cL_law 227 = .ok (.iadd, 1) := by decide +kernel
theorem dL_law_228 : decode cL_law 228 = .ok (.iaload, 1) := by decide +kernel
theorem dL_law_229 : decode cL_law 229 = .ok (.aload_n 0, 1) := by decide +kernel
theorem dL_law_230 : decode cL_law 230 = .ok (.iload_n 3, 1) := by decide +kernel
theorem dL_law_231 : decode cL_law 231 = .ok (.iconst 2, 1) := by decide +kernel
theorem dL_law_232 : decode cL_law 232 = .ok (.iadd, 1) := by decide +kernel
theorem dL_law_233 : decode cL_law 233 = .ok (.iaload, 1) := by decide +kernel
theorem dL_law_234 : decode cL_law 234 = .ok (.invokevirtual 36, 3) := by decide +kernel
theorem dL_law_237 : decode cL_law 237 = .ok (.aload_n 2, 1) := by decide +kernel
theorem dL_law_238 : decode cL_law 238 = .ok (.aload_n 0, 1) := by decide +kernel
theorem dL_law_239 : decode cL_law 239 = .ok (.iload_n 3, 1) := by decide +kernel
theorem dL_law_240 : decode cL_law 240 = .ok (.iconst 1, 1) := by decide +kernel
theorem dL_law_241 : decode cL_law 241 = .ok (.iadd, 1) := by decide +kernel
theorem dL_law_242 : decode cL_law 242 = .ok (.iaload, 1) := by decide +kernel
theorem dL_law_243 : decode cL_law 243 = .ok (.aload_n 0, 1) := by decide +kernel
theorem dL_law_244 : decode cL_law 244 = .ok (.iload_n 3, 1) := by decide +kernel
theorem dL_law_245 : decode cL_law 245 = .ok (.iconst 2, 1) := by decide +kernel
theorem dL_law_246 : decode cL_law 246 = .ok (.iadd, 1) := by decide +kernel
theorem dL_law_247 : decode cL_law 247 = .ok (.iaload, 1) := by decide +kernel
theorem dL_law_248 : decode cL_law 248 = .ok (.invokevirtual 39, 3) := by decide +kernel
theorem dL_law_251 : decode cL_law 251 = .ok (.if_icmp .eq 388, 3) := by decide +kernel
theorem dL_law_254 : decode cL_law 254 = .ok (.iconst 0, 1) := by decide +kernel
theorem dL_law_255 : decode cL_law 255 = .ok (.ireturn, 1) := by decide +kernel
theorem dL_law_256 : decode cL_law 256 = .ok (.aload_n 1, 1) := by decide +kernel
theorem dL_law_257 : decode cL_law 257 = .ok (.aload_n 0, 1) := by decide +kernel
theorem dL_law_258 : decode cL_law 258 = .ok (.iload_n 3, 1) := by decide +kernel
theorem dL_law_259 : decode cL_law 259 = .ok (.iconst 1, 1) := by decide +kernel
theorem dL_law_260 : decode cL_law 260 = .ok (.iadd, 1) := by decide +kernel
theorem dL_law_261 : decode cL_law 261 = .ok (.iaload, 1) := by decide +kernel
theorem dL_law_262 : decode cL_law 262 = .ok (.aload_n 0, 1) := by decide +kernel
theorem dL_law_263 : decode cL_law 263 = .ok (.iload_n 3, 1) := by decide +kernel
theorem dL_law_264 : decode cL_law 264 = .ok (.iconst 2, 1) := by decide +kernel
theorem dL_law_265 : decode cL_law 265 = .ok (.iadd, 1) := by decide +kernel
theorem dL_law_266 : decode cL_law 266 = .ok (.iaload, 1) := by decide +kernel
theorem dL_law_267 : decode cL_law 267 = .ok (.invokevirtual 40, 3) := by decide +kernel
theorem dL_law_270 : decode cL_law 270 = .ok (.aload_n 2, 1) := by decide +kernel
theorem dL_law_271 : decode cL_law 271 = .ok (.aload_n 0, 1) := by decide +kernel
theorem dL_law_272 : decode cL_law 272 = .ok (.iload_n 3, 1) := by decide +kernel
theorem dL_law_273 : decode cL_law 273 = .ok (.iconst 1, 1) := by decide +kernel
theorem dL_law_274 : decode cL_law 274 = .ok (.iadd, 1) := by decide +kernel
theorem dL_law_275 : decode cL_law 275 = .ok (.iaload, 1) := by decide +kernel
theorem dL_law_276 : decode cL_law 276 = .ok (.aload_n 0, 1) := by decide +kernel
theorem dL_law_277 : decode cL_law 277 = .ok (.iload_n 3, 1) := by decide +kernel
theorem dL_law_278 : decode cL_law 278 = .ok (.iconst 2, 1) := by decide +kernel
theorem dL_law_279 : decode cL_law 279 = .ok (.iadd, 1) := by decide +kernel
theorem dL_law_280 : decode cL_law 280 = .ok (.iaload, 1) := by decide +kernel
theorem dL_law_281 : decode cL_law 281 = .ok (.invokevirtual 43, 3) := by decide +kernel
theorem dL_law_284 : decode cL_law 284 = .ok (.if_icmp .eq 355, 3) := by decide +kernel
theorem dL_law_287 : decode cL_law 287 = .ok (.iconst 0, 1) := by decide +kernel
theorem dL_law_288 : decode cL_law 288 = .ok (.ireturn, 1) := by decide +kernel
theorem dL_law_289 : decode cL_law 289 = .ok (.aload_n 1, 1) := by decide +kernel
theorem dL_law_290 : decode cL_law 290 = .ok (.aload_n 0, 1) := by decide +kernel
theorem dL_law_291 : decode cL_law 291 = .ok (.iload_n 3, 1) := by decide +kernel
theorem dL_law_292 : decode cL_law 292 = .ok (.iconst 1, 1) := by decide +kernel
theorem dL_law_293 : decode cL_law 293 = .ok (.iadd, 1) := by decide +kernel
theorem dL_law_294 : decode cL_law 294 = .ok (.iaload, 1) := by decide +kernel
theorem dL_law_295 : decode cL_law 295 = .ok (.invokevirtual 44, 3) := by decide +kernel
theorem dL_law_298 : decode cL_law 298 = .ok (.aload_n 2, 1) := by decide +kernel
theorem dL_law_299 : decode cL_law 299 = .ok (.aload_n 0, 1) := by decide +kernel
theorem dL_law_300 : decode cL_law 300 = .ok (.iload_n 3, 1) := by decide +kernel
theorem dL_law_301 : decode cL_law 301 = .ok (.iconst 1, 1) := by decide +kernel
theorem dL_law_302 : decode cL_law 302 = .ok (.iadd, 1) := by decide +kernel
theorem dL_law_303 : decode cL_law 303 = .ok (.iaload, 1) := by decide +kernel
theorem dL_law_304 : decode cL_law 304 = .ok (.invokevirtual 47, 3) := by decide +kernel
theorem dL_law_307 : decode cL_law 307 = .ok (.if_icmp .eq 332, 3) := by decide +kernel
theorem dL_law_310 : decode cL_law 310 = .ok (.iconst 0, 1) := by decide +kernel
theorem dL_law_311 : decode cL_law 311 = .ok (.ireturn, 1) := by decide +kernel
theorem dL_law_312 : decode cL_law 312 = .ok (.aload_n 1, 1) := by decide +kernel
theorem dL_law_313 : decode cL_law 313 = .ok (.aload_n 0, 1) := by decide +kernel
theorem dL_law_314 : decode cL_law 314 = .ok (.iload_n 3, 1) := by decide +kernel
theorem dL_law_315 : decode cL_law 315 = .ok (.iconst 1, 1) := by decide +kernel
theorem dL_law_316 : decode cL_law 316 = .ok (.iadd, 1) := by decide +kernel
theorem dL_law_317 : decode cL_law 317 = .ok (.iaload, 1) := by decide +kernel
theorem dL_law_318 : decode cL_law 318 = .ok (.invokevirtual 48, 3) := by decide +kernel
theorem dL_law_321 : decode cL_law 321 = .ok (.aload_n 2, 1) := by decide +kernel
theorem dL_law_322 : decode cL_law 322 = .ok (.aload_n 0, 1) := by decide +kernel
theorem dL_law_323 : decode cL_law 323 = .ok (.iload_n 3, 1) := by decide +kernel
theorem dL_law_324 : decode cL_law 324 = .ok (.iconst 1, 1) := by decide +kernel
theorem dL_law_325 : decode cL_law 325 = .ok (.iadd, 1) := by decide +kernel
theorem dL_law_326 : decode cL_law 326 = .ok (.iaload, 1) := by decide +kernel
theorem dL_law_327 : decode cL_law 327 = .ok (.invokevirtual 51, 3) := by decide +kernel
theorem dL_law_330 : decode cL_law 330 = .ok (.if_icmp .eq 309, 3) := by decide +kernel
theorem dL_law_333 : decode cL_law 333 = .ok (.iconst 0, 1) := by decide +kernel
theorem dL_law_334 : decode cL_law 334 = .ok (.ireturn, 1) := by decide +kernel
theorem dL_law_335 : decode cL_law 335 = .ok (.aload_n 1, 1) := by decide +kernel
theorem dL_law_336 : decode cL_law 336 = .ok (.invokevirtual 52, 3) := by decide +kernel
theorem dL_law_339 : decode cL_law 339 = .ok (.aload_n 2, 1) := by decide +kernel
theorem dL_law_340 : decode cL_law 340 = .ok (.invokevirtual 55, 3) := by decide +kernel
theorem dL_law_343 : decode cL_law 343 = .ok (.if_icmp .eq 296, 3) := by decide +kernel
theorem dL_law_346 : decode cL_law 346 = .ok (.iconst 0, 1) := by decide +kernel
theorem dL_law_347 : decode cL_law 347 = .ok (.ireturn, 1) := by decide +kernel
theorem dL_law_348 : decode cL_law 348 = .ok (.aload_n 1, 1) := by decide +kernel
theorem dL_law_349 : decode cL_law 349 = .ok (.aload_n 0, 1) := by decide +kernel
theorem dL_law_350 : decode cL_law 350 = .ok (.iload_n 3, 1) := by decide +kernel
theorem dL_law_351 : decode cL_law 351 = .ok (.iconst 1, 1) := by decide +kernel
theorem dL_law_352 : decode cL_law 352 = .ok (.iadd, 1) := by decide +kernel
theorem dL_law_353 : decode cL_law 353 = .ok (.iaload, 1) := by decide +kernel
theorem dL_law_354 : decode cL_law 354 = .ok (.aload_n 0, 1) := by decide +kernel
theorem dL_law_355 : decode cL_law 355 = .ok (.iload_n 3, 1) := by decide +kernel
theorem dL_law_356 : decode cL_law 356 = .ok (.iconst 2, 1) := by decide +kernel
theorem dL_law_357 : decode cL_law 357 = .ok (.iadd, 1) := by decide +kernel
theorem dL_law_358 : decode cL_law 358 = .ok (.iaload, 1) := by decide +kernel
theorem dL_law_359 : decode cL_law 359 = .ok (.invokevirtual 56, 3) := by decide +kernel
theorem dL_law_362 : decode cL_law 362 = .ok (.aload_n 2, 1) := by decide +kernel
theorem dL_law_363 : decode cL_law 363 = .ok (.aload_n 0, 1) := by decide +kernel
theorem dL_law_364 : decode cL_law 364 = .ok (.iload_n 3, 1) := by decide +kernel
theorem dL_law_365 : decode cL_law 365 = .ok (.iconst 1, 1) := by decide +kernel
theorem dL_law_366 : decode cL_law 366 = .ok (.iadd, 1) := by decide +kernel
theorem dL_law_367 : decode cL_law 367 = .ok (.iaload, 1) := by decide +kernel
theorem dL_law_368 : decode cL_law 368 = .ok (.aload_n 0, 1) := by decide +kernel
theorem dL_law_369 : decode cL_law 369 = .ok (.iload_n 3, 1) := by decide +kernel
theorem dL_law_370 : decode cL_law 370 = .ok (.iconst 2, 1) := by decide +kernel
theorem dL_law_371 : decode cL_law 371 = .ok (.iadd, 1) := by decide +kernel
theorem dL_law_372 : decode cL_law 372 = .ok (.iaload, 1) := by decide +kernel
theorem dL_law_373 : decode cL_law 373 = .ok (.invokevirtual 59, 3) := by decide +kernel
theorem dL_law_376 : decode cL_law 376 = .ok (.if_icmp .eq 263, 3) := by decide +kernel
theorem dL_law_379 : decode cL_law 379 = .ok (.iconst 0, 1) := by decide +kernel
theorem dL_law_380 : decode cL_law 380 = .ok (.ireturn, 1) := by decide +kernel
theorem dL_law_381 : decode cL_law 381 = .ok (.aload_n 1, 1) := by decide +kernel
theorem dL_law_382 : decode cL_law 382 = .ok (.aload_n 0, 1) := by decide +kernel
theorem dL_law_383 : decode cL_law 383 = .ok (.iload_n 3, 1) := by decide +kernel
theorem dL_law_384 : decode cL_law 384 = .ok (.iconst 1, 1) := by decide +kernel
theorem dL_law_385 : decode cL_law 385 = .ok (.iadd, 1) := by decide +kernel
theorem dL_law_386 : decode cL_law 386 = .ok (.iaload, 1) := by decide +kernel
theorem dL_law_387 : decode cL_law 387 = .ok (.aload_n 0, 1) := by decide +kernel
theorem dL_law_388 : decode cL_law 388 = .ok (.iload_n 3, 1) := by decide +kernel
theorem dL_law_389 : decode cL_law 389 = .ok (.iconst 2, 1) := by decide +kernel
theorem dL_law_390 : decode cL_law 390 = .ok (.iadd, 1) := by decide +kernel
theorem dL_law_391 : decode cL_law 391 = .ok (.iaload, 1) := by decide +kernel
theorem dL_law_392 : decode cL_law 392 = .ok (.aload_n 0, 1) := by decide +kernel
theorem dL_law_393 : decode cL_law 393 = .ok (.iload_n 3, 1) := by decide +kernel
theorem dL_law_394 : decode cL_law 394 = .ok (.iconst 3, 1) := by decide +kernel
theorem dL_law_395 : decode cL_law 395 = .ok (.iadd, 1) := by decide +kernel
theorem dL_law_396 : decode cL_law 396 = .ok (.iaload, 1) := by decide +kernel
theorem dL_law_397 : decode cL_law 397 = .ok (.invokevirtual 60, 3) := by decide +kernel
theorem dL_law_400 : decode cL_law 400 = .ok (.aload_n 2, 1) := by decide +kernel
theorem dL_law_401 : decode cL_law 401 = .ok (.aload_n 0, 1) := by decide +kernel
theorem dL_law_402 : decode cL_law 402 = .ok (.iload_n 3, 1) := by decide +kernel
theorem dL_law_403 : decode cL_law 403 = .ok (.iconst 1, 1) := by decide +kernel
theorem dL_law_404 : decode cL_law 404 = .ok (.iadd, 1) := by decide +kernel
theorem dL_law_405 : decode cL_law 405 = .ok (.iaload, 1) := by decide +kernel
theorem dL_law_406 : decode cL_law 406 = .ok (.aload_n 0, 1) := by decide +kernel
theorem dL_law_407 : decode cL_law 407 = .ok (.iload_n 3, 1) := by decide +kernel
theorem dL_law_408 : decode cL_law 408 = .ok (.iconst 2, 1) := by decide +kernel
theorem dL_law_409 : decode cL_law 409 = .ok (.iadd, 1) := by decide +kernel
theorem dL_law_410 : decode cL_law 410 = .ok (.iaload, 1) := by decide +kernel
theorem dL_law_411 : decode cL_law 411 = .ok (.aload_n 0, 1) := by decide +kernel
theorem dL_law_412 : decode cL_law 412 = .ok (.iload_n 3, 1) := by decide +kernel
theorem dL_law_413 : decode cL_law 413 = .ok (.iconst 3, 1) := by decide +kernel
theorem dL_law_414 : decode cL_law 414 = .ok (.iadd, 1) := by decide +kernel
theorem dL_law_415 : decode cL_law 415 = .ok (.iaload, 1) := by decide +kernel
theorem dL_law_416 : decode cL_law 416 = .ok (.invokevirtual 64, 3) := by decide +kernel
theorem dL_law_419 : decode cL_law 419 = .ok (.if_icmp .eq 220, 3) := by decide +kernel
theorem dL_law_422 : decode cL_law 422 = .ok (.iconst 0, 1) := by decide +kernel
theorem dL_law_423 : decode cL_law 423 = .ok (.ireturn, 1) := by decide +kernel
theorem dL_law_424 : decode cL_law 424 = .ok (.aload_n 1, 1) := by decide +kernel
theorem dL_law_425 : decode cL_law 425 = .ok (.aload_n 0, 1) := by decide +kernel
theorem dL_law_426 : decode cL_law 426 = .ok (.iload_n 3, 1) := by decide +kernel
theorem dL_law_427 : decode cL_law 427 = .ok (.iconst 1, 1) := by decide +kernel
theorem dL_law_428 : decode cL_law 428 = .ok (.iadd, 1) := by decide +kernel
theorem dL_law_429 : decode cL_law 429 = .ok (.iaload, 1) := by decide +kernel
theorem dL_law_430 : decode cL_law 430 = .ok (.aload_n 0, 1) := by decide +kernel
theorem dL_law_431 : decode cL_law 431 = .ok (.iload_n 3, 1) := by decide +kernel
theorem dL_law_432 : decode cL_law 432 = .ok (.iconst 2, 1) := by decide +kernel
theorem dL_law_433 : decode cL_law 433 = .ok (.iadd, 1) := by decide +kernel
theorem dL_law_434 : decode cL_law 434 = .ok (.iaload, 1) := by decide +kernel
theorem dL_law_435 : decode cL_law 435 = .ok (.invokevirtual 65, 3) := by decide +kernel
theorem dL_law_438 : decode cL_law 438 = .ok (.aload_n 2, 1) := by decide +kernel
theorem dL_law_439 : decode cL_law 439 = .ok (.aload_n 0, 1) := by decide +kernel
theorem dL_law_440 : decode cL_law 440 = .ok (.iload_n 3, 1) := by decide +kernel
theorem dL_law_441 : decode cL_law 441 = .ok (.iconst 1, 1) := by decide +kernel
theorem dL_law_442 : decode cL_law 442 = .ok (.iadd, 1) := by decide +kernel
theorem dL_law_443 : decode cL_law 443 = .ok (.iaload, 1) := by decide +kernel
theorem dL_law_444 : decode cL_law 444 = .ok (.aload_n 0, 1) := by decide +kernel
theorem dL_law_445 : decode cL_law 445 = .ok (.iload_n 3, 1) := by decide +kernel
theorem dL_law_446 : decode cL_law 446 = .ok (.iconst 2, 1) := by decide +kernel
theorem dL_law_447 : decode cL_law 447 = .ok (.iadd, 1) := by decide +kernel
theorem dL_law_448 : decode cL_law 448 = .ok (.iaload, 1) := by decide +kernel
theorem dL_law_449 : decode cL_law 449 = .ok (.invokevirtual 68, 3) := by decide +kernel
theorem dL_law_452 : decode cL_law 452 = .ok (.if_icmp .eq 187, 3) := by decide +kernel
theorem dL_law_455 : decode cL_law 455 = .ok (.iconst 0, 1) := by decide +kernel
theorem dL_law_456 : decode cL_law 456 = .ok (.ireturn, 1) := by decide +kernel
theorem dL_law_457 : decode cL_law 457 = .ok (.aload_n 1, 1) := by decide +kernel
theorem dL_law_458 : decode cL_law 458 = .ok (.aload_n 0, 1) := by decide +kernel
theorem dL_law_459 : decode cL_law 459 = .ok (.iload_n 3, 1) := by decide +kernel
theorem dL_law_460 : decode cL_law 460 = .ok (.iconst 1, 1) := by decide +kernel
theorem dL_law_461 : decode cL_law 461 = .ok (.iadd, 1) := by decide +kernel
theorem dL_law_462 : decode cL_law 462 = .ok (.iaload, 1) := by decide +kernel
theorem dL_law_463 : decode cL_law 463 = .ok (.aload_n 0, 1) := by decide +kernel
theorem dL_law_464 : decode cL_law 464 = .ok (.iload_n 3, 1) := by decide +kernel
theorem dL_law_465 : decode cL_law 465 = .ok (.iconst 2, 1) := by decide +kernel
theorem dL_law_466 : decode cL_law 466 = .ok (.iadd, 1) := by decide +kernel
theorem dL_law_467 : decode cL_law 467 = .ok (.iaload, 1) := by decide +kernel
theorem dL_law_468 : decode cL_law 468 = .ok (.invokevirtual 69, 3) := by decide +kernel
theorem dL_law_471 : decode cL_law 471 = .ok (.aload_n 2, 1) := by decide +kernel
theorem dL_law_472 : decode cL_law 472 = .ok (.aload_n 0, 1) := by decide +kernel
theorem dL_law_473 : decode cL_law 473 = .ok (.iload_n 3, 1) := by decide +kernel
theorem dL_law_474 : decode cL_law 474 = .ok (.iconst 1, 1) := by decide +kernel
theorem dL_law_475 : decode cL_law 475 = .ok (.iadd, 1) := by decide +kernel
theorem dL_law_476 : decode cL_law 476 = .ok (.iaload, 1) := by decide +kernel
theorem dL_law_477 : decode cL_law 477 = .ok (.aload_n 0, 1) := by decide +kernel
theorem dL_law_478 : decode cL_law 478 = .ok (.iload_n 3, 1) := by decide +kernel
theorem dL_law_479 : decode cL_law 479 = .ok (.iconst 2, 1) := by decide +kernel
theorem dL_law_480 : decode cL_law 480 = .ok (.iadd, 1) := by decide +kernel
theorem dL_law_481 : decode cL_law 481 = .ok (.iaload, 1) := by decide +kernel
theorem dL_law_482 : decode cL_law 482 = .ok (.invokevirtual 72, 3) := by decide +kernel
theorem dL_law_485 : decode cL_law 485 = .ok (.if_icmp .eq 154, 3) := by decide +kernel
theorem dL_law_488 : decode cL_law 488 = .ok (.iconst 0, 1) := by decide +kernel
theorem dL_law_489 : decode cL_law 489 = .ok (.ireturn, 1) := by decide +kernel
theorem dL_law_490 : decode cL_law 490 = .ok (.aload_n 1, 1) := by decide +kernel
theorem dL_law_491 : decode cL_law 491 = .ok (.aload_n 0, 1) := by decide +kernel
theorem dL_law_492 : decode cL_law 492 = .ok (.iload_n 3, 1) := by decide +kernel
theorem dL_law_493 : decode cL_law 493 = .ok (.iconst 1, 1) := by decide +kernel
theorem dL_law_494 : decode cL_law 494 = .ok (.iadd, 1) := by decide +kernel
theorem dL_law_495 : decode cL_law 495 = .ok (.iaload, 1) := by decide +kernel
theorem dL_law_496 : decode cL_law 496 = .ok (.invokevirtual 73, 3) := by decide +kernel
theorem dL_law_499 : decode cL_law 499 = .ok (.aload_n 2, 1) := by decide +kernel
theorem dL_law_500 : decode cL_law 500 = .ok (.aload_n 0, 1) := by decide +kernel
theorem dL_law_501 : decode cL_law 501 = .ok (.iload_n 3, 1) := by decide +kernel
theorem dL_law_502 : decode cL_law 502 = .ok (.iconst 1, 1) := by decide +kernel
theorem dL_law_503 : decode cL_law 503 = .ok (.iadd, 1) := by decide +kernel
theorem dL_law_504 : decode cL_law 504 = .ok (.iaload, 1) := by decide +kernel
theorem dL_law_505 : decode cL_law 505 = .ok (.invokevirtual 76, 3) := by decide +kernel
theorem dL_law_508 : decode cL_law 508 = .ok (.if_icmp .eq 131, 3) := by decide +kernel
theorem dL_law_511 : decode cL_law 511 = .ok (.iconst 0, 1) := by decide +kernel
theorem dL_law_512 : decode cL_law 512 = .ok (.ireturn, 1) := by decide +kernel
theorem dL_law_513 : decode cL_law 513 = .ok (.aload_n 1, 1) := by decide +kernel
theorem dL_law_514 : decode cL_law 514 = .ok (.aload_n 0, 1) := by decide +kernel
theorem dL_law_515 : decode cL_law 515 = .ok (.iload_n 3, 1) := by decide +kernel
theorem dL_law_516 : decode cL_law 516 = .ok (.iconst 1, 1) := by decide +kernel
theorem dL_law_517 : decode cL_law 517 = .ok (.iadd, 1) := by decide +kernel
theorem dL_law_518 : decode cL_law 518 = .ok (.iaload, 1) := by decide +kernel
theorem dL_law_519 : decode cL_law 519 = .ok (.invokevirtual 77, 3) := by decide +kernel
theorem dL_law_522 : decode cL_law 522 = .ok (.aload_n 2, 1) := by decide +kernel
theorem dL_law_523 : decode cL_law 523 = .ok (.aload_n 0, 1) := by decide +kernel
theorem dL_law_524 : decode cL_law 524 = .ok (.iload_n 3, 1) := by decide +kernel
theorem dL_law_525 : decode cL_law 525 = .ok (.iconst 1, 1) := by decide +kernel
theorem dL_law_526 : decode cL_law 526 = .ok (.iadd, 1) := by decide +kernel
theorem dL_law_527 : decode cL_law 527 = .ok (.iaload, 1) := by decide +kernel
theorem dL_law_528 : decode cL_law 528 = .ok (.invokevirtual 80, 3) := by decide +kernel
theorem dL_law_531 : decode cL_law 531 = .ok (.if_icmp .eq 108, 3) := by decide +kernel
theorem dL_law_534 : decode cL_law 534 = .ok (.iconst 0, 1) := by decide +kernel
theorem dL_law_535 : decode cL_law 535 = .ok (.ireturn, 1) := by decide +kernel
theorem dL_law_536 : decode cL_law 536 = .ok (.aload_n 1, 1) := by decide +kernel
theorem dL_law_537 : decode cL_law 537 = .ok (.aload_n 0, 1) := by decide +kernel
theorem dL_law_538 : decode cL_law 538 = .ok (.iload_n 3, 1) := by decide +kernel
theorem dL_law_539 : decode cL_law 539 = .ok (.iconst 1, 1) := by decide +kernel
theorem dL_law_540 : decode cL_law 540 = .ok (.iadd, 1) := by decide +kernel
theorem dL_law_541 : decode cL_law 541 = .ok (.iaload, 1) := by decide +kernel
theorem dL_law_542 : decode cL_law 542 = .ok (.invokevirtual 81, 3) := by decide +kernel
theorem dL_law_545 : decode cL_law 545 = .ok (.aload_n 2, 1) := by decide +kernel
theorem dL_law_546 : decode cL_law 546 = .ok (.aload_n 0, 1) := by decide +kernel
theorem dL_law_547 : decode cL_law 547 = .ok (.iload_n 3, 1) := by decide +kernel
theorem dL_law_548 : decode cL_law 548 = .ok (.iconst 1, 1) := by decide +kernel
theorem dL_law_549 : decode cL_law 549 = .ok (.iadd, 1) := by decide +kernel
theorem dL_law_550 : decode cL_law 550 = .ok (.iaload, 1) := by decide +kernel
theorem dL_law_551 : decode cL_law 551 = .ok (.invokevirtual 85, 3) := by decide +kernel
theorem dL_law_554 : decode cL_law 554 = .ok (.lcmp, 1) := by decide +kernel
theorem dL_law_555 : decode cL_law 555 = .ok (.ifCond .eq 84, 3) := by decide +kernel
theorem dL_law_558 : decode cL_law 558 = .ok (.iconst 0, 1) := by decide +kernel
theorem dL_law_559 : decode cL_law 559 = .ok (.ireturn, 1) := by decide +kernel
theorem dL_law_560 : decode cL_law 560 = .ok (.aload_n 1, 1) := by decide +kernel
theorem dL_law_561 : decode cL_law 561 = .ok (.aload_n 0, 1) := by decide +kernel
theorem dL_law_562 : decode cL_law 562 = .ok (.iload_n 3, 1) := by decide +kernel
theorem dL_law_563 : decode cL_law 563 = .ok (.iconst 1, 1) := by decide +kernel
theorem dL_law_564 : decode cL_law 564 = .ok (.iadd, 1) := by decide +kernel
theorem dL_law_565 : decode cL_law 565 = .ok (.iaload, 1) := by decide +kernel
theorem dL_law_566 : decode cL_law 566 = .ok (.aload_n 0, 1) := by decide +kernel
theorem dL_law_567 : decode cL_law 567 = .ok (.iload_n 3, 1) := by decide +kernel
theorem dL_law_568 : decode cL_law 568 = .ok (.iconst 2, 1) := by decide +kernel
theorem dL_law_569 : decode cL_law 569 = .ok (.iadd, 1) := by decide +kernel
theorem dL_law_570 : decode cL_law 570 = .ok (.iaload, 1) := by decide +kernel
theorem dL_law_571 : decode cL_law 571 = .ok (.invokevirtual 86, 3) := by decide +kernel
theorem dL_law_574 : decode cL_law 574 = .ok (.aload_n 2, 1) := by decide +kernel
theorem dL_law_575 : decode cL_law 575 = .ok (.aload_n 0, 1) := by decide +kernel
theorem dL_law_576 : decode cL_law 576 = .ok (.iload_n 3, 1) := by decide +kernel
theorem dL_law_577 : decode cL_law 577 = .ok (.iconst 1, 1) := by decide +kernel
theorem dL_law_578 : decode cL_law 578 = .ok (.iadd, 1) := by decide +kernel
theorem dL_law_579 : decode cL_law 579 = .ok (.iaload, 1) := by decide +kernel
theorem dL_law_580 : decode cL_law 580 = .ok (.aload_n 0, 1) := by decide +kernel
theorem dL_law_581 : decode cL_law 581 = .ok (.iload_n 3, 1) := by decide +kernel
theorem dL_law_582 : decode cL_law 582 = .ok (.iconst 2, 1) := by decide +kernel
theorem dL_law_583 : decode cL_law 583 = .ok (.iadd, 1) := by decide +kernel
theorem dL_law_584 : decode cL_law 584 = .ok (.iaload, 1) := by decide +kernel
theorem dL_law_585 : decode cL_law 585 = .ok (.invokevirtual 89, 3) := by decide +kernel
theorem dL_law_588 : decode cL_law 588 = .ok (.if_icmp .eq 51, 3) := by decide +kernel
theorem dL_law_591 : decode cL_law 591 = .ok (.iconst 0, 1) := by decide +kernel
theorem dL_law_592 : decode cL_law 592 = .ok (.ireturn, 1) := by decide +kernel
theorem dL_law_593 : decode cL_law 593 = .ok (.aload_n 1, 1) := by decide +kernel
theorem dL_law_594 : decode cL_law 594 = .ok (.aload_n 0, 1) := by decide +kernel
theorem dL_law_595 : decode cL_law 595 = .ok (.iload_n 3, 1) := by decide +kernel
theorem dL_law_596 : decode cL_law 596 = .ok (.iconst 1, 1) := by decide +kernel
theorem dL_law_597 : decode cL_law 597 = .ok (.iadd, 1) := by decide +kernel
theorem dL_law_598 : decode cL_law 598 = .ok (.iaload, 1) := by decide +kernel
theorem dL_law_599 : decode cL_law 599 = .ok (.invokevirtual 90, 3) := by decide +kernel
theorem dL_law_602 : decode cL_law 602 = .ok (.aload_n 2, 1) := by decide +kernel
theorem dL_law_603 : decode cL_law 603 = .ok (.aload_n 0, 1) := by decide +kernel
theorem dL_law_604 : decode cL_law 604 = .ok (.iload_n 3, 1) := by decide +kernel
theorem dL_law_605 : decode cL_law 605 = .ok (.iconst 1, 1) := by decide +kernel
theorem dL_law_606 : decode cL_law 606 = .ok (.iadd, 1) := by decide +kernel
theorem dL_law_607 : decode cL_law 607 = .ok (.iaload, 1) := by decide +kernel
theorem dL_law_608 : decode cL_law 608 = .ok (.invokevirtual 93, 3) := by decide +kernel
theorem dL_law_611 : decode cL_law 611 = .ok (.if_icmp .eq 28, 3) := by decide +kernel
theorem dL_law_614 : decode cL_law 614 = .ok (.iconst 0, 1) := by decide +kernel
theorem dL_law_615 : decode cL_law 615 = .ok (.ireturn, 1) := by decide +kernel
theorem dL_law_616 : decode cL_law 616 = .ok (.aload_n 1, 1) := by decide +kernel
theorem dL_law_617 : decode cL_law 617 = .ok (.aload_n 0, 1) := by decide +kernel
theorem dL_law_618 : decode cL_law 618 = .ok (.iload_n 3, 1) := by decide +kernel
theorem dL_law_619 : decode cL_law 619 = .ok (.iconst 1, 1) := by decide +kernel
theorem dL_law_620 : decode cL_law 620 = .ok (.iadd, 1) := by decide +kernel
theorem dL_law_621 : decode cL_law 621 = .ok (.iaload, 1) := by decide +kernel
theorem dL_law_622 : decode cL_law 622 = .ok (.invokevirtual 94, 3) := by decide +kernel
theorem dL_law_625 : decode cL_law 625 = .ok (.aload_n 2, 1) := by decide +kernel
theorem dL_law_626 : decode cL_law 626 = .ok (.aload_n 0, 1) := by decide +kernel
theorem dL_law_627 : decode cL_law 627 = .ok (.iload_n 3, 1) := by decide +kernel
theorem dL_law_628 : decode cL_law 628 = .ok (.iconst 1, 1) := by decide +kernel
theorem dL_law_629 : decode cL_law 629 = .ok (.iadd, 1) := by decide +kernel
theorem dL_law_630 : decode cL_law 630 = .ok (.iaload, 1) := by decide +kernel
theorem dL_law_631 : decode cL_law 631 = .ok (.invokevirtual 97, 3) := by decide +kernel
theorem dL_law_634 : decode cL_law 634 = .ok (.if_icmp .eq 5, 3) := by decide +kernel
theorem dL_law_637 : decode cL_law 637 = .ok (.iconst 0, 1) := by decide +kernel
theorem dL_law_638 : decode cL_law 638 = .ok (.ireturn, 1) := by decide +kernel
theorem dL_law_639 : decode cL_law 639 = .ok (.iinc 3 4, 3) := by decide +kernel
theorem dL_law_642 : decode cL_law 642 = .ok (.goto (-624), 3) := by decide +kernel
theorem dL_law_645 : decode cL_law 645 = .ok (.iconst 1, 1) := by decide +kernel
theorem dL_law_646 : decode cL_law 646 = .ok (.ireturn, 1) := by decide +kernel
