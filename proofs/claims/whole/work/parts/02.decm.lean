theorem dX7_init_0 : decode cX7_init 0 = .ok (.aload_n 0, 1) := by decide +kernel
theorem dX7_init_1 : decode cX7_init 1 = .ok (.invokespecial 1, 3) := by decide +kernel
theorem dX7_init_4 : decode cX7_init 4 = .ok (.aload_n 0, 1) := by decide +kernel
theorem dX7_init_5 : decode cX7_init 5 = .ok (.sipush 200, 3) := by decide +kernel
theorem dX7_init_8 : decode cX7_init 8 = .ok (.newarray .int, 2) := by decide +kernel
theorem dX7_init_10 : decode cX7_init 10 = .ok (.putfield 7, 3) := by decide +kernel
theorem dX7_init_13 : decode cX7_init 13 = .ok (.aload_n 0, 1) := by decide +kernel
theorem dX7_init_14 : decode cX7_init 14 = .ok (.bipush 8, 2) := by decide +kernel
theorem dX7_init_16 : decode cX7_init 16 = .ok (.newarray .int, 2) := by decide +kernel
theorem dX7_init_18 : decode cX7_init 18 = .ok (.putfield 13, 3) := by decide +kernel
theorem dX7_init_21 : decode cX7_init 21 = .ok (.aload_n 0, 1) := by decide +kernel
theorem dX7_init_22 : decode cX7_init 22 = .ok (.bipush 102, 2) := by decide +kernel
theorem dX7_init_24 : decode cX7_init 24 = .ok (.newarray .int, 2) := by decide +kernel
theorem dX7_init_26 : decode cX7_init 26 = .ok (.putfield 16, 3) := by decide +kernel
theorem dX7_init_29 : decode cX7_init 29 = .ok (.aload_n 0, 1) := by decide +kernel
theorem dX7_init_30 : decode cX7_init 30 = .ok (.sipush 612, 3) := by decide +kernel
theorem dX7_init_33 : decode cX7_init 33 = .ok (.newarray .int, 2) := by decide +kernel
theorem dX7_init_35 : decode cX7_init 35 = .ok (.putfield 19, 3) := by decide +kernel
theorem dX7_init_38 : decode cX7_init 38 = .ok (.aload_n 0, 1) := by decide +kernel
theorem dX7_init_39 : decode cX7_init 39 = .ok (.bipush 102, 2) := by decide +kernel
theorem dX7_init_41 : decode cX7_init 41 = .ok (.newarray .int, 2) := by decide +kernel
theorem dX7_init_43 : decode cX7_init 43 = .ok (.putfield 22, 3) := by decide +kernel
theorem dX7_init_46 : decode cX7_init 46 = .ok (.aload_n 0, 1) := by decide +kernel
theorem dX7_init_47 : decode cX7_init 47 = .ok (.bipush 8, 2) := by decide +kernel
theorem dX7_init_49 : decode cX7_init 49 = .ok (.newarray .int, 2) := by decide +kernel
theorem dX7_init_51 : decode cX7_init 51 = .ok (.putfield 25, 3) := by decide +kernel
theorem dX7_init_54 : decode cX7_init 54 = .ok (.aload_n 0, 1) := by decide +kernel
theorem dX7_init_55 : decode cX7_init 55 = .ok (.bipush 12, 2) := by decide +kernel
theorem dX7_init_57 : decode cX7_init 57 = .ok (.newarray .int, 2) := by decide +kernel
theorem dX7_init_59 : decode cX7_init 59 = .ok (.putfield 28, 3) := by decide +kernel
theorem dX7_init_62 : decode cX7_init 62 = .ok (.aload_n 0, 1) := by decide +kernel
theorem dX7_init_63 : decode cX7_init 63 = .ok (.invokevirtual 31, 3) := by decide +kernel
theorem dX7_init_66 : decode cX7_init 66 = .ok (.aload_n 0, 1) := by decide +kernel
theorem dX7_init_67 : decode cX7_init 67 = .ok (.iconst 3, 1) := by decide +kernel
theorem dX7_init_68 : decode cX7_init 68 = .ok (.iconst 1, 1) := by decide +kernel
theorem dX7_init_69 : decode cX7_init 69 = .ok (.iconst 4, 1) := by decide +kernel
theorem dX7_init_70 : decode cX7_init 70 = .ok (.iconst 1, 1) := by decide +kernel
theorem dX7_init_71 : decode cX7_init 71 = .ok (.invokevirtual 34, 3) := by decide +kernel
theorem dX7_init_74 : decode cX7_init 74 = .ok (.aload_n 0, 1) := by decide +kernel
theorem dX7_init_75 : decode cX7_init 75 = .ok (.iconst 5, 1) := by decide +kernel
theorem dX7_init_76 : decode cX7_init 76 = .ok (.bipush 40, 2) := by decide +kernel
theorem dX7_init_78 : decode cX7_init 78 = .ok (.bipush 6, 2) := by decide +kernel
theorem dX7_init_80 : decode cX7_init 80 = .ok (.iconst 2, 1) := by decide +kernel
theorem dX7_init_81 : decode cX7_init 81 = .ok (.invokevirtual 34, 3) := by decide +kernel
theorem dX7_init_84 : decode cX7_init 84 = .ok (.aload_n 0, 1) := by decide +kernel
theorem dX7_init_85 : decode cX7_init 85 = .ok (.iconst 3, 1) := by decide +kernel
theorem dX7_init_86 : decode cX7_init 86 = .ok (.iconst 1, 1) := by decide +kernel
theorem dX7_init_87 : decode cX7_init 87 = .ok (.bipush 9, 2) := by decide +kernel
theorem dX7_init_89 : decode cX7_init 89 = .ok (.bipush 7, 2) := by decide +kernel
theorem dX7_init_91 : decode cX7_init 91 = .ok (.invokevirtual 34, 3) := by decide +kernel
theorem dX7_init_94 : decode cX7_init 94 = .ok (.aload_n 0, 1) := by decide +kernel
theorem dX7_init_95 : decode cX7_init 95 = .ok (.bipush 50, 2) := by decide +kernel
theorem dX7_init_97 : decode cX7_init 97 = .ok (.bipush 48, 2) := by decide +kernel
theorem dX7_init_99 : decode cX7_init 99 = .ok (.iconst 5, 1) := by decide +kernel
theorem dX7_init_100 : decode cX7_init 100 = .ok (.iconst 3, 1) := by decide +kernel
theorem dX7_init_101 : decode cX7_init 101 = .ok (.invokevirtual 34, 3) := by decide +kernel
theorem dX7_init_104 : decode cX7_init 104 = .ok (.aload_n 0, 1) := by decide +kernel
theorem dX7_init_105 : decode cX7_init 105 = .ok (.iconst 2, 1) := by decide +kernel
theorem dX7_init_106 : decode cX7_init 106 = .ok (.iconst 1, 1) := by decide +kernel
theorem dX7_init_107 : decode cX7_init 107 = .ok (.bipush 6, 2) := by decide +kernel
theorem dX7_init_109 : decode cX7_init 109 = .ok (.bipush 20, 2) := by decide +kernel
theorem dX7_init_111 : decode cX7_init 111 = .ok (.invokevirtual 34, 3) := by decide +kernel
theorem dX7_init_114 : decode cX7_init 114 = .ok (.aload_n 0, 1) := by decide +kernel
theorem dX7_init_115 : decode cX7_init 115 = .ok (.invokevirtual 38, 3) := by decide +kernel
theorem dX7_init_118 : decode cX7_init 118 = .ok (.return_, 1) := by decide +kernel
theorem dX7_adds_0 : decode cX7_adds 0 = .ok (.aload_n 0, 1) := by decide +kernel
theorem dX7_adds_1 : decode cX7_adds 1 = .ok (.getfield 22, 3) := by decide +kernel
theorem dX7_adds_4 : decode cX7_adds 4 = .ok (.aload_n 0, 1) := by decide +kernel
theorem dX7_adds_5 : decode cX7_adds 5 = .ok (.getfield 41, 3) := by decide +kernel
theorem dX7_adds_8 : decode cX7_adds 8 = .ok (.iload_n 1, 1) := by decide +kernel
theorem dX7_adds_9 : decode cX7_adds 9 = .ok (.iastore, 1) := by decide +kernel
theorem dX7_adds_10 : decode cX7_adds 10 = .ok (.aload_n 0, 1) := by decide +kernel
theorem dX7_adds_11 : decode cX7_adds 11 = .ok (.getfield 22, 3) := by decide +kernel
theorem dX7_adds_14 : decode cX7_adds 14 = .ok (.aload_n 0, 1) := by decide +kernel
theorem dX7_adds_15 : decode cX7_adds 15 = .ok (.getfield 41, 3) := by decide +kernel
theorem dX7_adds_18 : decode cX7_adds 18 = .ok (.iconst 1, 1) := by decide +kernel
theorem dX7_adds_19 : decode cX7_adds 19 = .ok (.iadd, 1) := by decide +kernel
theorem dX7_adds_20 : decode cX7_adds 20 = .ok (.iload_n 2, 1) := by decide +kernel
theorem dX7_adds_21 : decode cX7_adds 21 = .ok (.iastore, 1) := by decide +kernel
theorem dX7_adds_22 : decode cX7_adds 22 = .ok (.aload_n 0, 1) := by decide +kernel
theorem dX7_adds_23 : decode cX7_adds 23 = .ok (.getfield 22, 3) := by decide +kernel
theorem dX7_adds_26 : decode cX7_adds 26 = .ok (.aload_n 0, 1) := by decide +kernel
theorem dX7_adds_27 : decode cX7_adds 27 = .ok (.getfield 41, 3) := by decide +kernel
theorem dX7_adds_30 : decode cX7_adds 30 = .ok (.iconst 2, 1) := by decide +kernel
theorem dX7_adds_31 : decode cX7_adds 31 = .ok (.iadd, 1) := by decide +kernel
theorem dX7_adds_32 : decode cX7_adds 32 = .ok (.iload_n 3, 1) := by decide +kernel
theorem dX7_adds_33 : decode cX7_adds 33 = .ok (.iastore, 1) := by decide +kernel
theorem dX7_adds_34 : decode cX7_adds 34 = .ok (.aload_n 0, 1) := by decide +kernel
theorem dX7_adds_35 : decode cX7_adds 35 = .ok (.getfield 22, 3) := by decide +kernel
theorem dX7_adds_38 : decode cX7_adds 38 = .ok (.aload_n 0, 1) := by decide +kernel
theorem dX7_adds_39 : decode cX7_adds 39 = .ok (.getfield 41, 3) := by decide +kernel
theorem dX7_adds_42 : decode cX7_adds 42 = .ok (.iconst 3, 1) := by decide +kernel
theorem dX7_adds_43 : decode cX7_adds 43 = .ok (.iadd, 1) := by decide +kernel
theorem dX7_adds_44 : decode cX7_adds 44 = .ok (.iload 4, 2) := by decide +kernel
theorem dX7_adds_46 : decode cX7_adds 46 = .ok (.iastore, 1) := by decide +kernel
theorem dX7_adds_47 : decode cX7_adds 47 = .ok (.aload_n 0, 1) := by decide +kernel
theorem dX7_adds_48 : decode cX7_adds 48 = .ok (.dup, 1) := by decide +kernel
theorem dX7_adds_49 : decode cX7_adds 49 = .ok (.getfield 41, 3) := by decide +kernel
theorem dX7_adds_52 : decode cX7_adds 52 = .ok (.iconst 4, 1) := by decide +kernel
theorem dX7_adds_53 : decode cX7_adds 53 = .ok (.iadd, 1) := by decide +kernel
theorem dX7_adds_54 : decode cX7_adds 54 = .ok (.putfield 41, 3) := by decide +kernel
theorem dX7_adds_57 : decode cX7_adds 57 = .ok (.return_, 1) := by decide +kernel
theorem dX7_isIn_0 : decode cX7_isIn 0 = .ok (.iload_n 0, 1) := by decide +kernel
theorem dX7_isIn_1 : decode cX7_isIn 1 = .ok (.iload_n 1, 1) := by decide +kernel
theorem dX7_isIn_2 : decode cX7_isIn 2 = .ok (.if_icmp .lt 12, 3) := by decide +kernel
theorem dX7_isIn_5 : decode cX7_isIn 5 = .ok (.iload_n 0, 1) := by decide +kernel
theorem dX7_isIn_6 : decode cX7_isIn 6 = .ok (.iload_n 2, 1) := by decide +kernel
theorem dX7_isIn_7 : decode cX7_isIn 7 = .ok (.if_icmp .gt 7, 3) := by decide +kernel
theorem dX7_isIn_10 : decode cX7_isIn 10 = .ok (.iconst 1, 1) := by decide +kernel
theorem dX7_isIn_11 : decode cX7_isIn 11 = .ok (.goto 4, 3) := by decide +kernel
theorem dX7_isIn_14 : decode cX7_isIn 14 = .ok (.iconst 0, 1) := by decide +kernel
theorem dX7_isIn_15 : decode cX7_isIn 15 = .ok (.ireturn, 1) := by decide +kernel
theorem dX7_clears_0 : decode cX7_clears 0 = .ok (.aload_n 0, 1) := by decide +kernel
theorem dX7_clears_1 : decode cX7_clears 1 = .ok (.iconst 0, 1) := by decide +kernel
theorem dX7_clears_2 : decode cX7_clears 2 = .ok (.putfield 41, 3) := by decide +kernel
theorem dX7_clears_5 : decode cX7_clears 5 = .ok (.iconst 0, 1) := by decide +kernel
theorem dX7_clears_6 : decode cX7_clears 6 = .ok (.istore_n 1, 1) := by decide +kernel
theorem dX7_clears_7 : decode cX7_clears 7 = .ok (.iload_n 1, 1) := by decide +kernel
theorem dX7_clears_8 : decode cX7_clears 8 = .ok (.bipush 102, 2) := by decide +kernel
theorem dX7_clears_10 : decode cX7_clears 10 = .ok (.if_icmp .ge 16, 3) := by decide +kernel
theorem dX7_clears_13 : decode cX7_clears 13 = .ok (.aload_n 0, 1) := by decide +kernel
theorem dX7_clears_14 : decode cX7_clears 14 = .ok (.getfield 22, 3) := by decide +kernel
theorem dX7_clears_17 : decode cX7_clears 17 = .ok (.iload_n 1, 1) := by decide +kernel
theorem dX7_clears_18 : decode cX7_clears 18 = .ok (.iconst 0, 1) := by decide +kernel
theorem dX7_clears_19 : decode cX7_clears 19 = .ok (.iastore, 1) := by decide +kernel
theorem dX7_clears_20 : decode cX7_clears 20 = .ok (.iinc 1 1, 3) := by decide +kernel
theorem dX7_clears_23 : decode cX7_clears 23 = .ok (.goto (-16), 3) := by decide +kernel
theorem dX7_clears_26 : decode cX7_clears 26 = .ok (.aload_n 0, 1) := by decide +kernel
theorem dX7_clears_27 : decode cX7_clears 27 = .ok (.getfield 22, 3) := by decide +kernel
theorem dX7_clears_30 : decode cX7_clears 30 = .ok (.bipush 96, 2) := by decide +kernel
theorem dX7_clears_32 : decode cX7_clears 32 = .ok (.iconst 3, 1) := by decide +kernel
theorem dX7_clears_33 : decode cX7_clears 33 = .ok (.iastore, 1) := by decide +kernel
theorem dX7_clears_34 : decode cX7_clears 34 = .ok (.aload_n 0, 1) := by decide +kernel
theorem dX7_clears_35 : decode cX7_clears 35 = .ok (.getfield 22, 3) := by decide +kernel
theorem dX7_clears_38 : decode cX7_clears 38 = .ok (.bipush 97, 2) := by decide +kernel
theorem dX7_clears_40 : decode cX7_clears 40 = .ok (.iconst 1, 1) := by decide +kernel
theorem dX7_clears_41 : decode cX7_clears 41 = .ok (.iastore, 1) := by decide +kernel
theorem dX7_clears_42 : decode cX7_clears 42 = .ok (.aload_n 0, 1) := by decide +kernel
theorem dX7_clears_43 : decode cX7_clears 43 = .ok (.getfield 22, 3) := by decide +kernel
theorem dX7_clears_46 : decode cX7_clears 46 = .ok (.bipush 98, 2) := by decide +kernel
theorem dX7_clears_48 : decode cX7_clears 48 = .ok (.iconst 4, 1) := by decide +kernel
theorem dX7_clears_49 : decode cX7_clears 49 = .ok (.iastore, 1) := by decide +kernel
theorem dX7_clears_50 : decode cX7_clears 50 = .ok (.aload_n 0, 1) := by decide +kernel
theorem dX7_clears_51 : decode cX7_clears 51 = .ok (.getfield 22, 3) := by decide +kernel
theorem dX7_clears_54 : decode cX7_clears 54 = .ok (.bipush 99, 2) := by decide +kernel
theorem dX7_clears_56 : decode cX7_clears 56 = .ok (.iconst 2, 1) := by decide +kernel
theorem dX7_clears_57 : decode cX7_clears 57 = .ok (.iastore, 1) := by decide +kernel
theorem dX7_clears_58 : decode cX7_clears 58 = .ok (.aload_n 0, 1) := by decide +kernel
theorem dX7_clears_59 : decode cX7_clears 59 = .ok (.getfield 22, 3) := by decide +kernel
theorem dX7_clears_62 : decode cX7_clears 62 = .ok (.bipush 100, 2) := by decide +kernel
theorem dX7_clears_64 : decode cX7_clears 64 = .ok (.iconst 1, 1) := by decide +kernel
theorem dX7_clears_65 : decode cX7_clears 65 = .ok (.iastore, 1) := by decide +kernel
theorem dX7_clears_66 : decode cX7_clears 66 = .ok (.aload_n 0, 1) := by decide +kernel
theorem dX7_clears_67 : decode cX7_clears 67 = .ok (.iconst 4, 1) := by decide +kernel
theorem dX7_clears_68 : decode cX7_clears 68 = .ok (.putfield 45, 3) := by decide +kernel
theorem dX7_clears_71 : decode cX7_clears 71 = .ok (.aload_n 0, 1) := by decide +kernel
theorem dX7_clears_72 : decode cX7_clears 72 = .ok (.getfield 25, 3) := by decide +kernel
theorem dX7_clears_75 : decode cX7_clears 75 = .ok (.iconst 0, 1) := by decide +kernel
theorem dX7_clears_76 : decode cX7_clears 76 = .ok (.iconst 4, 1) := by decide +kernel
theorem dX7_clears_77 : decode cX7_clears 77 = .ok (.iastore, 1) := by decide +kernel
theorem dX7_clears_78 : decode cX7_clears 78 = .ok (.aload_n 0, 1) := by decide +kernel
theorem dX7_clears_79 : decode cX7_clears 79 = .ok (.getfield 25, 3) := by decide +kernel
theorem dX7_clears_82 : decode cX7_clears 82 = .ok (.iconst 1, 1) := by decide +kernel
theorem dX7_clears_83 : decode cX7_clears 83 = .ok (.iconst 2, 1) := by decide +kernel
theorem dX7_clears_84 : decode cX7_clears 84 = .ok (.iastore, 1) := by decide +kernel
theorem dX7_clears_85 : decode cX7_clears 85 = .ok (.aload_n 0, 1) := by decide +kernel
theorem dX7_clears_86 : decode cX7_clears 86 = .ok (.getfield 25, 3) := by decide +kernel
theorem dX7_clears_89 : decode cX7_clears 89 = .ok (.iconst 2, 1) := by decide +kernel
theorem dX7_clears_90 : decode cX7_clears 90 = .ok (.iconst 1, 1) := by decide +kernel
theorem dX7_clears_91 : decode cX7_clears 91 = .ok (.iastore, 1) := by decide +kernel
theorem dX7_clears_92 : decode cX7_clears 92 = .ok (.aload_n 0, 1) := by decide +kernel
theorem dX7_clears_93 : decode cX7_clears 93 = .ok (.getfield 25, 3) := by decide +kernel
theorem dX7_clears_96 : decode cX7_clears 96 = .ok (.iconst 3, 1) := by decide +kernel
theorem dX7_clears_97 : decode cX7_clears 97 = .ok (.iconst 1, 1) := by decide +kernel
theorem dX7_clears_98 : decode cX7_clears 98 = .ok (.iastore, 1) := by decide +kernel
theorem dX7_clears_99 : decode cX7_clears 99 = .ok (.return_, 1) := by decide +kernel
theorem dX7_takes_0 : decode cX7_takes 0 = .ok (.aload_n 0, 1) := by decide +kernel
theorem dX7_takes_1 : decode cX7_takes 1 = .ok (.aload_n 0, 1) := by decide +kernel
theorem dX7_takes_2 : decode cX7_takes 2 = .ok (.getfield 41, 3) := by decide +kernel
theorem dX7_takes_5 : decode cX7_takes 5 = .ok (.putfield 48, 3) := by decide +kernel
theorem dX7_takes_8 : decode cX7_takes 8 = .ok (.aload_n 0, 1) := by decide +kernel
theorem dX7_takes_9 : decode cX7_takes 9 = .ok (.aload_n 0, 1) := by decide +kernel
theorem dX7_takes_10 : decode cX7_takes 10 = .ok (.getfield 45, 3) := by decide +kernel
theorem dX7_takes_13 : decode cX7_takes 13 = .ok (.putfield 51, 3) := by decide +kernel
theorem dX7_takes_16 : decode cX7_takes 16 = .ok (.iconst 0, 1) := by decide +kernel
theorem dX7_takes_17 : decode cX7_takes 17 = .ok (.istore_n 1, 1) := by decide +kernel
theorem dX7_takes_18 : decode cX7_takes 18 = .ok (.iload_n 1, 1) := by decide +kernel
theorem dX7_takes_19 : decode cX7_takes 19 = .ok (.bipush 8, 2) := by decide +kernel
theorem dX7_takes_21 : decode cX7_takes 21 = .ok (.if_icmp .ge 33, 3) := by decide +kernel
theorem dX7_takes_24 : decode cX7_takes 24 = .ok (.aload_n 0, 1) := by decide +kernel
theorem dX7_takes_25 : decode cX7_takes 25 = .ok (.getfield 13, 3) := by decide +kernel
theorem dX7_takes_28 : decode cX7_takes 28 = .ok (.iload_n 1, 1) := by decide +kernel
theorem dX7_takes_29 : decode cX7_takes 29 = .ok (.iload_n 1, 1) := by decide +kernel
theorem dX7_takes_30 : decode cX7_takes 30 = .ok (.aload_n 0, 1) := by decide +kernel
theorem dX7_takes_31 : decode cX7_takes 31 = .ok (.getfield 51, 3) := by decide +kernel
theorem dX7_takes_34 : decode cX7_takes 34 = .ok (.if_icmp .ge 12, 3) := by decide +kernel
theorem dX7_takes_37 : decode cX7_takes 37 = .ok (.aload_n 0, 1) := by decide +kernel
theorem dX7_takes_38 : decode cX7_takes 38 = .ok (.getfield 25, 3) := by decide +kernel
theorem dX7_takes_41 : decode cX7_takes 41 = .ok (.iload_n 1, 1) := by decide +kernel
theorem dX7_takes_42 : decode cX7_takes 42 = .ok (.iaload, 1) := by decide +kernel
theorem dX7_takes_43 : decode cX7_takes 43 = .ok (.goto 4, 3) := by decide +kernel
theorem dX7_takes_46 : decode cX7_takes 46 = .ok (.iconst 0, 1) := by decide +kernel
theorem dX7_takes_47 : decode cX7_takes 47 = .ok (.iastore, 1) := by decide +kernel
theorem dX7_takes_48 : decode cX7_takes 48 = .ok (.iinc 1 1, 3) := by decide +kernel
theorem dX7_takes_51 : decode cX7_takes 51 = .ok (.goto (-33), 3) := by decide +kernel
theorem dX7_takes_54 : decode cX7_takes 54 = .ok (.iconst 0, 1) := by decide +kernel
theorem dX7_takes_55 : decode cX7_takes 55 = .ok (.istore_n 1, 1) := by decide +kernel
theorem dX7_takes_56 : decode cX7_takes 56 = .ok (.iload_n 1, 1) := by decide +kernel
theorem dX7_takes_57 : decode cX7_takes 57 = .ok (.bipush 102, 2) := by decide +kernel
theorem dX7_takes_59 : decode cX7_takes 59 = .ok (.if_icmp .ge 21, 3) := by decide +kernel
theorem dX7_takes_62 : decode cX7_takes 62 = .ok (.aload_n 0, 1) := by decide +kernel
theorem dX7_takes_63 : decode cX7_takes 63 = .ok (.getfield 16, 3) := by decide +kernel
theorem dX7_takes_66 : decode cX7_takes 66 = .ok (.iload_n 1, 1) := by decide +kernel
theorem dX7_takes_67 : decode cX7_takes 67 = .ok (.aload_n 0, 1) := by decide +kernel
theorem dX7_takes_68 : decode cX7_takes 68 = .ok (.getfield 22, 3) := by decide +kernel
theorem dX7_takes_71 : decode cX7_takes 71 = .ok (.iload_n 1, 1) := by decide +kernel
theorem dX7_takes_72 : decode cX7_takes 72 = .ok (.iaload, 1) := by decide +kernel
theorem dX7_takes_73 : decode cX7_takes 73 = .ok (.iastore, 1) := by decide +kernel
theorem dX7_takes_74 : decode cX7_takes 74 = .ok (.iinc 1 1, 3) := by decide +kernel
theorem dX7_takes_77 : decode cX7_takes 77 = .ok (.goto (-21), 3) := by decide +kernel
theorem dX7_takes_80 : decode cX7_takes 80 = .ok (.aload_n 0, 1) := by decide +kernel
theorem dX7_takes_81 : decode cX7_takes 81 = .ok (.iconst 0, 1) := by decide +kernel
theorem dX7_takes_82 : decode cX7_takes 82 = .ok (.putfield 54, 3) := by decide +kernel
theorem dX7_takes_85 : decode cX7_takes 85 = .ok (.return_, 1) := by decide +kernel
theorem dX7_letterAt_0 : decode cX7_letterAt 0 = .ok (.iload_n 1, 1) := by decide +kernel
theorem dX7_letterAt_1 : decode cX7_letterAt 1 = .ok (.aload_n 0, 1) := by decide +kernel
theorem dX7_letterAt_2 : decode cX7_letterAt 2 = .ok (.getfield 57, 3) := by decide +kernel
theorem dX7_letterAt_5 : decode cX7_letterAt 5 = .ok (.if_icmp .ge 12, 3) := by decide +kernel
theorem dX7_letterAt_8 : decode cX7_letterAt 8 = .ok (.aload_n 0, 1) := by decide +kernel
theorem dX7_letterAt_9 : decode cX7_letterAt 9 = .ok (.getfield 7, 3) := by decide +kernel
theorem dX7_letterAt_12 : decode cX7_letterAt 12 = .ok (.iload_n 1, 1) := by decide +kernel
theorem dX7_letterAt_13 : decode cX7_letterAt 13 = .ok (.iaload, 1) := by decide +kernel
theorem dX7_letterAt_14 : decode cX7_letterAt 14 = .ok (.goto 4, 3) := by decide +kernel
theorem dX7_letterAt_17 : decode cX7_letterAt 17 = .ok (.iconst 0, 1) := by decide +kernel
theorem dX7_letterAt_18 : decode cX7_letterAt 18 = .ok (.ireturn, 1) := by decide +kernel
theorem dX7_number_0 : decode cX7_number 0 = .ok (.iconst (-1), 1) := by decide +kernel
theorem dX7_number_1 : decode cX7_number 1 = .ok (.istore_n 2, 1) := by decide +kernel
theorem dX7_number_2 : decode cX7_number 2 = .ok (.aload_n 0, 1) := by decide +kernel
theorem dX7_number_3 : decode cX7_number 3 = .ok (.iload_n 1, 1) := by decide +kernel
theorem dX7_number_4 : decode cX7_number 4 = .ok (.putfield 60, 3) := by decide +kernel
theorem dX7_number_7 : decode cX7_number 7 = .ok (.aload_n 0, 1) := by decide +kernel
theorem dX7_number_8 : decode cX7_number 8 = .ok (.getfield 60, 3) := by decide +kernel
theorem dX7_number_11 : decode cX7_number 11 = .ok (.iload_n 1, 1) := by decide +kernel
theorem dX7_number_12 : decode cX7_number 12 = .ok (.iconst 2, 1) := by decide +kernel
theorem dX7_number_13 : decode cX7_number 13 = .ok (.iadd, 1) := by decide +kernel
theorem dX7_number_14 : decode cX7_number 14 = .ok (.if_icmp .ge 68, 3) := by decide +kernel
theorem dX7_number_17 : decode cX7_number 17 = .ok (.aload_n 0, 1) := by decide +kernel
theorem dX7_number_18 : decode cX7_number 18 = .ok (.aload_n 0, 1) := by decide +kernel
theorem dX7_number_19 : decode cX7_number 19 = .ok (.getfield 60, 3) := by decide +kernel
theorem dX7_number_22 : decode cX7_number 22 = .ok (.invokevirtual 63, 3) := by decide +kernel
theorem dX7_number_25 : decode cX7_number 25 = .ok (.bipush 48, 2) := by decide +kernel
theorem dX7_number_27 : decode cX7_number 27 = .ok (.if_icmp .lt 55, 3) := by decide +kernel
theorem dX7_number_30 : decode cX7_number 30 = .ok (.aload_n 0, 1) := by decide +kernel
theorem dX7_number_31 : decode cX7_number 31 = .ok (.aload_n 0, 1) := by decide +kernel
theorem dX7_number_32 : decode cX7_number 32 = .ok (.getfield 60, 3) := by decide +kernel
theorem dX7_number_35 : decode cX7_number 35 = .ok (.invokevirtual 63, 3) := by decide +kernel
theorem dX7_number_38 : decode cX7_number 38 = .ok (.bipush 57, 2) := by decide +kernel
theorem dX7_number_40 : decode cX7_number 40 = .ok (.if_icmp .gt 42, 3) := by decide +kernel
theorem dX7_number_43 : decode cX7_number 43 = .ok (.bipush 10, 2) := by decide +kernel
theorem dX7_number_45 : decode cX7_number 45 = .ok (.iload_n 2, 1) := by decide +kernel
theorem dX7_number_46 : decode cX7_number 46 = .ok (.ifCond .ge 7, 3) := by decide +kernel
theorem dX7_number_49 : decode cX7_number 49 = .ok (.iconst 0, 1) := by decide +kernel
theorem dX7_number_50 : decode cX7_number 50 = .ok (.goto 4, 3) := by decide +kernel
theorem dX7_number_53 : decode cX7_number 53 = .ok (.iload_n 2, 1) := by decide +kernel
theorem dX7_number_54 : decode cX7_number 54 = .ok (.imul, 1) := by decide +kernel
theorem dX7_number_55 : decode cX7_number 55 = .ok (.aload_n 0, 1) := by decide +kernel
theorem dX7_number_56 : decode cX7_number 56 = .ok (.getfield 7, 3) := by decide +kernel
theorem dX7_number_59 : decode cX7_number 59 = .ok (.aload_n 0, 1) := by decide +kernel
theorem dX7_number_60 : decode cX7_number 60 = .ok (.getfield 60, 3) := by decide +kernel
theorem dX7_number_63 : decode cX7_number 63 = .ok (.iaload, 1) := by decide +kernel
theorem dX7_number_64 : decode cX7_number 64 = .ok (.iadd, 1) := by decide +kernel
theorem dX7_number_65 : decode cX7_number 65 = .ok (.bipush 48, 2) := by decide +kernel
theorem dX7_number_67 : decode cX7_number 67 = .ok (.isub, 1) := by decide +kernel
theorem dX7_number_68 : decode cX7_number 68 = .ok (.istore_n 2, 1) := by decide +kernel
theorem dX7_number_69 : decode cX7_number 69 = .ok (.aload_n 0, 1) := by decide +kernel
theorem dX7_number_70 : decode cX7_number 70 = .ok (.dup, 1) := by decide +kernel
theorem dX7_number_71 : decode cX7_number 71 = .ok (.getfield 60, 3) := by decide +kernel
theorem dX7_number_74 : decode cX7_number 74 = .ok (.iconst 1, 1) := by decide +kernel
theorem dX7_number_75 : decode cX7_number 75 = .ok (.iadd, 1) := by decide +kernel
theorem dX7_number_76 : decode cX7_number 76 = .ok (.putfield 60, 3) := by decide +kernel
theorem dX7_number_79 : decode cX7_number 79 = .ok (.goto (-72), 3) := by decide +kernel
theorem dX7_number_82 : decode cX7_number 82 = .ok (.iload_n 2, 1) := by decide +kernel
theorem dX7_number_83 : decode cX7_number 83 = .ok (.ireturn, 1) := by decide +kernel
theorem dX7_isWord_0 : decode cX7_isWord 0 = .ok (.aload_n 0, 1) := by decide +kernel
theorem dX7_isWord_1 : decode cX7_isWord 1 = .ok (.iload_n 1, 1) := by decide +kernel
theorem dX7_isWord_2 : decode cX7_isWord 2 = .ok (.invokevirtual 63, 3) := by decide +kernel
theorem dX7_isWord_5 : decode cX7_isWord 5 = .ok (.iload_n 2, 1) := by decide +kernel
theorem dX7_isWord_6 : decode cX7_isWord 6 = .ok (.if_icmp .ne 42, 3) := by decide +kernel
theorem dX7_isWord_9 : decode cX7_isWord 9 = .ok (.aload_n 0, 1) := by decide +kernel
theorem dX7_isWord_10 : decode cX7_isWord 10 = .ok (.iload_n 1, 1) := by decide +kernel
theorem dX7_isWord_11 : decode cX7_isWord 11 = .ok (.iconst 1, 1) := by decide +kernel
theorem dX7_isWord_12 : decode cX7_isWord 12 = .ok (.iadd, 1) := by decide +kernel
theorem dX7_isWord_13 : decode cX7_isWord 13 = .ok (.invokevirtual 63, 3) := by decide +kernel
theorem dX7_isWord_16 : decode cX7_isWord 16 = .ok (.iload_n 3, 1) := by decide +kernel
theorem dX7_isWord_17 : decode cX7_isWord 17 = .ok (.if_icmp .ne 31, 3) := by decide +kernel
theorem dX7_isWord_20 : decode cX7_isWord 20 = .ok (.aload_n 0, 1) := by decide +kernel
theorem dX7_isWord_21 : decode cX7_isWord 21 = .ok (.iload_n 1, 1) := by decide +kernel
theorem dX7_isWord_22 : decode cX7_isWord 22 = .ok (.iconst 2, 1) := by decide +kernel
theorem dX7_isWord_23 : decode cX7_isWord 23 = .ok (.iadd, 1) := by decide +kernel
theorem dX7_isWord_24 : decode cX7_isWord 24 = .ok (.invokevirtual 63, 3) := by decide +kernel
theorem dX7_isWord_27 : decode cX7_isWord 27 = .ok (.iload 4, 2) := by decide +kernel
theorem dX7_isWord_29 : decode cX7_isWord 29 = .ok (.if_icmp .ne 19, 3) := by decide +kernel
theorem dX7_isWord_32 : decode cX7_isWord 32 = .ok (.aload_n 0, 1) := by decide +kernel
theorem dX7_isWord_33 : decode cX7_isWord 33 = .ok (.iload_n 1, 1) := by decide +kernel
theorem dX7_isWord_34 : decode cX7_isWord 34 = .ok (.iconst 3, 1) := by decide +kernel
theorem dX7_isWord_35 : decode cX7_isWord 35 = .ok (.iadd, 1) := by decide +kernel
theorem dX7_isWord_36 : decode cX7_isWord 36 = .ok (.invokevirtual 63, 3) := by decide +kernel
theorem dX7_isWord_39 : decode cX7_isWord 39 = .ok (.iload 5, 2) := by decide +kernel
theorem dX7_isWord_41 : decode cX7_isWord 41 = .ok (.if_icmp .ne 7, 3) := by decide +kernel
theorem dX7_isWord_44 : decode cX7_isWord 44 = .ok (.iconst 1, 1) := by decide +kernel
theorem dX7_isWord_45 : decode cX7_isWord 45 = .ok (.goto 4, 3) := by decide +kernel
theorem dX7_isWord_48 : decode cX7_isWord 48 = .ok (.iconst 0, 1) := by decide +kernel
theorem dX7_isWord_49 : decode cX7_isWord 49 = .ok (.ireturn, 1) := by decide +kernel
theorem dX7_readsCells_0 : decode cX7_readsCells 0 = .ok (.iload_n 1, 1) := by decide +kernel
theorem dX7_readsCells_1 : decode cX7_readsCells 1 = .ok (.istore_n 2, 1) := by decide +kernel
theorem dX7_readsCells_2 : decode cX7_readsCells 2 = .ok (.iconst 1, 1) := by decide +kernel
theorem dX7_readsCells_3 : decode cX7_readsCells 3 = .ok (.istore_n 3, 1) := by decide +kernel
theorem dX7_readsCells_4 : decode cX7_readsCells 4 = .ok (.iload_n 3, 1) := by decide +kernel
theorem dX7_readsCells_5 : decode cX7_readsCells 5 = .ok (.ifCond .eq 76, 3) := by decide +kernel
theorem dX7_readsCells_8 : decode cX7_readsCells 8 = .ok (.aload_n 0, 1) := by decide +kernel
theorem dX7_readsCells_9 : decode cX7_readsCells 9 = .ok (.iload_n 2, 1) := by decide +kernel
theorem dX7_readsCells_10 : decode cX7_readsCells 10 = .ok (.invokevirtual 67, 3) := by decide +kernel
theorem dX7_readsCells_13 : decode cX7_readsCells 13 = .ok (.istore 4, 2) := by decide +kernel
theorem dX7_readsCells_15 : decode cX7_readsCells 15 = .ok (.iload 4, 2) := by decide +kernel
theorem dX7_readsCells_17 : decode cX7_readsCells 17 = .ok (.ifCond .lt 12, 3) := by decide +kernel
theorem dX7_readsCells_20 : decode cX7_readsCells 20 = .ok (.aload_n 0, 1) := by decide +kernel
theorem dX7_readsCells_21 : decode cX7_readsCells 21 = .ok (.getfield 41, 3) := by decide +kernel
theorem dX7_readsCells_24 : decode cX7_readsCells 24 = .ok (.bipush 48, 2) := by decide +kernel
theorem dX7_readsCells_26 : decode cX7_readsCells 26 = .ok (.if_icmp .ne 5, 3) := by decide +kernel
theorem dX7_readsCells_29 : decode cX7_readsCells 29 = .ok (.iconst 0, 1) := by decide +kernel
theorem dX7_readsCells_30 : decode cX7_readsCells 30 = .ok (.ireturn, 1) := by decide +kernel
theorem dX7_readsCells_31 : decode cX7_readsCells 31 = .ok (.aload_n 0, 1) := by decide +kernel
theorem dX7_readsCells_32 : decode cX7_readsCells 32 = .ok (.getfield 22, 3) := by decide +kernel
theorem dX7_readsCells_35 : decode cX7_readsCells 35 = .ok (.aload_n 0, 1) := by decide +kernel
theorem dX7_readsCells_36 : decode cX7_readsCells 36 = .ok (.getfield 41, 3) := by decide +kernel
theorem dX7_readsCells_39 : decode cX7_readsCells 39 = .ok (.iload 4, 2) := by decide +kernel
theorem dX7_readsCells_41 : decode cX7_readsCells 41 = .ok (.iastore, 1) := by decide +kernel
theorem dX7_readsCells_42 : decode cX7_readsCells 42 = .ok (.aload_n 0, 1) := by decide +kernel
theorem dX7_readsCells_43 : decode cX7_readsCells 43 = .ok (.dup, 1) := by decide +kernel
theorem dX7_readsCells_44 : decode cX7_readsCells 44 = .ok (.getfield 41, 3) := by decide +kernel
theorem dX7_readsCells_47 : decode cX7_readsCells 47 = .ok (.iconst 1, 1) := by decide +kernel
theorem dX7_readsCells_48 : decode cX7_readsCells 48 = .ok (.iadd, 1) := by decide +kernel
theorem dX7_readsCells_49 : decode cX7_readsCells 49 = .ok (.putfield 41, 3) := by decide +kernel
theorem dX7_readsCells_52 : decode cX7_readsCells 52 = .ok (.aload_n 0, 1) := by decide +kernel
theorem dX7_readsCells_53 : decode cX7_readsCells 53 = .ok (.aload_n 0, 1) := by decide +kernel
theorem dX7_readsCells_54 : decode cX7_readsCells 54 = .ok (.getfield 60, 3) := by decide +kernel
theorem dX7_readsCells_57 : decode cX7_readsCells 57 = .ok (.invokevirtual 63, 3) := by decide +kernel
theorem dX7_readsCells_60 : decode cX7_readsCells 60 = .ok (.bipush 44, 2) := by decide +kernel
theorem dX7_readsCells_62 : decode cX7_readsCells 62 = .ok (.if_icmp .ne 7, 3) := by decide +kernel
theorem dX7_readsCells_65 : decode cX7_readsCells 65 = .ok (.iconst 1, 1) := by decide +kernel
theorem dX7_readsCells_66 : decode cX7_readsCells 66 = .ok (.goto 4, 3) := by decide +kernel
theorem dX7_readsCells_69 : decode cX7_readsCells 69 = .ok (.iconst 0, 1) := by decide +kernel
theorem dX7_readsCells_70 : decode cX7_readsCells 70 = .ok (.istore_n 3, 1) := by decide +kernel
theorem dX7_readsCells_71 : decode cX7_readsCells 71 = .ok (.aload_n 0, 1) := by decide +kernel
theorem dX7_readsCells_72 : decode cX7_readsCells 72 = .ok (.getfield 60, 3) := by decide +kernel
theorem dX7_readsCells_75 : decode cX7_readsCells 75 = .ok (.iconst 1, 1) := by decide +kernel
theorem dX7_readsCells_76 : decode cX7_readsCells 76 = .ok (.iadd, 1) := by decide +kernel
theorem dX7_readsCells_77 : decode cX7_readsCells 77 = .ok (.istore_n 2, 1) := by decide +kernel
theorem dX7_readsCells_78 : decode cX7_readsCells 78 = .ok (.goto (-74), 3) := by decide +kernel
theorem dX7_readsCells_81 : decode cX7_readsCells 81 = .ok (.iconst 1, 1) := by decide +kernel
theorem dX7_readsCells_82 : decode cX7_readsCells 82 = .ok (.ireturn, 1) := by decide +kernel
theorem dX7_readsLook_0 : decode cX7_readsLook 0 = .ok (.iload_n 1, 1) := by decide +kernel
theorem dX7_readsLook_1 : decode cX7_readsLook 1 = .ok (.istore_n 2, 1) := by decide +kernel
theorem dX7_readsLook_2 : decode cX7_readsLook 2 = .ok (.iconst 0, 1) := by decide +kernel
theorem dX7_readsLook_3 : decode cX7_readsLook 3 = .ok (.istore_n 3, 1) := by decide +kernel
theorem dX7_readsLook_4 : decode cX7_readsLook 4 = .ok (.iload_n 3, 1) := by decide +kernel
theorem dX7_readsLook_5 : decode cX7_readsLook 5 = .ok (.iconst 5, 1) := by decide +kernel
theorem dX7_readsLook_6 : decode cX7_readsLook 6 = .ok (.if_icmp .ge 70, 3) := by decide +kernel
theorem dX7_readsLook_9 : decode cX7_readsLook 9 = .ok (.aload_n 0, 1) := by decide +kernel
theorem dX7_readsLook_10 : decode cX7_readsLook 10 = .ok (.iload_n 2, 1) := by decide +kernel
theorem dX7_readsLook_11 : decode cX7_readsLook 11 = .ok (.invokevirtual 67, 3) := by decide +kernel
theorem dX7_readsLook_14 : decode cX7_readsLook 14 = .ok (.istore 4, 2) := by decide +kernel
theorem dX7_readsLook_16 : decode cX7_readsLook 16 = .ok (.iload 4, 2) := by decide +kernel
theorem dX7_readsLook_18 : decode cX7_readsLook 18 = .ok (.iload_n 3, 1) := by decide +kernel
theorem dX7_readsLook_19 : decode cX7_readsLook 19 = .ok (.invokestatic 70, 3) := by decide +kernel
theorem dX7_readsLook_22 : decode cX7_readsLook 22 = .ok (.iload_n 3, 1) := by decide +kernel
theorem dX7_readsLook_23 : decode cX7_readsLook 23 = .ok (.invokestatic 73, 3) := by decide +kernel
theorem dX7_readsLook_26 : decode cX7_readsLook 26 = .ok (.invokestatic 76, 3) := by decide +kernel
theorem dX7_readsLook_29 : decode cX7_readsLook 29 = .ok (.ifCond .eq 21, 3) := by decide +kernel
theorem dX7_readsLook_32 : decode cX7_readsLook 32 = .ok (.iload_n 3, 1) := by decide +kernel
theorem dX7_readsLook_33 : decode cX7_readsLook 33 = .ok (.iconst 4, 1) := by decide +kernel
theorem dX7_readsLook_34 : decode cX7_readsLook 34 = .ok (.if_icmp .ge 18, 3) := by decide +kernel
theorem dX7_readsLook_37 : decode cX7_readsLook 37 = .ok (.aload_n 0, 1) := by decide +kernel
theorem dX7_readsLook_38 : decode cX7_readsLook 38 = .ok (.aload_n 0, 1) := by decide +kernel
theorem dX7_readsLook_39 : decode cX7_readsLook 39 = .ok (.getfield 60, 3) := by decide +kernel
theorem dX7_readsLook_42 : decode cX7_readsLook 42 = .ok (.invokevirtual 63, 3) := by decide +kernel
theorem dX7_readsLook_45 : decode cX7_readsLook 45 = .ok (.bipush 44, 2) := by decide +kernel
theorem dX7_readsLook_47 : decode cX7_readsLook 47 = .ok (.if_icmp .eq 5, 3) := by decide +kernel
theorem dX7_readsLook_50 : decode cX7_readsLook 50 = .ok (.iconst 0, 1) := by decide +kernel
theorem dX7_readsLook_51 : decode cX7_readsLook 51 = .ok (.ireturn, 1) := by decide +kernel
theorem dX7_readsLook_52 : decode cX7_readsLook 52 = .ok (.aload_n 0, 1) := by decide +kernel
theorem dX7_readsLook_53 : decode cX7_readsLook 53 = .ok (.getfield 22, 3) := by decide +kernel
theorem dX7_readsLook_56 : decode cX7_readsLook 56 = .ok (.bipush 96, 2) := by decide +kernel
theorem dX7_readsLook_58 : decode cX7_readsLook 58 = .ok (.iload_n 3, 1) := by decide +kernel
theorem dX7_readsLook_59 : decode cX7_readsLook 59 = .ok (.iadd, 1) := by decide +kernel
theorem dX7_readsLook_60 : decode cX7_readsLook 60 = .ok (.iload 4, 2) := by decide +kernel
theorem dX7_readsLook_62 : decode cX7_readsLook 62 = .ok (.iastore, 1) := by decide +kernel
theorem dX7_readsLook_63 : decode cX7_readsLook 63 = .ok (.aload_n 0, 1) := by decide +kernel
theorem dX7_readsLook_64 : decode cX7_readsLook 64 = .ok (.getfield 60, 3) := by decide +kernel
theorem dX7_readsLook_67 : decode cX7_readsLook 67 = .ok (.iconst 1, 1) := by decide +kernel
theorem dX7_readsLook_68 : decode cX7_readsLook 68 = .ok (.iadd, 1) := by decide +kernel
theorem dX7_readsLook_69 : decode cX7_readsLook 69 = .ok (.istore_n 2, 1) := by decide +kernel
theorem dX7_readsLook_70 : decode cX7_readsLook 70 = .ok (.iinc 3 1, 3) := by decide +kernel
theorem dX7_readsLook_73 : decode cX7_readsLook 73 = .ok (.goto (-69), 3) := by decide +kernel
theorem dX7_readsLook_76 : decode cX7_readsLook 76 = .ok (.iconst 1, 1) := by decide +kernel
theorem dX7_readsLook_77 : decode cX7_readsLook 77 = .ok (.ireturn, 1) := by decide +kernel
theorem dX7_readsMode_0 : decode cX7_readsMode 0 = .ok (.aload_n 0, 1) := by decide +kernel
theorem dX7_readsMode_1 : decode cX7_readsMode 1 = .ok (.iload_n 1, 1) := by decide +kernel
theorem dX7_readsMode_2 : decode cX7_readsMode 2 = .ok (.bipush 98, 2) := by decide +kernel
theorem dX7_readsMode_4 : decode cX7_readsMode 4 = .ok (.bipush 111, 2) := by decide +kernel
theorem dX7_readsMode_6 : decode cX7_readsMode 6 = .ok (.bipush 116, 2) := by decide +kernel
theorem dX7_readsMode_8 : decode cX7_readsMode 8 = .ok (.bipush 104, 2) := by decide +kernel
theorem dX7_readsMode_10 : decode cX7_readsMode 10 = .ok (.invokevirtual 80, 3) := by decide +kernel
theorem dX7_readsMode_13 : decode cX7_readsMode 13 = .ok (.istore_n 2, 1) := by decide +kernel
theorem dX7_readsMode_14 : decode cX7_readsMode 14 = .ok (.aload_n 0, 1) := by decide +kernel
theorem dX7_readsMode_15 : decode cX7_readsMode 15 = .ok (.iload_n 1, 1) := by decide +kernel
theorem dX7_readsMode_16 : decode cX7_readsMode 16 = .ok (.bipush 109, 2) := by decide +kernel
theorem dX7_readsMode_18 : decode cX7_readsMode 18 = .ok (.bipush 111, 2) := by decide +kernel
theorem dX7_readsMode_20 : decode cX7_readsMode 20 = .ok (.bipush 114, 2) := by decide +kernel
theorem dX7_readsMode_22 : decode cX7_readsMode 22 = .ok (.bipush 101, 2) := by decide +kernel
theorem dX7_readsMode_24 : decode cX7_readsMode 24 = .ok (.invokevirtual 80, 3) := by decide +kernel
theorem dX7_readsMode_27 : decode cX7_readsMode 27 = .ok (.istore_n 3, 1) := by decide +kernel
theorem dX7_readsMode_28 : decode cX7_readsMode 28 = .ok (.aload_n 0, 1) := by decide +kernel
theorem dX7_readsMode_29 : decode cX7_readsMode 29 = .ok (.iload_n 1, 1) := by decide +kernel
theorem dX7_readsMode_30 : decode cX7_readsMode 30 = .ok (.bipush 108, 2) := by decide +kernel
theorem dX7_readsMode_32 : decode cX7_readsMode 32 = .ok (.bipush 101, 2) := by decide +kernel
theorem dX7_readsMode_34 : decode cX7_readsMode 34 = .ok (.bipush 115, 2) := by decide +kernel
theorem dX7_readsMode_36 : decode cX7_readsMode 36 = .ok (.bipush 115, 2) := by decide +kernel
theorem dX7_readsMode_38 : decode cX7_readsMode 38 = .ok (.invokevirtual 80, 3) := by decide +kernel
theorem dX7_readsMode_41 : decode cX7_readsMode 41 = .ok (.istore 4, 2) := by decide +kernel
theorem dX7_readsMode_43 : decode cX7_readsMode 43 = .ok (.aload_n 0, 1) := by decide +kernel
theorem dX7_readsMode_44 : decode cX7_readsMode 44 = .ok (.getfield 22, 3) := by decide +kernel
theorem dX7_readsMode_47 : decode cX7_readsMode 47 = .ok (.bipush 101, 2) := by decide +kernel
theorem dX7_readsMode_49 : decode cX7_readsMode 49 = .ok (.iload_n 2, 1) := by decide +kernel
theorem dX7_readsMode_50 : decode cX7_readsMode 50 = .ok (.ifCond .eq 7, 3) := by decide +kernel
theorem dX7_readsMode_53 : decode cX7_readsMode 53 = .ok (.iconst 0, 1) := by decide +kernel
theorem dX7_readsMode_54 : decode cX7_readsMode 54 = .ok (.goto 12, 3) := by decide +kernel
theorem dX7_readsMode_57 : decode cX7_readsMode 57 = .ok (.iload_n 3, 1) := by decide +kernel
theorem dX7_readsMode_58 : decode cX7_readsMode 58 = .ok (.ifCond .eq 7, 3) := by decide +kernel
theorem dX7_readsMode_61 : decode cX7_readsMode 61 = .ok (.iconst 1, 1) := by decide +kernel
theorem dX7_readsMode_62 : decode cX7_readsMode 62 = .ok (.goto 4, 3) := by decide +kernel
theorem dX7_readsMode_65 : decode cX7_readsMode 65 = .ok (.iconst 2, 1) := by decide +kernel
theorem dX7_readsMode_66 : decode cX7_readsMode 66 = .ok (.iastore, 1) := by decide +kernel
theorem dX7_readsMode_67 : decode cX7_readsMode 67 = .ok (.aload_n 0, 1) := by decide +kernel
theorem dX7_readsMode_68 : decode cX7_readsMode 68 = .ok (.iload_n 1, 1) := by decide +kernel
theorem dX7_readsMode_69 : decode cX7_readsMode 69 = .ok (.iconst 4, 1) := by decide +kernel
theorem dX7_readsMode_70 : decode cX7_readsMode 70 = .ok (.iadd, 1) := by decide +kernel
theorem dX7_readsMode_71 : decode cX7_readsMode 71 = .ok (.putfield 60, 3) := by decide +kernel
theorem dX7_readsMode_74 : decode cX7_readsMode 74 = .ok (.iload_n 2, 1) := by decide +kernel
theorem dX7_readsMode_75 : decode cX7_readsMode 75 = .ok (.ifCond .ne 12, 3) := by decide +kernel
theorem dX7_readsMode_78 : decode cX7_readsMode 78 = .ok (.iload_n 3, 1) := by decide +kernel
theorem dX7_readsMode_79 : decode cX7_readsMode 79 = .ok (.ifCond .ne 8, 3) := by decide +kernel
theorem dX7_readsMode_82 : decode cX7_readsMode 82 = .ok (.iload 4, 2) := by decide +kernel
theorem dX7_readsMode_84 : decode cX7_readsMode 84 = .ok (.ifCond .eq 7, 3) := by decide +kernel
theorem dX7_readsMode_87 : decode cX7_readsMode 87 = .ok (.iconst 1, 1) := by decide +kernel
theorem dX7_readsMode_88 : decode cX7_readsMode 88 = .ok (.goto 4, 3) := by decide +kernel
theorem dX7_readsMode_91 : decode cX7_readsMode 91 = .ok (.iconst 0, 1) := by decide +kernel
theorem dX7_readsMode_92 : decode cX7_readsMode 92 = .ok (.ireturn, 1) := by decide +kernel
theorem dX7_readsNoise_0 : decode cX7_readsNoise 0 = .ok (.iload_n 1, 1) := by decide +kernel
theorem dX7_readsNoise_1 : decode cX7_readsNoise 1 = .ok (.istore_n 2, 1) := by decide +kernel
theorem dX7_readsNoise_2 : decode cX7_readsNoise 2 = .ok (.iconst 0, 1) := by decide +kernel
theorem dX7_readsNoise_3 : decode cX7_readsNoise 3 = .ok (.istore_n 3, 1) := by decide +kernel
theorem dX7_readsNoise_4 : decode cX7_readsNoise 4 = .ok (.iconst 0, 1) := by decide +kernel
theorem dX7_readsNoise_5 : decode cX7_readsNoise 5 = .ok (.istore 4, 2) := by decide +kernel
theorem dX7_readsNoise_7 : decode cX7_readsNoise 7 = .ok (.iconst 1, 1) := by decide +kernel
theorem dX7_readsNoise_8 : decode cX7_readsNoise 8 = .ok (.istore 5, 2) := by decide +kernel
theorem dX7_readsNoise_10 : decode cX7_readsNoise 10 = .ok (.iload 5, 2) := by decide +kernel
theorem dX7_readsNoise_12 : decode cX7_readsNoise 12 = .ok (.ifCond .eq 77, 3) := by decide +kernel
theorem dX7_readsNoise_15 : decode cX7_readsNoise 15 = .ok (.aload_n 0, 1) := by decide +kernel
theorem dX7_readsNoise_16 : decode cX7_readsNoise 16 = .ok (.iload_n 2, 1) := by decide +kernel
theorem dX7_readsNoise_17 : decode cX7_readsNoise 17 = .ok (.invokevirtual 67, 3) := by decide +kernel
theorem dX7_readsNoise_20 : decode cX7_readsNoise 20 = .ok (.istore 6, 2) := by decide +kernel
theorem dX7_readsNoise_22 : decode cX7_readsNoise 22 = .ok (.iload 6, 2) := by decide +kernel
theorem dX7_readsNoise_24 : decode cX7_readsNoise 24 = .ok (.iconst 0, 1) := by decide +kernel
theorem dX7_readsNoise_25 : decode cX7_readsNoise 25 = .ok (.bipush 16, 2) := by decide +kernel
theorem dX7_readsNoise_27 : decode cX7_readsNoise 27 = .ok (.invokestatic 76, 3) := by decide +kernel
theorem dX7_readsNoise_30 : decode cX7_readsNoise 30 = .ok (.ifCond .eq 10, 3) := by decide +kernel
theorem dX7_readsNoise_33 : decode cX7_readsNoise 33 = .ok (.iload 4, 2) := by decide +kernel
theorem dX7_readsNoise_35 : decode cX7_readsNoise 35 = .ok (.bipush 8, 2) := by decide +kernel
theorem dX7_readsNoise_37 : decode cX7_readsNoise 37 = .ok (.if_icmp .ne 5, 3) := by decide +kernel
theorem dX7_readsNoise_40 : decode cX7_readsNoise 40 = .ok (.iconst 0, 1) := by decide +kernel
theorem dX7_readsNoise_41 : decode cX7_readsNoise 41 = .ok (.ireturn, 1) := by decide +kernel
theorem dX7_readsNoise_42 : decode cX7_readsNoise 42 = .ok (.aload_n 0, 1) := by decide +kernel
theorem dX7_readsNoise_43 : decode cX7_readsNoise 43 = .ok (.getfield 25, 3) := by decide +kernel
theorem dX7_readsNoise_46 : decode cX7_readsNoise 46 = .ok (.iload 4, 2) := by decide +kernel
theorem dX7_readsNoise_48 : decode cX7_readsNoise 48 = .ok (.iload 6, 2) := by decide +kernel
theorem dX7_readsNoise_50 : decode cX7_readsNoise 50 = .ok (.iastore, 1) := by decide +kernel
theorem dX7_readsNoise_51 : decode cX7_readsNoise 51 = .ok (.iload_n 3, 1) := by decide +kernel
theorem dX7_readsNoise_52 : decode cX7_readsNoise 52 = .ok (.iload 6, 2) := by decide +kernel
theorem dX7_readsNoise_54 : decode cX7_readsNoise 54 = .ok (.iadd, 1) := by decide +kernel
theorem dX7_readsNoise_55 : decode cX7_readsNoise 55 = .ok (.istore_n 3, 1) := by decide +kernel
theorem dX7_readsNoise_56 : decode cX7_readsNoise 56 = .ok (.iinc 4 1, 3) := by decide +kernel
theorem dX7_readsNoise_59 : decode cX7_readsNoise 59 = .ok (.aload_n 0, 1) := by decide +kernel
theorem dX7_readsNoise_60 : decode cX7_readsNoise 60 = .ok (.aload_n 0, 1) := by decide +kernel
theorem dX7_readsNoise_61 : decode cX7_readsNoise 61 = .ok (.getfield 60, 3) := by decide +kernel
theorem dX7_readsNoise_64 : decode cX7_readsNoise 64 = .ok (.invokevirtual 63, 3) := by decide +kernel
theorem dX7_readsNoise_67 : decode cX7_readsNoise 67 = .ok (.bipush 44, 2) := by decide +kernel
theorem dX7_readsNoise_69 : decode cX7_readsNoise 69 = .ok (.if_icmp .ne 7, 3) := by decide +kernel
theorem dX7_readsNoise_72 : decode cX7_readsNoise 72 = .ok (.iconst 1, 1) := by decide +kernel
theorem dX7_readsNoise_73 : decode cX7_readsNoise 73 = .ok (.goto 4, 3) := by decide +kernel
theorem dX7_readsNoise_76 : decode cX7_readsNoise 76 = .ok (.iconst 0, 1) := by decide +kernel
theorem dX7_readsNoise_77 : decode cX7_readsNoise 77 = .ok (.istore 5, 2) := by decide +kernel
theorem dX7_readsNoise_79 : decode cX7_readsNoise 79 = .ok (.aload_n 0, 1) := by decide +kernel
theorem dX7_readsNoise_80 : decode cX7_readsNoise 80 = .ok (.getfield 60, 3) := by decide +kernel
theorem dX7_readsNoise_83 : decode cX7_readsNoise 83 = .ok (.iconst 1, 1) := by decide +kernel
theorem dX7_readsNoise_84 : decode cX7_readsNoise 84 = .ok (.iadd, 1) := by decide +kernel
theorem dX7_readsNoise_85 : decode cX7_readsNoise 85 = .ok (.istore_n 2, 1) := by decide +kernel
theorem dX7_readsNoise_86 : decode cX7_readsNoise 86 = .ok (.goto (-76), 3) := by decide +kernel
theorem dX7_readsNoise_89 : decode cX7_readsNoise 89 = .ok (.aload_n 0, 1) := by decide +kernel
theorem dX7_readsNoise_90 : decode cX7_readsNoise 90 = .ok (.iload 4, 2) := by decide +kernel
theorem dX7_readsNoise_92 : decode cX7_readsNoise 92 = .ok (.putfield 45, 3) := by decide +kernel
theorem dX7_readsNoise_95 : decode cX7_readsNoise 95 = .ok (.iload 4, 2) := by decide +kernel
theorem dX7_readsNoise_97 : decode cX7_readsNoise 97 = .ok (.iconst 1, 1) := by decide +kernel
theorem dX7_readsNoise_98 : decode cX7_readsNoise 98 = .ok (.if_icmp .le 17, 3) := by decide +kernel
theorem dX7_readsNoise_101 : decode cX7_readsNoise 101 = .ok (.iload_n 3, 1) := by decide +kernel
theorem dX7_readsNoise_102 : decode cX7_readsNoise 102 = .ok (.iconst 1, 1) := by decide +kernel
theorem dX7_readsNoise_103 : decode cX7_readsNoise 103 = .ok (.bipush 16, 2) := by decide +kernel
theorem dX7_readsNoise_105 : decode cX7_readsNoise 105 = .ok (.invokestatic 76, 3) := by decide +kernel
theorem dX7_readsNoise_108 : decode cX7_readsNoise 108 = .ok (.ifCond .eq 7, 3) := by decide +kernel
theorem dX7_readsNoise_111 : decode cX7_readsNoise 111 = .ok (.iconst 1, 1) := by decide +kernel
theorem dX7_readsNoise_112 : decode cX7_readsNoise 112 = .ok (.goto 4, 3) := by decide +kernel
theorem dX7_readsNoise_115 : decode cX7_readsNoise 115 = .ok (.iconst 0, 1) := by decide +kernel
theorem dX7_readsNoise_116 : decode cX7_readsNoise 116 = .ok (.ireturn, 1) := by decide +kernel
theorem dX7_readsItem_0 : decode cX7_readsItem 0 = .ok (.aload_n 0, 1) := by decide +kernel
theorem dX7_readsItem_1 : decode cX7_readsItem 1 = .ok (.iload_n 1, 1) := by decide +kernel
theorem dX7_readsItem_2 : decode cX7_readsItem 2 = .ok (.iconst 4, 1) := by decide +kernel
theorem dX7_readsItem_3 : decode cX7_readsItem 3 = .ok (.iadd, 1) := by decide +kernel
theorem dX7_readsItem_4 : decode cX7_readsItem 4 = .ok (.invokevirtual 63, 3) := by decide +kernel
theorem dX7_readsItem_7 : decode cX7_readsItem 7 = .ok (.bipush 32, 2) := by decide +kernel
theorem dX7_readsItem_9 : decode cX7_readsItem 9 = .ok (.if_icmp .eq 5, 3) := by decide +kernel
theorem dX7_readsItem_12 : decode cX7_readsItem 12 = .ok (.iconst 0, 1) := by decide +kernel
theorem dX7_readsItem_13 : decode cX7_readsItem 13 = .ok (.ireturn, 1) := by decide +kernel
theorem dX7_readsItem_14 : decode cX7_readsItem 14 = .ok (.aload_n 0, 1) := by decide +kernel
theorem dX7_readsItem_15 : decode cX7_readsItem 15 = .ok (.iload_n 1, 1) := by decide +kernel
theorem dX7_readsItem_16 : decode cX7_readsItem 16 = .ok (.bipush 99, 2) := by decide +kernel
theorem dX7_readsItem_18 : decode cX7_readsItem 18 = .ok (.bipush 101, 2) := by decide +kernel
theorem dX7_readsItem_20 : decode cX7_readsItem 20 = .ok (.bipush 108, 2) := by decide +kernel
theorem dX7_readsItem_22 : decode cX7_readsItem 22 = .ok (.bipush 108, 2) := by decide +kernel
theorem dX7_readsItem_24 : decode cX7_readsItem 24 = .ok (.invokevirtual 80, 3) := by decide +kernel
theorem dX7_readsItem_27 : decode cX7_readsItem 27 = .ok (.ifCond .eq 11, 3) := by decide +kernel
theorem dX7_readsItem_30 : decode cX7_readsItem 30 = .ok (.aload_n 0, 1) := by decide +kernel
theorem dX7_readsItem_31 : decode cX7_readsItem 31 = .ok (.iload_n 1, 1) := by decide +kernel
theorem dX7_readsItem_32 : decode cX7_readsItem 32 = .ok (.iconst 5, 1) := by decide +kernel
theorem dX7_readsItem_33 : decode cX7_readsItem 33 = .ok (.iadd, 1) := by decide +kernel
theorem dX7_readsItem_34 : decode cX7_readsItem 34 = .ok (.invokevirtual 84, 3) := by decide +kernel
theorem dX7_readsItem_37 : decode cX7_readsItem 37 = .ok (.ireturn, 1) := by decide +kernel
theorem dX7_readsItem_38 : decode cX7_readsItem 38 = .ok (.aload_n 0, 1) := by decide +kernel
theorem dX7_readsItem_39 : decode cX7_readsItem 39 = .ok (.iload_n 1, 1) := by decide +kernel
theorem dX7_readsItem_40 : decode cX7_readsItem 40 = .ok (.bipush 108, 2) := by decide +kernel
theorem dX7_readsItem_42 : decode cX7_readsItem 42 = .ok (.bipush 111, 2) := by decide +kernel
theorem dX7_readsItem_44 : decode cX7_readsItem 44 = .ok (.bipush 111, 2) := by decide +kernel
theorem dX7_readsItem_46 : decode cX7_readsItem 46 = .ok (.bipush 107, 2) := by decide +kernel
theorem dX7_readsItem_48 : decode cX7_readsItem 48 = .ok (.invokevirtual 80, 3) := by decide +kernel
theorem dX7_readsItem_51 : decode cX7_readsItem 51 = .ok (.ifCond .eq 11, 3) := by decide +kernel
theorem dX7_readsItem_54 : decode cX7_readsItem 54 = .ok (.aload_n 0, 1) := by decide +kernel
theorem dX7_readsItem_55 : decode cX7_readsItem 55 = .ok (.iload_n 1, 1) := by decide +kernel
theorem dX7_readsItem_56 : decode cX7_readsItem 56 = .ok (.iconst 5, 1) := by decide +kernel
theorem dX7_readsItem_57 : decode cX7_readsItem 57 = .ok (.iadd, 1) := by decide +kernel
theorem dX7_readsItem_58 : decode cX7_readsItem 58 = .ok (.invokevirtual 88, 3) := by decide +kernel
theorem dX7_readsItem_61 : decode cX7_readsItem 61 = .ok (.ireturn, 1) := by decide +kernel
theorem dX7_readsItem_62 : decode cX7_readsItem 62 = .ok (.aload_n 0, 1) := by decide +kernel
theorem dX7_readsItem_63 : decode cX7_readsItem 63 = .ok (.iload_n 1, 1) := by decide +kernel
theorem dX7_readsItem_64 : decode cX7_readsItem 64 = .ok (.bipush 109, 2) := by decide +kernel
theorem dX7_readsItem_66 : decode cX7_readsItem 66 = .ok (.bipush 111, 2) := by decide +kernel
theorem dX7_readsItem_68 : decode cX7_readsItem 68 = .ok (.bipush 100, 2) := by decide +kernel
theorem dX7_readsItem_70 : decode cX7_readsItem 70 = .ok (.bipush 101, 2) := by decide +kernel
theorem dX7_readsItem_72 : decode cX7_readsItem 72 = .ok (.invokevirtual 80, 3) := by decide +kernel
theorem dX7_readsItem_75 : decode cX7_readsItem 75 = .ok (.ifCond .eq 11, 3) := by decide +kernel
theorem dX7_readsItem_78 : decode cX7_readsItem 78 = .ok (.aload_n 0, 1) := by decide +kernel
theorem dX7_readsItem_79 : decode cX7_readsItem 79 = .ok (.iload_n 1, 1) := by decide +kernel
theorem dX7_readsItem_80 : decode cX7_readsItem 80 = .ok (.iconst 5, 1) := by decide +kernel
theorem dX7_readsItem_81 : decode cX7_readsItem 81 = .ok (.iadd, 1) := by decide +kernel
theorem dX7_readsItem_82 : decode cX7_readsItem 82 = .ok (.invokevirtual 91, 3) := by decide +kernel
theorem dX7_readsItem_85 : decode cX7_readsItem 85 = .ok (.ireturn, 1) := by decide +kernel
theorem dX7_readsItem_86 : decode cX7_readsItem 86 = .ok (.aload_n 0, 1) := by decide +kernel
theorem dX7_readsItem_87 : decode cX7_readsItem 87 = .ok (.iload_n 1, 1) := by decide +kernel
theorem dX7_readsItem_88 : decode cX7_readsItem 88 = .ok (.bipush 100, 2) := by decide +kernel
theorem dX7_readsItem_90 : decode cX7_readsItem 90 = .ok (.bipush 105, 2) := by decide +kernel
theorem dX7_readsItem_92 : decode cX7_readsItem 92 = .ok (.bipush 99, 2) := by decide +kernel
theorem dX7_readsItem_94 : decode cX7_readsItem 94 = .ok (.bipush 101, 2) := by decide +kernel
theorem dX7_readsItem_96 : decode cX7_readsItem 96 = .ok (.invokevirtual 80, 3) := by decide +kernel
theorem dX7_readsItem_99 : decode cX7_readsItem 99 = .ok (.ifCond .eq 17, 3) := by decide +kernel
theorem dX7_readsItem_102 : decode cX7_readsItem 102 = .ok (.aload_n 0, 1) := by decide +kernel
theorem dX7_readsItem_103 : decode cX7_readsItem 103 = .ok (.iload_n 1, 1) := by decide +kernel
theorem dX7_readsItem_104 : decode cX7_readsItem 104 = .ok (.iconst 5, 1) := by decide +kernel
theorem dX7_readsItem_105 : decode cX7_readsItem 105 = .ok (.iadd, 1) := by decide +kernel
theorem dX7_readsItem_106 : decode cX7_readsItem 106 = .ok (.invokevirtual 94, 3) := by decide +kernel
theorem dX7_readsItem_109 : decode cX7_readsItem 109 = .ok (.ifCond .eq 7, 3) := by decide +kernel
theorem dX7_readsItem_112 : decode cX7_readsItem 112 = .ok (.iconst 1, 1) := by decide +kernel
theorem dX7_readsItem_113 : decode cX7_readsItem 113 = .ok (.goto 4, 3) := by decide +kernel
theorem dX7_readsItem_116 : decode cX7_readsItem 116 = .ok (.iconst 0, 1) := by decide +kernel
theorem dX7_readsItem_117 : decode cX7_readsItem 117 = .ok (.ireturn, 1) := by decide +kernel
theorem dX7_reads_0 : decode cX7_reads 0 = .ok (.aload_n 0, 1) := by decide +kernel
theorem dX7_reads_1 : decode cX7_reads 1 = .ok (.invokevirtual 31, 3) := by decide +kernel
theorem dX7_reads_4 : decode cX7_reads 4 = .ok (.iconst 0, 1) := by decide +kernel
theorem dX7_reads_5 : decode cX7_reads 5 = .ok (.istore_n 1, 1) := by decide +kernel
theorem dX7_reads_6 : decode cX7_reads 6 = .ok (.iload_n 1, 1) := by decide +kernel
theorem dX7_reads_7 : decode cX7_reads 7 = .ok (.aload_n 0, 1) := by decide +kernel
theorem dX7_reads_8 : decode cX7_reads 8 = .ok (.getfield 57, 3) := by decide +kernel
theorem dX7_reads_11 : decode cX7_reads 11 = .ok (.if_icmp .ge 36, 3) := by decide +kernel
theorem dX7_reads_14 : decode cX7_reads 14 = .ok (.aload_n 0, 1) := by decide +kernel
theorem dX7_reads_15 : decode cX7_reads 15 = .ok (.iload_n 1, 1) := by decide +kernel
theorem dX7_reads_16 : decode cX7_reads 16 = .ok (.invokevirtual 97, 3) := by decide +kernel
theorem dX7_reads_19 : decode cX7_reads 19 = .ok (.ifCond .eq 16, 3) := by decide +kernel
theorem dX7_reads_22 : decode cX7_reads 22 = .ok (.aload_n 0, 1) := by decide +kernel
theorem dX7_reads_23 : decode cX7_reads 23 = .ok (.aload_n 0, 1) := by decide +kernel
theorem dX7_reads_24 : decode cX7_reads 24 = .ok (.getfield 60, 3) := by decide +kernel
theorem dX7_reads_27 : decode cX7_reads 27 = .ok (.invokevirtual 63, 3) := by decide +kernel
theorem dX7_reads_30 : decode cX7_reads 30 = .ok (.bipush 59, 2) := by decide +kernel
theorem dX7_reads_32 : decode cX7_reads 32 = .ok (.if_icmp .eq 5, 3) := by decide +kernel
theorem dX7_reads_35 : decode cX7_reads 35 = .ok (.iload_n 1, 1) := by decide +kernel
theorem dX7_reads_36 : decode cX7_reads 36 = .ok (.ireturn, 1) := by decide +kernel
theorem dX7_reads_37 : decode cX7_reads 37 = .ok (.aload_n 0, 1) := by decide +kernel
theorem dX7_reads_38 : decode cX7_reads 38 = .ok (.getfield 60, 3) := by decide +kernel
theorem dX7_reads_41 : decode cX7_reads 41 = .ok (.iconst 1, 1) := by decide +kernel
theorem dX7_reads_42 : decode cX7_reads 42 = .ok (.iadd, 1) := by decide +kernel
theorem dX7_reads_43 : decode cX7_reads 43 = .ok (.istore_n 1, 1) := by decide +kernel
theorem dX7_reads_44 : decode cX7_reads 44 = .ok (.goto (-38), 3) := by decide +kernel
theorem dX7_reads_47 : decode cX7_reads 47 = .ok (.bipush (-4), 2) := by decide +kernel
theorem dX7_reads_49 : decode cX7_reads 49 = .ok (.ireturn, 1) := by decide +kernel
theorem dX7_write_0 : decode cX7_write 0 = .ok (.iload_n 1, 1) := by decide +kernel
theorem dX7_write_1 : decode cX7_write 1 = .ok (.bipush 32, 2) := by decide +kernel
theorem dX7_write_3 : decode cX7_write 3 = .ok (.if_icmp .lt 9, 3) := by decide +kernel
theorem dX7_write_6 : decode cX7_write 6 = .ok (.iload_n 1, 1) := by decide +kernel
theorem dX7_write_7 : decode cX7_write 7 = .ok (.bipush 126, 2) := by decide +kernel
theorem dX7_write_9 : decode cX7_write 9 = .ok (.if_icmp .le 5, 3) := by decide +kernel
theorem dX7_write_12 : decode cX7_write 12 = .ok (.iconst (-1), 1) := by decide +kernel
theorem dX7_write_13 : decode cX7_write 13 = .ok (.ireturn, 1) := by decide +kernel
theorem dX7_write_14 : decode cX7_write 14 = .ok (.aload_n 0, 1) := by decide +kernel
theorem dX7_write_15 : decode cX7_write 15 = .ok (.getfield 57, 3) := by decide +kernel
theorem dX7_write_18 : decode cX7_write 18 = .ok (.sipush 200, 3) := by decide +kernel
theorem dX7_write_21 : decode cX7_write 21 = .ok (.if_icmp .ne 6, 3) := by decide +kernel
theorem dX7_write_24 : decode cX7_write 24 = .ok (.bipush (-3), 2) := by decide +kernel
theorem dX7_write_26 : decode cX7_write 26 = .ok (.ireturn, 1) := by decide +kernel
theorem dX7_write_27 : decode cX7_write 27 = .ok (.aload_n 0, 1) := by decide +kernel
theorem dX7_write_28 : decode cX7_write 28 = .ok (.getfield 7, 3) := by decide +kernel
theorem dX7_write_31 : decode cX7_write 31 = .ok (.aload_n 0, 1) := by decide +kernel
theorem dX7_write_32 : decode cX7_write 32 = .ok (.getfield 57, 3) := by decide +kernel
theorem dX7_write_35 : decode cX7_write 35 = .ok (.iload_n 1, 1) := by decide +kernel
theorem dX7_write_36 : decode cX7_write 36 = .ok (.iastore, 1) := by decide +kernel
theorem dX7_write_37 : decode cX7_write 37 = .ok (.aload_n 0, 1) := by decide +kernel
theorem dX7_write_38 : decode cX7_write 38 = .ok (.dup, 1) := by decide +kernel
theorem dX7_write_39 : decode cX7_write 39 = .ok (.getfield 57, 3) := by decide +kernel
theorem dX7_write_42 : decode cX7_write 42 = .ok (.iconst 1, 1) := by decide +kernel
theorem dX7_write_43 : decode cX7_write 43 = .ok (.iadd, 1) := by decide +kernel
theorem dX7_write_44 : decode cX7_write 44 = .ok (.putfield 57, 3) := by decide +kernel
theorem dX7_write_47 : decode cX7_write 47 = .ok (.aload_n 0, 1) := by decide +kernel
theorem dX7_write_48 : decode cX7_write 48 = .ok (.getfield 57, 3) := by decide +kernel
theorem dX7_write_51 : decode cX7_write 51 = .ok (.ireturn, 1) := by decide +kernel
theorem dX7_wipe_0 : decode cX7_wipe 0 = .ok (.aload_n 0, 1) := by decide +kernel
theorem dX7_wipe_1 : decode cX7_wipe 1 = .ok (.getfield 57, 3) := by decide +kernel
theorem dX7_wipe_4 : decode cX7_wipe 4 = .ok (.istore_n 1, 1) := by decide +kernel
theorem dX7_wipe_5 : decode cX7_wipe 5 = .ok (.aload_n 0, 1) := by decide +kernel
theorem dX7_wipe_6 : decode cX7_wipe 6 = .ok (.iconst 0, 1) := by decide +kernel
theorem dX7_wipe_7 : decode cX7_wipe 7 = .ok (.putfield 57, 3) := by decide +kernel
theorem dX7_wipe_10 : decode cX7_wipe 10 = .ok (.iload_n 1, 1) := by decide +kernel
theorem dX7_wipe_11 : decode cX7_wipe 11 = .ok (.ireturn, 1) := by decide +kernel
theorem dX7_fault_0 : decode cX7_fault 0 = .ok (.aload_n 0, 1) := by decide +kernel
theorem dX7_fault_1 : decode cX7_fault 1 = .ok (.invokevirtual 100, 3) := by decide +kernel
theorem dX7_fault_4 : decode cX7_fault 4 = .ok (.ireturn, 1) := by decide +kernel
theorem dX7_lay_0 : decode cX7_lay 0 = .ok (.aload_n 0, 1) := by decide +kernel
theorem dX7_lay_1 : decode cX7_lay 1 = .ok (.invokevirtual 100, 3) := by decide +kernel
theorem dX7_lay_4 : decode cX7_lay 4 = .ok (.bipush (-4), 2) := by decide +kernel
theorem dX7_lay_6 : decode cX7_lay 6 = .ok (.if_icmp .ne 10, 3) := by decide +kernel
theorem dX7_lay_9 : decode cX7_lay 9 = .ok (.aload_n 0, 1) := by decide +kernel
theorem dX7_lay_10 : decode cX7_lay 10 = .ok (.getfield 41, 3) := by decide +kernel
theorem dX7_lay_13 : decode cX7_lay 13 = .ok (.ifCond .ne 6, 3) := by decide +kernel
theorem dX7_lay_16 : decode cX7_lay 16 = .ok (.bipush (-2), 2) := by decide +kernel
theorem dX7_lay_18 : decode cX7_lay 18 = .ok (.ireturn, 1) := by decide +kernel
theorem dX7_lay_19 : decode cX7_lay 19 = .ok (.aload_n 0, 1) := by decide +kernel
theorem dX7_lay_20 : decode cX7_lay 20 = .ok (.invokevirtual 38, 3) := by decide +kernel
theorem dX7_lay_23 : decode cX7_lay 23 = .ok (.aload_n 0, 1) := by decide +kernel
theorem dX7_lay_24 : decode cX7_lay 24 = .ok (.getfield 48, 3) := by decide +kernel
theorem dX7_lay_27 : decode cX7_lay 27 = .ok (.ireturn, 1) := by decide +kernel
theorem dX7_least_0 : decode cX7_least 0 = .ok (.iload_n 0, 1) := by decide +kernel
theorem dX7_least_1 : decode cX7_least 1 = .ok (.iconst 1, 1) := by decide +kernel
theorem dX7_least_2 : decode cX7_least 2 = .ok (.if_icmp .ne 7, 3) := by decide +kernel
theorem dX7_least_5 : decode cX7_least 5 = .ok (.iconst 0, 1) := by decide +kernel
theorem dX7_least_6 : decode cX7_least 6 = .ok (.goto 4, 3) := by decide +kernel
theorem dX7_least_9 : decode cX7_least 9 = .ok (.iconst 1, 1) := by decide +kernel
theorem dX7_least_10 : decode cX7_least 10 = .ok (.ireturn, 1) := by decide +kernel
theorem dX7_most_0 : decode cX7_most 0 = .ok (.iload_n 0, 1) := by decide +kernel
theorem dX7_most_1 : decode cX7_most 1 = .ok (.ifCond .ne 8, 3) := by decide +kernel
theorem dX7_most_4 : decode cX7_most 4 = .ok (.bipush 6, 2) := by decide +kernel
theorem dX7_most_6 : decode cX7_most 6 = .ok (.goto 24, 3) := by decide +kernel
theorem dX7_most_9 : decode cX7_most 9 = .ok (.iload_n 0, 1) := by decide +kernel
theorem dX7_most_10 : decode cX7_most 10 = .ok (.iconst 1, 1) := by decide +kernel
theorem dX7_most_11 : decode cX7_most 11 = .ok (.if_icmp .ne 7, 3) := by decide +kernel
theorem dX7_most_14 : decode cX7_most 14 = .ok (.iconst 3, 1) := by decide +kernel
theorem dX7_most_15 : decode cX7_most 15 = .ok (.goto 15, 3) := by decide +kernel
theorem dX7_most_18 : decode cX7_most 18 = .ok (.iload_n 0, 1) := by decide +kernel
theorem dX7_most_19 : decode cX7_most 19 = .ok (.iconst 2, 1) := by decide +kernel
theorem dX7_most_20 : decode cX7_most 20 = .ok (.if_icmp .ne 8, 3) := by decide +kernel
theorem dX7_most_23 : decode cX7_most 23 = .ok (.bipush 12, 2) := by decide +kernel
theorem dX7_most_25 : decode cX7_most 25 = .ok (.goto 5, 3) := by decide +kernel
theorem dX7_most_28 : decode cX7_most 28 = .ok (.bipush 40, 2) := by decide +kernel
theorem dX7_most_30 : decode cX7_most 30 = .ok (.ireturn, 1) := by decide +kernel
theorem dX7_keeps_0 : decode cX7_keeps 0 = .ok (.aload_n 0, 1) := by decide +kernel
theorem dX7_keeps_1 : decode cX7_keeps 1 = .ok (.getfield 54, 3) := by decide +kernel
theorem dX7_keeps_4 : decode cX7_keeps 4 = .ok (.bipush 6, 2) := by decide +kernel
theorem dX7_keeps_6 : decode cX7_keeps 6 = .ok (.if_icmp .ne 43, 3) := by decide +kernel
theorem dX7_keeps_9 : decode cX7_keeps 9 = .ok (.iconst 0, 1) := by decide +kernel
theorem dX7_keeps_10 : decode cX7_keeps 10 = .ok (.istore_n 1, 1) := by decide +kernel
theorem dX7_keeps_11 : decode cX7_keeps 11 = .ok (.iload_n 1, 1) := by decide +kernel
theorem dX7_keeps_12 : decode cX7_keeps 12 = .ok (.sipush 510, 3) := by decide +kernel
theorem dX7_keeps_15 : decode cX7_keeps 15 = .ok (.if_icmp .ge 24, 3) := by decide +kernel
theorem dX7_keeps_18 : decode cX7_keeps 18 = .ok (.aload_n 0, 1) := by decide +kernel
theorem dX7_keeps_19 : decode cX7_keeps 19 = .ok (.getfield 19, 3) := by decide +kernel
theorem dX7_keeps_22 : decode cX7_keeps 22 = .ok (.iload_n 1, 1) := by decide +kernel
theorem dX7_keeps_23 : decode cX7_keeps 23 = .ok (.aload_n 0, 1) := by decide +kernel
theorem dX7_keeps_24 : decode cX7_keeps 24 = .ok (.getfield 19, 3) := by decide +kernel
theorem dX7_keeps_27 : decode cX7_keeps 27 = .ok (.iload_n 1, 1) := by decide +kernel
theorem dX7_keeps_28 : decode cX7_keeps 28 = .ok (.bipush 102, 2) := by decide +kernel
theorem dX7_keeps_30 : decode cX7_keeps 30 = .ok (.iadd, 1) := by decide +kernel
theorem dX7_keeps_31 : decode cX7_keeps 31 = .ok (.iaload, 1) := by decide +kernel
theorem dX7_keeps_32 : decode cX7_keeps 32 = .ok (.iastore, 1) := by decide +kernel
theorem dX7_keeps_33 : decode cX7_keeps 33 = .ok (.iinc 1 1, 3) := by decide +kernel
theorem dX7_keeps_36 : decode cX7_keeps 36 = .ok (.goto (-25), 3) := by decide +kernel
theorem dX7_keeps_39 : decode cX7_keeps 39 = .ok (.aload_n 0, 1) := by decide +kernel
theorem dX7_keeps_40 : decode cX7_keeps 40 = .ok (.dup, 1) := by decide +kernel
theorem dX7_keeps_41 : decode cX7_keeps 41 = .ok (.getfield 54, 3) := by decide +kernel
theorem dX7_keeps_44 : decode cX7_keeps 44 = .ok (.iconst 1, 1) := by decide +kernel
theorem dX7_keeps_45 : decode cX7_keeps 45 = .ok (.isub, 1) := by decide +kernel
theorem dX7_keeps_46 : decode cX7_keeps 46 = .ok (.putfield 54, 3) := by decide +kernel
theorem dX7_keeps_49 : decode cX7_keeps 49 = .ok (.iconst 0, 1) := by decide +kernel
theorem dX7_keeps_50 : decode cX7_keeps 50 = .ok (.istore_n 1, 1) := by decide +kernel
theorem dX7_keeps_51 : decode cX7_keeps 51 = .ok (.iload_n 1, 1) := by decide +kernel
theorem dX7_keeps_52 : decode cX7_keeps 52 = .ok (.bipush 102, 2) := by decide +kernel
theorem dX7_keeps_54 : decode cX7_keeps 54 = .ok (.if_icmp .ge 29, 3) := by decide +kernel
theorem dX7_keeps_57 : decode cX7_keeps 57 = .ok (.aload_n 0, 1) := by decide +kernel
theorem dX7_keeps_58 : decode cX7_keeps 58 = .ok (.getfield 19, 3) := by decide +kernel
theorem dX7_keeps_61 : decode cX7_keeps 61 = .ok (.bipush 102, 2) := by decide +kernel
theorem dX7_keeps_63 : decode cX7_keeps 63 = .ok (.aload_n 0, 1) := by decide +kernel
theorem dX7_keeps_64 : decode cX7_keeps 64 = .ok (.getfield 54, 3) := by decide +kernel
theorem dX7_keeps_67 : decode cX7_keeps 67 = .ok (.imul, 1) := by decide +kernel
theorem dX7_keeps_68 : decode cX7_keeps 68 = .ok (.iload_n 1, 1) := by decide +kernel
theorem dX7_keeps_69 : decode cX7_keeps 69 = .ok (.iadd, 1) := by decide +kernel
theorem dX7_keeps_70 : decode cX7_keeps 70 = .ok (.aload_n 0, 1) := by decide +kernel
theorem dX7_keeps_71 : decode cX7_keeps 71 = .ok (.getfield 16, 3) := by decide +kernel
theorem dX7_keeps_74 : decode cX7_keeps 74 = .ok (.iload_n 1, 1) := by decide +kernel
theorem dX7_keeps_75 : decode cX7_keeps 75 = .ok (.iaload, 1) := by decide +kernel
theorem dX7_keeps_76 : decode cX7_keeps 76 = .ok (.iastore, 1) := by decide +kernel
theorem dX7_keeps_77 : decode cX7_keeps 77 = .ok (.iinc 1 1, 3) := by decide +kernel
theorem dX7_keeps_80 : decode cX7_keeps 80 = .ok (.goto (-29), 3) := by decide +kernel
theorem dX7_keeps_83 : decode cX7_keeps 83 = .ok (.aload_n 0, 1) := by decide +kernel
theorem dX7_keeps_84 : decode cX7_keeps 84 = .ok (.dup, 1) := by decide +kernel
theorem dX7_keeps_85 : decode cX7_keeps 85 = .ok (.getfield 54, 3) := by decide +kernel
theorem dX7_keeps_88 : decode cX7_keeps 88 = .ok (.iconst 1, 1) := by decide +kernel
theorem dX7_keeps_89 : decode cX7_keeps 89 = .ok (.iadd, 1) := by decide +kernel
theorem dX7_keeps_90 : decode cX7_keeps 90 = .ok (.putfield 54, 3) := by decide +kernel
theorem dX7_keeps_93 : decode cX7_keeps 93 = .ok (.return_, 1) := by decide +kernel
theorem dX7_becomes_0 : decode cX7_becomes 0 = .ok (.aload_n 0, 1) := by decide +kernel
theorem dX7_becomes_1 : decode cX7_becomes 1 = .ok (.getfield 16, 3) := by decide +kernel
theorem dX7_becomes_4 : decode cX7_becomes 4 = .ok (.iload_n 1, 1) := by decide +kernel
theorem dX7_becomes_5 : decode cX7_becomes 5 = .ok (.iaload, 1) := by decide +kernel
theorem dX7_becomes_6 : decode cX7_becomes 6 = .ok (.istore_n 3, 1) := by decide +kernel
theorem dX7_becomes_7 : decode cX7_becomes 7 = .ok (.iload_n 3, 1) := by decide +kernel
theorem dX7_becomes_8 : decode cX7_becomes 8 = .ok (.iload_n 2, 1) := by decide +kernel
theorem dX7_becomes_9 : decode cX7_becomes 9 = .ok (.if_icmp .ne 6, 3) := by decide +kernel
theorem dX7_becomes_12 : decode cX7_becomes 12 = .ok (.bipush (-2), 2) := by decide +kernel
theorem dX7_becomes_14 : decode cX7_becomes 14 = .ok (.ireturn, 1) := by decide +kernel
theorem dX7_becomes_15 : decode cX7_becomes 15 = .ok (.aload_n 0, 1) := by decide +kernel
theorem dX7_becomes_16 : decode cX7_becomes 16 = .ok (.invokevirtual 104, 3) := by decide +kernel
theorem dX7_becomes_19 : decode cX7_becomes 19 = .ok (.aload_n 0, 1) := by decide +kernel
theorem dX7_becomes_20 : decode cX7_becomes 20 = .ok (.getfield 16, 3) := by decide +kernel
theorem dX7_becomes_23 : decode cX7_becomes 23 = .ok (.iload_n 1, 1) := by decide +kernel
theorem dX7_becomes_24 : decode cX7_becomes 24 = .ok (.iload_n 2, 1) := by decide +kernel
theorem dX7_becomes_25 : decode cX7_becomes 25 = .ok (.iastore, 1) := by decide +kernel
theorem dX7_becomes_26 : decode cX7_becomes 26 = .ok (.iload_n 3, 1) := by decide +kernel
theorem dX7_becomes_27 : decode cX7_becomes 27 = .ok (.ireturn, 1) := by decide +kernel
theorem dX7_isCell_0 : decode cX7_isCell 0 = .ok (.iload_n 1, 1) := by decide +kernel
theorem dX7_isCell_1 : decode cX7_isCell 1 = .ok (.iconst 0, 1) := by decide +kernel
theorem dX7_isCell_2 : decode cX7_isCell 2 = .ok (.aload_n 0, 1) := by decide +kernel
theorem dX7_isCell_3 : decode cX7_isCell 3 = .ok (.getfield 48, 3) := by decide +kernel
theorem dX7_isCell_6 : decode cX7_isCell 6 = .ok (.iconst 1, 1) := by decide +kernel
theorem dX7_isCell_7 : decode cX7_isCell 7 = .ok (.isub, 1) := by decide +kernel
theorem dX7_isCell_8 : decode cX7_isCell 8 = .ok (.invokestatic 76, 3) := by decide +kernel
theorem dX7_isCell_11 : decode cX7_isCell 11 = .ok (.ireturn, 1) := by decide +kernel
theorem dX7_power_0 : decode cX7_power 0 = .ok (.aload_n 0, 1) := by decide +kernel
theorem dX7_power_1 : decode cX7_power 1 = .ok (.iload_n 1, 1) := by decide +kernel
theorem dX7_power_2 : decode cX7_power 2 = .ok (.invokevirtual 107, 3) := by decide +kernel
theorem dX7_power_5 : decode cX7_power 5 = .ok (.ifCond .eq 22, 3) := by decide +kernel
theorem dX7_power_8 : decode cX7_power 8 = .ok (.iload_n 2, 1) := by decide +kernel
theorem dX7_power_9 : decode cX7_power 9 = .ok (.iconst 0, 1) := by decide +kernel
theorem dX7_power_10 : decode cX7_power 10 = .ok (.bipush 99, 2) := by decide +kernel
theorem dX7_power_12 : decode cX7_power 12 = .ok (.invokestatic 76, 3) := by decide +kernel
theorem dX7_power_15 : decode cX7_power 15 = .ok (.ifCond .eq 12, 3) := by decide +kernel
theorem dX7_power_18 : decode cX7_power 18 = .ok (.aload_n 0, 1) := by decide +kernel
theorem dX7_power_19 : decode cX7_power 19 = .ok (.iload_n 1, 1) := by decide +kernel
theorem dX7_power_20 : decode cX7_power 20 = .ok (.iload_n 2, 1) := by decide +kernel
theorem dX7_power_21 : decode cX7_power 21 = .ok (.invokevirtual 110, 3) := by decide +kernel
theorem dX7_power_24 : decode cX7_power 24 = .ok (.goto 4, 3) := by decide +kernel
theorem dX7_power_27 : decode cX7_power 27 = .ok (.iconst (-1), 1) := by decide +kernel
theorem dX7_power_28 : decode cX7_power 28 = .ok (.ireturn, 1) := by decide +kernel
theorem dX7_leftOut_0 : decode cX7_leftOut 0 = .ok (.iconst 0, 1) := by decide +kernel
theorem dX7_leftOut_1 : decode cX7_leftOut 1 = .ok (.istore_n 1, 1) := by decide +kernel
theorem dX7_leftOut_2 : decode cX7_leftOut 2 = .ok (.iconst 0, 1) := by decide +kernel
theorem dX7_leftOut_3 : decode cX7_leftOut 3 = .ok (.istore_n 2, 1) := by decide +kernel
theorem dX7_leftOut_4 : decode cX7_leftOut 4 = .ok (.iload_n 2, 1) := by decide +kernel
theorem dX7_leftOut_5 : decode cX7_leftOut 5 = .ok (.aload_n 0, 1) := by decide +kernel
theorem dX7_leftOut_6 : decode cX7_leftOut 6 = .ok (.getfield 48, 3) := by decide +kernel
theorem dX7_leftOut_9 : decode cX7_leftOut 9 = .ok (.if_icmp .ge 21, 3) := by decide +kernel
theorem dX7_leftOut_12 : decode cX7_leftOut 12 = .ok (.iload_n 1, 1) := by decide +kernel
theorem dX7_leftOut_13 : decode cX7_leftOut 13 = .ok (.aload_n 0, 1) := by decide +kernel
theorem dX7_leftOut_14 : decode cX7_leftOut 14 = .ok (.getfield 16, 3) := by decide +kernel
theorem dX7_leftOut_17 : decode cX7_leftOut 17 = .ok (.bipush 48, 2) := by decide +kernel
theorem dX7_leftOut_19 : decode cX7_leftOut 19 = .ok (.iload_n 2, 1) := by decide +kernel
theorem dX7_leftOut_20 : decode cX7_leftOut 20 = .ok (.iadd, 1) := by decide +kernel
theorem dX7_leftOut_21 : decode cX7_leftOut 21 = .ok (.iaload, 1) := by decide +kernel
theorem dX7_leftOut_22 : decode cX7_leftOut 22 = .ok (.iadd, 1) := by decide +kernel
theorem dX7_leftOut_23 : decode cX7_leftOut 23 = .ok (.istore_n 1, 1) := by decide +kernel
theorem dX7_leftOut_24 : decode cX7_leftOut 24 = .ok (.iinc 2 1, 3) := by decide +kernel
theorem dX7_leftOut_27 : decode cX7_leftOut 27 = .ok (.goto (-23), 3) := by decide +kernel
theorem dX7_leftOut_30 : decode cX7_leftOut 30 = .ok (.iload_n 1, 1) := by decide +kernel
theorem dX7_leftOut_31 : decode cX7_leftOut 31 = .ok (.ireturn, 1) := by decide +kernel
theorem dX7_leave_0 : decode cX7_leave 0 = .ok (.aload_n 0, 1) := by decide +kernel
theorem dX7_leave_1 : decode cX7_leave 1 = .ok (.iload_n 1, 1) := by decide +kernel
theorem dX7_leave_2 : decode cX7_leave 2 = .ok (.invokevirtual 107, 3) := by decide +kernel
theorem dX7_leave_5 : decode cX7_leave 5 = .ok (.ifCond .eq 12, 3) := by decide +kernel
theorem dX7_leave_8 : decode cX7_leave 8 = .ok (.iload_n 2, 1) := by decide +kernel
theorem dX7_leave_9 : decode cX7_leave 9 = .ok (.iconst 0, 1) := by decide +kernel
theorem dX7_leave_10 : decode cX7_leave 10 = .ok (.iconst 1, 1) := by decide +kernel
theorem dX7_leave_11 : decode cX7_leave 11 = .ok (.invokestatic 76, 3) := by decide +kernel
theorem dX7_leave_14 : decode cX7_leave 14 = .ok (.ifCond .ne 5, 3) := by decide +kernel
theorem dX7_leave_17 : decode cX7_leave 17 = .ok (.iconst (-1), 1) := by decide +kernel
theorem dX7_leave_18 : decode cX7_leave 18 = .ok (.ireturn, 1) := by decide +kernel
theorem dX7_leave_19 : decode cX7_leave 19 = .ok (.aload_n 0, 1) := by decide +kernel
theorem dX7_leave_20 : decode cX7_leave 20 = .ok (.bipush 48, 2) := by decide +kernel
theorem dX7_leave_22 : decode cX7_leave 22 = .ok (.iload_n 1, 1) := by decide +kernel
theorem dX7_leave_23 : decode cX7_leave 23 = .ok (.iadd, 1) := by decide +kernel
theorem dX7_leave_24 : decode cX7_leave 24 = .ok (.iload_n 2, 1) := by decide +kernel
theorem dX7_leave_25 : decode cX7_leave 25 = .ok (.invokevirtual 110, 3) := by decide +kernel
theorem dX7_leave_28 : decode cX7_leave 28 = .ok (.bipush (-2), 2) := by decide +kernel
theorem dX7_leave_30 : decode cX7_leave 30 = .ok (.if_icmp .ne 8, 3) := by decide +kernel
theorem dX7_leave_33 : decode cX7_leave 33 = .ok (.bipush (-2), 2) := by decide +kernel
theorem dX7_leave_35 : decode cX7_leave 35 = .ok (.goto 7, 3) := by decide +kernel
theorem dX7_leave_38 : decode cX7_leave 38 = .ok (.aload_n 0, 1) := by decide +kernel
theorem dX7_leave_39 : decode cX7_leave 39 = .ok (.invokevirtual 114, 3) := by decide +kernel
theorem dX7_leave_42 : decode cX7_leave 42 = .ok (.ireturn, 1) := by decide +kernel
theorem dX7_look_0 : decode cX7_look 0 = .ok (.iload_n 1, 1) := by decide +kernel
theorem dX7_look_1 : decode cX7_look 1 = .ok (.iconst 0, 1) := by decide +kernel
theorem dX7_look_2 : decode cX7_look 2 = .ok (.iconst 4, 1) := by decide +kernel
theorem dX7_look_3 : decode cX7_look 3 = .ok (.invokestatic 76, 3) := by decide +kernel
theorem dX7_look_6 : decode cX7_look 6 = .ok (.ifCond .eq 30, 3) := by decide +kernel
theorem dX7_look_9 : decode cX7_look 9 = .ok (.iload_n 2, 1) := by decide +kernel
theorem dX7_look_10 : decode cX7_look 10 = .ok (.iload_n 1, 1) := by decide +kernel
theorem dX7_look_11 : decode cX7_look 11 = .ok (.invokestatic 70, 3) := by decide +kernel
theorem dX7_look_14 : decode cX7_look 14 = .ok (.iload_n 1, 1) := by decide +kernel
theorem dX7_look_15 : decode cX7_look 15 = .ok (.invokestatic 73, 3) := by decide +kernel
theorem dX7_look_18 : decode cX7_look 18 = .ok (.invokestatic 76, 3) := by decide +kernel
theorem dX7_look_21 : decode cX7_look 21 = .ok (.ifCond .eq 15, 3) := by decide +kernel
theorem dX7_look_24 : decode cX7_look 24 = .ok (.aload_n 0, 1) := by decide +kernel
theorem dX7_look_25 : decode cX7_look 25 = .ok (.bipush 96, 2) := by decide +kernel
theorem dX7_look_27 : decode cX7_look 27 = .ok (.iload_n 1, 1) := by decide +kernel
theorem dX7_look_28 : decode cX7_look 28 = .ok (.iadd, 1) := by decide +kernel
theorem dX7_look_29 : decode cX7_look 29 = .ok (.iload_n 2, 1) := by decide +kernel
theorem dX7_look_30 : decode cX7_look 30 = .ok (.invokevirtual 110, 3) := by decide +kernel
theorem dX7_look_33 : decode cX7_look 33 = .ok (.goto 4, 3) := by decide +kernel
theorem dX7_look_36 : decode cX7_look 36 = .ok (.iconst (-1), 1) := by decide +kernel
theorem dX7_look_37 : decode cX7_look 37 = .ok (.ireturn, 1) := by decide +kernel
theorem dX7_mode_0 : decode cX7_mode 0 = .ok (.iload_n 1, 1) := by decide +kernel
theorem dX7_mode_1 : decode cX7_mode 1 = .ok (.iconst 0, 1) := by decide +kernel
theorem dX7_mode_2 : decode cX7_mode 2 = .ok (.iconst 2, 1) := by decide +kernel
theorem dX7_mode_3 : decode cX7_mode 3 = .ok (.invokestatic 76, 3) := by decide +kernel
theorem dX7_mode_6 : decode cX7_mode 6 = .ok (.ifCond .eq 13, 3) := by decide +kernel
theorem dX7_mode_9 : decode cX7_mode 9 = .ok (.aload_n 0, 1) := by decide +kernel
theorem dX7_mode_10 : decode cX7_mode 10 = .ok (.bipush 101, 2) := by decide +kernel
theorem dX7_mode_12 : decode cX7_mode 12 = .ok (.iload_n 1, 1) := by decide +kernel
theorem dX7_mode_13 : decode cX7_mode 13 = .ok (.invokevirtual 110, 3) := by decide +kernel
theorem dX7_mode_16 : decode cX7_mode 16 = .ok (.goto 4, 3) := by decide +kernel
theorem dX7_mode_19 : decode cX7_mode 19 = .ok (.iconst (-1), 1) := by decide +kernel
theorem dX7_mode_20 : decode cX7_mode 20 = .ok (.ireturn, 1) := by decide +kernel
theorem dX7_slide_0 : decode cX7_slide 0 = .ok (.iload_n 1, 1) := by decide +kernel
theorem dX7_slide_1 : decode cX7_slide 1 = .ok (.iconst 0, 1) := by decide +kernel
theorem dX7_slide_2 : decode cX7_slide 2 = .ok (.bipush 99, 2) := by decide +kernel
theorem dX7_slide_4 : decode cX7_slide 4 = .ok (.invokestatic 76, 3) := by decide +kernel
theorem dX7_slide_7 : decode cX7_slide 7 = .ok (.ifCond .ne 5, 3) := by decide +kernel
theorem dX7_slide_10 : decode cX7_slide 10 = .ok (.iconst (-1), 1) := by decide +kernel
theorem dX7_slide_11 : decode cX7_slide 11 = .ok (.ireturn, 1) := by decide +kernel
theorem dX7_slide_12 : decode cX7_slide 12 = .ok (.aload_n 0, 1) := by decide +kernel
theorem dX7_slide_13 : decode cX7_slide 13 = .ok (.getfield 16, 3) := by decide +kernel
theorem dX7_slide_16 : decode cX7_slide 16 = .ok (.iconst 0, 1) := by decide +kernel
theorem dX7_slide_17 : decode cX7_slide 17 = .ok (.iaload, 1) := by decide +kernel
theorem dX7_slide_18 : decode cX7_slide 18 = .ok (.istore_n 2, 1) := by decide +kernel
theorem dX7_slide_19 : decode cX7_slide 19 = .ok (.aload_n 0, 1) := by decide +kernel
theorem dX7_slide_20 : decode cX7_slide 20 = .ok (.invokevirtual 104, 3) := by decide +kernel
theorem dX7_slide_23 : decode cX7_slide 23 = .ok (.iconst 1, 1) := by decide +kernel
theorem dX7_slide_24 : decode cX7_slide 24 = .ok (.istore_n 3, 1) := by decide +kernel
theorem dX7_slide_25 : decode cX7_slide 25 = .ok (.iload_n 3, 1) := by decide +kernel
theorem dX7_slide_26 : decode cX7_slide 26 = .ok (.aload_n 0, 1) := by decide +kernel
theorem dX7_slide_27 : decode cX7_slide 27 = .ok (.getfield 48, 3) := by decide +kernel
theorem dX7_slide_30 : decode cX7_slide 30 = .ok (.if_icmp .ge 41, 3) := by decide +kernel
theorem dX7_slide_33 : decode cX7_slide 33 = .ok (.aload_n 0, 1) := by decide +kernel
theorem dX7_slide_34 : decode cX7_slide 34 = .ok (.getfield 16, 3) := by decide +kernel
theorem dX7_slide_37 : decode cX7_slide 37 = .ok (.iload_n 3, 1) := by decide +kernel
theorem dX7_slide_38 : decode cX7_slide 38 = .ok (.iconst 1, 1) := by decide +kernel
theorem dX7_slide_39 : decode cX7_slide 39 = .ok (.isub, 1) := by decide +kernel
theorem dX7_slide_40 : decode cX7_slide 40 = .ok (.aload_n 0, 1) := by decide +kernel
theorem dX7_slide_41 : decode cX7_slide 41 = .ok (.getfield 16, 3) := by decide +kernel
theorem dX7_slide_44 : decode cX7_slide 44 = .ok (.iload_n 3, 1) := by decide +kernel
theorem dX7_slide_45 : decode cX7_slide 45 = .ok (.iaload, 1) := by decide +kernel
theorem dX7_slide_46 : decode cX7_slide 46 = .ok (.iastore, 1) := by decide +kernel
theorem dX7_slide_47 : decode cX7_slide 47 = .ok (.aload_n 0, 1) := by decide +kernel
theorem dX7_slide_48 : decode cX7_slide 48 = .ok (.getfield 16, 3) := by decide +kernel
theorem dX7_slide_51 : decode cX7_slide 51 = .ok (.bipush 47, 2) := by decide +kernel
theorem dX7_slide_53 : decode cX7_slide 53 = .ok (.iload_n 3, 1) := by decide +kernel
theorem dX7_slide_54 : decode cX7_slide 54 = .ok (.iadd, 1) := by decide +kernel
theorem dX7_slide_55 : decode cX7_slide 55 = .ok (.aload_n 0, 1) := by decide +kernel
theorem dX7_slide_56 : decode cX7_slide 56 = .ok (.getfield 16, 3) := by decide +kernel
theorem dX7_slide_59 : decode cX7_slide 59 = .ok (.bipush 48, 2) := by decide +kernel
theorem dX7_slide_61 : decode cX7_slide 61 = .ok (.iload_n 3, 1) := by decide +kernel
theorem dX7_slide_62 : decode cX7_slide 62 = .ok (.iadd, 1) := by decide +kernel
theorem dX7_slide_63 : decode cX7_slide 63 = .ok (.iaload, 1) := by decide +kernel
theorem dX7_slide_64 : decode cX7_slide 64 = .ok (.iastore, 1) := by decide +kernel
theorem dX7_slide_65 : decode cX7_slide 65 = .ok (.iinc 3 1, 3) := by decide +kernel
theorem dX7_slide_68 : decode cX7_slide 68 = .ok (.goto (-43), 3) := by decide +kernel
theorem dX7_slide_71 : decode cX7_slide 71 = .ok (.aload_n 0, 1) := by decide +kernel
theorem dX7_slide_72 : decode cX7_slide 72 = .ok (.getfield 16, 3) := by decide +kernel
theorem dX7_slide_75 : decode cX7_slide 75 = .ok (.aload_n 0, 1) := by decide +kernel
theorem dX7_slide_76 : decode cX7_slide 76 = .ok (.getfield 48, 3) := by decide +kernel
theorem dX7_slide_79 : decode cX7_slide 79 = .ok (.iconst 1, 1) := by decide +kernel
theorem dX7_slide_80 : decode cX7_slide 80 = .ok (.isub, 1) := by decide +kernel
theorem dX7_slide_81 : decode cX7_slide 81 = .ok (.iload_n 1, 1) := by decide +kernel
theorem dX7_slide_82 : decode cX7_slide 82 = .ok (.iastore, 1) := by decide +kernel
theorem dX7_slide_83 : decode cX7_slide 83 = .ok (.aload_n 0, 1) := by decide +kernel
theorem dX7_slide_84 : decode cX7_slide 84 = .ok (.getfield 16, 3) := by decide +kernel
theorem dX7_slide_87 : decode cX7_slide 87 = .ok (.bipush 47, 2) := by decide +kernel
theorem dX7_slide_89 : decode cX7_slide 89 = .ok (.aload_n 0, 1) := by decide +kernel
theorem dX7_slide_90 : decode cX7_slide 90 = .ok (.getfield 48, 3) := by decide +kernel
theorem dX7_slide_93 : decode cX7_slide 93 = .ok (.iadd, 1) := by decide +kernel
theorem dX7_slide_94 : decode cX7_slide 94 = .ok (.iconst 0, 1) := by decide +kernel
theorem dX7_slide_95 : decode cX7_slide 95 = .ok (.iastore, 1) := by decide +kernel
theorem dX7_slide_96 : decode cX7_slide 96 = .ok (.iload_n 2, 1) := by decide +kernel
theorem dX7_slide_97 : decode cX7_slide 97 = .ok (.ireturn, 1) := by decide +kernel
theorem dX7_undo_0 : decode cX7_undo 0 = .ok (.aload_n 0, 1) := by decide +kernel
theorem dX7_undo_1 : decode cX7_undo 1 = .ok (.getfield 54, 3) := by decide +kernel
theorem dX7_undo_4 : decode cX7_undo 4 = .ok (.ifCond .ne 6, 3) := by decide +kernel
theorem dX7_undo_7 : decode cX7_undo 7 = .ok (.bipush (-2), 2) := by decide +kernel
theorem dX7_undo_9 : decode cX7_undo 9 = .ok (.ireturn, 1) := by decide +kernel
theorem dX7_undo_10 : decode cX7_undo 10 = .ok (.aload_n 0, 1) := by decide +kernel
theorem dX7_undo_11 : decode cX7_undo 11 = .ok (.dup, 1) := by decide +kernel
theorem dX7_undo_12 : decode cX7_undo 12 = .ok (.getfield 54, 3) := by decide +kernel
theorem dX7_undo_15 : decode cX7_undo 15 = .ok (.iconst 1, 1) := by decide +kernel
theorem dX7_undo_16 : decode cX7_undo 16 = .ok (.isub, 1) := by decide +kernel
theorem dX7_undo_17 : decode cX7_undo 17 = .ok (.putfield 54, 3) := by decide +kernel
theorem dX7_undo_20 : decode cX7_undo 20 = .ok (.iconst 0, 1) := by decide +kernel
theorem dX7_undo_21 : decode cX7_undo 21 = .ok (.istore_n 1, 1) := by decide +kernel
theorem dX7_undo_22 : decode cX7_undo 22 = .ok (.iload_n 1, 1) := by decide +kernel
theorem dX7_undo_23 : decode cX7_undo 23 = .ok (.bipush 102, 2) := by decide +kernel
theorem dX7_undo_25 : decode cX7_undo 25 = .ok (.if_icmp .ge 29, 3) := by decide +kernel
theorem dX7_undo_28 : decode cX7_undo 28 = .ok (.aload_n 0, 1) := by decide +kernel
theorem dX7_undo_29 : decode cX7_undo 29 = .ok (.getfield 16, 3) := by decide +kernel
theorem dX7_undo_32 : decode cX7_undo 32 = .ok (.iload_n 1, 1) := by decide +kernel
theorem dX7_undo_33 : decode cX7_undo 33 = .ok (.aload_n 0, 1) := by decide +kernel
theorem dX7_undo_34 : decode cX7_undo 34 = .ok (.getfield 19, 3) := by decide +kernel
theorem dX7_undo_37 : decode cX7_undo 37 = .ok (.bipush 102, 2) := by decide +kernel
theorem dX7_undo_39 : decode cX7_undo 39 = .ok (.aload_n 0, 1) := by decide +kernel
theorem dX7_undo_40 : decode cX7_undo 40 = .ok (.getfield 54, 3) := by decide +kernel
theorem dX7_undo_43 : decode cX7_undo 43 = .ok (.imul, 1) := by decide +kernel
theorem dX7_undo_44 : decode cX7_undo 44 = .ok (.iload_n 1, 1) := by decide +kernel
theorem dX7_undo_45 : decode cX7_undo 45 = .ok (.iadd, 1) := by decide +kernel
theorem dX7_undo_46 : decode cX7_undo 46 = .ok (.iaload, 1) := by decide +kernel
theorem dX7_undo_47 : decode cX7_undo 47 = .ok (.iastore, 1) := by decide +kernel
theorem dX7_undo_48 : decode cX7_undo 48 = .ok (.iinc 1 1, 3) := by decide +kernel
theorem dX7_undo_51 : decode cX7_undo 51 = .ok (.goto (-29), 3) := by decide +kernel
theorem dX7_undo_54 : decode cX7_undo 54 = .ok (.aload_n 0, 1) := by decide +kernel
theorem dX7_undo_55 : decode cX7_undo 55 = .ok (.getfield 54, 3) := by decide +kernel
theorem dX7_undo_58 : decode cX7_undo 58 = .ok (.ireturn, 1) := by decide +kernel
theorem dX7_meets_0 : decode cX7_meets 0 = .ok (.iload_n 1, 1) := by decide +kernel
theorem dX7_meets_1 : decode cX7_meets 1 = .ok (.ifCond .ge 7, 3) := by decide +kernel
theorem dX7_meets_4 : decode cX7_meets 4 = .ok (.iconst 0, 1) := by decide +kernel
theorem dX7_meets_5 : decode cX7_meets 5 = .ok (.goto 4, 3) := by decide +kernel
theorem dX7_meets_8 : decode cX7_meets 8 = .ok (.iload_n 1, 1) := by decide +kernel
theorem dX7_meets_9 : decode cX7_meets 9 = .ok (.istore_n 3, 1) := by decide +kernel
theorem dX7_meets_10 : decode cX7_meets 10 = .ok (.iload_n 3, 1) := by decide +kernel
theorem dX7_meets_11 : decode cX7_meets 11 = .ok (.iload_n 2, 1) := by decide +kernel
theorem dX7_meets_12 : decode cX7_meets 12 = .ok (.if_icmp .gt 103, 3) := by decide +kernel
theorem dX7_meets_15 : decode cX7_meets 15 = .ok (.iload_n 3, 1) := by decide +kernel
theorem dX7_meets_16 : decode cX7_meets 16 = .ok (.aload_n 0, 1) := by decide +kernel
theorem dX7_meets_17 : decode cX7_meets 17 = .ok (.getfield 48, 3) := by decide +kernel
theorem dX7_meets_20 : decode cX7_meets 20 = .ok (.if_icmp .ge 95, 3) := by decide +kernel
theorem dX7_meets_23 : decode cX7_meets 23 = .ok (.aload_n 0, 1) := by decide +kernel
theorem dX7_meets_24 : decode cX7_meets 24 = .ok (.getfield 16, 3) := by decide +kernel
theorem dX7_meets_27 : decode cX7_meets 27 = .ok (.bipush 48, 2) := by decide +kernel
theorem dX7_meets_29 : decode cX7_meets 29 = .ok (.iload_n 3, 1) := by decide +kernel
theorem dX7_meets_30 : decode cX7_meets 30 = .ok (.iadd, 1) := by decide +kernel
theorem dX7_meets_31 : decode cX7_meets 31 = .ok (.iaload, 1) := by decide +kernel
theorem dX7_meets_32 : decode cX7_meets 32 = .ok (.ifCond .ne 77, 3) := by decide +kernel
theorem dX7_meets_35 : decode cX7_meets 35 = .ok (.aload_n 0, 1) := by decide +kernel
theorem dX7_meets_36 : decode cX7_meets 36 = .ok (.getfield 117, 3) := by decide +kernel
theorem dX7_meets_39 : decode cX7_meets 39 = .ok (.istore 4, 2) := by decide +kernel
theorem dX7_meets_41 : decode cX7_meets 41 = .ok (.iload 4, 2) := by decide +kernel
theorem dX7_meets_43 : decode cX7_meets 43 = .ok (.ifCond .le 43, 3) := by decide +kernel
theorem dX7_meets_46 : decode cX7_meets 46 = .ok (.aload_n 0, 1) := by decide +kernel
theorem dX7_meets_47 : decode cX7_meets 47 = .ok (.getfield 28, 3) := by decide +kernel
theorem dX7_meets_50 : decode cX7_meets 50 = .ok (.iload 4, 2) := by decide +kernel
theorem dX7_meets_52 : decode cX7_meets 52 = .ok (.iconst 1, 1) := by decide +kernel
theorem dX7_meets_53 : decode cX7_meets 53 = .ok (.isub, 1) := by decide +kernel
theorem dX7_meets_54 : decode cX7_meets 54 = .ok (.iaload, 1) := by decide +kernel
theorem dX7_meets_55 : decode cX7_meets 55 = .ok (.aload_n 0, 1) := by decide +kernel
theorem dX7_meets_56 : decode cX7_meets 56 = .ok (.getfield 16, 3) := by decide +kernel
theorem dX7_meets_59 : decode cX7_meets 59 = .ok (.iload_n 3, 1) := by decide +kernel
theorem dX7_meets_60 : decode cX7_meets 60 = .ok (.iaload, 1) := by decide +kernel
theorem dX7_meets_61 : decode cX7_meets 61 = .ok (.if_icmp .le 25, 3) := by decide +kernel
theorem dX7_meets_64 : decode cX7_meets 64 = .ok (.aload_n 0, 1) := by decide +kernel
theorem dX7_meets_65 : decode cX7_meets 65 = .ok (.getfield 28, 3) := by decide +kernel
theorem dX7_meets_68 : decode cX7_meets 68 = .ok (.iload 4, 2) := by decide +kernel
theorem dX7_meets_70 : decode cX7_meets 70 = .ok (.aload_n 0, 1) := by decide +kernel
theorem dX7_meets_71 : decode cX7_meets 71 = .ok (.getfield 28, 3) := by decide +kernel
theorem dX7_meets_74 : decode cX7_meets 74 = .ok (.iload 4, 2) := by decide +kernel
theorem dX7_meets_76 : decode cX7_meets 76 = .ok (.iconst 1, 1) := by decide +kernel
theorem dX7_meets_77 : decode cX7_meets 77 = .ok (.isub, 1) := by decide +kernel
theorem dX7_meets_78 : decode cX7_meets 78 = .ok (.iaload, 1) := by decide +kernel
theorem dX7_meets_79 : decode cX7_meets 79 = .ok (.iastore, 1) := by decide +kernel
theorem dX7_meets_80 : decode cX7_meets 80 = .ok (.iinc 4 (-1), 3) := by decide +kernel
theorem dX7_meets_83 : decode cX7_meets 83 = .ok (.goto (-42), 3) := by decide +kernel
theorem dX7_meets_86 : decode cX7_meets 86 = .ok (.aload_n 0, 1) := by decide +kernel
theorem dX7_meets_87 : decode cX7_meets 87 = .ok (.getfield 28, 3) := by decide +kernel
theorem dX7_meets_90 : decode cX7_meets 90 = .ok (.iload 4, 2) := by decide +kernel
theorem dX7_meets_92 : decode cX7_meets 92 = .ok (.aload_n 0, 1) := by decide +kernel
theorem dX7_meets_93 : decode cX7_meets 93 = .ok (.getfield 16, 3) := by decide +kernel
theorem dX7_meets_96 : decode cX7_meets 96 = .ok (.iload_n 3, 1) := by decide +kernel
theorem dX7_meets_97 : decode cX7_meets 97 = .ok (.iaload, 1) := by decide +kernel
theorem dX7_meets_98 : decode cX7_meets 98 = .ok (.iastore, 1) := by decide +kernel
theorem dX7_meets_99 : decode cX7_meets 99 = .ok (.aload_n 0, 1) := by decide +kernel
theorem dX7_meets_100 : decode cX7_meets 100 = .ok (.dup, 1) := by decide +kernel
theorem dX7_meets_101 : decode cX7_meets 101 = .ok (.getfield 117, 3) := by decide +kernel
theorem dX7_meets_104 : decode cX7_meets 104 = .ok (.iconst 1, 1) := by decide +kernel
theorem dX7_meets_105 : decode cX7_meets 105 = .ok (.iadd, 1) := by decide +kernel
theorem dX7_meets_106 : decode cX7_meets 106 = .ok (.putfield 117, 3) := by decide +kernel
theorem dX7_meets_109 : decode cX7_meets 109 = .ok (.iinc 3 1, 3) := by decide +kernel
theorem dX7_meets_112 : decode cX7_meets 112 = .ok (.goto (-102), 3) := by decide +kernel
theorem dX7_meets_115 : decode cX7_meets 115 = .ok (.return_, 1) := by decide +kernel
theorem dX7_rank_0 : decode cX7_rank 0 = .ok (.aload_n 0, 1) := by decide +kernel
theorem dX7_rank_1 : decode cX7_rank 1 = .ok (.getfield 16, 3) := by decide +kernel
theorem dX7_rank_4 : decode cX7_rank 4 = .ok (.bipush 96, 2) := by decide +kernel
theorem dX7_rank_6 : decode cX7_rank 6 = .ok (.iaload, 1) := by decide +kernel
theorem dX7_rank_7 : decode cX7_rank 7 = .ok (.istore_n 3, 1) := by decide +kernel
theorem dX7_rank_8 : decode cX7_rank 8 = .ok (.aload_n 0, 1) := by decide +kernel
theorem dX7_rank_9 : decode cX7_rank 9 = .ok (.getfield 16, 3) := by decide +kernel
theorem dX7_rank_12 : decode cX7_rank 12 = .ok (.bipush 97, 2) := by decide +kernel
theorem dX7_rank_14 : decode cX7_rank 14 = .ok (.iaload, 1) := by decide +kernel
theorem dX7_rank_15 : decode cX7_rank 15 = .ok (.istore 4, 2) := by decide +kernel
theorem dX7_rank_17 : decode cX7_rank 17 = .ok (.aload_n 0, 1) := by decide +kernel
theorem dX7_rank_18 : decode cX7_rank 18 = .ok (.iconst 0, 1) := by decide +kernel
theorem dX7_rank_19 : decode cX7_rank 19 = .ok (.putfield 117, 3) := by decide +kernel
theorem dX7_rank_22 : decode cX7_rank 22 = .ok (.iload_n 2, 1) := by decide +kernel
theorem dX7_rank_23 : decode cX7_rank 23 = .ok (.iconst 1, 1) := by decide +kernel
theorem dX7_rank_24 : decode cX7_rank 24 = .ok (.if_icmp .eq 19, 3) := by decide +kernel
theorem dX7_rank_27 : decode cX7_rank 27 = .ok (.aload_n 0, 1) := by decide +kernel
theorem dX7_rank_28 : decode cX7_rank 28 = .ok (.iload_n 1, 1) := by decide +kernel
theorem dX7_rank_29 : decode cX7_rank 29 = .ok (.iload 4, 2) := by decide +kernel
theorem dX7_rank_31 : decode cX7_rank 31 = .ok (.isub, 1) := by decide +kernel
theorem dX7_rank_32 : decode cX7_rank 32 = .ok (.iload_n 3, 1) := by decide +kernel
theorem dX7_rank_33 : decode cX7_rank 33 = .ok (.isub, 1) := by decide +kernel
theorem dX7_rank_34 : decode cX7_rank 34 = .ok (.iload_n 1, 1) := by decide +kernel
theorem dX7_rank_35 : decode cX7_rank 35 = .ok (.iload 4, 2) := by decide +kernel
theorem dX7_rank_37 : decode cX7_rank 37 = .ok (.isub, 1) := by decide +kernel
theorem dX7_rank_38 : decode cX7_rank 38 = .ok (.iconst 1, 1) := by decide +kernel
theorem dX7_rank_39 : decode cX7_rank 39 = .ok (.isub, 1) := by decide +kernel
theorem dX7_rank_40 : decode cX7_rank 40 = .ok (.invokevirtual 120, 3) := by decide +kernel
theorem dX7_rank_43 : decode cX7_rank 43 = .ok (.iload_n 2, 1) := by decide +kernel
theorem dX7_rank_44 : decode cX7_rank 44 = .ok (.ifCond .eq 19, 3) := by decide +kernel
theorem dX7_rank_47 : decode cX7_rank 47 = .ok (.aload_n 0, 1) := by decide +kernel
theorem dX7_rank_48 : decode cX7_rank 48 = .ok (.iload_n 1, 1) := by decide +kernel
theorem dX7_rank_49 : decode cX7_rank 49 = .ok (.iload 4, 2) := by decide +kernel
theorem dX7_rank_51 : decode cX7_rank 51 = .ok (.iadd, 1) := by decide +kernel
theorem dX7_rank_52 : decode cX7_rank 52 = .ok (.iconst 1, 1) := by decide +kernel
theorem dX7_rank_53 : decode cX7_rank 53 = .ok (.iadd, 1) := by decide +kernel
theorem dX7_rank_54 : decode cX7_rank 54 = .ok (.iload_n 1, 1) := by decide +kernel
theorem dX7_rank_55 : decode cX7_rank 55 = .ok (.iload 4, 2) := by decide +kernel
theorem dX7_rank_57 : decode cX7_rank 57 = .ok (.iadd, 1) := by decide +kernel
theorem dX7_rank_58 : decode cX7_rank 58 = .ok (.iload_n 3, 1) := by decide +kernel
theorem dX7_rank_59 : decode cX7_rank 59 = .ok (.iadd, 1) := by decide +kernel
theorem dX7_rank_60 : decode cX7_rank 60 = .ok (.invokevirtual 120, 3) := by decide +kernel
theorem dX7_rank_63 : decode cX7_rank 63 = .ok (.aload_n 0, 1) := by decide +kernel
theorem dX7_rank_64 : decode cX7_rank 64 = .ok (.getfield 117, 3) := by decide +kernel
theorem dX7_rank_67 : decode cX7_rank 67 = .ok (.ireturn, 1) := by decide +kernel
theorem dX7_byRank_0 : decode cX7_byRank 0 = .ok (.aload_n 0, 1) := by decide +kernel
theorem dX7_byRank_1 : decode cX7_byRank 1 = .ok (.iload_n 1, 1) := by decide +kernel
theorem dX7_byRank_2 : decode cX7_byRank 2 = .ok (.iload_n 2, 1) := by decide +kernel
theorem dX7_byRank_3 : decode cX7_byRank 3 = .ok (.invokevirtual 124, 3) := by decide +kernel
theorem dX7_byRank_6 : decode cX7_byRank 6 = .ok (.istore_n 3, 1) := by decide +kernel
theorem dX7_byRank_7 : decode cX7_byRank 7 = .ok (.iload_n 3, 1) := by decide +kernel
theorem dX7_byRank_8 : decode cX7_byRank 8 = .ok (.ifCond .ne 8, 3) := by decide +kernel
theorem dX7_byRank_11 : decode cX7_byRank 11 = .ok (.bipush (-4), 2) := by decide +kernel
theorem dX7_byRank_13 : decode cX7_byRank 13 = .ok (.goto 34, 3) := by decide +kernel
theorem dX7_byRank_16 : decode cX7_byRank 16 = .ok (.aload_n 0, 1) := by decide +kernel
theorem dX7_byRank_17 : decode cX7_byRank 17 = .ok (.getfield 28, 3) := by decide +kernel
theorem dX7_byRank_20 : decode cX7_byRank 20 = .ok (.iload_n 3, 1) := by decide +kernel
theorem dX7_byRank_21 : decode cX7_byRank 21 = .ok (.aload_n 0, 1) := by decide +kernel
theorem dX7_byRank_22 : decode cX7_byRank 22 = .ok (.getfield 16, 3) := by decide +kernel
theorem dX7_byRank_25 : decode cX7_byRank 25 = .ok (.bipush 98, 2) := by decide +kernel
theorem dX7_byRank_27 : decode cX7_byRank 27 = .ok (.iaload, 1) := by decide +kernel
theorem dX7_byRank_28 : decode cX7_byRank 28 = .ok (.if_icmp .ge 9, 3) := by decide +kernel
theorem dX7_byRank_31 : decode cX7_byRank 31 = .ok (.iload_n 3, 1) := by decide +kernel
theorem dX7_byRank_32 : decode cX7_byRank 32 = .ok (.iconst 1, 1) := by decide +kernel
theorem dX7_byRank_33 : decode cX7_byRank 33 = .ok (.isub, 1) := by decide +kernel
theorem dX7_byRank_34 : decode cX7_byRank 34 = .ok (.goto 12, 3) := by decide +kernel
theorem dX7_byRank_37 : decode cX7_byRank 37 = .ok (.aload_n 0, 1) := by decide +kernel
theorem dX7_byRank_38 : decode cX7_byRank 38 = .ok (.getfield 16, 3) := by decide +kernel
theorem dX7_byRank_41 : decode cX7_byRank 41 = .ok (.bipush 98, 2) := by decide +kernel
theorem dX7_byRank_43 : decode cX7_byRank 43 = .ok (.iaload, 1) := by decide +kernel
theorem dX7_byRank_44 : decode cX7_byRank 44 = .ok (.iconst 1, 1) := by decide +kernel
theorem dX7_byRank_45 : decode cX7_byRank 45 = .ok (.isub, 1) := by decide +kernel
theorem dX7_byRank_46 : decode cX7_byRank 46 = .ok (.iaload, 1) := by decide +kernel
theorem dX7_byRank_47 : decode cX7_byRank 47 = .ok (.ireturn, 1) := by decide +kernel
theorem dX7_floorOf_0 : decode cX7_floorOf 0 = .ok (.aload_n 0, 1) := by decide +kernel
theorem dX7_floorOf_1 : decode cX7_floorOf 1 = .ok (.getfield 16, 3) := by decide +kernel
theorem dX7_floorOf_4 : decode cX7_floorOf 4 = .ok (.bipush 101, 2) := by decide +kernel
theorem dX7_floorOf_6 : decode cX7_floorOf 6 = .ok (.iaload, 1) := by decide +kernel
theorem dX7_floorOf_7 : decode cX7_floorOf 7 = .ok (.ifCond .ne 10, 3) := by decide +kernel
theorem dX7_floorOf_10 : decode cX7_floorOf 10 = .ok (.aload_n 0, 1) := by decide +kernel
theorem dX7_floorOf_11 : decode cX7_floorOf 11 = .ok (.iload_n 1, 1) := by decide +kernel
theorem dX7_floorOf_12 : decode cX7_floorOf 12 = .ok (.iconst 2, 1) := by decide +kernel
theorem dX7_floorOf_13 : decode cX7_floorOf 13 = .ok (.invokevirtual 127, 3) := by decide +kernel
theorem dX7_floorOf_16 : decode cX7_floorOf 16 = .ok (.ireturn, 1) := by decide +kernel
theorem dX7_floorOf_17 : decode cX7_floorOf 17 = .ok (.aload_n 0, 1) := by decide +kernel
theorem dX7_floorOf_18 : decode cX7_floorOf 18 = .ok (.iload_n 1, 1) := by decide +kernel
theorem dX7_floorOf_19 : decode cX7_floorOf 19 = .ok (.iconst 0, 1) := by decide +kernel
theorem dX7_floorOf_20 : decode cX7_floorOf 20 = .ok (.invokevirtual 127, 3) := by decide +kernel
theorem dX7_floorOf_23 : decode cX7_floorOf 23 = .ok (.istore_n 2, 1) := by decide +kernel
theorem dX7_floorOf_24 : decode cX7_floorOf 24 = .ok (.aload_n 0, 1) := by decide +kernel
theorem dX7_floorOf_25 : decode cX7_floorOf 25 = .ok (.iload_n 1, 1) := by decide +kernel
theorem dX7_floorOf_26 : decode cX7_floorOf 26 = .ok (.iconst 1, 1) := by decide +kernel
theorem dX7_floorOf_27 : decode cX7_floorOf 27 = .ok (.invokevirtual 127, 3) := by decide +kernel
theorem dX7_floorOf_30 : decode cX7_floorOf 30 = .ok (.istore_n 3, 1) := by decide +kernel
theorem dX7_floorOf_31 : decode cX7_floorOf 31 = .ok (.iload_n 2, 1) := by decide +kernel
theorem dX7_floorOf_32 : decode cX7_floorOf 32 = .ok (.ifCond .lt 7, 3) := by decide +kernel
theorem dX7_floorOf_35 : decode cX7_floorOf 35 = .ok (.iload_n 3, 1) := by decide +kernel
theorem dX7_floorOf_36 : decode cX7_floorOf 36 = .ok (.ifCond .ge 13, 3) := by decide +kernel
theorem dX7_floorOf_39 : decode cX7_floorOf 39 = .ok (.iload_n 2, 1) := by decide +kernel
theorem dX7_floorOf_40 : decode cX7_floorOf 40 = .ok (.ifCond .ge 7, 3) := by decide +kernel
theorem dX7_floorOf_43 : decode cX7_floorOf 43 = .ok (.iload_n 3, 1) := by decide +kernel
theorem dX7_floorOf_44 : decode cX7_floorOf 44 = .ok (.goto 4, 3) := by decide +kernel
theorem dX7_floorOf_47 : decode cX7_floorOf 47 = .ok (.iload_n 2, 1) := by decide +kernel
theorem dX7_floorOf_48 : decode cX7_floorOf 48 = .ok (.ireturn, 1) := by decide +kernel
theorem dX7_floorOf_49 : decode cX7_floorOf 49 = .ok (.iload_n 2, 1) := by decide +kernel
theorem dX7_floorOf_50 : decode cX7_floorOf 50 = .ok (.iload_n 3, 1) := by decide +kernel
theorem dX7_floorOf_51 : decode cX7_floorOf 51 = .ok (.if_icmp .le 7, 3) := by decide +kernel
theorem dX7_floorOf_54 : decode cX7_floorOf 54 = .ok (.iconst 1, 1) := by decide +kernel
theorem dX7_floorOf_55 : decode cX7_floorOf 55 = .ok (.goto 4, 3) := by decide +kernel
theorem dX7_floorOf_58 : decode cX7_floorOf 58 = .ok (.iconst 0, 1) := by decide +kernel
theorem dX7_floorOf_59 : decode cX7_floorOf 59 = .ok (.aload_n 0, 1) := by decide +kernel
theorem dX7_floorOf_60 : decode cX7_floorOf 60 = .ok (.getfield 16, 3) := by decide +kernel
theorem dX7_floorOf_63 : decode cX7_floorOf 63 = .ok (.bipush 101, 2) := by decide +kernel
theorem dX7_floorOf_65 : decode cX7_floorOf 65 = .ok (.iaload, 1) := by decide +kernel
theorem dX7_floorOf_66 : decode cX7_floorOf 66 = .ok (.iconst 1, 1) := by decide +kernel
theorem dX7_floorOf_67 : decode cX7_floorOf 67 = .ok (.if_icmp .ne 7, 3) := by decide +kernel
theorem dX7_floorOf_70 : decode cX7_floorOf 70 = .ok (.iconst 1, 1) := by decide +kernel
theorem dX7_floorOf_71 : decode cX7_floorOf 71 = .ok (.goto 4, 3) := by decide +kernel
theorem dX7_floorOf_74 : decode cX7_floorOf 74 = .ok (.iconst 0, 1) := by decide +kernel
theorem dX7_floorOf_75 : decode cX7_floorOf 75 = .ok (.if_icmp .ne 7, 3) := by decide +kernel
theorem dX7_floorOf_78 : decode cX7_floorOf 78 = .ok (.iload_n 2, 1) := by decide +kernel
theorem dX7_floorOf_79 : decode cX7_floorOf 79 = .ok (.goto 4, 3) := by decide +kernel
theorem dX7_floorOf_82 : decode cX7_floorOf 82 = .ok (.iload_n 3, 1) := by decide +kernel
theorem dX7_floorOf_83 : decode cX7_floorOf 83 = .ok (.ireturn, 1) := by decide +kernel
theorem dX7_isAlarm_0 : decode cX7_isAlarm 0 = .ok (.aload_n 0, 1) := by decide +kernel
theorem dX7_isAlarm_1 : decode cX7_isAlarm 1 = .ok (.iload_n 1, 1) := by decide +kernel
theorem dX7_isAlarm_2 : decode cX7_isAlarm 2 = .ok (.invokevirtual 130, 3) := by decide +kernel
theorem dX7_isAlarm_5 : decode cX7_isAlarm 5 = .ok (.istore_n 2, 1) := by decide +kernel
theorem dX7_isAlarm_6 : decode cX7_isAlarm 6 = .ok (.aload_n 0, 1) := by decide +kernel
theorem dX7_isAlarm_7 : decode cX7_isAlarm 7 = .ok (.getfield 16, 3) := by decide +kernel
theorem dX7_isAlarm_10 : decode cX7_isAlarm 10 = .ok (.bipush 48, 2) := by decide +kernel
theorem dX7_isAlarm_12 : decode cX7_isAlarm 12 = .ok (.iload_n 1, 1) := by decide +kernel
theorem dX7_isAlarm_13 : decode cX7_isAlarm 13 = .ok (.iadd, 1) := by decide +kernel
theorem dX7_isAlarm_14 : decode cX7_isAlarm 14 = .ok (.iaload, 1) := by decide +kernel
theorem dX7_isAlarm_15 : decode cX7_isAlarm 15 = .ok (.ifCond .ne 37, 3) := by decide +kernel
theorem dX7_isAlarm_18 : decode cX7_isAlarm 18 = .ok (.iload_n 2, 1) := by decide +kernel
theorem dX7_isAlarm_19 : decode cX7_isAlarm 19 = .ok (.ifCond .lt 33, 3) := by decide +kernel
theorem dX7_isAlarm_22 : decode cX7_isAlarm 22 = .ok (.aload_n 0, 1) := by decide +kernel
theorem dX7_isAlarm_23 : decode cX7_isAlarm 23 = .ok (.getfield 16, 3) := by decide +kernel
theorem dX7_isAlarm_26 : decode cX7_isAlarm 26 = .ok (.bipush 100, 2) := by decide +kernel
theorem dX7_isAlarm_28 : decode cX7_isAlarm 28 = .ok (.iaload, 1) := by decide +kernel
theorem dX7_isAlarm_29 : decode cX7_isAlarm 29 = .ok (.aload_n 0, 1) := by decide +kernel
theorem dX7_isAlarm_30 : decode cX7_isAlarm 30 = .ok (.getfield 16, 3) := by decide +kernel
theorem dX7_isAlarm_33 : decode cX7_isAlarm 33 = .ok (.iload_n 1, 1) := by decide +kernel
theorem dX7_isAlarm_34 : decode cX7_isAlarm 34 = .ok (.iaload, 1) := by decide +kernel
theorem dX7_isAlarm_35 : decode cX7_isAlarm 35 = .ok (.imul, 1) := by decide +kernel
theorem dX7_isAlarm_36 : decode cX7_isAlarm 36 = .ok (.aload_n 0, 1) := by decide +kernel
theorem dX7_isAlarm_37 : decode cX7_isAlarm 37 = .ok (.getfield 16, 3) := by decide +kernel
theorem dX7_isAlarm_40 : decode cX7_isAlarm 40 = .ok (.bipush 99, 2) := by decide +kernel
theorem dX7_isAlarm_42 : decode cX7_isAlarm 42 = .ok (.iaload, 1) := by decide +kernel
theorem dX7_isAlarm_43 : decode cX7_isAlarm 43 = .ok (.iload_n 2, 1) := by decide +kernel
theorem dX7_isAlarm_44 : decode cX7_isAlarm 44 = .ok (.imul, 1) := by decide +kernel
theorem dX7_isAlarm_45 : decode cX7_isAlarm 45 = .ok (.if_icmp .le 7, 3) := by decide +kernel
theorem dX7_isAlarm_48 : decode cX7_isAlarm 48 = .ok (.iconst 1, 1) := by decide +kernel
theorem dX7_isAlarm_49 : decode cX7_isAlarm 49 = .ok (.goto 4, 3) := by decide +kernel
theorem dX7_isAlarm_52 : decode cX7_isAlarm 52 = .ok (.iconst 0, 1) := by decide +kernel
theorem dX7_isAlarm_53 : decode cX7_isAlarm 53 = .ok (.ireturn, 1) := by decide +kernel
theorem dX7_alarms_0 : decode cX7_alarms 0 = .ok (.iconst 0, 1) := by decide +kernel
theorem dX7_alarms_1 : decode cX7_alarms 1 = .ok (.istore_n 1, 1) := by decide +kernel
theorem dX7_alarms_2 : decode cX7_alarms 2 = .ok (.iconst 0, 1) := by decide +kernel
theorem dX7_alarms_3 : decode cX7_alarms 3 = .ok (.istore_n 2, 1) := by decide +kernel
theorem dX7_alarms_4 : decode cX7_alarms 4 = .ok (.iload_n 2, 1) := by decide +kernel
theorem dX7_alarms_5 : decode cX7_alarms 5 = .ok (.aload_n 0, 1) := by decide +kernel
theorem dX7_alarms_6 : decode cX7_alarms 6 = .ok (.getfield 48, 3) := by decide +kernel
theorem dX7_alarms_9 : decode cX7_alarms 9 = .ok (.if_icmp .ge 25, 3) := by decide +kernel
theorem dX7_alarms_12 : decode cX7_alarms 12 = .ok (.iload_n 1, 1) := by decide +kernel
theorem dX7_alarms_13 : decode cX7_alarms 13 = .ok (.aload_n 0, 1) := by decide +kernel
theorem dX7_alarms_14 : decode cX7_alarms 14 = .ok (.iload_n 2, 1) := by decide +kernel
theorem dX7_alarms_15 : decode cX7_alarms 15 = .ok (.invokevirtual 133, 3) := by decide +kernel
theorem dX7_alarms_18 : decode cX7_alarms 18 = .ok (.ifCond .eq 7, 3) := by decide +kernel
theorem dX7_alarms_21 : decode cX7_alarms 21 = .ok (.iconst 1, 1) := by decide +kernel
theorem dX7_alarms_22 : decode cX7_alarms 22 = .ok (.goto 4, 3) := by decide +kernel
theorem dX7_alarms_25 : decode cX7_alarms 25 = .ok (.iconst 0, 1) := by decide +kernel
theorem dX7_alarms_26 : decode cX7_alarms 26 = .ok (.iadd, 1) := by decide +kernel
theorem dX7_alarms_27 : decode cX7_alarms 27 = .ok (.istore_n 1, 1) := by decide +kernel
theorem dX7_alarms_28 : decode cX7_alarms 28 = .ok (.iinc 2 1, 3) := by decide +kernel
theorem dX7_alarms_31 : decode cX7_alarms 31 = .ok (.goto (-27), 3) := by decide +kernel
theorem dX7_alarms_34 : decode cX7_alarms 34 = .ok (.iload_n 1, 1) := by decide +kernel
theorem dX7_alarms_35 : decode cX7_alarms 35 = .ok (.ireturn, 1) := by decide +kernel
theorem dX7_bunchesTo_0 : decode cX7_bunchesTo 0 = .ok (.iconst 0, 1) := by decide +kernel
theorem dX7_bunchesTo_1 : decode cX7_bunchesTo 1 = .ok (.istore_n 2, 1) := by decide +kernel
theorem dX7_bunchesTo_2 : decode cX7_bunchesTo 2 = .ok (.iconst 1, 1) := by decide +kernel
theorem dX7_bunchesTo_3 : decode cX7_bunchesTo 3 = .ok (.istore_n 3, 1) := by decide +kernel
theorem dX7_bunchesTo_4 : decode cX7_bunchesTo 4 = .ok (.iload_n 3, 1) := by decide +kernel
theorem dX7_bunchesTo_5 : decode cX7_bunchesTo 5 = .ok (.iload_n 1, 1) := by decide +kernel
theorem dX7_bunchesTo_6 : decode cX7_bunchesTo 6 = .ok (.if_icmp .gt 35, 3) := by decide +kernel
theorem dX7_bunchesTo_9 : decode cX7_bunchesTo 9 = .ok (.iload_n 2, 1) := by decide +kernel
theorem dX7_bunchesTo_10 : decode cX7_bunchesTo 10 = .ok (.aload_n 0, 1) := by decide +kernel
theorem dX7_bunchesTo_11 : decode cX7_bunchesTo 11 = .ok (.iload_n 3, 1) := by decide +kernel
theorem dX7_bunchesTo_12 : decode cX7_bunchesTo 12 = .ok (.iconst 1, 1) := by decide +kernel
theorem dX7_bunchesTo_13 : decode cX7_bunchesTo 13 = .ok (.isub, 1) := by decide +kernel
theorem dX7_bunchesTo_14 : decode cX7_bunchesTo 14 = .ok (.invokevirtual 133, 3) := by decide +kernel
theorem dX7_bunchesTo_17 : decode cX7_bunchesTo 17 = .ok (.ifCond .eq 15, 3) := by decide +kernel
theorem dX7_bunchesTo_20 : decode cX7_bunchesTo 20 = .ok (.aload_n 0, 1) := by decide +kernel
theorem dX7_bunchesTo_21 : decode cX7_bunchesTo 21 = .ok (.iload_n 3, 1) := by decide +kernel
theorem dX7_bunchesTo_22 : decode cX7_bunchesTo 22 = .ok (.invokevirtual 133, 3) := by decide +kernel
theorem dX7_bunchesTo_25 : decode cX7_bunchesTo 25 = .ok (.ifCond .ne 7, 3) := by decide +kernel
theorem dX7_bunchesTo_28 : decode cX7_bunchesTo 28 = .ok (.iconst 1, 1) := by decide +kernel
theorem dX7_bunchesTo_29 : decode cX7_bunchesTo 29 = .ok (.goto 4, 3) := by decide +kernel
theorem dX7_bunchesTo_32 : decode cX7_bunchesTo 32 = .ok (.iconst 0, 1) := by decide +kernel
theorem dX7_bunchesTo_33 : decode cX7_bunchesTo 33 = .ok (.iadd, 1) := by decide +kernel
theorem dX7_bunchesTo_34 : decode cX7_bunchesTo 34 = .ok (.istore_n 2, 1) := by decide +kernel
theorem dX7_bunchesTo_35 : decode cX7_bunchesTo 35 = .ok (.iinc 3 1, 3) := by decide +kernel
theorem dX7_bunchesTo_38 : decode cX7_bunchesTo 38 = .ok (.goto (-34), 3) := by decide +kernel
theorem dX7_bunchesTo_41 : decode cX7_bunchesTo 41 = .ok (.iload_n 2, 1) := by decide +kernel
theorem dX7_bunchesTo_42 : decode cX7_bunchesTo 42 = .ok (.ireturn, 1) := by decide +kernel
theorem dX7_cell_0 : decode cX7_cell 0 = .ok (.aload_n 0, 1) := by decide +kernel
theorem dX7_cell_1 : decode cX7_cell 1 = .ok (.iload_n 1, 1) := by decide +kernel
theorem dX7_cell_2 : decode cX7_cell 2 = .ok (.invokevirtual 107, 3) := by decide +kernel
theorem dX7_cell_5 : decode cX7_cell 5 = .ok (.ifCond .ne 5, 3) := by decide +kernel
theorem dX7_cell_8 : decode cX7_cell 8 = .ok (.iconst (-1), 1) := by decide +kernel
theorem dX7_cell_9 : decode cX7_cell 9 = .ok (.ireturn, 1) := by decide +kernel
theorem dX7_cell_10 : decode cX7_cell 10 = .ok (.iload_n 2, 1) := by decide +kernel
theorem dX7_cell_11 : decode cX7_cell 11 = .ok (.tableswitch 106 0 6 #[41, 48, 58, 58, 67, 73, 87], 41) := by decide +kernel
theorem dX7_cell_52 : decode cX7_cell 52 = .ok (.aload_n 0, 1) := by decide +kernel
theorem dX7_cell_53 : decode cX7_cell 53 = .ok (.getfield 16, 3) := by decide +kernel
theorem dX7_cell_56 : decode cX7_cell 56 = .ok (.iload_n 1, 1) := by decide +kernel
theorem dX7_cell_57 : decode cX7_cell 57 = .ok (.iaload, 1) := by decide +kernel
theorem dX7_cell_58 : decode cX7_cell 58 = .ok (.ireturn, 1) := by decide +kernel
theorem dX7_cell_59 : decode cX7_cell 59 = .ok (.aload_n 0, 1) := by decide +kernel
theorem dX7_cell_60 : decode cX7_cell 60 = .ok (.getfield 16, 3) := by decide +kernel
theorem dX7_cell_63 : decode cX7_cell 63 = .ok (.bipush 48, 2) := by decide +kernel
theorem dX7_cell_65 : decode cX7_cell 65 = .ok (.iload_n 1, 1) := by decide +kernel
theorem dX7_cell_66 : decode cX7_cell 66 = .ok (.iadd, 1) := by decide +kernel
theorem dX7_cell_67 : decode cX7_cell 67 = .ok (.iaload, 1) := by decide +kernel
theorem dX7_cell_68 : decode cX7_cell 68 = .ok (.ireturn, 1) := by decide +kernel
theorem dX7_cell_69 : decode cX7_cell 69 = .ok (.aload_n 0, 1) := by decide +kernel
theorem dX7_cell_70 : decode cX7_cell 70 = .ok (.iload_n 1, 1) := by decide +kernel
theorem dX7_cell_71 : decode cX7_cell 71 = .ok (.iload_n 2, 1) := by decide +kernel
theorem dX7_cell_72 : decode cX7_cell 72 = .ok (.iconst 2, 1) := by decide +kernel
theorem dX7_cell_73 : decode cX7_cell 73 = .ok (.isub, 1) := by decide +kernel
theorem dX7_cell_74 : decode cX7_cell 74 = .ok (.invokevirtual 124, 3) := by decide +kernel
theorem dX7_cell_77 : decode cX7_cell 77 = .ok (.ireturn, 1) := by decide +kernel
theorem dX7_cell_78 : decode cX7_cell 78 = .ok (.aload_n 0, 1) := by decide +kernel
theorem dX7_cell_79 : decode cX7_cell 79 = .ok (.iload_n 1, 1) := by decide +kernel
theorem dX7_cell_80 : decode cX7_cell 80 = .ok (.invokevirtual 130, 3) := by decide +kernel
theorem dX7_cell_83 : decode cX7_cell 83 = .ok (.ireturn, 1) := by decide +kernel
theorem dX7_cell_84 : decode cX7_cell 84 = .ok (.aload_n 0, 1) := by decide +kernel
theorem dX7_cell_85 : decode cX7_cell 85 = .ok (.iload_n 1, 1) := by decide +kernel
theorem dX7_cell_86 : decode cX7_cell 86 = .ok (.invokevirtual 133, 3) := by decide +kernel
theorem dX7_cell_89 : decode cX7_cell 89 = .ok (.ifCond .eq 7, 3) := by decide +kernel
theorem dX7_cell_92 : decode cX7_cell 92 = .ok (.iconst 1, 1) := by decide +kernel
theorem dX7_cell_93 : decode cX7_cell 93 = .ok (.goto 4, 3) := by decide +kernel
theorem dX7_cell_96 : decode cX7_cell 96 = .ok (.iconst 0, 1) := by decide +kernel
theorem dX7_cell_97 : decode cX7_cell 97 = .ok (.ireturn, 1) := by decide +kernel
theorem dX7_cell_98 : decode cX7_cell 98 = .ok (.aload_n 0, 1) := by decide +kernel
theorem dX7_cell_99 : decode cX7_cell 99 = .ok (.iload_n 1, 1) := by decide +kernel
theorem dX7_cell_100 : decode cX7_cell 100 = .ok (.invokevirtual 133, 3) := by decide +kernel
theorem dX7_cell_103 : decode cX7_cell 103 = .ok (.ifCond .eq 11, 3) := by decide +kernel
theorem dX7_cell_106 : decode cX7_cell 106 = .ok (.aload_n 0, 1) := by decide +kernel
theorem dX7_cell_107 : decode cX7_cell 107 = .ok (.iload_n 1, 1) := by decide +kernel
theorem dX7_cell_108 : decode cX7_cell 108 = .ok (.invokevirtual 136, 3) := by decide +kernel
theorem dX7_cell_111 : decode cX7_cell 111 = .ok (.goto 5, 3) := by decide +kernel
theorem dX7_cell_114 : decode cX7_cell 114 = .ok (.bipush (-4), 2) := by decide +kernel
theorem dX7_cell_116 : decode cX7_cell 116 = .ok (.ireturn, 1) := by decide +kernel
theorem dX7_cell_117 : decode cX7_cell 117 = .ok (.iconst (-1), 1) := by decide +kernel
theorem dX7_cell_118 : decode cX7_cell 118 = .ok (.ireturn, 1) := by decide +kernel
theorem dX7_ranked_0 : decode cX7_ranked 0 = .ok (.aload_n 0, 1) := by decide +kernel
theorem dX7_ranked_1 : decode cX7_ranked 1 = .ok (.iload_n 1, 1) := by decide +kernel
theorem dX7_ranked_2 : decode cX7_ranked 2 = .ok (.invokevirtual 107, 3) := by decide +kernel
theorem dX7_ranked_5 : decode cX7_ranked 5 = .ok (.ifCond .eq 17, 3) := by decide +kernel
theorem dX7_ranked_8 : decode cX7_ranked 8 = .ok (.iload_n 2, 1) := by decide +kernel
theorem dX7_ranked_9 : decode cX7_ranked 9 = .ok (.iconst 0, 1) := by decide +kernel
theorem dX7_ranked_10 : decode cX7_ranked 10 = .ok (.iconst 2, 1) := by decide +kernel
theorem dX7_ranked_11 : decode cX7_ranked 11 = .ok (.invokestatic 76, 3) := by decide +kernel
theorem dX7_ranked_14 : decode cX7_ranked 14 = .ok (.ifCond .eq 8, 3) := by decide +kernel
theorem dX7_ranked_17 : decode cX7_ranked 17 = .ok (.iload_n 3, 1) := by decide +kernel
theorem dX7_ranked_18 : decode cX7_ranked 18 = .ok (.iconst 1, 1) := by decide +kernel
theorem dX7_ranked_19 : decode cX7_ranked 19 = .ok (.if_icmp .ge 5, 3) := by decide +kernel
theorem dX7_ranked_22 : decode cX7_ranked 22 = .ok (.iconst (-1), 1) := by decide +kernel
theorem dX7_ranked_23 : decode cX7_ranked 23 = .ok (.ireturn, 1) := by decide +kernel
theorem dX7_ranked_24 : decode cX7_ranked 24 = .ok (.iload_n 3, 1) := by decide +kernel
theorem dX7_ranked_25 : decode cX7_ranked 25 = .ok (.aload_n 0, 1) := by decide +kernel
theorem dX7_ranked_26 : decode cX7_ranked 26 = .ok (.iload_n 1, 1) := by decide +kernel
theorem dX7_ranked_27 : decode cX7_ranked 27 = .ok (.iload_n 2, 1) := by decide +kernel
theorem dX7_ranked_28 : decode cX7_ranked 28 = .ok (.invokevirtual 124, 3) := by decide +kernel
theorem dX7_ranked_31 : decode cX7_ranked 31 = .ok (.if_icmp .gt 14, 3) := by decide +kernel
theorem dX7_ranked_34 : decode cX7_ranked 34 = .ok (.aload_n 0, 1) := by decide +kernel
theorem dX7_ranked_35 : decode cX7_ranked 35 = .ok (.getfield 28, 3) := by decide +kernel
theorem dX7_ranked_38 : decode cX7_ranked 38 = .ok (.iload_n 3, 1) := by decide +kernel
theorem dX7_ranked_39 : decode cX7_ranked 39 = .ok (.iconst 1, 1) := by decide +kernel
theorem dX7_ranked_40 : decode cX7_ranked 40 = .ok (.isub, 1) := by decide +kernel
theorem dX7_ranked_41 : decode cX7_ranked 41 = .ok (.iaload, 1) := by decide +kernel
theorem dX7_ranked_42 : decode cX7_ranked 42 = .ok (.goto 5, 3) := by decide +kernel
theorem dX7_ranked_45 : decode cX7_ranked 45 = .ok (.bipush (-4), 2) := by decide +kernel
theorem dX7_ranked_47 : decode cX7_ranked 47 = .ok (.ireturn, 1) := by decide +kernel
theorem dX7_hides1_0 : decode cX7_hides1 0 = .ok (.iload_n 1, 1) := by decide +kernel
theorem dX7_hides1_1 : decode cX7_hides1 1 = .ok (.iload_n 2, 1) := by decide +kernel
theorem dX7_hides1_2 : decode cX7_hides1 2 = .ok (.if_icmp .eq 24, 3) := by decide +kernel
theorem dX7_hides1_5 : decode cX7_hides1 5 = .ok (.aload_n 0, 1) := by decide +kernel
theorem dX7_hides1_6 : decode cX7_hides1 6 = .ok (.getfield 16, 3) := by decide +kernel
theorem dX7_hides1_9 : decode cX7_hides1 9 = .ok (.bipush 48, 2) := by decide +kernel
theorem dX7_hides1_11 : decode cX7_hides1 11 = .ok (.iload_n 2, 1) := by decide +kernel
theorem dX7_hides1_12 : decode cX7_hides1 12 = .ok (.iadd, 1) := by decide +kernel
theorem dX7_hides1_13 : decode cX7_hides1 13 = .ok (.iaload, 1) := by decide +kernel
theorem dX7_hides1_14 : decode cX7_hides1 14 = .ok (.iconst 1, 1) := by decide +kernel
theorem dX7_hides1_15 : decode cX7_hides1 15 = .ok (.if_icmp .eq 11, 3) := by decide +kernel
theorem dX7_hides1_18 : decode cX7_hides1 18 = .ok (.aload_n 0, 1) := by decide +kernel
theorem dX7_hides1_19 : decode cX7_hides1 19 = .ok (.iload_n 2, 1) := by decide +kernel
theorem dX7_hides1_20 : decode cX7_hides1 20 = .ok (.invokevirtual 133, 3) := by decide +kernel
theorem dX7_hides1_23 : decode cX7_hides1 23 = .ok (.ifCond .eq 5, 3) := by decide +kernel
theorem dX7_hides1_26 : decode cX7_hides1 26 = .ok (.iconst 0, 1) := by decide +kernel
theorem dX7_hides1_27 : decode cX7_hides1 27 = .ok (.ireturn, 1) := by decide +kernel
theorem dX7_hides1_28 : decode cX7_hides1 28 = .ok (.aload_n 0, 1) := by decide +kernel
theorem dX7_hides1_29 : decode cX7_hides1 29 = .ok (.getfield 16, 3) := by decide +kernel
theorem dX7_hides1_32 : decode cX7_hides1 32 = .ok (.bipush 48, 2) := by decide +kernel
theorem dX7_hides1_34 : decode cX7_hides1 34 = .ok (.iload_n 1, 1) := by decide +kernel
theorem dX7_hides1_35 : decode cX7_hides1 35 = .ok (.iadd, 1) := by decide +kernel
theorem dX7_hides1_36 : decode cX7_hides1 36 = .ok (.iconst 1, 1) := by decide +kernel
theorem dX7_hides1_37 : decode cX7_hides1 37 = .ok (.iastore, 1) := by decide +kernel
theorem dX7_hides1_38 : decode cX7_hides1 38 = .ok (.aload_n 0, 1) := by decide +kernel
theorem dX7_hides1_39 : decode cX7_hides1 39 = .ok (.iload_n 2, 1) := by decide +kernel
theorem dX7_hides1_40 : decode cX7_hides1 40 = .ok (.invokevirtual 133, 3) := by decide +kernel
theorem dX7_hides1_43 : decode cX7_hides1 43 = .ok (.istore_n 3, 1) := by decide +kernel
theorem dX7_hides1_44 : decode cX7_hides1 44 = .ok (.aload_n 0, 1) := by decide +kernel
theorem dX7_hides1_45 : decode cX7_hides1 45 = .ok (.getfield 16, 3) := by decide +kernel
theorem dX7_hides1_48 : decode cX7_hides1 48 = .ok (.bipush 48, 2) := by decide +kernel
theorem dX7_hides1_50 : decode cX7_hides1 50 = .ok (.iload_n 1, 1) := by decide +kernel
theorem dX7_hides1_51 : decode cX7_hides1 51 = .ok (.iadd, 1) := by decide +kernel
theorem dX7_hides1_52 : decode cX7_hides1 52 = .ok (.iconst 0, 1) := by decide +kernel
theorem dX7_hides1_53 : decode cX7_hides1 53 = .ok (.iastore, 1) := by decide +kernel
theorem dX7_hides1_54 : decode cX7_hides1 54 = .ok (.iload_n 3, 1) := by decide +kernel
theorem dX7_hides1_55 : decode cX7_hides1 55 = .ok (.ireturn, 1) := by decide +kernel
theorem dX7_hides_0 : decode cX7_hides 0 = .ok (.aload_n 0, 1) := by decide +kernel
theorem dX7_hides_1 : decode cX7_hides 1 = .ok (.iload_n 1, 1) := by decide +kernel
theorem dX7_hides_2 : decode cX7_hides 2 = .ok (.invokevirtual 107, 3) := by decide +kernel
theorem dX7_hides_5 : decode cX7_hides 5 = .ok (.ifCond .eq 22, 3) := by decide +kernel
theorem dX7_hides_8 : decode cX7_hides 8 = .ok (.iload_n 2, 1) := by decide +kernel
theorem dX7_hides_9 : decode cX7_hides 9 = .ok (.iconst (-1), 1) := by decide +kernel
theorem dX7_hides_10 : decode cX7_hides 10 = .ok (.aload_n 0, 1) := by decide +kernel
theorem dX7_hides_11 : decode cX7_hides 11 = .ok (.getfield 48, 3) := by decide +kernel
theorem dX7_hides_14 : decode cX7_hides 14 = .ok (.iconst 1, 1) := by decide +kernel
theorem dX7_hides_15 : decode cX7_hides 15 = .ok (.isub, 1) := by decide +kernel
theorem dX7_hides_16 : decode cX7_hides 16 = .ok (.invokestatic 76, 3) := by decide +kernel
theorem dX7_hides_19 : decode cX7_hides 19 = .ok (.ifCond .eq 8, 3) := by decide +kernel
theorem dX7_hides_22 : decode cX7_hides 22 = .ok (.iload_n 1, 1) := by decide +kernel
theorem dX7_hides_23 : decode cX7_hides 23 = .ok (.iload_n 2, 1) := by decide +kernel
theorem dX7_hides_24 : decode cX7_hides 24 = .ok (.if_icmp .ne 5, 3) := by decide +kernel
theorem dX7_hides_27 : decode cX7_hides 27 = .ok (.iconst (-1), 1) := by decide +kernel
theorem dX7_hides_28 : decode cX7_hides 28 = .ok (.ireturn, 1) := by decide +kernel
theorem dX7_hides_29 : decode cX7_hides 29 = .ok (.aload_n 0, 1) := by decide +kernel
theorem dX7_hides_30 : decode cX7_hides 30 = .ok (.getfield 16, 3) := by decide +kernel
theorem dX7_hides_33 : decode cX7_hides 33 = .ok (.bipush 48, 2) := by decide +kernel
theorem dX7_hides_35 : decode cX7_hides 35 = .ok (.iload_n 1, 1) := by decide +kernel
theorem dX7_hides_36 : decode cX7_hides 36 = .ok (.iadd, 1) := by decide +kernel
theorem dX7_hides_37 : decode cX7_hides 37 = .ok (.iaload, 1) := by decide +kernel
theorem dX7_hides_38 : decode cX7_hides 38 = .ok (.iconst 1, 1) := by decide +kernel
theorem dX7_hides_39 : decode cX7_hides 39 = .ok (.if_icmp .eq 20, 3) := by decide +kernel
theorem dX7_hides_42 : decode cX7_hides 42 = .ok (.iload_n 2, 1) := by decide +kernel
theorem dX7_hides_43 : decode cX7_hides 43 = .ok (.ifCond .lt 19, 3) := by decide +kernel
theorem dX7_hides_46 : decode cX7_hides 46 = .ok (.aload_n 0, 1) := by decide +kernel
theorem dX7_hides_47 : decode cX7_hides 47 = .ok (.getfield 16, 3) := by decide +kernel
theorem dX7_hides_50 : decode cX7_hides 50 = .ok (.bipush 48, 2) := by decide +kernel
theorem dX7_hides_52 : decode cX7_hides 52 = .ok (.iload_n 2, 1) := by decide +kernel
theorem dX7_hides_53 : decode cX7_hides 53 = .ok (.iadd, 1) := by decide +kernel
theorem dX7_hides_54 : decode cX7_hides 54 = .ok (.iaload, 1) := by decide +kernel
theorem dX7_hides_55 : decode cX7_hides 55 = .ok (.iconst 1, 1) := by decide +kernel
theorem dX7_hides_56 : decode cX7_hides 56 = .ok (.if_icmp .ne 6, 3) := by decide +kernel
theorem dX7_hides_59 : decode cX7_hides 59 = .ok (.bipush (-2), 2) := by decide +kernel
theorem dX7_hides_61 : decode cX7_hides 61 = .ok (.ireturn, 1) := by decide +kernel
theorem dX7_hides_62 : decode cX7_hides 62 = .ok (.iconst 0, 1) := by decide +kernel
theorem dX7_hides_63 : decode cX7_hides 63 = .ok (.istore_n 3, 1) := by decide +kernel
theorem dX7_hides_64 : decode cX7_hides 64 = .ok (.iload_n 2, 1) := by decide +kernel
theorem dX7_hides_65 : decode cX7_hides 65 = .ok (.ifCond .ge 7, 3) := by decide +kernel
theorem dX7_hides_68 : decode cX7_hides 68 = .ok (.iconst 0, 1) := by decide +kernel
theorem dX7_hides_69 : decode cX7_hides 69 = .ok (.goto 4, 3) := by decide +kernel
theorem dX7_hides_72 : decode cX7_hides 72 = .ok (.iload_n 2, 1) := by decide +kernel
theorem dX7_hides_73 : decode cX7_hides 73 = .ok (.istore 4, 2) := by decide +kernel
theorem dX7_hides_75 : decode cX7_hides 75 = .ok (.iload 4, 2) := by decide +kernel
theorem dX7_hides_77 : decode cX7_hides 77 = .ok (.iload_n 2, 1) := by decide +kernel
theorem dX7_hides_78 : decode cX7_hides 78 = .ok (.ifCond .ge 10, 3) := by decide +kernel
theorem dX7_hides_81 : decode cX7_hides 81 = .ok (.aload_n 0, 1) := by decide +kernel
theorem dX7_hides_82 : decode cX7_hides 82 = .ok (.getfield 48, 3) := by decide +kernel
theorem dX7_hides_85 : decode cX7_hides 85 = .ok (.goto 6, 3) := by decide +kernel
theorem dX7_hides_88 : decode cX7_hides 88 = .ok (.iload_n 2, 1) := by decide +kernel
theorem dX7_hides_89 : decode cX7_hides 89 = .ok (.iconst 1, 1) := by decide +kernel
theorem dX7_hides_90 : decode cX7_hides 90 = .ok (.iadd, 1) := by decide +kernel
theorem dX7_hides_91 : decode cX7_hides 91 = .ok (.if_icmp .ge 27, 3) := by decide +kernel
theorem dX7_hides_94 : decode cX7_hides 94 = .ok (.iload_n 3, 1) := by decide +kernel
theorem dX7_hides_95 : decode cX7_hides 95 = .ok (.aload_n 0, 1) := by decide +kernel
theorem dX7_hides_96 : decode cX7_hides 96 = .ok (.iload_n 1, 1) := by decide +kernel
theorem dX7_hides_97 : decode cX7_hides 97 = .ok (.iload 4, 2) := by decide +kernel
theorem dX7_hides_99 : decode cX7_hides 99 = .ok (.invokevirtual 139, 3) := by decide +kernel
theorem dX7_hides_102 : decode cX7_hides 102 = .ok (.ifCond .eq 7, 3) := by decide +kernel
theorem dX7_hides_105 : decode cX7_hides 105 = .ok (.iconst 1, 1) := by decide +kernel
theorem dX7_hides_106 : decode cX7_hides 106 = .ok (.goto 4, 3) := by decide +kernel
theorem dX7_hides_109 : decode cX7_hides 109 = .ok (.iconst 0, 1) := by decide +kernel
theorem dX7_hides_110 : decode cX7_hides 110 = .ok (.iadd, 1) := by decide +kernel
theorem dX7_hides_111 : decode cX7_hides 111 = .ok (.istore_n 3, 1) := by decide +kernel
theorem dX7_hides_112 : decode cX7_hides 112 = .ok (.iinc 4 1, 3) := by decide +kernel
theorem dX7_hides_115 : decode cX7_hides 115 = .ok (.goto (-40), 3) := by decide +kernel
theorem dX7_hides_118 : decode cX7_hides 118 = .ok (.iload_n 3, 1) := by decide +kernel
theorem dX7_hides_119 : decode cX7_hides 119 = .ok (.ireturn, 1) := by decide +kernel
theorem dX7_bunches_0 : decode cX7_bunches 0 = .ok (.iconst 0, 1) := by decide +kernel
theorem dX7_bunches_1 : decode cX7_bunches 1 = .ok (.istore_n 1, 1) := by decide +kernel
theorem dX7_bunches_2 : decode cX7_bunches 2 = .ok (.iconst 0, 1) := by decide +kernel
theorem dX7_bunches_3 : decode cX7_bunches 3 = .ok (.istore_n 2, 1) := by decide +kernel
theorem dX7_bunches_4 : decode cX7_bunches 4 = .ok (.iload_n 2, 1) := by decide +kernel
theorem dX7_bunches_5 : decode cX7_bunches 5 = .ok (.aload_n 0, 1) := by decide +kernel
theorem dX7_bunches_6 : decode cX7_bunches 6 = .ok (.getfield 48, 3) := by decide +kernel
theorem dX7_bunches_9 : decode cX7_bunches 9 = .ok (.if_icmp .ge 39, 3) := by decide +kernel
theorem dX7_bunches_12 : decode cX7_bunches 12 = .ok (.iload_n 1, 1) := by decide +kernel
theorem dX7_bunches_13 : decode cX7_bunches 13 = .ok (.aload_n 0, 1) := by decide +kernel
theorem dX7_bunches_14 : decode cX7_bunches 14 = .ok (.iload_n 2, 1) := by decide +kernel
theorem dX7_bunches_15 : decode cX7_bunches 15 = .ok (.invokevirtual 133, 3) := by decide +kernel
theorem dX7_bunches_18 : decode cX7_bunches 18 = .ok (.ifCond .eq 21, 3) := by decide +kernel
theorem dX7_bunches_21 : decode cX7_bunches 21 = .ok (.iload_n 2, 1) := by decide +kernel
theorem dX7_bunches_22 : decode cX7_bunches 22 = .ok (.ifCond .eq 13, 3) := by decide +kernel
theorem dX7_bunches_25 : decode cX7_bunches 25 = .ok (.aload_n 0, 1) := by decide +kernel
theorem dX7_bunches_26 : decode cX7_bunches 26 = .ok (.iload_n 2, 1) := by decide +kernel
theorem dX7_bunches_27 : decode cX7_bunches 27 = .ok (.iconst 1, 1) := by decide +kernel
theorem dX7_bunches_28 : decode cX7_bunches 28 = .ok (.isub, 1) := by decide +kernel
theorem dX7_bunches_29 : decode cX7_bunches 29 = .ok (.invokevirtual 133, 3) := by decide +kernel
theorem dX7_bunches_32 : decode cX7_bunches 32 = .ok (.ifCond .ne 7, 3) := by decide +kernel
theorem dX7_bunches_35 : decode cX7_bunches 35 = .ok (.iconst 1, 1) := by decide +kernel
theorem dX7_bunches_36 : decode cX7_bunches 36 = .ok (.goto 4, 3) := by decide +kernel
theorem dX7_bunches_39 : decode cX7_bunches 39 = .ok (.iconst 0, 1) := by decide +kernel
theorem dX7_bunches_40 : decode cX7_bunches 40 = .ok (.iadd, 1) := by decide +kernel
theorem dX7_bunches_41 : decode cX7_bunches 41 = .ok (.istore_n 1, 1) := by decide +kernel
theorem dX7_bunches_42 : decode cX7_bunches 42 = .ok (.iinc 2 1, 3) := by decide +kernel
theorem dX7_bunches_45 : decode cX7_bunches 45 = .ok (.goto (-41), 3) := by decide +kernel
theorem dX7_bunches_48 : decode cX7_bunches 48 = .ok (.iload_n 1, 1) := by decide +kernel
theorem dX7_bunches_49 : decode cX7_bunches 49 = .ok (.ireturn, 1) := by decide +kernel
theorem dX7_firstOf_0 : decode cX7_firstOf 0 = .ok (.iconst (-1), 1) := by decide +kernel
theorem dX7_firstOf_1 : decode cX7_firstOf 1 = .ok (.istore_n 2, 1) := by decide +kernel
theorem dX7_firstOf_2 : decode cX7_firstOf 2 = .ok (.iconst (-1), 1) := by decide +kernel
theorem dX7_firstOf_3 : decode cX7_firstOf 3 = .ok (.istore_n 3, 1) := by decide +kernel
theorem dX7_firstOf_4 : decode cX7_firstOf 4 = .ok (.iload_n 2, 1) := by decide +kernel
theorem dX7_firstOf_5 : decode cX7_firstOf 5 = .ok (.iload_n 1, 1) := by decide +kernel
theorem dX7_firstOf_6 : decode cX7_firstOf 6 = .ok (.if_icmp .ge 39, 3) := by decide +kernel
theorem dX7_firstOf_9 : decode cX7_firstOf 9 = .ok (.iinc 3 1, 3) := by decide +kernel
theorem dX7_firstOf_12 : decode cX7_firstOf 12 = .ok (.iload_n 2, 1) := by decide +kernel
theorem dX7_firstOf_13 : decode cX7_firstOf 13 = .ok (.aload_n 0, 1) := by decide +kernel
theorem dX7_firstOf_14 : decode cX7_firstOf 14 = .ok (.iload_n 3, 1) := by decide +kernel
theorem dX7_firstOf_15 : decode cX7_firstOf 15 = .ok (.invokevirtual 133, 3) := by decide +kernel
theorem dX7_firstOf_18 : decode cX7_firstOf 18 = .ok (.ifCond .eq 21, 3) := by decide +kernel
theorem dX7_firstOf_21 : decode cX7_firstOf 21 = .ok (.iload_n 3, 1) := by decide +kernel
theorem dX7_firstOf_22 : decode cX7_firstOf 22 = .ok (.ifCond .eq 13, 3) := by decide +kernel
theorem dX7_firstOf_25 : decode cX7_firstOf 25 = .ok (.aload_n 0, 1) := by decide +kernel
theorem dX7_firstOf_26 : decode cX7_firstOf 26 = .ok (.iload_n 3, 1) := by decide +kernel
theorem dX7_firstOf_27 : decode cX7_firstOf 27 = .ok (.iconst 1, 1) := by decide +kernel
theorem dX7_firstOf_28 : decode cX7_firstOf 28 = .ok (.isub, 1) := by decide +kernel
theorem dX7_firstOf_29 : decode cX7_firstOf 29 = .ok (.invokevirtual 133, 3) := by decide +kernel
theorem dX7_firstOf_32 : decode cX7_firstOf 32 = .ok (.ifCond .ne 7, 3) := by decide +kernel
theorem dX7_firstOf_35 : decode cX7_firstOf 35 = .ok (.iconst 1, 1) := by decide +kernel
theorem dX7_firstOf_36 : decode cX7_firstOf 36 = .ok (.goto 4, 3) := by decide +kernel
theorem dX7_firstOf_39 : decode cX7_firstOf 39 = .ok (.iconst 0, 1) := by decide +kernel
theorem dX7_firstOf_40 : decode cX7_firstOf 40 = .ok (.iadd, 1) := by decide +kernel
theorem dX7_firstOf_41 : decode cX7_firstOf 41 = .ok (.istore_n 2, 1) := by decide +kernel
theorem dX7_firstOf_42 : decode cX7_firstOf 42 = .ok (.goto (-38), 3) := by decide +kernel
theorem dX7_firstOf_45 : decode cX7_firstOf 45 = .ok (.iload_n 3, 1) := by decide +kernel
theorem dX7_firstOf_46 : decode cX7_firstOf 46 = .ok (.ireturn, 1) := by decide +kernel
theorem dX7_lastFrom_0 : decode cX7_lastFrom 0 = .ok (.iload_n 1, 1) := by decide +kernel
theorem dX7_lastFrom_1 : decode cX7_lastFrom 1 = .ok (.istore_n 2, 1) := by decide +kernel
theorem dX7_lastFrom_2 : decode cX7_lastFrom 2 = .ok (.iload_n 2, 1) := by decide +kernel
theorem dX7_lastFrom_3 : decode cX7_lastFrom 3 = .ok (.iconst 1, 1) := by decide +kernel
theorem dX7_lastFrom_4 : decode cX7_lastFrom 4 = .ok (.iadd, 1) := by decide +kernel
theorem dX7_lastFrom_5 : decode cX7_lastFrom 5 = .ok (.aload_n 0, 1) := by decide +kernel
theorem dX7_lastFrom_6 : decode cX7_lastFrom 6 = .ok (.getfield 48, 3) := by decide +kernel
theorem dX7_lastFrom_9 : decode cX7_lastFrom 9 = .ok (.if_icmp .ge 19, 3) := by decide +kernel
theorem dX7_lastFrom_12 : decode cX7_lastFrom 12 = .ok (.aload_n 0, 1) := by decide +kernel
theorem dX7_lastFrom_13 : decode cX7_lastFrom 13 = .ok (.iload_n 2, 1) := by decide +kernel
theorem dX7_lastFrom_14 : decode cX7_lastFrom 14 = .ok (.iconst 1, 1) := by decide +kernel
theorem dX7_lastFrom_15 : decode cX7_lastFrom 15 = .ok (.iadd, 1) := by decide +kernel
theorem dX7_lastFrom_16 : decode cX7_lastFrom 16 = .ok (.invokevirtual 133, 3) := by decide +kernel
theorem dX7_lastFrom_19 : decode cX7_lastFrom 19 = .ok (.ifCond .eq 9, 3) := by decide +kernel
theorem dX7_lastFrom_22 : decode cX7_lastFrom 22 = .ok (.iinc 2 1, 3) := by decide +kernel
theorem dX7_lastFrom_25 : decode cX7_lastFrom 25 = .ok (.goto (-23), 3) := by decide +kernel
theorem dX7_lastFrom_28 : decode cX7_lastFrom 28 = .ok (.iload_n 2, 1) := by decide +kernel
theorem dX7_lastFrom_29 : decode cX7_lastFrom 29 = .ok (.ireturn, 1) := by decide +kernel
theorem dX7_peak_0 : decode cX7_peak 0 = .ok (.aload_n 0, 1) := by decide +kernel
theorem dX7_peak_1 : decode cX7_peak 1 = .ok (.iload_n 1, 1) := by decide +kernel
theorem dX7_peak_2 : decode cX7_peak 2 = .ok (.invokevirtual 143, 3) := by decide +kernel
theorem dX7_peak_5 : decode cX7_peak 5 = .ok (.istore_n 2, 1) := by decide +kernel
theorem dX7_peak_6 : decode cX7_peak 6 = .ok (.iload_n 1, 1) := by decide +kernel
theorem dX7_peak_7 : decode cX7_peak 7 = .ok (.istore_n 3, 1) := by decide +kernel
theorem dX7_peak_8 : decode cX7_peak 8 = .ok (.iload_n 1, 1) := by decide +kernel
theorem dX7_peak_9 : decode cX7_peak 9 = .ok (.istore 4, 2) := by decide +kernel
theorem dX7_peak_11 : decode cX7_peak 11 = .ok (.iload 4, 2) := by decide +kernel
theorem dX7_peak_13 : decode cX7_peak 13 = .ok (.iload_n 2, 1) := by decide +kernel
theorem dX7_peak_14 : decode cX7_peak 14 = .ok (.if_icmp .gt 32, 3) := by decide +kernel
theorem dX7_peak_17 : decode cX7_peak 17 = .ok (.aload_n 0, 1) := by decide +kernel
theorem dX7_peak_18 : decode cX7_peak 18 = .ok (.getfield 16, 3) := by decide +kernel
theorem dX7_peak_21 : decode cX7_peak 21 = .ok (.iload 4, 2) := by decide +kernel
theorem dX7_peak_23 : decode cX7_peak 23 = .ok (.iaload, 1) := by decide +kernel
theorem dX7_peak_24 : decode cX7_peak 24 = .ok (.aload_n 0, 1) := by decide +kernel
theorem dX7_peak_25 : decode cX7_peak 25 = .ok (.getfield 16, 3) := by decide +kernel
theorem dX7_peak_28 : decode cX7_peak 28 = .ok (.iload_n 3, 1) := by decide +kernel
theorem dX7_peak_29 : decode cX7_peak 29 = .ok (.iaload, 1) := by decide +kernel
theorem dX7_peak_30 : decode cX7_peak 30 = .ok (.if_icmp .le 8, 3) := by decide +kernel
theorem dX7_peak_33 : decode cX7_peak 33 = .ok (.iload 4, 2) := by decide +kernel
theorem dX7_peak_35 : decode cX7_peak 35 = .ok (.goto 4, 3) := by decide +kernel
theorem dX7_peak_38 : decode cX7_peak 38 = .ok (.iload_n 3, 1) := by decide +kernel
theorem dX7_peak_39 : decode cX7_peak 39 = .ok (.istore_n 3, 1) := by decide +kernel
theorem dX7_peak_40 : decode cX7_peak 40 = .ok (.iinc 4 1, 3) := by decide +kernel
theorem dX7_peak_43 : decode cX7_peak 43 = .ok (.goto (-32), 3) := by decide +kernel
theorem dX7_peak_46 : decode cX7_peak 46 = .ok (.iload_n 3, 1) := by decide +kernel
theorem dX7_peak_47 : decode cX7_peak 47 = .ok (.ireturn, 1) := by decide +kernel
theorem dX7_bunch_0 : decode cX7_bunch 0 = .ok (.iload_n 1, 1) := by decide +kernel
theorem dX7_bunch_1 : decode cX7_bunch 1 = .ok (.iconst (-1), 1) := by decide +kernel
theorem dX7_bunch_2 : decode cX7_bunch 2 = .ok (.if_icmp .lt 12, 3) := by decide +kernel
theorem dX7_bunch_5 : decode cX7_bunch 5 = .ok (.iload_n 2, 1) := by decide +kernel
theorem dX7_bunch_6 : decode cX7_bunch 6 = .ok (.iconst 0, 1) := by decide +kernel
theorem dX7_bunch_7 : decode cX7_bunch 7 = .ok (.iconst 2, 1) := by decide +kernel
theorem dX7_bunch_8 : decode cX7_bunch 8 = .ok (.invokestatic 76, 3) := by decide +kernel
theorem dX7_bunch_11 : decode cX7_bunch 11 = .ok (.ifCond .ne 5, 3) := by decide +kernel
theorem dX7_bunch_14 : decode cX7_bunch 14 = .ok (.iconst (-1), 1) := by decide +kernel
theorem dX7_bunch_15 : decode cX7_bunch 15 = .ok (.ireturn, 1) := by decide +kernel
theorem dX7_bunch_16 : decode cX7_bunch 16 = .ok (.aload_n 0, 1) := by decide +kernel
theorem dX7_bunch_17 : decode cX7_bunch 17 = .ok (.invokevirtual 146, 3) := by decide +kernel
theorem dX7_bunch_20 : decode cX7_bunch 20 = .ok (.istore_n 3, 1) := by decide +kernel
theorem dX7_bunch_21 : decode cX7_bunch 21 = .ok (.iload_n 1, 1) := by decide +kernel
theorem dX7_bunch_22 : decode cX7_bunch 22 = .ok (.ifCond .lt 8, 3) := by decide +kernel
theorem dX7_bunch_25 : decode cX7_bunch 25 = .ok (.iload_n 1, 1) := by decide +kernel
theorem dX7_bunch_26 : decode cX7_bunch 26 = .ok (.iload_n 3, 1) := by decide +kernel
theorem dX7_bunch_27 : decode cX7_bunch 27 = .ok (.if_icmp .lt 14, 3) := by decide +kernel
theorem dX7_bunch_30 : decode cX7_bunch 30 = .ok (.iload_n 1, 1) := by decide +kernel
theorem dX7_bunch_31 : decode cX7_bunch 31 = .ok (.ifCond .ge 7, 3) := by decide +kernel
theorem dX7_bunch_34 : decode cX7_bunch 34 = .ok (.iload_n 3, 1) := by decide +kernel
theorem dX7_bunch_35 : decode cX7_bunch 35 = .ok (.goto 5, 3) := by decide +kernel
theorem dX7_bunch_38 : decode cX7_bunch 38 = .ok (.bipush (-4), 2) := by decide +kernel
theorem dX7_bunch_40 : decode cX7_bunch 40 = .ok (.ireturn, 1) := by decide +kernel
theorem dX7_bunch_41 : decode cX7_bunch 41 = .ok (.aload_n 0, 1) := by decide +kernel
theorem dX7_bunch_42 : decode cX7_bunch 42 = .ok (.iload_n 1, 1) := by decide +kernel
theorem dX7_bunch_43 : decode cX7_bunch 43 = .ok (.invokevirtual 149, 3) := by decide +kernel
theorem dX7_bunch_46 : decode cX7_bunch 46 = .ok (.istore 4, 2) := by decide +kernel
theorem dX7_bunch_48 : decode cX7_bunch 48 = .ok (.iload_n 2, 1) := by decide +kernel
theorem dX7_bunch_49 : decode cX7_bunch 49 = .ok (.ifCond .ne 8, 3) := by decide +kernel
theorem dX7_bunch_52 : decode cX7_bunch 52 = .ok (.iload 4, 2) := by decide +kernel
theorem dX7_bunch_54 : decode cX7_bunch 54 = .ok (.goto 23, 3) := by decide +kernel
theorem dX7_bunch_57 : decode cX7_bunch 57 = .ok (.iload_n 2, 1) := by decide +kernel
theorem dX7_bunch_58 : decode cX7_bunch 58 = .ok (.iconst 1, 1) := by decide +kernel
theorem dX7_bunch_59 : decode cX7_bunch 59 = .ok (.if_icmp .ne 12, 3) := by decide +kernel
theorem dX7_bunch_62 : decode cX7_bunch 62 = .ok (.aload_n 0, 1) := by decide +kernel
theorem dX7_bunch_63 : decode cX7_bunch 63 = .ok (.iload 4, 2) := by decide +kernel
theorem dX7_bunch_65 : decode cX7_bunch 65 = .ok (.invokevirtual 143, 3) := by decide +kernel
theorem dX7_bunch_68 : decode cX7_bunch 68 = .ok (.goto 9, 3) := by decide +kernel
theorem dX7_bunch_71 : decode cX7_bunch 71 = .ok (.aload_n 0, 1) := by decide +kernel
theorem dX7_bunch_72 : decode cX7_bunch 72 = .ok (.iload 4, 2) := by decide +kernel
theorem dX7_bunch_74 : decode cX7_bunch 74 = .ok (.invokevirtual 152, 3) := by decide +kernel
theorem dX7_bunch_77 : decode cX7_bunch 77 = .ok (.ireturn, 1) := by decide +kernel
theorem dX7_enough_0 : decode cX7_enough 0 = .ok (.iload_n 1, 1) := by decide +kernel
theorem dX7_enough_1 : decode cX7_enough 1 = .ok (.iconst 0, 1) := by decide +kernel
theorem dX7_enough_2 : decode cX7_enough 2 = .ok (.bipush 48, 2) := by decide +kernel
theorem dX7_enough_4 : decode cX7_enough 4 = .ok (.invokestatic 76, 3) := by decide +kernel
theorem dX7_enough_7 : decode cX7_enough 7 = .ok (.ifCond .ne 5, 3) := by decide +kernel
theorem dX7_enough_10 : decode cX7_enough 10 = .ok (.iconst (-1), 1) := by decide +kernel
theorem dX7_enough_11 : decode cX7_enough 11 = .ok (.ireturn, 1) := by decide +kernel
theorem dX7_enough_12 : decode cX7_enough 12 = .ok (.aload_n 0, 1) := by decide +kernel
theorem dX7_enough_13 : decode cX7_enough 13 = .ok (.getfield 16, 3) := by decide +kernel
theorem dX7_enough_16 : decode cX7_enough 16 = .ok (.bipush 99, 2) := by decide +kernel
theorem dX7_enough_18 : decode cX7_enough 18 = .ok (.iaload, 1) := by decide +kernel
theorem dX7_enough_19 : decode cX7_enough 19 = .ok (.istore_n 2, 1) := by decide +kernel
theorem dX7_enough_20 : decode cX7_enough 20 = .ok (.bipush (-4), 2) := by decide +kernel
theorem dX7_enough_22 : decode cX7_enough 22 = .ok (.istore_n 3, 1) := by decide +kernel
theorem dX7_enough_23 : decode cX7_enough 23 = .ok (.bipush 40, 2) := by decide +kernel
theorem dX7_enough_25 : decode cX7_enough 25 = .ok (.istore 4, 2) := by decide +kernel
theorem dX7_enough_27 : decode cX7_enough 27 = .ok (.iload 4, 2) := by decide +kernel
theorem dX7_enough_29 : decode cX7_enough 29 = .ok (.ifCond .le 33, 3) := by decide +kernel
theorem dX7_enough_32 : decode cX7_enough 32 = .ok (.aload_n 0, 1) := by decide +kernel
theorem dX7_enough_33 : decode cX7_enough 33 = .ok (.getfield 16, 3) := by decide +kernel
theorem dX7_enough_36 : decode cX7_enough 36 = .ok (.bipush 99, 2) := by decide +kernel
theorem dX7_enough_38 : decode cX7_enough 38 = .ok (.iload 4, 2) := by decide +kernel
theorem dX7_enough_40 : decode cX7_enough 40 = .ok (.iastore, 1) := by decide +kernel
theorem dX7_enough_41 : decode cX7_enough 41 = .ok (.aload_n 0, 1) := by decide +kernel
theorem dX7_enough_42 : decode cX7_enough 42 = .ok (.invokevirtual 155, 3) := by decide +kernel
theorem dX7_enough_45 : decode cX7_enough 45 = .ok (.iload_n 1, 1) := by decide +kernel
theorem dX7_enough_46 : decode cX7_enough 46 = .ok (.if_icmp .gt 8, 3) := by decide +kernel
theorem dX7_enough_49 : decode cX7_enough 49 = .ok (.iload 4, 2) := by decide +kernel
theorem dX7_enough_51 : decode cX7_enough 51 = .ok (.goto 4, 3) := by decide +kernel
theorem dX7_enough_54 : decode cX7_enough 54 = .ok (.iload_n 3, 1) := by decide +kernel
theorem dX7_enough_55 : decode cX7_enough 55 = .ok (.istore_n 3, 1) := by decide +kernel
theorem dX7_enough_56 : decode cX7_enough 56 = .ok (.iinc 4 (-1), 3) := by decide +kernel
theorem dX7_enough_59 : decode cX7_enough 59 = .ok (.goto (-32), 3) := by decide +kernel
theorem dX7_enough_62 : decode cX7_enough 62 = .ok (.aload_n 0, 1) := by decide +kernel
theorem dX7_enough_63 : decode cX7_enough 63 = .ok (.getfield 16, 3) := by decide +kernel
theorem dX7_enough_66 : decode cX7_enough 66 = .ok (.bipush 99, 2) := by decide +kernel
theorem dX7_enough_68 : decode cX7_enough 68 = .ok (.iload_n 2, 1) := by decide +kernel
theorem dX7_enough_69 : decode cX7_enough 69 = .ok (.iastore, 1) := by decide +kernel
theorem dX7_enough_70 : decode cX7_enough 70 = .ok (.iload_n 3, 1) := by decide +kernel
theorem dX7_enough_71 : decode cX7_enough 71 = .ok (.ireturn, 1) := by decide +kernel
theorem dX7_noise_0 : decode cX7_noise 0 = .ok (.iload_n 1, 1) := by decide +kernel
theorem dX7_noise_1 : decode cX7_noise 1 = .ok (.iconst 0, 1) := by decide +kernel
theorem dX7_noise_2 : decode cX7_noise 2 = .ok (.bipush 99, 2) := by decide +kernel
theorem dX7_noise_4 : decode cX7_noise 4 = .ok (.invokestatic 76, 3) := by decide +kernel
theorem dX7_noise_7 : decode cX7_noise 7 = .ok (.ifCond .eq 22, 3) := by decide +kernel
theorem dX7_noise_10 : decode cX7_noise 10 = .ok (.iload_n 1, 1) := by decide +kernel
theorem dX7_noise_11 : decode cX7_noise 11 = .ok (.bipush 8, 2) := by decide +kernel
theorem dX7_noise_13 : decode cX7_noise 13 = .ok (.if_icmp .ge 12, 3) := by decide +kernel
theorem dX7_noise_16 : decode cX7_noise 16 = .ok (.aload_n 0, 1) := by decide +kernel
theorem dX7_noise_17 : decode cX7_noise 17 = .ok (.getfield 13, 3) := by decide +kernel
theorem dX7_noise_20 : decode cX7_noise 20 = .ok (.iload_n 1, 1) := by decide +kernel
theorem dX7_noise_21 : decode cX7_noise 21 = .ok (.iaload, 1) := by decide +kernel
theorem dX7_noise_22 : decode cX7_noise 22 = .ok (.goto 8, 3) := by decide +kernel
theorem dX7_noise_25 : decode cX7_noise 25 = .ok (.iconst 0, 1) := by decide +kernel
theorem dX7_noise_26 : decode cX7_noise 26 = .ok (.goto 4, 3) := by decide +kernel
theorem dX7_noise_29 : decode cX7_noise 29 = .ok (.iconst (-1), 1) := by decide +kernel
theorem dX7_noise_30 : decode cX7_noise 30 = .ok (.ireturn, 1) := by decide +kernel
theorem dX7_weight_0 : decode cX7_weight 0 = .ok (.iconst 0, 1) := by decide +kernel
theorem dX7_weight_1 : decode cX7_weight 1 = .ok (.istore_n 1, 1) := by decide +kernel
theorem dX7_weight_2 : decode cX7_weight 2 = .ok (.iconst 0, 1) := by decide +kernel
theorem dX7_weight_3 : decode cX7_weight 3 = .ok (.istore_n 2, 1) := by decide +kernel
theorem dX7_weight_4 : decode cX7_weight 4 = .ok (.iload_n 2, 1) := by decide +kernel
theorem dX7_weight_5 : decode cX7_weight 5 = .ok (.bipush 8, 2) := by decide +kernel
theorem dX7_weight_7 : decode cX7_weight 7 = .ok (.if_icmp .ge 18, 3) := by decide +kernel
theorem dX7_weight_10 : decode cX7_weight 10 = .ok (.iload_n 1, 1) := by decide +kernel
theorem dX7_weight_11 : decode cX7_weight 11 = .ok (.aload_n 0, 1) := by decide +kernel
theorem dX7_weight_12 : decode cX7_weight 12 = .ok (.getfield 13, 3) := by decide +kernel
theorem dX7_weight_15 : decode cX7_weight 15 = .ok (.iload_n 2, 1) := by decide +kernel
theorem dX7_weight_16 : decode cX7_weight 16 = .ok (.iaload, 1) := by decide +kernel
theorem dX7_weight_17 : decode cX7_weight 17 = .ok (.iadd, 1) := by decide +kernel
theorem dX7_weight_18 : decode cX7_weight 18 = .ok (.istore_n 1, 1) := by decide +kernel
theorem dX7_weight_19 : decode cX7_weight 19 = .ok (.iinc 2 1, 3) := by decide +kernel
theorem dX7_weight_22 : decode cX7_weight 22 = .ok (.goto (-18), 3) := by decide +kernel
theorem dX7_weight_25 : decode cX7_weight 25 = .ok (.iload_n 1, 1) := by decide +kernel
theorem dX7_weight_26 : decode cX7_weight 26 = .ok (.ireturn, 1) := by decide +kernel
theorem dX7_power1_0 : decode cX7_power1 0 = .ok (.lconst 1, 1) := by decide +kernel
theorem dX7_power1_1 : decode cX7_power1 1 = .ok (.lstore_n 3, 1) := by decide +kernel
theorem dX7_power1_2 : decode cX7_power1 2 = .ok (.iconst 0, 1) := by decide +kernel
theorem dX7_power1_3 : decode cX7_power1 3 = .ok (.istore 5, 2) := by decide +kernel
theorem dX7_power1_5 : decode cX7_power1 5 = .ok (.iload 5, 2) := by decide +kernel
theorem dX7_power1_7 : decode cX7_power1 7 = .ok (.iload_n 2, 1) := by decide +kernel
theorem dX7_power1_8 : decode cX7_power1 8 = .ok (.if_icmp .ge 13, 3) := by decide +kernel
theorem dX7_power1_11 : decode cX7_power1 11 = .ok (.lload_n 3, 1) := by decide +kernel
theorem dX7_power1_12 : decode cX7_power1 12 = .ok (.lload_n 0, 1) := by decide +kernel
theorem dX7_power1_13 : decode cX7_power1 13 = .ok (.lmul, 1) := by decide +kernel
theorem dX7_power1_14 : decode cX7_power1 14 = .ok (.lstore_n 3, 1) := by decide +kernel
theorem dX7_power1_15 : decode cX7_power1 15 = .ok (.iinc 5 1, 3) := by decide +kernel
theorem dX7_power1_18 : decode cX7_power1 18 = .ok (.goto (-13), 3) := by decide +kernel
theorem dX7_power1_21 : decode cX7_power1 21 = .ok (.lload_n 3, 1) := by decide +kernel
theorem dX7_power1_22 : decode cX7_power1 22 = .ok (.lreturn, 1) := by decide +kernel
theorem dX7_choose_0 : decode cX7_choose 0 = .ok (.lconst 1, 1) := by decide +kernel
theorem dX7_choose_1 : decode cX7_choose 1 = .ok (.lstore_n 2, 1) := by decide +kernel
theorem dX7_choose_2 : decode cX7_choose 2 = .ok (.iconst 0, 1) := by decide +kernel
theorem dX7_choose_3 : decode cX7_choose 3 = .ok (.istore 4, 2) := by decide +kernel
theorem dX7_choose_5 : decode cX7_choose 5 = .ok (.iload 4, 2) := by decide +kernel
theorem dX7_choose_7 : decode cX7_choose 7 = .ok (.iload_n 1, 1) := by decide +kernel
theorem dX7_choose_8 : decode cX7_choose 8 = .ok (.if_icmp .ge 23, 3) := by decide +kernel
theorem dX7_choose_11 : decode cX7_choose 11 = .ok (.lload_n 2, 1) := by decide +kernel
theorem dX7_choose_12 : decode cX7_choose 12 = .ok (.iload_n 0, 1) := by decide +kernel
theorem dX7_choose_13 : decode cX7_choose 13 = .ok (.iload 4, 2) := by decide +kernel
theorem dX7_choose_15 : decode cX7_choose 15 = .ok (.isub, 1) := by decide +kernel
theorem dX7_choose_16 : decode cX7_choose 16 = .ok (.i2l, 1) := by decide +kernel
theorem dX7_choose_17 : decode cX7_choose 17 = .ok (.lmul, 1) := by decide +kernel
theorem dX7_choose_18 : decode cX7_choose 18 = .ok (.iload 4, 2) := by decide +kernel
theorem dX7_choose_20 : decode cX7_choose 20 = .ok (.iconst 1, 1) := by decide +kernel
theorem dX7_choose_21 : decode cX7_choose 21 = .ok (.iadd, 1) := by decide +kernel
theorem dX7_choose_22 : decode cX7_choose 22 = .ok (.i2l, 1) := by decide +kernel
theorem dX7_choose_23 : decode cX7_choose 23 = .ok (.ldiv, 1) := by decide +kernel
theorem dX7_choose_24 : decode cX7_choose 24 = .ok (.lstore_n 2, 1) := by decide +kernel
theorem dX7_choose_25 : decode cX7_choose 25 = .ok (.iinc 4 1, 3) := by decide +kernel
theorem dX7_choose_28 : decode cX7_choose 28 = .ok (.goto (-23), 3) := by decide +kernel
theorem dX7_choose_31 : decode cX7_choose 31 = .ok (.lload_n 2, 1) := by decide +kernel
theorem dX7_choose_32 : decode cX7_choose 32 = .ok (.lreturn, 1) := by decide +kernel
theorem dX7_within_0 : decode cX7_within 0 = .ok (.aload_n 0, 1) := by decide +kernel
theorem dX7_within_1 : decode cX7_within 1 = .ok (.getfield 16, 3) := by decide +kernel
theorem dX7_within_4 : decode cX7_within 4 = .ok (.bipush 98, 2) := by decide +kernel
theorem dX7_within_6 : decode cX7_within 6 = .ok (.iaload, 1) := by decide +kernel
theorem dX7_within_7 : decode cX7_within 7 = .ok (.iload_n 1, 1) := by decide +kernel
theorem dX7_within_8 : decode cX7_within 8 = .ok (.if_icmp .ge 13, 3) := by decide +kernel
theorem dX7_within_11 : decode cX7_within 11 = .ok (.aload_n 0, 1) := by decide +kernel
theorem dX7_within_12 : decode cX7_within 12 = .ok (.getfield 16, 3) := by decide +kernel
theorem dX7_within_15 : decode cX7_within 15 = .ok (.bipush 98, 2) := by decide +kernel
theorem dX7_within_17 : decode cX7_within 17 = .ok (.iaload, 1) := by decide +kernel
theorem dX7_within_18 : decode cX7_within 18 = .ok (.goto 4, 3) := by decide +kernel
theorem dX7_within_21 : decode cX7_within 21 = .ok (.iload_n 1, 1) := by decide +kernel
theorem dX7_within_22 : decode cX7_within 22 = .ok (.istore 4, 2) := by decide +kernel
theorem dX7_within_24 : decode cX7_within 24 = .ok (.aload_n 0, 1) := by decide +kernel
theorem dX7_within_25 : decode cX7_within 25 = .ok (.invokevirtual 158, 3) := by decide +kernel
theorem dX7_within_28 : decode cX7_within 28 = .ok (.i2l, 1) := by decide +kernel
theorem dX7_within_29 : decode cX7_within 29 = .ok (.lstore 5, 2) := by decide +kernel
theorem dX7_within_31 : decode cX7_within 31 = .ok (.lconst 0, 1) := by decide +kernel
theorem dX7_within_32 : decode cX7_within 32 = .ok (.lstore 7, 2) := by decide +kernel
theorem dX7_within_34 : decode cX7_within 34 = .ok (.iload 4, 2) := by decide +kernel
theorem dX7_within_36 : decode cX7_within 36 = .ok (.istore 9, 2) := by decide +kernel
theorem dX7_within_38 : decode cX7_within 38 = .ok (.iload 9, 2) := by decide +kernel
theorem dX7_within_40 : decode cX7_within 40 = .ok (.iload_n 1, 1) := by decide +kernel
theorem dX7_within_41 : decode cX7_within 41 = .ok (.if_icmp .gt 39, 3) := by decide +kernel
theorem dX7_within_44 : decode cX7_within 44 = .ok (.lload 7, 2) := by decide +kernel
theorem dX7_within_46 : decode cX7_within 46 = .ok (.iload_n 1, 1) := by decide +kernel
theorem dX7_within_47 : decode cX7_within 47 = .ok (.iload 9, 2) := by decide +kernel
theorem dX7_within_49 : decode cX7_within 49 = .ok (.invokestatic 161, 3) := by decide +kernel
theorem dX7_within_52 : decode cX7_within 52 = .ok (.lload_n 2, 1) := by decide +kernel
theorem dX7_within_53 : decode cX7_within 53 = .ok (.iload 9, 2) := by decide +kernel
theorem dX7_within_55 : decode cX7_within 55 = .ok (.invokestatic 165, 3) := by decide +kernel
theorem dX7_within_58 : decode cX7_within 58 = .ok (.lmul, 1) := by decide +kernel
theorem dX7_within_59 : decode cX7_within 59 = .ok (.lload 5, 2) := by decide +kernel
theorem dX7_within_61 : decode cX7_within 61 = .ok (.lload_n 2, 1) := by decide +kernel
theorem dX7_within_62 : decode cX7_within 62 = .ok (.lsub, 1) := by decide +kernel
theorem dX7_within_63 : decode cX7_within 63 = .ok (.iload_n 1, 1) := by decide +kernel
theorem dX7_within_64 : decode cX7_within 64 = .ok (.iload 9, 2) := by decide +kernel
theorem dX7_within_66 : decode cX7_within 66 = .ok (.isub, 1) := by decide +kernel
theorem dX7_within_67 : decode cX7_within 67 = .ok (.invokestatic 165, 3) := by decide +kernel
theorem dX7_within_70 : decode cX7_within 70 = .ok (.lmul, 1) := by decide +kernel
theorem dX7_within_71 : decode cX7_within 71 = .ok (.ladd, 1) := by decide +kernel
theorem dX7_within_72 : decode cX7_within 72 = .ok (.lstore 7, 2) := by decide +kernel
theorem dX7_within_74 : decode cX7_within 74 = .ok (.iinc 9 1, 3) := by decide +kernel
theorem dX7_within_77 : decode cX7_within 77 = .ok (.goto (-39), 3) := by decide +kernel
theorem dX7_within_80 : decode cX7_within 80 = .ok (.lload 7, 2) := by decide +kernel
theorem dX7_within_82 : decode cX7_within 82 = .ok (.lreturn, 1) := by decide +kernel
theorem dX7_floors_0 : decode cX7_floors 0 = .ok (.aload_n 0, 1) := by decide +kernel
theorem dX7_floors_1 : decode cX7_floors 1 = .ok (.getfield 16, 3) := by decide +kernel
theorem dX7_floors_4 : decode cX7_floors 4 = .ok (.bipush 96, 2) := by decide +kernel
theorem dX7_floors_6 : decode cX7_floors 6 = .ok (.iaload, 1) := by decide +kernel
theorem dX7_floors_7 : decode cX7_floors 7 = .ok (.istore_n 3, 1) := by decide +kernel
theorem dX7_floors_8 : decode cX7_floors 8 = .ok (.aload_n 0, 1) := by decide +kernel
theorem dX7_floors_9 : decode cX7_floors 9 = .ok (.getfield 16, 3) := by decide +kernel
theorem dX7_floors_12 : decode cX7_floors 12 = .ok (.bipush 101, 2) := by decide +kernel
theorem dX7_floors_14 : decode cX7_floors 14 = .ok (.iaload, 1) := by decide +kernel
theorem dX7_floors_15 : decode cX7_floors 15 = .ok (.ifCond .ne 12, 3) := by decide +kernel
theorem dX7_floors_18 : decode cX7_floors 18 = .ok (.aload_n 0, 1) := by decide +kernel
theorem dX7_floors_19 : decode cX7_floors 19 = .ok (.iconst 2, 1) := by decide +kernel
theorem dX7_floors_20 : decode cX7_floors 20 = .ok (.iload_n 3, 1) := by decide +kernel
theorem dX7_floors_21 : decode cX7_floors 21 = .ok (.imul, 1) := by decide +kernel
theorem dX7_floors_22 : decode cX7_floors 22 = .ok (.lload_n 1, 1) := by decide +kernel
theorem dX7_floors_23 : decode cX7_floors 23 = .ok (.invokevirtual 169, 3) := by decide +kernel
theorem dX7_floors_26 : decode cX7_floors 26 = .ok (.lreturn, 1) := by decide +kernel
theorem dX7_floors_27 : decode cX7_floors 27 = .ok (.aload_n 0, 1) := by decide +kernel
theorem dX7_floors_28 : decode cX7_floors 28 = .ok (.iload_n 3, 1) := by decide +kernel
theorem dX7_floors_29 : decode cX7_floors 29 = .ok (.lload_n 1, 1) := by decide +kernel
theorem dX7_floors_30 : decode cX7_floors 30 = .ok (.invokevirtual 169, 3) := by decide +kernel
theorem dX7_floors_33 : decode cX7_floors 33 = .ok (.lstore 4, 2) := by decide +kernel
theorem dX7_floors_35 : decode cX7_floors 35 = .ok (.aload_n 0, 1) := by decide +kernel
theorem dX7_floors_36 : decode cX7_floors 36 = .ok (.invokevirtual 158, 3) := by decide +kernel
theorem dX7_floors_39 : decode cX7_floors 39 = .ok (.i2l, 1) := by decide +kernel
theorem dX7_floors_40 : decode cX7_floors 40 = .ok (.iload_n 3, 1) := by decide +kernel
theorem dX7_floors_41 : decode cX7_floors 41 = .ok (.invokestatic 165, 3) := by decide +kernel
theorem dX7_floors_44 : decode cX7_floors 44 = .ok (.lstore 6, 2) := by decide +kernel
theorem dX7_floors_46 : decode cX7_floors 46 = .ok (.aload_n 0, 1) := by decide +kernel
theorem dX7_floors_47 : decode cX7_floors 47 = .ok (.getfield 16, 3) := by decide +kernel
theorem dX7_floors_50 : decode cX7_floors 50 = .ok (.bipush 101, 2) := by decide +kernel
theorem dX7_floors_52 : decode cX7_floors 52 = .ok (.iaload, 1) := by decide +kernel
theorem dX7_floors_53 : decode cX7_floors 53 = .ok (.iconst 1, 1) := by decide +kernel
theorem dX7_floors_54 : decode cX7_floors 54 = .ok (.if_icmp .ne 11, 3) := by decide +kernel
theorem dX7_floors_57 : decode cX7_floors 57 = .ok (.lload 4, 2) := by decide +kernel
theorem dX7_floors_59 : decode cX7_floors 59 = .ok (.lload 4, 2) := by decide +kernel
theorem dX7_floors_61 : decode cX7_floors 61 = .ok (.lmul, 1) := by decide +kernel
theorem dX7_floors_62 : decode cX7_floors 62 = .ok (.goto 20, 3) := by decide +kernel
theorem dX7_floors_65 : decode cX7_floors 65 = .ok (.lload 6, 2) := by decide +kernel
theorem dX7_floors_67 : decode cX7_floors 67 = .ok (.lload 6, 2) := by decide +kernel
theorem dX7_floors_69 : decode cX7_floors 69 = .ok (.lmul, 1) := by decide +kernel
theorem dX7_floors_70 : decode cX7_floors 70 = .ok (.lload 6, 2) := by decide +kernel
theorem dX7_floors_72 : decode cX7_floors 72 = .ok (.lload 4, 2) := by decide +kernel
theorem dX7_floors_74 : decode cX7_floors 74 = .ok (.lsub, 1) := by decide +kernel
theorem dX7_floors_75 : decode cX7_floors 75 = .ok (.lload 6, 2) := by decide +kernel
theorem dX7_floors_77 : decode cX7_floors 77 = .ok (.lload 4, 2) := by decide +kernel
theorem dX7_floors_79 : decode cX7_floors 79 = .ok (.lsub, 1) := by decide +kernel
theorem dX7_floors_80 : decode cX7_floors 80 = .ok (.lmul, 1) := by decide +kernel
theorem dX7_floors_81 : decode cX7_floors 81 = .ok (.lsub, 1) := by decide +kernel
theorem dX7_floors_82 : decode cX7_floors 82 = .ok (.lreturn, 1) := by decide +kernel
theorem dX7_falses_0 : decode cX7_falses 0 = .ok (.lconst 0, 1) := by decide +kernel
theorem dX7_falses_1 : decode cX7_falses 1 = .ok (.lstore_n 2, 1) := by decide +kernel
theorem dX7_falses_2 : decode cX7_falses 2 = .ok (.lconst 0, 1) := by decide +kernel
theorem dX7_falses_3 : decode cX7_falses 3 = .ok (.lstore 4, 2) := by decide +kernel
theorem dX7_falses_5 : decode cX7_falses 5 = .ok (.lconst 0, 1) := by decide +kernel
theorem dX7_falses_6 : decode cX7_falses 6 = .ok (.lstore 6, 2) := by decide +kernel
theorem dX7_falses_8 : decode cX7_falses 8 = .ok (.iconst 0, 1) := by decide +kernel
theorem dX7_falses_9 : decode cX7_falses 9 = .ok (.istore 8, 2) := by decide +kernel
theorem dX7_falses_11 : decode cX7_falses 11 = .ok (.iload 8, 2) := by decide +kernel
theorem dX7_falses_13 : decode cX7_falses 13 = .ok (.bipush 8, 2) := by decide +kernel
theorem dX7_falses_15 : decode cX7_falses 15 = .ok (.if_icmp .ge 98, 3) := by decide +kernel
theorem dX7_falses_18 : decode cX7_falses 18 = .ok (.lload 6, 2) := by decide +kernel
theorem dX7_falses_20 : decode cX7_falses 20 = .ok (.aload_n 0, 1) := by decide +kernel
theorem dX7_falses_21 : decode cX7_falses 21 = .ok (.getfield 13, 3) := by decide +kernel
theorem dX7_falses_24 : decode cX7_falses 24 = .ok (.iload 8, 2) := by decide +kernel
theorem dX7_falses_26 : decode cX7_falses 26 = .ok (.iaload, 1) := by decide +kernel
theorem dX7_falses_27 : decode cX7_falses 27 = .ok (.i2l, 1) := by decide +kernel
theorem dX7_falses_28 : decode cX7_falses 28 = .ok (.ladd, 1) := by decide +kernel
theorem dX7_falses_29 : decode cX7_falses 29 = .ok (.lstore 6, 2) := by decide +kernel
theorem dX7_falses_31 : decode cX7_falses 31 = .ok (.aload_n 0, 1) := by decide +kernel
theorem dX7_falses_32 : decode cX7_falses 32 = .ok (.lload 6, 2) := by decide +kernel
theorem dX7_falses_34 : decode cX7_falses 34 = .ok (.invokevirtual 173, 3) := by decide +kernel
theorem dX7_falses_37 : decode cX7_falses 37 = .ok (.lstore 9, 2) := by decide +kernel
theorem dX7_falses_39 : decode cX7_falses 39 = .ok (.lconst 0, 1) := by decide +kernel
theorem dX7_falses_40 : decode cX7_falses 40 = .ok (.lstore 11, 2) := by decide +kernel
theorem dX7_falses_42 : decode cX7_falses 42 = .ok (.iconst 0, 1) := by decide +kernel
theorem dX7_falses_43 : decode cX7_falses 43 = .ok (.istore 13, 2) := by decide +kernel
theorem dX7_falses_45 : decode cX7_falses 45 = .ok (.iload 13, 2) := by decide +kernel
theorem dX7_falses_47 : decode cX7_falses 47 = .ok (.bipush 8, 2) := by decide +kernel
theorem dX7_falses_49 : decode cX7_falses 49 = .ok (.if_icmp .ge 43, 3) := by decide +kernel
theorem dX7_falses_52 : decode cX7_falses 52 = .ok (.lload 11, 2) := by decide +kernel
theorem dX7_falses_54 : decode cX7_falses 54 = .ok (.aload_n 0, 1) := by decide +kernel
theorem dX7_falses_55 : decode cX7_falses 55 = .ok (.getfield 16, 3) := by decide +kernel
theorem dX7_falses_58 : decode cX7_falses 58 = .ok (.bipush 100, 2) := by decide +kernel
theorem dX7_falses_60 : decode cX7_falses 60 = .ok (.iaload, 1) := by decide +kernel
theorem dX7_falses_61 : decode cX7_falses 61 = .ok (.iload 13, 2) := by decide +kernel
theorem dX7_falses_63 : decode cX7_falses 63 = .ok (.imul, 1) := by decide +kernel
theorem dX7_falses_64 : decode cX7_falses 64 = .ok (.iload_n 1, 1) := by decide +kernel
theorem dX7_falses_65 : decode cX7_falses 65 = .ok (.iload 8, 2) := by decide +kernel
theorem dX7_falses_67 : decode cX7_falses 67 = .ok (.imul, 1) := by decide +kernel
theorem dX7_falses_68 : decode cX7_falses 68 = .ok (.if_icmp .le 14, 3) := by decide +kernel
theorem dX7_falses_71 : decode cX7_falses 71 = .ok (.aload_n 0, 1) := by decide +kernel
theorem dX7_falses_72 : decode cX7_falses 72 = .ok (.getfield 13, 3) := by decide +kernel
theorem dX7_falses_75 : decode cX7_falses 75 = .ok (.iload 13, 2) := by decide +kernel
theorem dX7_falses_77 : decode cX7_falses 77 = .ok (.iaload, 1) := by decide +kernel
theorem dX7_falses_78 : decode cX7_falses 78 = .ok (.i2l, 1) := by decide +kernel
theorem dX7_falses_79 : decode cX7_falses 79 = .ok (.goto 4, 3) := by decide +kernel
theorem dX7_falses_82 : decode cX7_falses 82 = .ok (.lconst 0, 1) := by decide +kernel
theorem dX7_falses_83 : decode cX7_falses 83 = .ok (.ladd, 1) := by decide +kernel
theorem dX7_falses_84 : decode cX7_falses 84 = .ok (.lstore 11, 2) := by decide +kernel
theorem dX7_falses_86 : decode cX7_falses 86 = .ok (.iinc 13 1, 3) := by decide +kernel
theorem dX7_falses_89 : decode cX7_falses 89 = .ok (.goto (-44), 3) := by decide +kernel
theorem dX7_falses_92 : decode cX7_falses 92 = .ok (.lload_n 2, 1) := by decide +kernel
theorem dX7_falses_93 : decode cX7_falses 93 = .ok (.lload 9, 2) := by decide +kernel
theorem dX7_falses_95 : decode cX7_falses 95 = .ok (.lload 4, 2) := by decide +kernel
theorem dX7_falses_97 : decode cX7_falses 97 = .ok (.lsub, 1) := by decide +kernel
theorem dX7_falses_98 : decode cX7_falses 98 = .ok (.lload 11, 2) := by decide +kernel
theorem dX7_falses_100 : decode cX7_falses 100 = .ok (.lmul, 1) := by decide +kernel
theorem dX7_falses_101 : decode cX7_falses 101 = .ok (.ladd, 1) := by decide +kernel
theorem dX7_falses_102 : decode cX7_falses 102 = .ok (.lstore_n 2, 1) := by decide +kernel
theorem dX7_falses_103 : decode cX7_falses 103 = .ok (.lload 9, 2) := by decide +kernel
theorem dX7_falses_105 : decode cX7_falses 105 = .ok (.lstore 4, 2) := by decide +kernel
theorem dX7_falses_107 : decode cX7_falses 107 = .ok (.iinc 8 1, 3) := by decide +kernel
theorem dX7_falses_110 : decode cX7_falses 110 = .ok (.goto (-99), 3) := by decide +kernel
theorem dX7_falses_113 : decode cX7_falses 113 = .ok (.lload_n 2, 1) := by decide +kernel
theorem dX7_falses_114 : decode cX7_falses 114 = .ok (.lreturn, 1) := by decide +kernel
theorem dX7_allWays_0 : decode cX7_allWays 0 = .ok (.aload_n 0, 1) := by decide +kernel
theorem dX7_allWays_1 : decode cX7_allWays 1 = .ok (.invokevirtual 158, 3) := by decide +kernel
theorem dX7_allWays_4 : decode cX7_allWays 4 = .ok (.i2l, 1) := by decide +kernel
theorem dX7_allWays_5 : decode cX7_allWays 5 = .ok (.iconst 2, 1) := by decide +kernel
theorem dX7_allWays_6 : decode cX7_allWays 6 = .ok (.aload_n 0, 1) := by decide +kernel
theorem dX7_allWays_7 : decode cX7_allWays 7 = .ok (.getfield 16, 3) := by decide +kernel
theorem dX7_allWays_10 : decode cX7_allWays 10 = .ok (.bipush 96, 2) := by decide +kernel
theorem dX7_allWays_12 : decode cX7_allWays 12 = .ok (.iaload, 1) := by decide +kernel
theorem dX7_allWays_13 : decode cX7_allWays 13 = .ok (.imul, 1) := by decide +kernel
theorem dX7_allWays_14 : decode cX7_allWays 14 = .ok (.iconst 1, 1) := by decide +kernel
theorem dX7_allWays_15 : decode cX7_allWays 15 = .ok (.iadd, 1) := by decide +kernel
theorem dX7_allWays_16 : decode cX7_allWays 16 = .ok (.invokestatic 165, 3) := by decide +kernel
theorem dX7_allWays_19 : decode cX7_allWays 19 = .ok (.lreturn, 1) := by decide +kernel
theorem dX7_common_0 : decode cX7_common 0 = .ok (.lload_n 0, 1) := by decide +kernel
theorem dX7_common_1 : decode cX7_common 1 = .ok (.lstore 4, 2) := by decide +kernel
theorem dX7_common_3 : decode cX7_common 3 = .ok (.lload_n 2, 1) := by decide +kernel
theorem dX7_common_4 : decode cX7_common 4 = .ok (.lstore 6, 2) := by decide +kernel
theorem dX7_common_6 : decode cX7_common 6 = .ok (.lload 6, 2) := by decide +kernel
theorem dX7_common_8 : decode cX7_common 8 = .ok (.lconst 0, 1) := by decide +kernel
theorem dX7_common_9 : decode cX7_common 9 = .ok (.lcmp, 1) := by decide +kernel
theorem dX7_common_10 : decode cX7_common 10 = .ok (.ifCond .eq 21, 3) := by decide +kernel
theorem dX7_common_13 : decode cX7_common 13 = .ok (.lload 4, 2) := by decide +kernel
theorem dX7_common_15 : decode cX7_common 15 = .ok (.lload 6, 2) := by decide +kernel
theorem dX7_common_17 : decode cX7_common 17 = .ok (.lrem, 1) := by decide +kernel
theorem dX7_common_18 : decode cX7_common 18 = .ok (.lstore 8, 2) := by decide +kernel
theorem dX7_common_20 : decode cX7_common 20 = .ok (.lload 6, 2) := by decide +kernel
theorem dX7_common_22 : decode cX7_common 22 = .ok (.lstore 4, 2) := by decide +kernel
theorem dX7_common_24 : decode cX7_common 24 = .ok (.lload 8, 2) := by decide +kernel
theorem dX7_common_26 : decode cX7_common 26 = .ok (.lstore 6, 2) := by decide +kernel
theorem dX7_common_28 : decode cX7_common 28 = .ok (.goto (-22), 3) := by decide +kernel
theorem dX7_common_31 : decode cX7_common 31 = .ok (.lload 4, 2) := by decide +kernel
theorem dX7_common_33 : decode cX7_common 33 = .ok (.lreturn, 1) := by decide +kernel
theorem dX7_odds_0 : decode cX7_odds 0 = .ok (.iload_n 1, 1) := by decide +kernel
theorem dX7_odds_1 : decode cX7_odds 1 = .ok (.iconst 0, 1) := by decide +kernel
theorem dX7_odds_2 : decode cX7_odds 2 = .ok (.iconst 1, 1) := by decide +kernel
theorem dX7_odds_3 : decode cX7_odds 3 = .ok (.invokestatic 76, 3) := by decide +kernel
theorem dX7_odds_6 : decode cX7_odds 6 = .ok (.ifCond .ne 7, 3) := by decide +kernel
theorem dX7_odds_9 : decode cX7_odds 9 = .ok (.ldc2_w 177, 3) := by decide +kernel
theorem dX7_odds_12 : decode cX7_odds 12 = .ok (.lreturn, 1) := by decide +kernel
theorem dX7_odds_13 : decode cX7_odds 13 = .ok (.aload_n 0, 1) := by decide +kernel
theorem dX7_odds_14 : decode cX7_odds 14 = .ok (.aload_n 0, 1) := by decide +kernel
theorem dX7_odds_15 : decode cX7_odds 15 = .ok (.getfield 16, 3) := by decide +kernel
theorem dX7_odds_18 : decode cX7_odds 18 = .ok (.bipush 99, 2) := by decide +kernel
theorem dX7_odds_20 : decode cX7_odds 20 = .ok (.iaload, 1) := by decide +kernel
theorem dX7_odds_21 : decode cX7_odds 21 = .ok (.invokevirtual 179, 3) := by decide +kernel
theorem dX7_odds_24 : decode cX7_odds 24 = .ok (.lstore_n 2, 1) := by decide +kernel
theorem dX7_odds_25 : decode cX7_odds 25 = .ok (.aload_n 0, 1) := by decide +kernel
theorem dX7_odds_26 : decode cX7_odds 26 = .ok (.invokevirtual 183, 3) := by decide +kernel
theorem dX7_odds_29 : decode cX7_odds 29 = .ok (.lstore 4, 2) := by decide +kernel
theorem dX7_odds_31 : decode cX7_odds 31 = .ok (.lload_n 2, 1) := by decide +kernel
theorem dX7_odds_32 : decode cX7_odds 32 = .ok (.lload 4, 2) := by decide +kernel
theorem dX7_odds_34 : decode cX7_odds 34 = .ok (.invokestatic 187, 3) := by decide +kernel
theorem dX7_odds_37 : decode cX7_odds 37 = .ok (.lstore 6, 2) := by decide +kernel
theorem dX7_odds_39 : decode cX7_odds 39 = .ok (.iload_n 1, 1) := by decide +kernel
theorem dX7_odds_40 : decode cX7_odds 40 = .ok (.ifCond .ne 10, 3) := by decide +kernel
theorem dX7_odds_43 : decode cX7_odds 43 = .ok (.lload_n 2, 1) := by decide +kernel
theorem dX7_odds_44 : decode cX7_odds 44 = .ok (.lload 6, 2) := by decide +kernel
theorem dX7_odds_46 : decode cX7_odds 46 = .ok (.ldiv, 1) := by decide +kernel
theorem dX7_odds_47 : decode cX7_odds 47 = .ok (.goto 8, 3) := by decide +kernel
theorem dX7_odds_50 : decode cX7_odds 50 = .ok (.lload 4, 2) := by decide +kernel
theorem dX7_odds_52 : decode cX7_odds 52 = .ok (.lload 6, 2) := by decide +kernel
theorem dX7_odds_54 : decode cX7_odds 54 = .ok (.ldiv, 1) := by decide +kernel
theorem dX7_odds_55 : decode cX7_odds 55 = .ok (.lreturn, 1) := by decide +kernel
theorem dX7_isNoMore_0 : decode cX7_isNoMore 0 = .ok (.lload_n 0, 1) := by decide +kernel
theorem dX7_isNoMore_1 : decode cX7_isNoMore 1 = .ok (.lstore 8, 2) := by decide +kernel
theorem dX7_isNoMore_3 : decode cX7_isNoMore 3 = .ok (.lload_n 2, 1) := by decide +kernel
theorem dX7_isNoMore_4 : decode cX7_isNoMore 4 = .ok (.lstore 10, 2) := by decide +kernel
theorem dX7_isNoMore_6 : decode cX7_isNoMore 6 = .ok (.lload 4, 2) := by decide +kernel
theorem dX7_isNoMore_8 : decode cX7_isNoMore 8 = .ok (.lstore 12, 2) := by decide +kernel
theorem dX7_isNoMore_10 : decode cX7_isNoMore 10 = .ok (.lload 6, 2) := by decide +kernel
theorem dX7_isNoMore_12 : decode cX7_isNoMore 12 = .ok (.lstore 14, 2) := by decide +kernel
theorem dX7_isNoMore_14 : decode cX7_isNoMore 14 = .ok (.iconst 1, 1) := by decide +kernel
theorem dX7_isNoMore_15 : decode cX7_isNoMore 15 = .ok (.istore 16, 2) := by decide +kernel
theorem dX7_isNoMore_17 : decode cX7_isNoMore 17 = .ok (.lload 10, 2) := by decide +kernel
theorem dX7_isNoMore_19 : decode cX7_isNoMore 19 = .ok (.lconst 0, 1) := by decide +kernel
theorem dX7_isNoMore_20 : decode cX7_isNoMore 20 = .ok (.lcmp, 1) := by decide +kernel
theorem dX7_isNoMore_21 : decode cX7_isNoMore 21 = .ok (.ifCond .eq 99, 3) := by decide +kernel
theorem dX7_isNoMore_24 : decode cX7_isNoMore 24 = .ok (.lload 14, 2) := by decide +kernel
theorem dX7_isNoMore_26 : decode cX7_isNoMore 26 = .ok (.lconst 0, 1) := by decide +kernel
theorem dX7_isNoMore_27 : decode cX7_isNoMore 27 = .ok (.lcmp, 1) := by decide +kernel
theorem dX7_isNoMore_28 : decode cX7_isNoMore 28 = .ok (.ifCond .eq 92, 3) := by decide +kernel
theorem dX7_isNoMore_31 : decode cX7_isNoMore 31 = .ok (.lload 8, 2) := by decide +kernel
theorem dX7_isNoMore_33 : decode cX7_isNoMore 33 = .ok (.lload 10, 2) := by decide +kernel
theorem dX7_isNoMore_35 : decode cX7_isNoMore 35 = .ok (.ldiv, 1) := by decide +kernel
theorem dX7_isNoMore_36 : decode cX7_isNoMore 36 = .ok (.lload 12, 2) := by decide +kernel
theorem dX7_isNoMore_38 : decode cX7_isNoMore 38 = .ok (.lload 14, 2) := by decide +kernel
theorem dX7_isNoMore_40 : decode cX7_isNoMore 40 = .ok (.ldiv, 1) := by decide +kernel
theorem dX7_isNoMore_41 : decode cX7_isNoMore 41 = .ok (.lcmp, 1) := by decide +kernel
theorem dX7_isNoMore_42 : decode cX7_isNoMore 42 = .ok (.ifCond .eq 33, 3) := by decide +kernel
theorem dX7_isNoMore_45 : decode cX7_isNoMore 45 = .ok (.lload 8, 2) := by decide +kernel
theorem dX7_isNoMore_47 : decode cX7_isNoMore 47 = .ok (.lload 10, 2) := by decide +kernel
theorem dX7_isNoMore_49 : decode cX7_isNoMore 49 = .ok (.ldiv, 1) := by decide +kernel
theorem dX7_isNoMore_50 : decode cX7_isNoMore 50 = .ok (.lload 12, 2) := by decide +kernel
theorem dX7_isNoMore_52 : decode cX7_isNoMore 52 = .ok (.lload 14, 2) := by decide +kernel
theorem dX7_isNoMore_54 : decode cX7_isNoMore 54 = .ok (.ldiv, 1) := by decide +kernel
theorem dX7_isNoMore_55 : decode cX7_isNoMore 55 = .ok (.lcmp, 1) := by decide +kernel
theorem dX7_isNoMore_56 : decode cX7_isNoMore 56 = .ok (.ifCond .ge 7, 3) := by decide +kernel
theorem dX7_isNoMore_59 : decode cX7_isNoMore 59 = .ok (.iconst 1, 1) := by decide +kernel
theorem dX7_isNoMore_60 : decode cX7_isNoMore 60 = .ok (.goto 4, 3) := by decide +kernel
theorem dX7_isNoMore_63 : decode cX7_isNoMore 63 = .ok (.iconst 0, 1) := by decide +kernel
theorem dX7_isNoMore_64 : decode cX7_isNoMore 64 = .ok (.iload 16, 2) := by decide +kernel
theorem dX7_isNoMore_66 : decode cX7_isNoMore 66 = .ok (.if_icmp .ne 7, 3) := by decide +kernel
theorem dX7_isNoMore_69 : decode cX7_isNoMore 69 = .ok (.iconst 1, 1) := by decide +kernel
theorem dX7_isNoMore_70 : decode cX7_isNoMore 70 = .ok (.goto 4, 3) := by decide +kernel
theorem dX7_isNoMore_73 : decode cX7_isNoMore 73 = .ok (.iconst 0, 1) := by decide +kernel
theorem dX7_isNoMore_74 : decode cX7_isNoMore 74 = .ok (.ireturn, 1) := by decide +kernel
theorem dX7_isNoMore_75 : decode cX7_isNoMore 75 = .ok (.lload 8, 2) := by decide +kernel
theorem dX7_isNoMore_77 : decode cX7_isNoMore 77 = .ok (.lload 10, 2) := by decide +kernel
theorem dX7_isNoMore_79 : decode cX7_isNoMore 79 = .ok (.lrem, 1) := by decide +kernel
theorem dX7_isNoMore_80 : decode cX7_isNoMore 80 = .ok (.lstore 17, 2) := by decide +kernel
theorem dX7_isNoMore_82 : decode cX7_isNoMore 82 = .ok (.lload 12, 2) := by decide +kernel
theorem dX7_isNoMore_84 : decode cX7_isNoMore 84 = .ok (.lload 14, 2) := by decide +kernel
theorem dX7_isNoMore_86 : decode cX7_isNoMore 86 = .ok (.lrem, 1) := by decide +kernel
theorem dX7_isNoMore_87 : decode cX7_isNoMore 87 = .ok (.lstore 19, 2) := by decide +kernel
theorem dX7_isNoMore_89 : decode cX7_isNoMore 89 = .ok (.lload 10, 2) := by decide +kernel
theorem dX7_isNoMore_91 : decode cX7_isNoMore 91 = .ok (.lstore 8, 2) := by decide +kernel
theorem dX7_isNoMore_93 : decode cX7_isNoMore 93 = .ok (.lload 17, 2) := by decide +kernel
theorem dX7_isNoMore_95 : decode cX7_isNoMore 95 = .ok (.lstore 10, 2) := by decide +kernel
theorem dX7_isNoMore_97 : decode cX7_isNoMore 97 = .ok (.lload 14, 2) := by decide +kernel
theorem dX7_isNoMore_99 : decode cX7_isNoMore 99 = .ok (.lstore 12, 2) := by decide +kernel
theorem dX7_isNoMore_101 : decode cX7_isNoMore 101 = .ok (.lload 19, 2) := by decide +kernel
theorem dX7_isNoMore_103 : decode cX7_isNoMore 103 = .ok (.lstore 14, 2) := by decide +kernel
theorem dX7_isNoMore_105 : decode cX7_isNoMore 105 = .ok (.iload 16, 2) := by decide +kernel
theorem dX7_isNoMore_107 : decode cX7_isNoMore 107 = .ok (.ifCond .ne 7, 3) := by decide +kernel
theorem dX7_isNoMore_110 : decode cX7_isNoMore 110 = .ok (.iconst 1, 1) := by decide +kernel
theorem dX7_isNoMore_111 : decode cX7_isNoMore 111 = .ok (.goto 4, 3) := by decide +kernel
theorem dX7_isNoMore_114 : decode cX7_isNoMore 114 = .ok (.iconst 0, 1) := by decide +kernel
theorem dX7_isNoMore_115 : decode cX7_isNoMore 115 = .ok (.istore 16, 2) := by decide +kernel
theorem dX7_isNoMore_117 : decode cX7_isNoMore 117 = .ok (.goto (-100), 3) := by decide +kernel
theorem dX7_isNoMore_120 : decode cX7_isNoMore 120 = .ok (.lload 10, 2) := by decide +kernel
theorem dX7_isNoMore_122 : decode cX7_isNoMore 122 = .ok (.lconst 0, 1) := by decide +kernel
theorem dX7_isNoMore_123 : decode cX7_isNoMore 123 = .ok (.lcmp, 1) := by decide +kernel
theorem dX7_isNoMore_124 : decode cX7_isNoMore 124 = .ok (.ifCond .ne 10, 3) := by decide +kernel
theorem dX7_isNoMore_127 : decode cX7_isNoMore 127 = .ok (.lload 14, 2) := by decide +kernel
theorem dX7_isNoMore_129 : decode cX7_isNoMore 129 = .ok (.lconst 0, 1) := by decide +kernel
theorem dX7_isNoMore_130 : decode cX7_isNoMore 130 = .ok (.lcmp, 1) := by decide +kernel
theorem dX7_isNoMore_131 : decode cX7_isNoMore 131 = .ok (.ifCond .eq 20, 3) := by decide +kernel
theorem dX7_isNoMore_134 : decode cX7_isNoMore 134 = .ok (.lload 10, 2) := by decide +kernel
theorem dX7_isNoMore_136 : decode cX7_isNoMore 136 = .ok (.lconst 0, 1) := by decide +kernel
theorem dX7_isNoMore_137 : decode cX7_isNoMore 137 = .ok (.lcmp, 1) := by decide +kernel
theorem dX7_isNoMore_138 : decode cX7_isNoMore 138 = .ok (.ifCond .ne 7, 3) := by decide +kernel
theorem dX7_isNoMore_141 : decode cX7_isNoMore 141 = .ok (.iconst 1, 1) := by decide +kernel
theorem dX7_isNoMore_142 : decode cX7_isNoMore 142 = .ok (.goto 4, 3) := by decide +kernel
theorem dX7_isNoMore_145 : decode cX7_isNoMore 145 = .ok (.iconst 0, 1) := by decide +kernel
theorem dX7_isNoMore_146 : decode cX7_isNoMore 146 = .ok (.iload 16, 2) := by decide +kernel
theorem dX7_isNoMore_148 : decode cX7_isNoMore 148 = .ok (.if_icmp .eq 7, 3) := by decide +kernel
theorem dX7_isNoMore_151 : decode cX7_isNoMore 151 = .ok (.iconst 1, 1) := by decide +kernel
theorem dX7_isNoMore_152 : decode cX7_isNoMore 152 = .ok (.goto 4, 3) := by decide +kernel
theorem dX7_isNoMore_155 : decode cX7_isNoMore 155 = .ok (.iconst 0, 1) := by decide +kernel
theorem dX7_isNoMore_156 : decode cX7_isNoMore 156 = .ok (.ireturn, 1) := by decide +kernel
theorem dX7_factor_0 : decode cX7_factor 0 = .ok (.iload_n 1, 1) := by decide +kernel
theorem dX7_factor_1 : decode cX7_factor 1 = .ok (.iconst 1, 1) := by decide +kernel
theorem dX7_factor_2 : decode cX7_factor 2 = .ok (.ldc 191, 2) := by decide +kernel
theorem dX7_factor_4 : decode cX7_factor 4 = .ok (.invokestatic 76, 3) := by decide +kernel
theorem dX7_factor_7 : decode cX7_factor 7 = .ok (.ifCond .eq 13, 3) := by decide +kernel
theorem dX7_factor_10 : decode cX7_factor 10 = .ok (.iload_n 2, 1) := by decide +kernel
theorem dX7_factor_11 : decode cX7_factor 11 = .ok (.iconst 1, 1) := by decide +kernel
theorem dX7_factor_12 : decode cX7_factor 12 = .ok (.ldc 191, 2) := by decide +kernel
theorem dX7_factor_14 : decode cX7_factor 14 = .ok (.invokestatic 76, 3) := by decide +kernel
theorem dX7_factor_17 : decode cX7_factor 17 = .ok (.ifCond .ne 5, 3) := by decide +kernel
theorem dX7_factor_20 : decode cX7_factor 20 = .ok (.iconst (-1), 1) := by decide +kernel
theorem dX7_factor_21 : decode cX7_factor 21 = .ok (.ireturn, 1) := by decide +kernel
theorem dX7_factor_22 : decode cX7_factor 22 = .ok (.iconst 1, 1) := by decide +kernel
theorem dX7_factor_23 : decode cX7_factor 23 = .ok (.istore_n 3, 1) := by decide +kernel
theorem dX7_factor_24 : decode cX7_factor 24 = .ok (.iload_n 3, 1) := by decide +kernel
theorem dX7_factor_25 : decode cX7_factor 25 = .ok (.bipush 40, 2) := by decide +kernel
theorem dX7_factor_27 : decode cX7_factor 27 = .ok (.if_icmp .gt 30, 3) := by decide +kernel
theorem dX7_factor_30 : decode cX7_factor 30 = .ok (.aload_n 0, 1) := by decide +kernel
theorem dX7_factor_31 : decode cX7_factor 31 = .ok (.iload_n 3, 1) := by decide +kernel
theorem dX7_factor_32 : decode cX7_factor 32 = .ok (.invokevirtual 179, 3) := by decide +kernel
theorem dX7_factor_35 : decode cX7_factor 35 = .ok (.aload_n 0, 1) := by decide +kernel
theorem dX7_factor_36 : decode cX7_factor 36 = .ok (.invokevirtual 183, 3) := by decide +kernel
theorem dX7_factor_39 : decode cX7_factor 39 = .ok (.iload_n 1, 1) := by decide +kernel
theorem dX7_factor_40 : decode cX7_factor 40 = .ok (.i2l, 1) := by decide +kernel
theorem dX7_factor_41 : decode cX7_factor 41 = .ok (.iload_n 2, 1) := by decide +kernel
theorem dX7_factor_42 : decode cX7_factor 42 = .ok (.i2l, 1) := by decide +kernel
theorem dX7_factor_43 : decode cX7_factor 43 = .ok (.invokestatic 192, 3) := by decide +kernel
theorem dX7_factor_46 : decode cX7_factor 46 = .ok (.ifCond .eq 5, 3) := by decide +kernel
theorem dX7_factor_49 : decode cX7_factor 49 = .ok (.iload_n 3, 1) := by decide +kernel
theorem dX7_factor_50 : decode cX7_factor 50 = .ok (.ireturn, 1) := by decide +kernel
theorem dX7_factor_51 : decode cX7_factor 51 = .ok (.iinc 3 1, 3) := by decide +kernel
theorem dX7_factor_54 : decode cX7_factor 54 = .ok (.goto (-30), 3) := by decide +kernel
theorem dX7_factor_57 : decode cX7_factor 57 = .ok (.bipush (-4), 2) := by decide +kernel
theorem dX7_factor_59 : decode cX7_factor 59 = .ok (.ireturn, 1) := by decide +kernel
theorem dX7_figure_0 : decode cX7_figure 0 = .ok (.iload_n 0, 1) := by decide +kernel
theorem dX7_figure_1 : decode cX7_figure 1 = .ok (.bipush 10, 2) := by decide +kernel
theorem dX7_figure_3 : decode cX7_figure 3 = .ok (.if_icmp .ge 19, 3) := by decide +kernel
theorem dX7_figure_6 : decode cX7_figure 6 = .ok (.iload_n 1, 1) := by decide +kernel
theorem dX7_figure_7 : decode cX7_figure 7 = .ok (.ifCond .ne 10, 3) := by decide +kernel
theorem dX7_figure_10 : decode cX7_figure 10 = .ok (.bipush 48, 2) := by decide +kernel
theorem dX7_figure_12 : decode cX7_figure 12 = .ok (.iload_n 0, 1) := by decide +kernel
theorem dX7_figure_13 : decode cX7_figure 13 = .ok (.iadd, 1) := by decide +kernel
theorem dX7_figure_14 : decode cX7_figure 14 = .ok (.goto 39, 3) := by decide +kernel
theorem dX7_figure_17 : decode cX7_figure 17 = .ok (.bipush (-4), 2) := by decide +kernel
theorem dX7_figure_19 : decode cX7_figure 19 = .ok (.goto 34, 3) := by decide +kernel
theorem dX7_figure_22 : decode cX7_figure 22 = .ok (.iload_n 1, 1) := by decide +kernel
theorem dX7_figure_23 : decode cX7_figure 23 = .ok (.ifCond .ne 13, 3) := by decide +kernel
theorem dX7_figure_26 : decode cX7_figure 26 = .ok (.bipush 48, 2) := by decide +kernel
theorem dX7_figure_28 : decode cX7_figure 28 = .ok (.iload_n 0, 1) := by decide +kernel
theorem dX7_figure_29 : decode cX7_figure 29 = .ok (.bipush 10, 2) := by decide +kernel
theorem dX7_figure_31 : decode cX7_figure 31 = .ok (.idiv, 1) := by decide +kernel
theorem dX7_figure_32 : decode cX7_figure 32 = .ok (.iadd, 1) := by decide +kernel
theorem dX7_figure_33 : decode cX7_figure 33 = .ok (.goto 20, 3) := by decide +kernel
theorem dX7_figure_36 : decode cX7_figure 36 = .ok (.iload_n 1, 1) := by decide +kernel
theorem dX7_figure_37 : decode cX7_figure 37 = .ok (.iconst 1, 1) := by decide +kernel
theorem dX7_figure_38 : decode cX7_figure 38 = .ok (.if_icmp .ne 13, 3) := by decide +kernel
theorem dX7_figure_41 : decode cX7_figure 41 = .ok (.bipush 48, 2) := by decide +kernel
theorem dX7_figure_43 : decode cX7_figure 43 = .ok (.iload_n 0, 1) := by decide +kernel
theorem dX7_figure_44 : decode cX7_figure 44 = .ok (.bipush 10, 2) := by decide +kernel
theorem dX7_figure_46 : decode cX7_figure 46 = .ok (.irem, 1) := by decide +kernel
theorem dX7_figure_47 : decode cX7_figure 47 = .ok (.iadd, 1) := by decide +kernel
theorem dX7_figure_48 : decode cX7_figure 48 = .ok (.goto 5, 3) := by decide +kernel
theorem dX7_figure_51 : decode cX7_figure 51 = .ok (.bipush (-4), 2) := by decide +kernel
theorem dX7_figure_53 : decode cX7_figure 53 = .ok (.ireturn, 1) := by decide +kernel
theorem dX7_sign_0 : decode cX7_sign 0 = .ok (.aload_n 0, 1) := by decide +kernel
theorem dX7_sign_1 : decode cX7_sign 1 = .ok (.getfield 16, 3) := by decide +kernel
theorem dX7_sign_4 : decode cX7_sign 4 = .ok (.bipush 48, 2) := by decide +kernel
theorem dX7_sign_6 : decode cX7_sign 6 = .ok (.iload_n 1, 1) := by decide +kernel
theorem dX7_sign_7 : decode cX7_sign 7 = .ok (.iadd, 1) := by decide +kernel
theorem dX7_sign_8 : decode cX7_sign 8 = .ok (.iaload, 1) := by decide +kernel
theorem dX7_sign_9 : decode cX7_sign 9 = .ok (.iconst 1, 1) := by decide +kernel
theorem dX7_sign_10 : decode cX7_sign 10 = .ok (.if_icmp .ne 6, 3) := by decide +kernel
theorem dX7_sign_13 : decode cX7_sign 13 = .ok (.bipush 120, 2) := by decide +kernel
theorem dX7_sign_15 : decode cX7_sign 15 = .ok (.ireturn, 1) := by decide +kernel
theorem dX7_sign_16 : decode cX7_sign 16 = .ok (.aload_n 0, 1) := by decide +kernel
theorem dX7_sign_17 : decode cX7_sign 17 = .ok (.iload_n 1, 1) := by decide +kernel
theorem dX7_sign_18 : decode cX7_sign 18 = .ok (.invokevirtual 133, 3) := by decide +kernel
theorem dX7_sign_21 : decode cX7_sign 21 = .ok (.ifCond .ne 8, 3) := by decide +kernel
theorem dX7_sign_24 : decode cX7_sign 24 = .ok (.bipush 46, 2) := by decide +kernel
theorem dX7_sign_26 : decode cX7_sign 26 = .ok (.goto 27, 3) := by decide +kernel
theorem dX7_sign_29 : decode cX7_sign 29 = .ok (.aload_n 0, 1) := by decide +kernel
theorem dX7_sign_30 : decode cX7_sign 30 = .ok (.aload_n 0, 1) := by decide +kernel
theorem dX7_sign_31 : decode cX7_sign 31 = .ok (.aload_n 0, 1) := by decide +kernel
theorem dX7_sign_32 : decode cX7_sign 32 = .ok (.iload_n 1, 1) := by decide +kernel
theorem dX7_sign_33 : decode cX7_sign 33 = .ok (.invokevirtual 136, 3) := by decide +kernel
theorem dX7_sign_36 : decode cX7_sign 36 = .ok (.invokevirtual 149, 3) := by decide +kernel
theorem dX7_sign_39 : decode cX7_sign 39 = .ok (.invokevirtual 152, 3) := by decide +kernel
theorem dX7_sign_42 : decode cX7_sign 42 = .ok (.iload_n 1, 1) := by decide +kernel
theorem dX7_sign_43 : decode cX7_sign 43 = .ok (.if_icmp .ne 8, 3) := by decide +kernel
theorem dX7_sign_46 : decode cX7_sign 46 = .ok (.bipush 94, 2) := by decide +kernel
theorem dX7_sign_48 : decode cX7_sign 48 = .ok (.goto 5, 3) := by decide +kernel
theorem dX7_sign_51 : decode cX7_sign 51 = .ok (.bipush 33, 2) := by decide +kernel
theorem dX7_sign_53 : decode cX7_sign 53 = .ok (.ireturn, 1) := by decide +kernel
theorem dX7_drawn_0 : decode cX7_drawn 0 = .ok (.iload_n 1, 1) := by decide +kernel
theorem dX7_drawn_1 : decode cX7_drawn 1 = .ok (.ifCond .ge 5, 3) := by decide +kernel
theorem dX7_drawn_4 : decode cX7_drawn 4 = .ok (.iconst (-1), 1) := by decide +kernel
theorem dX7_drawn_5 : decode cX7_drawn 5 = .ok (.ireturn, 1) := by decide +kernel
theorem dX7_drawn_6 : decode cX7_drawn 6 = .ok (.iload_n 1, 1) := by decide +kernel
theorem dX7_drawn_7 : decode cX7_drawn 7 = .ok (.aload_n 0, 1) := by decide +kernel
theorem dX7_drawn_8 : decode cX7_drawn 8 = .ok (.getfield 48, 3) := by decide +kernel
theorem dX7_drawn_11 : decode cX7_drawn 11 = .ok (.if_icmp .gt 22, 3) := by decide +kernel
theorem dX7_drawn_14 : decode cX7_drawn 14 = .ok (.iload_n 1, 1) := by decide +kernel
theorem dX7_drawn_15 : decode cX7_drawn 15 = .ok (.aload_n 0, 1) := by decide +kernel
theorem dX7_drawn_16 : decode cX7_drawn 16 = .ok (.getfield 48, 3) := by decide +kernel
theorem dX7_drawn_19 : decode cX7_drawn 19 = .ok (.if_icmp .ge 11, 3) := by decide +kernel
theorem dX7_drawn_22 : decode cX7_drawn 22 = .ok (.aload_n 0, 1) := by decide +kernel
theorem dX7_drawn_23 : decode cX7_drawn 23 = .ok (.iload_n 1, 1) := by decide +kernel
theorem dX7_drawn_24 : decode cX7_drawn 24 = .ok (.invokevirtual 196, 3) := by decide +kernel
theorem dX7_drawn_27 : decode cX7_drawn 27 = .ok (.goto 5, 3) := by decide +kernel
theorem dX7_drawn_30 : decode cX7_drawn 30 = .ok (.bipush 61, 2) := by decide +kernel
theorem dX7_drawn_32 : decode cX7_drawn 32 = .ok (.ireturn, 1) := by decide +kernel
theorem dX7_drawn_33 : decode cX7_drawn 33 = .ok (.aload_n 0, 1) := by decide +kernel
theorem dX7_drawn_34 : decode cX7_drawn 34 = .ok (.invokevirtual 155, 3) := by decide +kernel
theorem dX7_drawn_37 : decode cX7_drawn 37 = .ok (.istore_n 2, 1) := by decide +kernel
theorem dX7_drawn_38 : decode cX7_drawn 38 = .ok (.iload_n 2, 1) := by decide +kernel
theorem dX7_drawn_39 : decode cX7_drawn 39 = .ok (.bipush 10, 2) := by decide +kernel
theorem dX7_drawn_41 : decode cX7_drawn 41 = .ok (.if_icmp .ge 7, 3) := by decide +kernel
theorem dX7_drawn_44 : decode cX7_drawn 44 = .ok (.iconst 1, 1) := by decide +kernel
theorem dX7_drawn_45 : decode cX7_drawn 45 = .ok (.goto 4, 3) := by decide +kernel
theorem dX7_drawn_48 : decode cX7_drawn 48 = .ok (.iconst 2, 1) := by decide +kernel
theorem dX7_drawn_49 : decode cX7_drawn 49 = .ok (.istore_n 3, 1) := by decide +kernel
theorem dX7_drawn_50 : decode cX7_drawn 50 = .ok (.iload_n 1, 1) := by decide +kernel
theorem dX7_drawn_51 : decode cX7_drawn 51 = .ok (.aload_n 0, 1) := by decide +kernel
theorem dX7_drawn_52 : decode cX7_drawn 52 = .ok (.getfield 48, 3) := by decide +kernel
theorem dX7_drawn_55 : decode cX7_drawn 55 = .ok (.isub, 1) := by decide +kernel
theorem dX7_drawn_56 : decode cX7_drawn 56 = .ok (.iconst 1, 1) := by decide +kernel
theorem dX7_drawn_57 : decode cX7_drawn 57 = .ok (.isub, 1) := by decide +kernel
theorem dX7_drawn_58 : decode cX7_drawn 58 = .ok (.istore 4, 2) := by decide +kernel
theorem dX7_drawn_60 : decode cX7_drawn 60 = .ok (.iload 4, 2) := by decide +kernel
theorem dX7_drawn_62 : decode cX7_drawn 62 = .ok (.iload_n 3, 1) := by decide +kernel
theorem dX7_drawn_63 : decode cX7_drawn 63 = .ok (.if_icmp .gt 21, 3) := by decide +kernel
theorem dX7_drawn_66 : decode cX7_drawn 66 = .ok (.iload 4, 2) := by decide +kernel
theorem dX7_drawn_68 : decode cX7_drawn 68 = .ok (.iload_n 3, 1) := by decide +kernel
theorem dX7_drawn_69 : decode cX7_drawn 69 = .ok (.if_icmp .ge 12, 3) := by decide +kernel
theorem dX7_drawn_72 : decode cX7_drawn 72 = .ok (.iload_n 2, 1) := by decide +kernel
theorem dX7_drawn_73 : decode cX7_drawn 73 = .ok (.iload 4, 2) := by decide +kernel
theorem dX7_drawn_75 : decode cX7_drawn 75 = .ok (.invokestatic 199, 3) := by decide +kernel
theorem dX7_drawn_78 : decode cX7_drawn 78 = .ok (.goto 5, 3) := by decide +kernel
theorem dX7_drawn_81 : decode cX7_drawn 81 = .ok (.bipush 32, 2) := by decide +kernel
theorem dX7_drawn_83 : decode cX7_drawn 83 = .ok (.ireturn, 1) := by decide +kernel
theorem dX7_drawn_84 : decode cX7_drawn 84 = .ok (.aload_n 0, 1) := by decide +kernel
theorem dX7_drawn_85 : decode cX7_drawn 85 = .ok (.invokevirtual 146, 3) := by decide +kernel
theorem dX7_drawn_88 : decode cX7_drawn 88 = .ok (.iload 4, 2) := by decide +kernel
theorem dX7_drawn_90 : decode cX7_drawn 90 = .ok (.iload_n 3, 1) := by decide +kernel
theorem dX7_drawn_91 : decode cX7_drawn 91 = .ok (.isub, 1) := by decide +kernel
theorem dX7_drawn_92 : decode cX7_drawn 92 = .ok (.iconst 1, 1) := by decide +kernel
theorem dX7_drawn_93 : decode cX7_drawn 93 = .ok (.isub, 1) := by decide +kernel
theorem dX7_drawn_94 : decode cX7_drawn 94 = .ok (.invokestatic 199, 3) := by decide +kernel
theorem dX7_drawn_97 : decode cX7_drawn 97 = .ok (.ireturn, 1) := by decide +kernel
theorem dX7_count_0 : decode cX7_count 0 = .ok (.iload_n 1, 1) := by decide +kernel
theorem dX7_count_1 : decode cX7_count 1 = .ok (.tableswitch 103 0 11 #[63, 68, 68, 68, 68, 68, 68, 78, 83, 88, 93, 98], 63) := by decide +kernel
theorem dX7_count_64 : decode cX7_count 64 = .ok (.aload_n 0, 1) := by decide +kernel
theorem dX7_count_65 : decode cX7_count 65 = .ok (.getfield 48, 3) := by decide +kernel
theorem dX7_count_68 : decode cX7_count 68 = .ok (.ireturn, 1) := by decide +kernel
theorem dX7_count_69 : decode cX7_count 69 = .ok (.aload_n 0, 1) := by decide +kernel
theorem dX7_count_70 : decode cX7_count 70 = .ok (.getfield 16, 3) := by decide +kernel
theorem dX7_count_73 : decode cX7_count 73 = .ok (.bipush 95, 2) := by decide +kernel
theorem dX7_count_75 : decode cX7_count 75 = .ok (.iload_n 1, 1) := by decide +kernel
theorem dX7_count_76 : decode cX7_count 76 = .ok (.iadd, 1) := by decide +kernel
theorem dX7_count_77 : decode cX7_count 77 = .ok (.iaload, 1) := by decide +kernel
theorem dX7_count_78 : decode cX7_count 78 = .ok (.ireturn, 1) := by decide +kernel
theorem dX7_count_79 : decode cX7_count 79 = .ok (.aload_n 0, 1) := by decide +kernel
theorem dX7_count_80 : decode cX7_count 80 = .ok (.invokevirtual 155, 3) := by decide +kernel
theorem dX7_count_83 : decode cX7_count 83 = .ok (.ireturn, 1) := by decide +kernel
theorem dX7_count_84 : decode cX7_count 84 = .ok (.aload_n 0, 1) := by decide +kernel
theorem dX7_count_85 : decode cX7_count 85 = .ok (.invokevirtual 146, 3) := by decide +kernel
theorem dX7_count_88 : decode cX7_count 88 = .ok (.ireturn, 1) := by decide +kernel
theorem dX7_count_89 : decode cX7_count 89 = .ok (.aload_n 0, 1) := by decide +kernel
theorem dX7_count_90 : decode cX7_count 90 = .ok (.invokevirtual 114, 3) := by decide +kernel
theorem dX7_count_93 : decode cX7_count 93 = .ok (.ireturn, 1) := by decide +kernel
theorem dX7_count_94 : decode cX7_count 94 = .ok (.aload_n 0, 1) := by decide +kernel
theorem dX7_count_95 : decode cX7_count 95 = .ok (.getfield 54, 3) := by decide +kernel
theorem dX7_count_98 : decode cX7_count 98 = .ok (.ireturn, 1) := by decide +kernel
theorem dX7_count_99 : decode cX7_count 99 = .ok (.aload_n 0, 1) := by decide +kernel
theorem dX7_count_100 : decode cX7_count 100 = .ok (.getfield 57, 3) := by decide +kernel
theorem dX7_count_103 : decode cX7_count 103 = .ok (.ireturn, 1) := by decide +kernel
theorem dX7_count_104 : decode cX7_count 104 = .ok (.iconst (-1), 1) := by decide +kernel
theorem dX7_count_105 : decode cX7_count 105 = .ok (.ireturn, 1) := by decide +kernel
