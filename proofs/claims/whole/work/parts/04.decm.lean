theorem dX11_init_0 : decode cX11_init 0 = .ok (.aload_n 0, 1) := by decide +kernel
theorem dX11_init_1 : decode cX11_init 1 = .ok (.invokespecial 1, 3) := by decide +kernel
theorem dX11_init_4 : decode cX11_init 4 = .ok (.aload_n 0, 1) := by decide +kernel
theorem dX11_init_5 : decode cX11_init 5 = .ok (.bipush 60, 2) := by decide +kernel
theorem dX11_init_7 : decode cX11_init 7 = .ok (.newarray .int, 2) := by decide +kernel
theorem dX11_init_9 : decode cX11_init 9 = .ok (.putfield 7, 3) := by decide +kernel
theorem dX11_init_12 : decode cX11_init 12 = .ok (.aload_n 0, 1) := by decide +kernel
theorem dX11_init_13 : decode cX11_init 13 = .ok (.bipush 60, 2) := by decide +kernel
theorem dX11_init_15 : decode cX11_init 15 = .ok (.newarray .int, 2) := by decide +kernel
theorem dX11_init_17 : decode cX11_init 17 = .ok (.putfield 13, 3) := by decide +kernel
theorem dX11_init_20 : decode cX11_init 20 = .ok (.aload_n 0, 1) := by decide +kernel
theorem dX11_init_21 : decode cX11_init 21 = .ok (.bipush 60, 2) := by decide +kernel
theorem dX11_init_23 : decode cX11_init 23 = .ok (.newarray .boolean, 2) := by decide +kernel
theorem dX11_init_25 : decode cX11_init 25 = .ok (.putfield 16, 3) := by decide +kernel
theorem dX11_init_28 : decode cX11_init 28 = .ok (.aload_n 0, 1) := by decide +kernel
theorem dX11_init_29 : decode cX11_init 29 = .ok (.bipush 60, 2) := by decide +kernel
theorem dX11_init_31 : decode cX11_init 31 = .ok (.newarray .int, 2) := by decide +kernel
theorem dX11_init_33 : decode cX11_init 33 = .ok (.putfield 20, 3) := by decide +kernel
theorem dX11_init_36 : decode cX11_init 36 = .ok (.aload_n 0, 1) := by decide +kernel
theorem dX11_init_37 : decode cX11_init 37 = .ok (.bipush 12, 2) := by decide +kernel
theorem dX11_init_39 : decode cX11_init 39 = .ok (.newarray .int, 2) := by decide +kernel
theorem dX11_init_41 : decode cX11_init 41 = .ok (.putfield 23, 3) := by decide +kernel
theorem dX11_init_44 : decode cX11_init 44 = .ok (.aload_n 0, 1) := by decide +kernel
theorem dX11_init_45 : decode cX11_init 45 = .ok (.bipush 12, 2) := by decide +kernel
theorem dX11_init_47 : decode cX11_init 47 = .ok (.newarray .int, 2) := by decide +kernel
theorem dX11_init_49 : decode cX11_init 49 = .ok (.putfield 26, 3) := by decide +kernel
theorem dX11_init_52 : decode cX11_init 52 = .ok (.aload_n 0, 1) := by decide +kernel
theorem dX11_init_53 : decode cX11_init 53 = .ok (.bipush 12, 2) := by decide +kernel
theorem dX11_init_55 : decode cX11_init 55 = .ok (.newarray .int, 2) := by decide +kernel
theorem dX11_init_57 : decode cX11_init 57 = .ok (.putfield 29, 3) := by decide +kernel
theorem dX11_init_60 : decode cX11_init 60 = .ok (.aload_n 0, 1) := by decide +kernel
theorem dX11_init_61 : decode cX11_init 61 = .ok (.bipush 12, 2) := by decide +kernel
theorem dX11_init_63 : decode cX11_init 63 = .ok (.newarray .int, 2) := by decide +kernel
theorem dX11_init_65 : decode cX11_init 65 = .ok (.putfield 32, 3) := by decide +kernel
theorem dX11_init_68 : decode cX11_init 68 = .ok (.aload_n 0, 1) := by decide +kernel
theorem dX11_init_69 : decode cX11_init 69 = .ok (.sipush 144, 3) := by decide +kernel
theorem dX11_init_72 : decode cX11_init 72 = .ok (.newarray .int, 2) := by decide +kernel
theorem dX11_init_74 : decode cX11_init 74 = .ok (.putfield 35, 3) := by decide +kernel
theorem dX11_init_77 : decode cX11_init 77 = .ok (.aload_n 0, 1) := by decide +kernel
theorem dX11_init_78 : decode cX11_init 78 = .ok (.sipush 200, 3) := by decide +kernel
theorem dX11_init_81 : decode cX11_init 81 = .ok (.newarray .int, 2) := by decide +kernel
theorem dX11_init_83 : decode cX11_init 83 = .ok (.putfield 38, 3) := by decide +kernel
theorem dX11_init_86 : decode cX11_init 86 = .ok (.return_, 1) := by decide +kernel
theorem dX11_thrown_0 : decode cX11_thrown 0 = .ok (.aload_n 0, 1) := by decide +kernel
theorem dX11_thrown_1 : decode cX11_thrown 1 = .ok (.getfield 41, 3) := by decide +kernel
theorem dX11_thrown_4 : decode cX11_thrown 4 = .ok (.ireturn, 1) := by decide +kernel
theorem dX11_isIn_0 : decode cX11_isIn 0 = .ok (.iload_n 0, 1) := by decide +kernel
theorem dX11_isIn_1 : decode cX11_isIn 1 = .ok (.iload_n 1, 1) := by decide +kernel
theorem dX11_isIn_2 : decode cX11_isIn 2 = .ok (.if_icmp .lt 12, 3) := by decide +kernel
theorem dX11_isIn_5 : decode cX11_isIn 5 = .ok (.iload_n 0, 1) := by decide +kernel
theorem dX11_isIn_6 : decode cX11_isIn 6 = .ok (.iload_n 2, 1) := by decide +kernel
theorem dX11_isIn_7 : decode cX11_isIn 7 = .ok (.if_icmp .gt 7, 3) := by decide +kernel
theorem dX11_isIn_10 : decode cX11_isIn 10 = .ok (.iconst 1, 1) := by decide +kernel
theorem dX11_isIn_11 : decode cX11_isIn 11 = .ok (.goto 4, 3) := by decide +kernel
theorem dX11_isIn_14 : decode cX11_isIn 14 = .ok (.iconst 0, 1) := by decide +kernel
theorem dX11_isIn_15 : decode cX11_isIn 15 = .ok (.ireturn, 1) := by decide +kernel
theorem dX11_isTimber_0 : decode cX11_isTimber 0 = .ok (.iload_n 1, 1) := by decide +kernel
theorem dX11_isTimber_1 : decode cX11_isTimber 1 = .ok (.iconst 0, 1) := by decide +kernel
theorem dX11_isTimber_2 : decode cX11_isTimber 2 = .ok (.aload_n 0, 1) := by decide +kernel
theorem dX11_isTimber_3 : decode cX11_isTimber 3 = .ok (.getfield 45, 3) := by decide +kernel
theorem dX11_isTimber_6 : decode cX11_isTimber 6 = .ok (.iconst 1, 1) := by decide +kernel
theorem dX11_isTimber_7 : decode cX11_isTimber 7 = .ok (.isub, 1) := by decide +kernel
theorem dX11_isTimber_8 : decode cX11_isTimber 8 = .ok (.invokestatic 48, 3) := by decide +kernel
theorem dX11_isTimber_11 : decode cX11_isTimber 11 = .ok (.ireturn, 1) := by decide +kernel
theorem dX11_isPile_0 : decode cX11_isPile 0 = .ok (.iload_n 1, 1) := by decide +kernel
theorem dX11_isPile_1 : decode cX11_isPile 1 = .ok (.iconst 0, 1) := by decide +kernel
theorem dX11_isPile_2 : decode cX11_isPile 2 = .ok (.aload_n 0, 1) := by decide +kernel
theorem dX11_isPile_3 : decode cX11_isPile 3 = .ok (.getfield 52, 3) := by decide +kernel
theorem dX11_isPile_6 : decode cX11_isPile 6 = .ok (.iconst 1, 1) := by decide +kernel
theorem dX11_isPile_7 : decode cX11_isPile 7 = .ok (.isub, 1) := by decide +kernel
theorem dX11_isPile_8 : decode cX11_isPile 8 = .ok (.invokestatic 48, 3) := by decide +kernel
theorem dX11_isPile_11 : decode cX11_isPile 11 = .ok (.ireturn, 1) := by decide +kernel
theorem dX11_rule_0 : decode cX11_rule 0 = .ok (.aload_n 0, 1) := by decide +kernel
theorem dX11_rule_1 : decode cX11_rule 1 = .ok (.getfield 38, 3) := by decide +kernel
theorem dX11_rule_4 : decode cX11_rule 4 = .ok (.aload_n 0, 1) := by decide +kernel
theorem dX11_rule_5 : decode cX11_rule 5 = .ok (.getfield 55, 3) := by decide +kernel
theorem dX11_rule_8 : decode cX11_rule 8 = .ok (.sipush 200, 3) := by decide +kernel
theorem dX11_rule_11 : decode cX11_rule 11 = .ok (.irem, 1) := by decide +kernel
theorem dX11_rule_12 : decode cX11_rule 12 = .ok (.bipush 10, 2) := by decide +kernel
theorem dX11_rule_14 : decode cX11_rule 14 = .ok (.iload_n 1, 1) := by decide +kernel
theorem dX11_rule_15 : decode cX11_rule 15 = .ok (.imul, 1) := by decide +kernel
theorem dX11_rule_16 : decode cX11_rule 16 = .ok (.iload_n 2, 1) := by decide +kernel
theorem dX11_rule_17 : decode cX11_rule 17 = .ok (.iadd, 1) := by decide +kernel
theorem dX11_rule_18 : decode cX11_rule 18 = .ok (.iastore, 1) := by decide +kernel
theorem dX11_rule_19 : decode cX11_rule 19 = .ok (.aload_n 0, 1) := by decide +kernel
theorem dX11_rule_20 : decode cX11_rule 20 = .ok (.dup, 1) := by decide +kernel
theorem dX11_rule_21 : decode cX11_rule 21 = .ok (.getfield 55, 3) := by decide +kernel
theorem dX11_rule_24 : decode cX11_rule 24 = .ok (.iconst 1, 1) := by decide +kernel
theorem dX11_rule_25 : decode cX11_rule 25 = .ok (.iadd, 1) := by decide +kernel
theorem dX11_rule_26 : decode cX11_rule 26 = .ok (.putfield 55, 3) := by decide +kernel
theorem dX11_rule_29 : decode cX11_rule 29 = .ok (.return_, 1) := by decide +kernel
theorem dX11_timber_0 : decode cX11_timber 0 = .ok (.aload_n 0, 1) := by decide +kernel
theorem dX11_timber_1 : decode cX11_timber 1 = .ok (.iconst 0, 1) := by decide +kernel
theorem dX11_timber_2 : decode cX11_timber 2 = .ok (.putfield 41, 3) := by decide +kernel
theorem dX11_timber_5 : decode cX11_timber 5 = .ok (.iload_n 1, 1) := by decide +kernel
theorem dX11_timber_6 : decode cX11_timber 6 = .ok (.iconst 1, 1) := by decide +kernel
theorem dX11_timber_7 : decode cX11_timber 7 = .ok (.sipush 1000, 3) := by decide +kernel
theorem dX11_timber_10 : decode cX11_timber 10 = .ok (.invokestatic 48, 3) := by decide +kernel
theorem dX11_timber_13 : decode cX11_timber 13 = .ok (.ifCond .eq 14, 3) := by decide +kernel
theorem dX11_timber_16 : decode cX11_timber 16 = .ok (.iload_n 2, 1) := by decide +kernel
theorem dX11_timber_17 : decode cX11_timber 17 = .ok (.iconst 1, 1) := by decide +kernel
theorem dX11_timber_18 : decode cX11_timber 18 = .ok (.sipush 1000, 3) := by decide +kernel
theorem dX11_timber_21 : decode cX11_timber 21 = .ok (.invokestatic 48, 3) := by decide +kernel
theorem dX11_timber_24 : decode cX11_timber 24 = .ok (.ifCond .ne 6, 3) := by decide +kernel
theorem dX11_timber_27 : decode cX11_timber 27 = .ok (.bipush (-102), 2) := by decide +kernel
theorem dX11_timber_29 : decode cX11_timber 29 = .ok (.ireturn, 1) := by decide +kernel
theorem dX11_timber_30 : decode cX11_timber 30 = .ok (.aload_n 0, 1) := by decide +kernel
theorem dX11_timber_31 : decode cX11_timber 31 = .ok (.getfield 45, 3) := by decide +kernel
theorem dX11_timber_34 : decode cX11_timber 34 = .ok (.bipush 60, 2) := by decide +kernel
theorem dX11_timber_36 : decode cX11_timber 36 = .ok (.if_icmp .ne 6, 3) := by decide +kernel
theorem dX11_timber_39 : decode cX11_timber 39 = .ok (.bipush (-104), 2) := by decide +kernel
theorem dX11_timber_41 : decode cX11_timber 41 = .ok (.ireturn, 1) := by decide +kernel
theorem dX11_timber_42 : decode cX11_timber 42 = .ok (.aload_n 0, 1) := by decide +kernel
theorem dX11_timber_43 : decode cX11_timber 43 = .ok (.getfield 7, 3) := by decide +kernel
theorem dX11_timber_46 : decode cX11_timber 46 = .ok (.aload_n 0, 1) := by decide +kernel
theorem dX11_timber_47 : decode cX11_timber 47 = .ok (.getfield 45, 3) := by decide +kernel
theorem dX11_timber_50 : decode cX11_timber 50 = .ok (.iload_n 1, 1) := by decide +kernel
theorem dX11_timber_51 : decode cX11_timber 51 = .ok (.iastore, 1) := by decide +kernel
theorem dX11_timber_52 : decode cX11_timber 52 = .ok (.aload_n 0, 1) := by decide +kernel
theorem dX11_timber_53 : decode cX11_timber 53 = .ok (.getfield 13, 3) := by decide +kernel
theorem dX11_timber_56 : decode cX11_timber 56 = .ok (.aload_n 0, 1) := by decide +kernel
theorem dX11_timber_57 : decode cX11_timber 57 = .ok (.getfield 45, 3) := by decide +kernel
theorem dX11_timber_60 : decode cX11_timber 60 = .ok (.iload_n 2, 1) := by decide +kernel
theorem dX11_timber_61 : decode cX11_timber 61 = .ok (.iastore, 1) := by decide +kernel
theorem dX11_timber_62 : decode cX11_timber 62 = .ok (.aload_n 0, 1) := by decide +kernel
theorem dX11_timber_63 : decode cX11_timber 63 = .ok (.getfield 16, 3) := by decide +kernel
theorem dX11_timber_66 : decode cX11_timber 66 = .ok (.aload_n 0, 1) := by decide +kernel
theorem dX11_timber_67 : decode cX11_timber 67 = .ok (.getfield 45, 3) := by decide +kernel
theorem dX11_timber_70 : decode cX11_timber 70 = .ok (.iload_n 3, 1) := by decide +kernel
theorem dX11_timber_71 : decode cX11_timber 71 = .ok (.bastore, 1) := by decide +kernel
theorem dX11_timber_72 : decode cX11_timber 72 = .ok (.aload_n 0, 1) := by decide +kernel
theorem dX11_timber_73 : decode cX11_timber 73 = .ok (.getfield 20, 3) := by decide +kernel
theorem dX11_timber_76 : decode cX11_timber 76 = .ok (.aload_n 0, 1) := by decide +kernel
theorem dX11_timber_77 : decode cX11_timber 77 = .ok (.getfield 45, 3) := by decide +kernel
theorem dX11_timber_80 : decode cX11_timber 80 = .ok (.iconst (-1), 1) := by decide +kernel
theorem dX11_timber_81 : decode cX11_timber 81 = .ok (.iastore, 1) := by decide +kernel
theorem dX11_timber_82 : decode cX11_timber 82 = .ok (.aload_n 0, 1) := by decide +kernel
theorem dX11_timber_83 : decode cX11_timber 83 = .ok (.dup, 1) := by decide +kernel
theorem dX11_timber_84 : decode cX11_timber 84 = .ok (.getfield 45, 3) := by decide +kernel
theorem dX11_timber_87 : decode cX11_timber 87 = .ok (.iconst 1, 1) := by decide +kernel
theorem dX11_timber_88 : decode cX11_timber 88 = .ok (.iadd, 1) := by decide +kernel
theorem dX11_timber_89 : decode cX11_timber 89 = .ok (.putfield 45, 3) := by decide +kernel
theorem dX11_timber_92 : decode cX11_timber 92 = .ok (.aload_n 0, 1) := by decide +kernel
theorem dX11_timber_93 : decode cX11_timber 93 = .ok (.getfield 45, 3) := by decide +kernel
theorem dX11_timber_96 : decode cX11_timber 96 = .ok (.iconst 1, 1) := by decide +kernel
theorem dX11_timber_97 : decode cX11_timber 97 = .ok (.isub, 1) := by decide +kernel
theorem dX11_timber_98 : decode cX11_timber 98 = .ok (.ireturn, 1) := by decide +kernel
theorem dX11_pile_0 : decode cX11_pile 0 = .ok (.aload_n 0, 1) := by decide +kernel
theorem dX11_pile_1 : decode cX11_pile 1 = .ok (.iconst 0, 1) := by decide +kernel
theorem dX11_pile_2 : decode cX11_pile 2 = .ok (.putfield 41, 3) := by decide +kernel
theorem dX11_pile_5 : decode cX11_pile 5 = .ok (.iload_n 1, 1) := by decide +kernel
theorem dX11_pile_6 : decode cX11_pile 6 = .ok (.iconst 0, 1) := by decide +kernel
theorem dX11_pile_7 : decode cX11_pile 7 = .ok (.bipush 7, 2) := by decide +kernel
theorem dX11_pile_9 : decode cX11_pile 9 = .ok (.invokestatic 48, 3) := by decide +kernel
theorem dX11_pile_12 : decode cX11_pile 12 = .ok (.ifCond .eq 24, 3) := by decide +kernel
theorem dX11_pile_15 : decode cX11_pile 15 = .ok (.iload_n 2, 1) := by decide +kernel
theorem dX11_pile_16 : decode cX11_pile 16 = .ok (.iconst 1, 1) := by decide +kernel
theorem dX11_pile_17 : decode cX11_pile 17 = .ok (.bipush 12, 2) := by decide +kernel
theorem dX11_pile_19 : decode cX11_pile 19 = .ok (.invokestatic 48, 3) := by decide +kernel
theorem dX11_pile_22 : decode cX11_pile 22 = .ok (.ifCond .eq 14, 3) := by decide +kernel
theorem dX11_pile_25 : decode cX11_pile 25 = .ok (.iload_n 3, 1) := by decide +kernel
theorem dX11_pile_26 : decode cX11_pile 26 = .ok (.iconst 0, 1) := by decide +kernel
theorem dX11_pile_27 : decode cX11_pile 27 = .ok (.sipush 20000, 3) := by decide +kernel
theorem dX11_pile_30 : decode cX11_pile 30 = .ok (.invokestatic 48, 3) := by decide +kernel
theorem dX11_pile_33 : decode cX11_pile 33 = .ok (.ifCond .ne 6, 3) := by decide +kernel
theorem dX11_pile_36 : decode cX11_pile 36 = .ok (.bipush (-102), 2) := by decide +kernel
theorem dX11_pile_38 : decode cX11_pile 38 = .ok (.ireturn, 1) := by decide +kernel
theorem dX11_pile_39 : decode cX11_pile 39 = .ok (.aload_n 0, 1) := by decide +kernel
theorem dX11_pile_40 : decode cX11_pile 40 = .ok (.getfield 52, 3) := by decide +kernel
theorem dX11_pile_43 : decode cX11_pile 43 = .ok (.bipush 12, 2) := by decide +kernel
theorem dX11_pile_45 : decode cX11_pile 45 = .ok (.if_icmp .ne 6, 3) := by decide +kernel
theorem dX11_pile_48 : decode cX11_pile 48 = .ok (.bipush (-104), 2) := by decide +kernel
theorem dX11_pile_50 : decode cX11_pile 50 = .ok (.ireturn, 1) := by decide +kernel
theorem dX11_pile_51 : decode cX11_pile 51 = .ok (.aload_n 0, 1) := by decide +kernel
theorem dX11_pile_52 : decode cX11_pile 52 = .ok (.getfield 23, 3) := by decide +kernel
theorem dX11_pile_55 : decode cX11_pile 55 = .ok (.aload_n 0, 1) := by decide +kernel
theorem dX11_pile_56 : decode cX11_pile 56 = .ok (.getfield 52, 3) := by decide +kernel
theorem dX11_pile_59 : decode cX11_pile 59 = .ok (.iload_n 1, 1) := by decide +kernel
theorem dX11_pile_60 : decode cX11_pile 60 = .ok (.iastore, 1) := by decide +kernel
theorem dX11_pile_61 : decode cX11_pile 61 = .ok (.aload_n 0, 1) := by decide +kernel
theorem dX11_pile_62 : decode cX11_pile 62 = .ok (.getfield 26, 3) := by decide +kernel
theorem dX11_pile_65 : decode cX11_pile 65 = .ok (.aload_n 0, 1) := by decide +kernel
theorem dX11_pile_66 : decode cX11_pile 66 = .ok (.getfield 52, 3) := by decide +kernel
theorem dX11_pile_69 : decode cX11_pile 69 = .ok (.iload_n 2, 1) := by decide +kernel
theorem dX11_pile_70 : decode cX11_pile 70 = .ok (.iastore, 1) := by decide +kernel
theorem dX11_pile_71 : decode cX11_pile 71 = .ok (.aload_n 0, 1) := by decide +kernel
theorem dX11_pile_72 : decode cX11_pile 72 = .ok (.getfield 29, 3) := by decide +kernel
theorem dX11_pile_75 : decode cX11_pile 75 = .ok (.aload_n 0, 1) := by decide +kernel
theorem dX11_pile_76 : decode cX11_pile 76 = .ok (.getfield 52, 3) := by decide +kernel
theorem dX11_pile_79 : decode cX11_pile 79 = .ok (.iload_n 3, 1) := by decide +kernel
theorem dX11_pile_80 : decode cX11_pile 80 = .ok (.iastore, 1) := by decide +kernel
theorem dX11_pile_81 : decode cX11_pile 81 = .ok (.aload_n 0, 1) := by decide +kernel
theorem dX11_pile_82 : decode cX11_pile 82 = .ok (.getfield 32, 3) := by decide +kernel
theorem dX11_pile_85 : decode cX11_pile 85 = .ok (.aload_n 0, 1) := by decide +kernel
theorem dX11_pile_86 : decode cX11_pile 86 = .ok (.getfield 52, 3) := by decide +kernel
theorem dX11_pile_89 : decode cX11_pile 89 = .ok (.iconst 0, 1) := by decide +kernel
theorem dX11_pile_90 : decode cX11_pile 90 = .ok (.iastore, 1) := by decide +kernel
theorem dX11_pile_91 : decode cX11_pile 91 = .ok (.aload_n 0, 1) := by decide +kernel
theorem dX11_pile_92 : decode cX11_pile 92 = .ok (.dup, 1) := by decide +kernel
theorem dX11_pile_93 : decode cX11_pile 93 = .ok (.getfield 52, 3) := by decide +kernel
theorem dX11_pile_96 : decode cX11_pile 96 = .ok (.iconst 1, 1) := by decide +kernel
theorem dX11_pile_97 : decode cX11_pile 97 = .ok (.iadd, 1) := by decide +kernel
theorem dX11_pile_98 : decode cX11_pile 98 = .ok (.putfield 52, 3) := by decide +kernel
theorem dX11_pile_101 : decode cX11_pile 101 = .ok (.aload_n 0, 1) := by decide +kernel
theorem dX11_pile_102 : decode cX11_pile 102 = .ok (.getfield 52, 3) := by decide +kernel
theorem dX11_pile_105 : decode cX11_pile 105 = .ok (.iconst 1, 1) := by decide +kernel
theorem dX11_pile_106 : decode cX11_pile 106 = .ok (.isub, 1) := by decide +kernel
theorem dX11_pile_107 : decode cX11_pile 107 = .ok (.ireturn, 1) := by decide +kernel
theorem dX11_loadOf_0 : decode cX11_loadOf 0 = .ok (.aload_n 0, 1) := by decide +kernel
theorem dX11_loadOf_1 : decode cX11_loadOf 1 = .ok (.getfield 23, 3) := by decide +kernel
theorem dX11_loadOf_4 : decode cX11_loadOf 4 = .ok (.iload_n 1, 1) := by decide +kernel
theorem dX11_loadOf_5 : decode cX11_loadOf 5 = .ok (.iaload, 1) := by decide +kernel
theorem dX11_loadOf_6 : decode cX11_loadOf 6 = .ok (.istore_n 2, 1) := by decide +kernel
theorem dX11_loadOf_7 : decode cX11_loadOf 7 = .ok (.iload_n 2, 1) := by decide +kernel
theorem dX11_loadOf_8 : decode cX11_loadOf 8 = .ok (.iconst 5, 1) := by decide +kernel
theorem dX11_loadOf_9 : decode cX11_loadOf 9 = .ok (.if_icmp .eq 9, 3) := by decide +kernel
theorem dX11_loadOf_12 : decode cX11_loadOf 12 = .ok (.iload_n 2, 1) := by decide +kernel
theorem dX11_loadOf_13 : decode cX11_loadOf 13 = .ok (.bipush 7, 2) := by decide +kernel
theorem dX11_loadOf_15 : decode cX11_loadOf 15 = .ok (.if_icmp .ne 7, 3) := by decide +kernel
theorem dX11_loadOf_18 : decode cX11_loadOf 18 = .ok (.iconst 1, 1) := by decide +kernel
theorem dX11_loadOf_19 : decode cX11_loadOf 19 = .ok (.goto 4, 3) := by decide +kernel
theorem dX11_loadOf_22 : decode cX11_loadOf 22 = .ok (.iconst 0, 1) := by decide +kernel
theorem dX11_loadOf_23 : decode cX11_loadOf 23 = .ok (.istore_n 3, 1) := by decide +kernel
theorem dX11_loadOf_24 : decode cX11_loadOf 24 = .ok (.iload_n 3, 1) := by decide +kernel
theorem dX11_loadOf_25 : decode cX11_loadOf 25 = .ok (.ifCond .eq 9, 3) := by decide +kernel
theorem dX11_loadOf_28 : decode cX11_loadOf 28 = .ok (.aload_n 0, 1) := by decide +kernel
theorem dX11_loadOf_29 : decode cX11_loadOf 29 = .ok (.iconst 2, 1) := by decide +kernel
theorem dX11_loadOf_30 : decode cX11_loadOf 30 = .ok (.iconst 5, 1) := by decide +kernel
theorem dX11_loadOf_31 : decode cX11_loadOf 31 = .ok (.invokevirtual 58, 3) := by decide +kernel
theorem dX11_loadOf_34 : decode cX11_loadOf 34 = .ok (.iload_n 2, 1) := by decide +kernel
theorem dX11_loadOf_35 : decode cX11_loadOf 35 = .ok (.bipush 6, 2) := by decide +kernel
theorem dX11_loadOf_37 : decode cX11_loadOf 37 = .ok (.if_icmp .ne 10, 3) := by decide +kernel
theorem dX11_loadOf_40 : decode cX11_loadOf 40 = .ok (.aload_n 0, 1) := by decide +kernel
theorem dX11_loadOf_41 : decode cX11_loadOf 41 = .ok (.iconst 2, 1) := by decide +kernel
theorem dX11_loadOf_42 : decode cX11_loadOf 42 = .ok (.bipush 6, 2) := by decide +kernel
theorem dX11_loadOf_44 : decode cX11_loadOf 44 = .ok (.invokevirtual 58, 3) := by decide +kernel
theorem dX11_loadOf_47 : decode cX11_loadOf 47 = .ok (.aload_n 0, 1) := by decide +kernel
theorem dX11_loadOf_48 : decode cX11_loadOf 48 = .ok (.iconst 2, 1) := by decide +kernel
theorem dX11_loadOf_49 : decode cX11_loadOf 49 = .ok (.iconst 0, 1) := by decide +kernel
theorem dX11_loadOf_50 : decode cX11_loadOf 50 = .ok (.invokevirtual 58, 3) := by decide +kernel
theorem dX11_loadOf_53 : decode cX11_loadOf 53 = .ok (.iconst 0, 1) := by decide +kernel
theorem dX11_loadOf_54 : decode cX11_loadOf 54 = .ok (.istore 4, 2) := by decide +kernel
theorem dX11_loadOf_56 : decode cX11_loadOf 56 = .ok (.iconst 0, 1) := by decide +kernel
theorem dX11_loadOf_57 : decode cX11_loadOf 57 = .ok (.istore 5, 2) := by decide +kernel
theorem dX11_loadOf_59 : decode cX11_loadOf 59 = .ok (.iconst 0, 1) := by decide +kernel
theorem dX11_loadOf_60 : decode cX11_loadOf 60 = .ok (.istore 6, 2) := by decide +kernel
theorem dX11_loadOf_62 : decode cX11_loadOf 62 = .ok (.iload 6, 2) := by decide +kernel
theorem dX11_loadOf_64 : decode cX11_loadOf 64 = .ok (.aload_n 0, 1) := by decide +kernel
theorem dX11_loadOf_65 : decode cX11_loadOf 65 = .ok (.getfield 32, 3) := by decide +kernel
theorem dX11_loadOf_68 : decode cX11_loadOf 68 = .ok (.iload_n 1, 1) := by decide +kernel
theorem dX11_loadOf_69 : decode cX11_loadOf 69 = .ok (.iaload, 1) := by decide +kernel
theorem dX11_loadOf_70 : decode cX11_loadOf 70 = .ok (.if_icmp .ge 61, 3) := by decide +kernel
theorem dX11_loadOf_73 : decode cX11_loadOf 73 = .ok (.iload 4, 2) := by decide +kernel
theorem dX11_loadOf_75 : decode cX11_loadOf 75 = .ok (.aload_n 0, 1) := by decide +kernel
theorem dX11_loadOf_76 : decode cX11_loadOf 76 = .ok (.getfield 13, 3) := by decide +kernel
theorem dX11_loadOf_79 : decode cX11_loadOf 79 = .ok (.aload_n 0, 1) := by decide +kernel
theorem dX11_loadOf_80 : decode cX11_loadOf 80 = .ok (.getfield 35, 3) := by decide +kernel
theorem dX11_loadOf_83 : decode cX11_loadOf 83 = .ok (.bipush 12, 2) := by decide +kernel
theorem dX11_loadOf_85 : decode cX11_loadOf 85 = .ok (.iload_n 1, 1) := by decide +kernel
theorem dX11_loadOf_86 : decode cX11_loadOf 86 = .ok (.imul, 1) := by decide +kernel
theorem dX11_loadOf_87 : decode cX11_loadOf 87 = .ok (.iload 6, 2) := by decide +kernel
theorem dX11_loadOf_89 : decode cX11_loadOf 89 = .ok (.iadd, 1) := by decide +kernel
theorem dX11_loadOf_90 : decode cX11_loadOf 90 = .ok (.iaload, 1) := by decide +kernel
theorem dX11_loadOf_91 : decode cX11_loadOf 91 = .ok (.iaload, 1) := by decide +kernel
theorem dX11_loadOf_92 : decode cX11_loadOf 92 = .ok (.iadd, 1) := by decide +kernel
theorem dX11_loadOf_93 : decode cX11_loadOf 93 = .ok (.istore 4, 2) := by decide +kernel
theorem dX11_loadOf_95 : decode cX11_loadOf 95 = .ok (.iload 5, 2) := by decide +kernel
theorem dX11_loadOf_97 : decode cX11_loadOf 97 = .ok (.aload_n 0, 1) := by decide +kernel
theorem dX11_loadOf_98 : decode cX11_loadOf 98 = .ok (.getfield 16, 3) := by decide +kernel
theorem dX11_loadOf_101 : decode cX11_loadOf 101 = .ok (.aload_n 0, 1) := by decide +kernel
theorem dX11_loadOf_102 : decode cX11_loadOf 102 = .ok (.getfield 35, 3) := by decide +kernel
theorem dX11_loadOf_105 : decode cX11_loadOf 105 = .ok (.bipush 12, 2) := by decide +kernel
theorem dX11_loadOf_107 : decode cX11_loadOf 107 = .ok (.iload_n 1, 1) := by decide +kernel
theorem dX11_loadOf_108 : decode cX11_loadOf 108 = .ok (.imul, 1) := by decide +kernel
theorem dX11_loadOf_109 : decode cX11_loadOf 109 = .ok (.iload 6, 2) := by decide +kernel
theorem dX11_loadOf_111 : decode cX11_loadOf 111 = .ok (.iadd, 1) := by decide +kernel
theorem dX11_loadOf_112 : decode cX11_loadOf 112 = .ok (.iaload, 1) := by decide +kernel
theorem dX11_loadOf_113 : decode cX11_loadOf 113 = .ok (.baload, 1) := by decide +kernel
theorem dX11_loadOf_114 : decode cX11_loadOf 114 = .ok (.ifCond .eq 7, 3) := by decide +kernel
theorem dX11_loadOf_117 : decode cX11_loadOf 117 = .ok (.iconst 1, 1) := by decide +kernel
theorem dX11_loadOf_118 : decode cX11_loadOf 118 = .ok (.goto 4, 3) := by decide +kernel
theorem dX11_loadOf_121 : decode cX11_loadOf 121 = .ok (.iconst 0, 1) := by decide +kernel
theorem dX11_loadOf_122 : decode cX11_loadOf 122 = .ok (.iadd, 1) := by decide +kernel
theorem dX11_loadOf_123 : decode cX11_loadOf 123 = .ok (.istore 5, 2) := by decide +kernel
theorem dX11_loadOf_125 : decode cX11_loadOf 125 = .ok (.iinc 6 1, 3) := by decide +kernel
theorem dX11_loadOf_128 : decode cX11_loadOf 128 = .ok (.goto (-66), 3) := by decide +kernel
theorem dX11_loadOf_131 : decode cX11_loadOf 131 = .ok (.iload_n 3, 1) := by decide +kernel
theorem dX11_loadOf_132 : decode cX11_loadOf 132 = .ok (.ifCond .eq 10, 3) := by decide +kernel
theorem dX11_loadOf_135 : decode cX11_loadOf 135 = .ok (.iconst 2, 1) := by decide +kernel
theorem dX11_loadOf_136 : decode cX11_loadOf 136 = .ok (.iload 4, 2) := by decide +kernel
theorem dX11_loadOf_138 : decode cX11_loadOf 138 = .ok (.imul, 1) := by decide +kernel
theorem dX11_loadOf_139 : decode cX11_loadOf 139 = .ok (.goto 22, 3) := by decide +kernel
theorem dX11_loadOf_142 : decode cX11_loadOf 142 = .ok (.iload_n 2, 1) := by decide +kernel
theorem dX11_loadOf_143 : decode cX11_loadOf 143 = .ok (.bipush 6, 2) := by decide +kernel
theorem dX11_loadOf_145 : decode cX11_loadOf 145 = .ok (.if_icmp .ne 14, 3) := by decide +kernel
theorem dX11_loadOf_148 : decode cX11_loadOf 148 = .ok (.iload 4, 2) := by decide +kernel
theorem dX11_loadOf_150 : decode cX11_loadOf 150 = .ok (.bipush 10, 2) := by decide +kernel
theorem dX11_loadOf_152 : decode cX11_loadOf 152 = .ok (.iload 5, 2) := by decide +kernel
theorem dX11_loadOf_154 : decode cX11_loadOf 154 = .ok (.imul, 1) := by decide +kernel
theorem dX11_loadOf_155 : decode cX11_loadOf 155 = .ok (.iadd, 1) := by decide +kernel
theorem dX11_loadOf_156 : decode cX11_loadOf 156 = .ok (.goto 5, 3) := by decide +kernel
theorem dX11_loadOf_159 : decode cX11_loadOf 159 = .ok (.iload 4, 2) := by decide +kernel
theorem dX11_loadOf_161 : decode cX11_loadOf 161 = .ok (.ireturn, 1) := by decide +kernel
theorem dX11_putPlain_0 : decode cX11_putPlain 0 = .ok (.aload_n 0, 1) := by decide +kernel
theorem dX11_putPlain_1 : decode cX11_putPlain 1 = .ok (.iconst 0, 1) := by decide +kernel
theorem dX11_putPlain_2 : decode cX11_putPlain 2 = .ok (.iconst 0, 1) := by decide +kernel
theorem dX11_putPlain_3 : decode cX11_putPlain 3 = .ok (.invokevirtual 58, 3) := by decide +kernel
theorem dX11_putPlain_6 : decode cX11_putPlain 6 = .ok (.aload_n 0, 1) := by decide +kernel
theorem dX11_putPlain_7 : decode cX11_putPlain 7 = .ok (.getfield 32, 3) := by decide +kernel
theorem dX11_putPlain_10 : decode cX11_putPlain 10 = .ok (.iload_n 1, 1) := by decide +kernel
theorem dX11_putPlain_11 : decode cX11_putPlain 11 = .ok (.iaload, 1) := by decide +kernel
theorem dX11_putPlain_12 : decode cX11_putPlain 12 = .ok (.aload_n 0, 1) := by decide +kernel
theorem dX11_putPlain_13 : decode cX11_putPlain 13 = .ok (.getfield 26, 3) := by decide +kernel
theorem dX11_putPlain_16 : decode cX11_putPlain 16 = .ok (.iload_n 1, 1) := by decide +kernel
theorem dX11_putPlain_17 : decode cX11_putPlain 17 = .ok (.iaload, 1) := by decide +kernel
theorem dX11_putPlain_18 : decode cX11_putPlain 18 = .ok (.if_icmp .ne 5, 3) := by decide +kernel
theorem dX11_putPlain_21 : decode cX11_putPlain 21 = .ok (.iconst 0, 1) := by decide +kernel
theorem dX11_putPlain_22 : decode cX11_putPlain 22 = .ok (.ireturn, 1) := by decide +kernel
theorem dX11_putPlain_23 : decode cX11_putPlain 23 = .ok (.aload_n 0, 1) := by decide +kernel
theorem dX11_putPlain_24 : decode cX11_putPlain 24 = .ok (.getfield 35, 3) := by decide +kernel
theorem dX11_putPlain_27 : decode cX11_putPlain 27 = .ok (.bipush 12, 2) := by decide +kernel
theorem dX11_putPlain_29 : decode cX11_putPlain 29 = .ok (.iload_n 1, 1) := by decide +kernel
theorem dX11_putPlain_30 : decode cX11_putPlain 30 = .ok (.imul, 1) := by decide +kernel
theorem dX11_putPlain_31 : decode cX11_putPlain 31 = .ok (.aload_n 0, 1) := by decide +kernel
theorem dX11_putPlain_32 : decode cX11_putPlain 32 = .ok (.getfield 32, 3) := by decide +kernel
theorem dX11_putPlain_35 : decode cX11_putPlain 35 = .ok (.iload_n 1, 1) := by decide +kernel
theorem dX11_putPlain_36 : decode cX11_putPlain 36 = .ok (.iaload, 1) := by decide +kernel
theorem dX11_putPlain_37 : decode cX11_putPlain 37 = .ok (.iadd, 1) := by decide +kernel
theorem dX11_putPlain_38 : decode cX11_putPlain 38 = .ok (.iload_n 2, 1) := by decide +kernel
theorem dX11_putPlain_39 : decode cX11_putPlain 39 = .ok (.iastore, 1) := by decide +kernel
theorem dX11_putPlain_40 : decode cX11_putPlain 40 = .ok (.aload_n 0, 1) := by decide +kernel
theorem dX11_putPlain_41 : decode cX11_putPlain 41 = .ok (.getfield 32, 3) := by decide +kernel
theorem dX11_putPlain_44 : decode cX11_putPlain 44 = .ok (.iload_n 1, 1) := by decide +kernel
theorem dX11_putPlain_45 : decode cX11_putPlain 45 = .ok (.dup2, 1) := by decide +kernel
theorem dX11_putPlain_46 : decode cX11_putPlain 46 = .ok (.iaload, 1) := by decide +kernel
theorem dX11_putPlain_47 : decode cX11_putPlain 47 = .ok (.iconst 1, 1) := by decide +kernel
theorem dX11_putPlain_48 : decode cX11_putPlain 48 = .ok (.iadd, 1) := by decide +kernel
theorem dX11_putPlain_49 : decode cX11_putPlain 49 = .ok (.iastore, 1) := by decide +kernel
theorem dX11_putPlain_50 : decode cX11_putPlain 50 = .ok (.aload_n 0, 1) := by decide +kernel
theorem dX11_putPlain_51 : decode cX11_putPlain 51 = .ok (.getfield 20, 3) := by decide +kernel
theorem dX11_putPlain_54 : decode cX11_putPlain 54 = .ok (.iload_n 2, 1) := by decide +kernel
theorem dX11_putPlain_55 : decode cX11_putPlain 55 = .ok (.iload_n 1, 1) := by decide +kernel
theorem dX11_putPlain_56 : decode cX11_putPlain 56 = .ok (.iastore, 1) := by decide +kernel
theorem dX11_putPlain_57 : decode cX11_putPlain 57 = .ok (.iconst 1, 1) := by decide +kernel
theorem dX11_putPlain_58 : decode cX11_putPlain 58 = .ok (.ireturn, 1) := by decide +kernel
theorem dX11_putSorted_0 : decode cX11_putSorted 0 = .ok (.aload_n 0, 1) := by decide +kernel
theorem dX11_putSorted_1 : decode cX11_putSorted 1 = .ok (.iconst 0, 1) := by decide +kernel
theorem dX11_putSorted_2 : decode cX11_putSorted 2 = .ok (.iconst 2, 1) := by decide +kernel
theorem dX11_putSorted_3 : decode cX11_putSorted 3 = .ok (.invokevirtual 58, 3) := by decide +kernel
theorem dX11_putSorted_6 : decode cX11_putSorted 6 = .ok (.aload_n 0, 1) := by decide +kernel
theorem dX11_putSorted_7 : decode cX11_putSorted 7 = .ok (.iload_n 1, 1) := by decide +kernel
theorem dX11_putSorted_8 : decode cX11_putSorted 8 = .ok (.iload_n 2, 1) := by decide +kernel
theorem dX11_putSorted_9 : decode cX11_putSorted 9 = .ok (.invokevirtual 62, 3) := by decide +kernel
theorem dX11_putSorted_12 : decode cX11_putSorted 12 = .ok (.istore_n 3, 1) := by decide +kernel
theorem dX11_putSorted_13 : decode cX11_putSorted 13 = .ok (.bipush 12, 2) := by decide +kernel
theorem dX11_putSorted_15 : decode cX11_putSorted 15 = .ok (.iload_n 1, 1) := by decide +kernel
theorem dX11_putSorted_16 : decode cX11_putSorted 16 = .ok (.imul, 1) := by decide +kernel
theorem dX11_putSorted_17 : decode cX11_putSorted 17 = .ok (.aload_n 0, 1) := by decide +kernel
theorem dX11_putSorted_18 : decode cX11_putSorted 18 = .ok (.getfield 32, 3) := by decide +kernel
theorem dX11_putSorted_21 : decode cX11_putSorted 21 = .ok (.iload_n 1, 1) := by decide +kernel
theorem dX11_putSorted_22 : decode cX11_putSorted 22 = .ok (.iaload, 1) := by decide +kernel
theorem dX11_putSorted_23 : decode cX11_putSorted 23 = .ok (.iadd, 1) := by decide +kernel
theorem dX11_putSorted_24 : decode cX11_putSorted 24 = .ok (.iconst 1, 1) := by decide +kernel
theorem dX11_putSorted_25 : decode cX11_putSorted 25 = .ok (.isub, 1) := by decide +kernel
theorem dX11_putSorted_26 : decode cX11_putSorted 26 = .ok (.istore 4, 2) := by decide +kernel
theorem dX11_putSorted_28 : decode cX11_putSorted 28 = .ok (.iload_n 3, 1) := by decide +kernel
theorem dX11_putSorted_29 : decode cX11_putSorted 29 = .ok (.ifCond .eq 67, 3) := by decide +kernel
theorem dX11_putSorted_32 : decode cX11_putSorted 32 = .ok (.iload 4, 2) := by decide +kernel
theorem dX11_putSorted_34 : decode cX11_putSorted 34 = .ok (.bipush 12, 2) := by decide +kernel
theorem dX11_putSorted_36 : decode cX11_putSorted 36 = .ok (.iload_n 1, 1) := by decide +kernel
theorem dX11_putSorted_37 : decode cX11_putSorted 37 = .ok (.imul, 1) := by decide +kernel
theorem dX11_putSorted_38 : decode cX11_putSorted 38 = .ok (.if_icmp .le 58, 3) := by decide +kernel
theorem dX11_putSorted_41 : decode cX11_putSorted 41 = .ok (.aload_n 0, 1) := by decide +kernel
theorem dX11_putSorted_42 : decode cX11_putSorted 42 = .ok (.getfield 7, 3) := by decide +kernel
theorem dX11_putSorted_45 : decode cX11_putSorted 45 = .ok (.aload_n 0, 1) := by decide +kernel
theorem dX11_putSorted_46 : decode cX11_putSorted 46 = .ok (.getfield 35, 3) := by decide +kernel
theorem dX11_putSorted_49 : decode cX11_putSorted 49 = .ok (.iload 4, 2) := by decide +kernel
theorem dX11_putSorted_51 : decode cX11_putSorted 51 = .ok (.iconst 1, 1) := by decide +kernel
theorem dX11_putSorted_52 : decode cX11_putSorted 52 = .ok (.isub, 1) := by decide +kernel
theorem dX11_putSorted_53 : decode cX11_putSorted 53 = .ok (.iaload, 1) := by decide +kernel
theorem dX11_putSorted_54 : decode cX11_putSorted 54 = .ok (.iaload, 1) := by decide +kernel
theorem dX11_putSorted_55 : decode cX11_putSorted 55 = .ok (.aload_n 0, 1) := by decide +kernel
theorem dX11_putSorted_56 : decode cX11_putSorted 56 = .ok (.getfield 7, 3) := by decide +kernel
theorem dX11_putSorted_59 : decode cX11_putSorted 59 = .ok (.iload_n 2, 1) := by decide +kernel
theorem dX11_putSorted_60 : decode cX11_putSorted 60 = .ok (.iaload, 1) := by decide +kernel
theorem dX11_putSorted_61 : decode cX11_putSorted 61 = .ok (.if_icmp .ge 35, 3) := by decide +kernel
theorem dX11_putSorted_64 : decode cX11_putSorted 64 = .ok (.aload_n 0, 1) := by decide +kernel
theorem dX11_putSorted_65 : decode cX11_putSorted 65 = .ok (.getfield 35, 3) := by decide +kernel
theorem dX11_putSorted_68 : decode cX11_putSorted 68 = .ok (.iload 4, 2) := by decide +kernel
theorem dX11_putSorted_70 : decode cX11_putSorted 70 = .ok (.aload_n 0, 1) := by decide +kernel
theorem dX11_putSorted_71 : decode cX11_putSorted 71 = .ok (.getfield 35, 3) := by decide +kernel
theorem dX11_putSorted_74 : decode cX11_putSorted 74 = .ok (.iload 4, 2) := by decide +kernel
theorem dX11_putSorted_76 : decode cX11_putSorted 76 = .ok (.iconst 1, 1) := by decide +kernel
theorem dX11_putSorted_77 : decode cX11_putSorted 77 = .ok (.isub, 1) := by decide +kernel
theorem dX11_putSorted_78 : decode cX11_putSorted 78 = .ok (.iaload, 1) := by decide +kernel
theorem dX11_putSorted_79 : decode cX11_putSorted 79 = .ok (.iastore, 1) := by decide +kernel
theorem dX11_putSorted_80 : decode cX11_putSorted 80 = .ok (.aload_n 0, 1) := by decide +kernel
theorem dX11_putSorted_81 : decode cX11_putSorted 81 = .ok (.getfield 35, 3) := by decide +kernel
theorem dX11_putSorted_84 : decode cX11_putSorted 84 = .ok (.iload 4, 2) := by decide +kernel
theorem dX11_putSorted_86 : decode cX11_putSorted 86 = .ok (.iconst 1, 1) := by decide +kernel
theorem dX11_putSorted_87 : decode cX11_putSorted 87 = .ok (.isub, 1) := by decide +kernel
theorem dX11_putSorted_88 : decode cX11_putSorted 88 = .ok (.iload_n 2, 1) := by decide +kernel
theorem dX11_putSorted_89 : decode cX11_putSorted 89 = .ok (.iastore, 1) := by decide +kernel
theorem dX11_putSorted_90 : decode cX11_putSorted 90 = .ok (.iinc 4 (-1), 3) := by decide +kernel
theorem dX11_putSorted_93 : decode cX11_putSorted 93 = .ok (.goto (-65), 3) := by decide +kernel
theorem dX11_putSorted_96 : decode cX11_putSorted 96 = .ok (.iload_n 3, 1) := by decide +kernel
theorem dX11_putSorted_97 : decode cX11_putSorted 97 = .ok (.ireturn, 1) := by decide +kernel
theorem dX11_putOf_0 : decode cX11_putOf 0 = .ok (.aload_n 0, 1) := by decide +kernel
theorem dX11_putOf_1 : decode cX11_putOf 1 = .ok (.getfield 23, 3) := by decide +kernel
theorem dX11_putOf_4 : decode cX11_putOf 4 = .ok (.iload_n 1, 1) := by decide +kernel
theorem dX11_putOf_5 : decode cX11_putOf 5 = .ok (.iaload, 1) := by decide +kernel
theorem dX11_putOf_6 : decode cX11_putOf 6 = .ok (.istore_n 3, 1) := by decide +kernel
theorem dX11_putOf_7 : decode cX11_putOf 7 = .ok (.aload_n 0, 1) := by decide +kernel
theorem dX11_putOf_8 : decode cX11_putOf 8 = .ok (.iconst 0, 1) := by decide +kernel
theorem dX11_putOf_9 : decode cX11_putOf 9 = .ok (.putfield 66, 3) := by decide +kernel
theorem dX11_putOf_12 : decode cX11_putOf 12 = .ok (.iload_n 3, 1) := by decide +kernel
theorem dX11_putOf_13 : decode cX11_putOf 13 = .ok (.iconst 3, 1) := by decide +kernel
theorem dX11_putOf_14 : decode cX11_putOf 14 = .ok (.if_icmp .eq 14, 3) := by decide +kernel
theorem dX11_putOf_17 : decode cX11_putOf 17 = .ok (.iload_n 3, 1) := by decide +kernel
theorem dX11_putOf_18 : decode cX11_putOf 18 = .ok (.iconst 5, 1) := by decide +kernel
theorem dX11_putOf_19 : decode cX11_putOf 19 = .ok (.if_icmp .eq 9, 3) := by decide +kernel
theorem dX11_putOf_22 : decode cX11_putOf 22 = .ok (.iload_n 3, 1) := by decide +kernel
theorem dX11_putOf_23 : decode cX11_putOf 23 = .ok (.bipush 7, 2) := by decide +kernel
theorem dX11_putOf_25 : decode cX11_putOf 25 = .ok (.if_icmp .ne 54, 3) := by decide +kernel
theorem dX11_putOf_28 : decode cX11_putOf 28 = .ok (.aload_n 0, 1) := by decide +kernel
theorem dX11_putOf_29 : decode cX11_putOf 29 = .ok (.iconst 0, 1) := by decide +kernel
theorem dX11_putOf_30 : decode cX11_putOf 30 = .ok (.iconst 3, 1) := by decide +kernel
theorem dX11_putOf_31 : decode cX11_putOf 31 = .ok (.invokevirtual 58, 3) := by decide +kernel
theorem dX11_putOf_34 : decode cX11_putOf 34 = .ok (.aload_n 0, 1) := by decide +kernel
theorem dX11_putOf_35 : decode cX11_putOf 35 = .ok (.iload_n 1, 1) := by decide +kernel
theorem dX11_putOf_36 : decode cX11_putOf 36 = .ok (.invokevirtual 70, 3) := by decide +kernel
theorem dX11_putOf_39 : decode cX11_putOf 39 = .ok (.aload_n 0, 1) := by decide +kernel
theorem dX11_putOf_40 : decode cX11_putOf 40 = .ok (.getfield 13, 3) := by decide +kernel
theorem dX11_putOf_43 : decode cX11_putOf 43 = .ok (.iload_n 2, 1) := by decide +kernel
theorem dX11_putOf_44 : decode cX11_putOf 44 = .ok (.iaload, 1) := by decide +kernel
theorem dX11_putOf_45 : decode cX11_putOf 45 = .ok (.iadd, 1) := by decide +kernel
theorem dX11_putOf_46 : decode cX11_putOf 46 = .ok (.aload_n 0, 1) := by decide +kernel
theorem dX11_putOf_47 : decode cX11_putOf 47 = .ok (.getfield 29, 3) := by decide +kernel
theorem dX11_putOf_50 : decode cX11_putOf 50 = .ok (.iload_n 1, 1) := by decide +kernel
theorem dX11_putOf_51 : decode cX11_putOf 51 = .ok (.iaload, 1) := by decide +kernel
theorem dX11_putOf_52 : decode cX11_putOf 52 = .ok (.if_icmp .le 20, 3) := by decide +kernel
theorem dX11_putOf_55 : decode cX11_putOf 55 = .ok (.aload_n 0, 1) := by decide +kernel
theorem dX11_putOf_56 : decode cX11_putOf 56 = .ok (.dup, 1) := by decide +kernel
theorem dX11_putOf_57 : decode cX11_putOf 57 = .ok (.getfield 74, 3) := by decide +kernel
theorem dX11_putOf_60 : decode cX11_putOf 60 = .ok (.iconst 1, 1) := by decide +kernel
theorem dX11_putOf_61 : decode cX11_putOf 61 = .ok (.iadd, 1) := by decide +kernel
theorem dX11_putOf_62 : decode cX11_putOf 62 = .ok (.putfield 74, 3) := by decide +kernel
theorem dX11_putOf_65 : decode cX11_putOf 65 = .ok (.aload_n 0, 1) := by decide +kernel
theorem dX11_putOf_66 : decode cX11_putOf 66 = .ok (.iconst 1, 1) := by decide +kernel
theorem dX11_putOf_67 : decode cX11_putOf 67 = .ok (.putfield 66, 3) := by decide +kernel
theorem dX11_putOf_70 : decode cX11_putOf 70 = .ok (.iconst 0, 1) := by decide +kernel
theorem dX11_putOf_71 : decode cX11_putOf 71 = .ok (.ireturn, 1) := by decide +kernel
theorem dX11_putOf_72 : decode cX11_putOf 72 = .ok (.aload_n 0, 1) := by decide +kernel
theorem dX11_putOf_73 : decode cX11_putOf 73 = .ok (.iload_n 1, 1) := by decide +kernel
theorem dX11_putOf_74 : decode cX11_putOf 74 = .ok (.iload_n 2, 1) := by decide +kernel
theorem dX11_putOf_75 : decode cX11_putOf 75 = .ok (.invokevirtual 62, 3) := by decide +kernel
theorem dX11_putOf_78 : decode cX11_putOf 78 = .ok (.ireturn, 1) := by decide +kernel
theorem dX11_putOf_79 : decode cX11_putOf 79 = .ok (.iload_n 3, 1) := by decide +kernel
theorem dX11_putOf_80 : decode cX11_putOf 80 = .ok (.bipush 6, 2) := by decide +kernel
theorem dX11_putOf_82 : decode cX11_putOf 82 = .ok (.if_icmp .ne 42, 3) := by decide +kernel
theorem dX11_putOf_85 : decode cX11_putOf 85 = .ok (.aload_n 0, 1) := by decide +kernel
theorem dX11_putOf_86 : decode cX11_putOf 86 = .ok (.iconst 0, 1) := by decide +kernel
theorem dX11_putOf_87 : decode cX11_putOf 87 = .ok (.bipush 6, 2) := by decide +kernel
theorem dX11_putOf_89 : decode cX11_putOf 89 = .ok (.invokevirtual 58, 3) := by decide +kernel
theorem dX11_putOf_92 : decode cX11_putOf 92 = .ok (.aload_n 0, 1) := by decide +kernel
theorem dX11_putOf_93 : decode cX11_putOf 93 = .ok (.getfield 16, 3) := by decide +kernel
theorem dX11_putOf_96 : decode cX11_putOf 96 = .ok (.iload_n 2, 1) := by decide +kernel
theorem dX11_putOf_97 : decode cX11_putOf 97 = .ok (.aload_n 0, 1) := by decide +kernel
theorem dX11_putOf_98 : decode cX11_putOf 98 = .ok (.getfield 16, 3) := by decide +kernel
theorem dX11_putOf_101 : decode cX11_putOf 101 = .ok (.iload_n 2, 1) := by decide +kernel
theorem dX11_putOf_102 : decode cX11_putOf 102 = .ok (.baload, 1) := by decide +kernel
theorem dX11_putOf_103 : decode cX11_putOf 103 = .ok (.ifCond .ne 15, 3) := by decide +kernel
theorem dX11_putOf_106 : decode cX11_putOf 106 = .ok (.aload_n 0, 1) := by decide +kernel
theorem dX11_putOf_107 : decode cX11_putOf 107 = .ok (.getfield 13, 3) := by decide +kernel
theorem dX11_putOf_110 : decode cX11_putOf 110 = .ok (.iload_n 2, 1) := by decide +kernel
theorem dX11_putOf_111 : decode cX11_putOf 111 = .ok (.iaload, 1) := by decide +kernel
theorem dX11_putOf_112 : decode cX11_putOf 112 = .ok (.iconst 2, 1) := by decide +kernel
theorem dX11_putOf_113 : decode cX11_putOf 113 = .ok (.irem, 1) := by decide +kernel
theorem dX11_putOf_114 : decode cX11_putOf 114 = .ok (.iconst 1, 1) := by decide +kernel
theorem dX11_putOf_115 : decode cX11_putOf 115 = .ok (.if_icmp .ne 7, 3) := by decide +kernel
theorem dX11_putOf_118 : decode cX11_putOf 118 = .ok (.iconst 1, 1) := by decide +kernel
theorem dX11_putOf_119 : decode cX11_putOf 119 = .ok (.goto 4, 3) := by decide +kernel
theorem dX11_putOf_122 : decode cX11_putOf 122 = .ok (.iconst 0, 1) := by decide +kernel
theorem dX11_putOf_123 : decode cX11_putOf 123 = .ok (.bastore, 1) := by decide +kernel
theorem dX11_putOf_124 : decode cX11_putOf 124 = .ok (.iload_n 3, 1) := by decide +kernel
theorem dX11_putOf_125 : decode cX11_putOf 125 = .ok (.iconst 2, 1) := by decide +kernel
theorem dX11_putOf_126 : decode cX11_putOf 126 = .ok (.if_icmp .eq 14, 3) := by decide +kernel
theorem dX11_putOf_129 : decode cX11_putOf 129 = .ok (.iload_n 3, 1) := by decide +kernel
theorem dX11_putOf_130 : decode cX11_putOf 130 = .ok (.iconst 4, 1) := by decide +kernel
theorem dX11_putOf_131 : decode cX11_putOf 131 = .ok (.if_icmp .eq 9, 3) := by decide +kernel
theorem dX11_putOf_134 : decode cX11_putOf 134 = .ok (.iload_n 3, 1) := by decide +kernel
theorem dX11_putOf_135 : decode cX11_putOf 135 = .ok (.bipush 6, 2) := by decide +kernel
theorem dX11_putOf_137 : decode cX11_putOf 137 = .ok (.if_icmp .ne 12, 3) := by decide +kernel
theorem dX11_putOf_140 : decode cX11_putOf 140 = .ok (.aload_n 0, 1) := by decide +kernel
theorem dX11_putOf_141 : decode cX11_putOf 141 = .ok (.iload_n 1, 1) := by decide +kernel
theorem dX11_putOf_142 : decode cX11_putOf 142 = .ok (.iload_n 2, 1) := by decide +kernel
theorem dX11_putOf_143 : decode cX11_putOf 143 = .ok (.invokevirtual 77, 3) := by decide +kernel
theorem dX11_putOf_146 : decode cX11_putOf 146 = .ok (.goto 9, 3) := by decide +kernel
theorem dX11_putOf_149 : decode cX11_putOf 149 = .ok (.aload_n 0, 1) := by decide +kernel
theorem dX11_putOf_150 : decode cX11_putOf 150 = .ok (.iload_n 1, 1) := by decide +kernel
theorem dX11_putOf_151 : decode cX11_putOf 151 = .ok (.iload_n 2, 1) := by decide +kernel
theorem dX11_putOf_152 : decode cX11_putOf 152 = .ok (.invokevirtual 62, 3) := by decide +kernel
theorem dX11_putOf_155 : decode cX11_putOf 155 = .ok (.ireturn, 1) := by decide +kernel
theorem dX11_put_0 : decode cX11_put 0 = .ok (.aload_n 0, 1) := by decide +kernel
theorem dX11_put_1 : decode cX11_put 1 = .ok (.iconst 0, 1) := by decide +kernel
theorem dX11_put_2 : decode cX11_put 2 = .ok (.putfield 41, 3) := by decide +kernel
theorem dX11_put_5 : decode cX11_put 5 = .ok (.aload_n 0, 1) := by decide +kernel
theorem dX11_put_6 : decode cX11_put 6 = .ok (.iload_n 1, 1) := by decide +kernel
theorem dX11_put_7 : decode cX11_put 7 = .ok (.invokevirtual 80, 3) := by decide +kernel
theorem dX11_put_10 : decode cX11_put 10 = .ok (.ifCond .eq 11, 3) := by decide +kernel
theorem dX11_put_13 : decode cX11_put 13 = .ok (.aload_n 0, 1) := by decide +kernel
theorem dX11_put_14 : decode cX11_put 14 = .ok (.iload_n 2, 1) := by decide +kernel
theorem dX11_put_15 : decode cX11_put 15 = .ok (.invokevirtual 84, 3) := by decide +kernel
theorem dX11_put_18 : decode cX11_put 18 = .ok (.ifCond .ne 6, 3) := by decide +kernel
theorem dX11_put_21 : decode cX11_put 21 = .ok (.bipush (-101), 2) := by decide +kernel
theorem dX11_put_23 : decode cX11_put 23 = .ok (.ireturn, 1) := by decide +kernel
theorem dX11_put_24 : decode cX11_put 24 = .ok (.aload_n 0, 1) := by decide +kernel
theorem dX11_put_25 : decode cX11_put 25 = .ok (.getfield 20, 3) := by decide +kernel
theorem dX11_put_28 : decode cX11_put 28 = .ok (.iload_n 2, 1) := by decide +kernel
theorem dX11_put_29 : decode cX11_put 29 = .ok (.iaload, 1) := by decide +kernel
theorem dX11_put_30 : decode cX11_put 30 = .ok (.iconst (-1), 1) := by decide +kernel
theorem dX11_put_31 : decode cX11_put 31 = .ok (.if_icmp .eq 6, 3) := by decide +kernel
theorem dX11_put_34 : decode cX11_put 34 = .ok (.bipush (-103), 2) := by decide +kernel
theorem dX11_put_36 : decode cX11_put 36 = .ok (.ireturn, 1) := by decide +kernel
theorem dX11_put_37 : decode cX11_put 37 = .ok (.aload_n 0, 1) := by decide +kernel
theorem dX11_put_38 : decode cX11_put 38 = .ok (.iload_n 1, 1) := by decide +kernel
theorem dX11_put_39 : decode cX11_put 39 = .ok (.iload_n 2, 1) := by decide +kernel
theorem dX11_put_40 : decode cX11_put 40 = .ok (.invokevirtual 87, 3) := by decide +kernel
theorem dX11_put_43 : decode cX11_put 43 = .ok (.istore_n 3, 1) := by decide +kernel
theorem dX11_put_44 : decode cX11_put 44 = .ok (.aload_n 0, 1) := by decide +kernel
theorem dX11_put_45 : decode cX11_put 45 = .ok (.aload_n 0, 1) := by decide +kernel
theorem dX11_put_46 : decode cX11_put 46 = .ok (.getfield 66, 3) := by decide +kernel
theorem dX11_put_49 : decode cX11_put 49 = .ok (.ifCond .eq 7, 3) := by decide +kernel
theorem dX11_put_52 : decode cX11_put 52 = .ok (.iconst 1, 1) := by decide +kernel
theorem dX11_put_53 : decode cX11_put 53 = .ok (.goto 4, 3) := by decide +kernel
theorem dX11_put_56 : decode cX11_put 56 = .ok (.iconst 0, 1) := by decide +kernel
theorem dX11_put_57 : decode cX11_put 57 = .ok (.putfield 41, 3) := by decide +kernel
theorem dX11_put_60 : decode cX11_put 60 = .ok (.iload_n 3, 1) := by decide +kernel
theorem dX11_put_61 : decode cX11_put 61 = .ok (.ifCond .eq 7, 3) := by decide +kernel
theorem dX11_put_64 : decode cX11_put 64 = .ok (.iconst 1, 1) := by decide +kernel
theorem dX11_put_65 : decode cX11_put 65 = .ok (.goto 4, 3) := by decide +kernel
theorem dX11_put_68 : decode cX11_put 68 = .ok (.iconst 0, 1) := by decide +kernel
theorem dX11_put_69 : decode cX11_put 69 = .ok (.ireturn, 1) := by decide +kernel
theorem dX11_takePlain_0 : decode cX11_takePlain 0 = .ok (.aload_n 0, 1) := by decide +kernel
theorem dX11_takePlain_1 : decode cX11_takePlain 1 = .ok (.iconst 1, 1) := by decide +kernel
theorem dX11_takePlain_2 : decode cX11_takePlain 2 = .ok (.iconst 0, 1) := by decide +kernel
theorem dX11_takePlain_3 : decode cX11_takePlain 3 = .ok (.invokevirtual 58, 3) := by decide +kernel
theorem dX11_takePlain_6 : decode cX11_takePlain 6 = .ok (.aload_n 0, 1) := by decide +kernel
theorem dX11_takePlain_7 : decode cX11_takePlain 7 = .ok (.getfield 32, 3) := by decide +kernel
theorem dX11_takePlain_10 : decode cX11_takePlain 10 = .ok (.iload_n 1, 1) := by decide +kernel
theorem dX11_takePlain_11 : decode cX11_takePlain 11 = .ok (.iaload, 1) := by decide +kernel
theorem dX11_takePlain_12 : decode cX11_takePlain 12 = .ok (.ifCond .ne 5, 3) := by decide +kernel
theorem dX11_takePlain_15 : decode cX11_takePlain 15 = .ok (.iconst (-1), 1) := by decide +kernel
theorem dX11_takePlain_16 : decode cX11_takePlain 16 = .ok (.ireturn, 1) := by decide +kernel
theorem dX11_takePlain_17 : decode cX11_takePlain 17 = .ok (.aload_n 0, 1) := by decide +kernel
theorem dX11_takePlain_18 : decode cX11_takePlain 18 = .ok (.getfield 32, 3) := by decide +kernel
theorem dX11_takePlain_21 : decode cX11_takePlain 21 = .ok (.iload_n 1, 1) := by decide +kernel
theorem dX11_takePlain_22 : decode cX11_takePlain 22 = .ok (.dup2, 1) := by decide +kernel
theorem dX11_takePlain_23 : decode cX11_takePlain 23 = .ok (.iaload, 1) := by decide +kernel
theorem dX11_takePlain_24 : decode cX11_takePlain 24 = .ok (.iconst 1, 1) := by decide +kernel
theorem dX11_takePlain_25 : decode cX11_takePlain 25 = .ok (.isub, 1) := by decide +kernel
theorem dX11_takePlain_26 : decode cX11_takePlain 26 = .ok (.iastore, 1) := by decide +kernel
theorem dX11_takePlain_27 : decode cX11_takePlain 27 = .ok (.aload_n 0, 1) := by decide +kernel
theorem dX11_takePlain_28 : decode cX11_takePlain 28 = .ok (.getfield 35, 3) := by decide +kernel
theorem dX11_takePlain_31 : decode cX11_takePlain 31 = .ok (.bipush 12, 2) := by decide +kernel
theorem dX11_takePlain_33 : decode cX11_takePlain 33 = .ok (.iload_n 1, 1) := by decide +kernel
theorem dX11_takePlain_34 : decode cX11_takePlain 34 = .ok (.imul, 1) := by decide +kernel
theorem dX11_takePlain_35 : decode cX11_takePlain 35 = .ok (.aload_n 0, 1) := by decide +kernel
theorem dX11_takePlain_36 : decode cX11_takePlain 36 = .ok (.getfield 32, 3) := by decide +kernel
theorem dX11_takePlain_39 : decode cX11_takePlain 39 = .ok (.iload_n 1, 1) := by decide +kernel
theorem dX11_takePlain_40 : decode cX11_takePlain 40 = .ok (.iaload, 1) := by decide +kernel
theorem dX11_takePlain_41 : decode cX11_takePlain 41 = .ok (.iadd, 1) := by decide +kernel
theorem dX11_takePlain_42 : decode cX11_takePlain 42 = .ok (.iaload, 1) := by decide +kernel
theorem dX11_takePlain_43 : decode cX11_takePlain 43 = .ok (.istore_n 2, 1) := by decide +kernel
theorem dX11_takePlain_44 : decode cX11_takePlain 44 = .ok (.aload_n 0, 1) := by decide +kernel
theorem dX11_takePlain_45 : decode cX11_takePlain 45 = .ok (.getfield 20, 3) := by decide +kernel
theorem dX11_takePlain_48 : decode cX11_takePlain 48 = .ok (.iload_n 2, 1) := by decide +kernel
theorem dX11_takePlain_49 : decode cX11_takePlain 49 = .ok (.iconst (-1), 1) := by decide +kernel
theorem dX11_takePlain_50 : decode cX11_takePlain 50 = .ok (.iastore, 1) := by decide +kernel
theorem dX11_takePlain_51 : decode cX11_takePlain 51 = .ok (.iload_n 2, 1) := by decide +kernel
theorem dX11_takePlain_52 : decode cX11_takePlain 52 = .ok (.ireturn, 1) := by decide +kernel
theorem dX11_takeOf_0 : decode cX11_takeOf 0 = .ok (.aload_n 0, 1) := by decide +kernel
theorem dX11_takeOf_1 : decode cX11_takeOf 1 = .ok (.getfield 23, 3) := by decide +kernel
theorem dX11_takeOf_4 : decode cX11_takeOf 4 = .ok (.iload_n 1, 1) := by decide +kernel
theorem dX11_takeOf_5 : decode cX11_takeOf 5 = .ok (.iaload, 1) := by decide +kernel
theorem dX11_takeOf_6 : decode cX11_takeOf 6 = .ok (.istore_n 2, 1) := by decide +kernel
theorem dX11_takeOf_7 : decode cX11_takeOf 7 = .ok (.aload_n 0, 1) := by decide +kernel
theorem dX11_takeOf_8 : decode cX11_takeOf 8 = .ok (.iconst 0, 1) := by decide +kernel
theorem dX11_takeOf_9 : decode cX11_takeOf 9 = .ok (.putfield 66, 3) := by decide +kernel
theorem dX11_takeOf_12 : decode cX11_takeOf 12 = .ok (.iload_n 2, 1) := by decide +kernel
theorem dX11_takeOf_13 : decode cX11_takeOf 13 = .ok (.iconst 4, 1) := by decide +kernel
theorem dX11_takeOf_14 : decode cX11_takeOf 14 = .ok (.if_icmp .eq 9, 3) := by decide +kernel
theorem dX11_takeOf_17 : decode cX11_takeOf 17 = .ok (.iload_n 2, 1) := by decide +kernel
theorem dX11_takeOf_18 : decode cX11_takeOf 18 = .ok (.bipush 6, 2) := by decide +kernel
theorem dX11_takeOf_20 : decode cX11_takeOf 20 = .ok (.if_icmp .ne 7, 3) := by decide +kernel
theorem dX11_takeOf_23 : decode cX11_takeOf 23 = .ok (.iconst 1, 1) := by decide +kernel
theorem dX11_takeOf_24 : decode cX11_takeOf 24 = .ok (.goto 4, 3) := by decide +kernel
theorem dX11_takeOf_27 : decode cX11_takeOf 27 = .ok (.iconst 0, 1) := by decide +kernel
theorem dX11_takeOf_28 : decode cX11_takeOf 28 = .ok (.istore_n 3, 1) := by decide +kernel
theorem dX11_takeOf_29 : decode cX11_takeOf 29 = .ok (.iload_n 3, 1) := by decide +kernel
theorem dX11_takeOf_30 : decode cX11_takeOf 30 = .ok (.ifCond .ne 9, 3) := by decide +kernel
theorem dX11_takeOf_33 : decode cX11_takeOf 33 = .ok (.iload_n 2, 1) := by decide +kernel
theorem dX11_takeOf_34 : decode cX11_takeOf 34 = .ok (.bipush 7, 2) := by decide +kernel
theorem dX11_takeOf_36 : decode cX11_takeOf 36 = .ok (.if_icmp .ne 18, 3) := by decide +kernel
theorem dX11_takeOf_39 : decode cX11_takeOf 39 = .ok (.aload_n 0, 1) := by decide +kernel
theorem dX11_takeOf_40 : decode cX11_takeOf 40 = .ok (.iconst 1, 1) := by decide +kernel
theorem dX11_takeOf_41 : decode cX11_takeOf 41 = .ok (.iload_n 3, 1) := by decide +kernel
theorem dX11_takeOf_42 : decode cX11_takeOf 42 = .ok (.ifCond .eq 7, 3) := by decide +kernel
theorem dX11_takeOf_45 : decode cX11_takeOf 45 = .ok (.iconst 4, 1) := by decide +kernel
theorem dX11_takeOf_46 : decode cX11_takeOf 46 = .ok (.goto 5, 3) := by decide +kernel
theorem dX11_takeOf_49 : decode cX11_takeOf 49 = .ok (.bipush 7, 2) := by decide +kernel
theorem dX11_takeOf_51 : decode cX11_takeOf 51 = .ok (.invokevirtual 58, 3) := by decide +kernel
theorem dX11_takeOf_54 : decode cX11_takeOf 54 = .ok (.aload_n 0, 1) := by decide +kernel
theorem dX11_takeOf_55 : decode cX11_takeOf 55 = .ok (.iload_n 1, 1) := by decide +kernel
theorem dX11_takeOf_56 : decode cX11_takeOf 56 = .ok (.invokevirtual 90, 3) := by decide +kernel
theorem dX11_takeOf_59 : decode cX11_takeOf 59 = .ok (.istore 4, 2) := by decide +kernel
theorem dX11_takeOf_61 : decode cX11_takeOf 61 = .ok (.iload_n 3, 1) := by decide +kernel
theorem dX11_takeOf_62 : decode cX11_takeOf 62 = .ok (.ifCond .ne 12, 3) := by decide +kernel
theorem dX11_takeOf_65 : decode cX11_takeOf 65 = .ok (.iload_n 2, 1) := by decide +kernel
theorem dX11_takeOf_66 : decode cX11_takeOf 66 = .ok (.bipush 7, 2) := by decide +kernel
theorem dX11_takeOf_68 : decode cX11_takeOf 68 = .ok (.if_icmp .eq 6, 3) := by decide +kernel
theorem dX11_takeOf_71 : decode cX11_takeOf 71 = .ok (.iload 4, 2) := by decide +kernel
theorem dX11_takeOf_73 : decode cX11_takeOf 73 = .ok (.ireturn, 1) := by decide +kernel
theorem dX11_takeOf_74 : decode cX11_takeOf 74 = .ok (.iload 4, 2) := by decide +kernel
theorem dX11_takeOf_76 : decode cX11_takeOf 76 = .ok (.iconst (-1), 1) := by decide +kernel
theorem dX11_takeOf_77 : decode cX11_takeOf 77 = .ok (.if_icmp .ne 20, 3) := by decide +kernel
theorem dX11_takeOf_80 : decode cX11_takeOf 80 = .ok (.aload_n 0, 1) := by decide +kernel
theorem dX11_takeOf_81 : decode cX11_takeOf 81 = .ok (.dup, 1) := by decide +kernel
theorem dX11_takeOf_82 : decode cX11_takeOf 82 = .ok (.getfield 93, 3) := by decide +kernel
theorem dX11_takeOf_85 : decode cX11_takeOf 85 = .ok (.iconst 1, 1) := by decide +kernel
theorem dX11_takeOf_86 : decode cX11_takeOf 86 = .ok (.iadd, 1) := by decide +kernel
theorem dX11_takeOf_87 : decode cX11_takeOf 87 = .ok (.putfield 93, 3) := by decide +kernel
theorem dX11_takeOf_90 : decode cX11_takeOf 90 = .ok (.aload_n 0, 1) := by decide +kernel
theorem dX11_takeOf_91 : decode cX11_takeOf 91 = .ok (.iconst 1, 1) := by decide +kernel
theorem dX11_takeOf_92 : decode cX11_takeOf 92 = .ok (.putfield 66, 3) := by decide +kernel
theorem dX11_takeOf_95 : decode cX11_takeOf 95 = .ok (.iconst (-1), 1) := by decide +kernel
theorem dX11_takeOf_96 : decode cX11_takeOf 96 = .ok (.ireturn, 1) := by decide +kernel
theorem dX11_takeOf_97 : decode cX11_takeOf 97 = .ok (.iload_n 2, 1) := by decide +kernel
theorem dX11_takeOf_98 : decode cX11_takeOf 98 = .ok (.bipush 7, 2) := by decide +kernel
theorem dX11_takeOf_100 : decode cX11_takeOf 100 = .ok (.if_icmp .ne 37, 3) := by decide +kernel
theorem dX11_takeOf_103 : decode cX11_takeOf 103 = .ok (.aload_n 0, 1) := by decide +kernel
theorem dX11_takeOf_104 : decode cX11_takeOf 104 = .ok (.getfield 13, 3) := by decide +kernel
theorem dX11_takeOf_107 : decode cX11_takeOf 107 = .ok (.iload 4, 2) := by decide +kernel
theorem dX11_takeOf_109 : decode cX11_takeOf 109 = .ok (.aload_n 0, 1) := by decide +kernel
theorem dX11_takeOf_110 : decode cX11_takeOf 110 = .ok (.getfield 13, 3) := by decide +kernel
theorem dX11_takeOf_113 : decode cX11_takeOf 113 = .ok (.iload 4, 2) := by decide +kernel
theorem dX11_takeOf_115 : decode cX11_takeOf 115 = .ok (.iaload, 1) := by decide +kernel
theorem dX11_takeOf_116 : decode cX11_takeOf 116 = .ok (.iconst 1, 1) := by decide +kernel
theorem dX11_takeOf_117 : decode cX11_takeOf 117 = .ok (.if_icmp .le 15, 3) := by decide +kernel
theorem dX11_takeOf_120 : decode cX11_takeOf 120 = .ok (.aload_n 0, 1) := by decide +kernel
theorem dX11_takeOf_121 : decode cX11_takeOf 121 = .ok (.getfield 13, 3) := by decide +kernel
theorem dX11_takeOf_124 : decode cX11_takeOf 124 = .ok (.iload 4, 2) := by decide +kernel
theorem dX11_takeOf_126 : decode cX11_takeOf 126 = .ok (.iaload, 1) := by decide +kernel
theorem dX11_takeOf_127 : decode cX11_takeOf 127 = .ok (.iconst 1, 1) := by decide +kernel
theorem dX11_takeOf_128 : decode cX11_takeOf 128 = .ok (.isub, 1) := by decide +kernel
theorem dX11_takeOf_129 : decode cX11_takeOf 129 = .ok (.goto 4, 3) := by decide +kernel
theorem dX11_takeOf_132 : decode cX11_takeOf 132 = .ok (.iconst 1, 1) := by decide +kernel
theorem dX11_takeOf_133 : decode cX11_takeOf 133 = .ok (.iastore, 1) := by decide +kernel
theorem dX11_takeOf_134 : decode cX11_takeOf 134 = .ok (.iload 4, 2) := by decide +kernel
theorem dX11_takeOf_136 : decode cX11_takeOf 136 = .ok (.ireturn, 1) := by decide +kernel
theorem dX11_takeOf_137 : decode cX11_takeOf 137 = .ok (.aload_n 0, 1) := by decide +kernel
theorem dX11_takeOf_138 : decode cX11_takeOf 138 = .ok (.getfield 16, 3) := by decide +kernel
theorem dX11_takeOf_141 : decode cX11_takeOf 141 = .ok (.iload 4, 2) := by decide +kernel
theorem dX11_takeOf_143 : decode cX11_takeOf 143 = .ok (.baload, 1) := by decide +kernel
theorem dX11_takeOf_144 : decode cX11_takeOf 144 = .ok (.ifCond .ne 6, 3) := by decide +kernel
theorem dX11_takeOf_147 : decode cX11_takeOf 147 = .ok (.iload 4, 2) := by decide +kernel
theorem dX11_takeOf_149 : decode cX11_takeOf 149 = .ok (.ireturn, 1) := by decide +kernel
theorem dX11_takeOf_150 : decode cX11_takeOf 150 = .ok (.aload_n 0, 1) := by decide +kernel
theorem dX11_takeOf_151 : decode cX11_takeOf 151 = .ok (.getfield 16, 3) := by decide +kernel
theorem dX11_takeOf_154 : decode cX11_takeOf 154 = .ok (.iload 4, 2) := by decide +kernel
theorem dX11_takeOf_156 : decode cX11_takeOf 156 = .ok (.iconst 0, 1) := by decide +kernel
theorem dX11_takeOf_157 : decode cX11_takeOf 157 = .ok (.bastore, 1) := by decide +kernel
theorem dX11_takeOf_158 : decode cX11_takeOf 158 = .ok (.aload_n 0, 1) := by decide +kernel
theorem dX11_takeOf_159 : decode cX11_takeOf 159 = .ok (.iload_n 1, 1) := by decide +kernel
theorem dX11_takeOf_160 : decode cX11_takeOf 160 = .ok (.iload 4, 2) := by decide +kernel
theorem dX11_takeOf_162 : decode cX11_takeOf 162 = .ok (.invokevirtual 87, 3) := by decide +kernel
theorem dX11_takeOf_165 : decode cX11_takeOf 165 = .ok (.istore 5, 2) := by decide +kernel
theorem dX11_takeOf_167 : decode cX11_takeOf 167 = .ok (.aload_n 0, 1) := by decide +kernel
theorem dX11_takeOf_168 : decode cX11_takeOf 168 = .ok (.iload_n 1, 1) := by decide +kernel
theorem dX11_takeOf_169 : decode cX11_takeOf 169 = .ok (.invokevirtual 90, 3) := by decide +kernel
theorem dX11_takeOf_172 : decode cX11_takeOf 172 = .ok (.ireturn, 1) := by decide +kernel
theorem dX11_take_0 : decode cX11_take 0 = .ok (.aload_n 0, 1) := by decide +kernel
theorem dX11_take_1 : decode cX11_take 1 = .ok (.iconst 0, 1) := by decide +kernel
theorem dX11_take_2 : decode cX11_take 2 = .ok (.putfield 41, 3) := by decide +kernel
theorem dX11_take_5 : decode cX11_take 5 = .ok (.aload_n 0, 1) := by decide +kernel
theorem dX11_take_6 : decode cX11_take 6 = .ok (.iload_n 1, 1) := by decide +kernel
theorem dX11_take_7 : decode cX11_take 7 = .ok (.invokevirtual 80, 3) := by decide +kernel
theorem dX11_take_10 : decode cX11_take 10 = .ok (.ifCond .ne 6, 3) := by decide +kernel
theorem dX11_take_13 : decode cX11_take 13 = .ok (.bipush (-101), 2) := by decide +kernel
theorem dX11_take_15 : decode cX11_take 15 = .ok (.ireturn, 1) := by decide +kernel
theorem dX11_take_16 : decode cX11_take 16 = .ok (.aload_n 0, 1) := by decide +kernel
theorem dX11_take_17 : decode cX11_take 17 = .ok (.iload_n 1, 1) := by decide +kernel
theorem dX11_take_18 : decode cX11_take 18 = .ok (.invokevirtual 96, 3) := by decide +kernel
theorem dX11_take_21 : decode cX11_take 21 = .ok (.istore_n 2, 1) := by decide +kernel
theorem dX11_take_22 : decode cX11_take 22 = .ok (.aload_n 0, 1) := by decide +kernel
theorem dX11_take_23 : decode cX11_take 23 = .ok (.aload_n 0, 1) := by decide +kernel
theorem dX11_take_24 : decode cX11_take 24 = .ok (.getfield 66, 3) := by decide +kernel
theorem dX11_take_27 : decode cX11_take 27 = .ok (.ifCond .eq 7, 3) := by decide +kernel
theorem dX11_take_30 : decode cX11_take 30 = .ok (.iconst 1, 1) := by decide +kernel
theorem dX11_take_31 : decode cX11_take 31 = .ok (.goto 4, 3) := by decide +kernel
theorem dX11_take_34 : decode cX11_take 34 = .ok (.iconst 0, 1) := by decide +kernel
theorem dX11_take_35 : decode cX11_take 35 = .ok (.putfield 41, 3) := by decide +kernel
theorem dX11_take_38 : decode cX11_take 38 = .ok (.iload_n 2, 1) := by decide +kernel
theorem dX11_take_39 : decode cX11_take 39 = .ok (.ireturn, 1) := by decide +kernel
theorem dX11_load_0 : decode cX11_load 0 = .ok (.aload_n 0, 1) := by decide +kernel
theorem dX11_load_1 : decode cX11_load 1 = .ok (.iconst 0, 1) := by decide +kernel
theorem dX11_load_2 : decode cX11_load 2 = .ok (.putfield 41, 3) := by decide +kernel
theorem dX11_load_5 : decode cX11_load 5 = .ok (.aload_n 0, 1) := by decide +kernel
theorem dX11_load_6 : decode cX11_load 6 = .ok (.iload_n 1, 1) := by decide +kernel
theorem dX11_load_7 : decode cX11_load 7 = .ok (.invokevirtual 80, 3) := by decide +kernel
theorem dX11_load_10 : decode cX11_load 10 = .ok (.ifCond .eq 11, 3) := by decide +kernel
theorem dX11_load_13 : decode cX11_load 13 = .ok (.aload_n 0, 1) := by decide +kernel
theorem dX11_load_14 : decode cX11_load 14 = .ok (.iload_n 1, 1) := by decide +kernel
theorem dX11_load_15 : decode cX11_load 15 = .ok (.invokevirtual 70, 3) := by decide +kernel
theorem dX11_load_18 : decode cX11_load 18 = .ok (.goto 5, 3) := by decide +kernel
theorem dX11_load_21 : decode cX11_load 21 = .ok (.bipush (-101), 2) := by decide +kernel
theorem dX11_load_23 : decode cX11_load 23 = .ok (.ireturn, 1) := by decide +kernel
theorem dX11_lowest_0 : decode cX11_lowest 0 = .ok (.aload_n 0, 1) := by decide +kernel
theorem dX11_lowest_1 : decode cX11_lowest 1 = .ok (.iconst 3, 1) := by decide +kernel
theorem dX11_lowest_2 : decode cX11_lowest 2 = .ok (.iconst 0, 1) := by decide +kernel
theorem dX11_lowest_3 : decode cX11_lowest 3 = .ok (.invokevirtual 58, 3) := by decide +kernel
theorem dX11_lowest_6 : decode cX11_lowest 6 = .ok (.iconst 0, 1) := by decide +kernel
theorem dX11_lowest_7 : decode cX11_lowest 7 = .ok (.istore_n 3, 1) := by decide +kernel
theorem dX11_lowest_8 : decode cX11_lowest 8 = .ok (.iload_n 3, 1) := by decide +kernel
theorem dX11_lowest_9 : decode cX11_lowest 9 = .ok (.aload_n 0, 1) := by decide +kernel
theorem dX11_lowest_10 : decode cX11_lowest 10 = .ok (.getfield 32, 3) := by decide +kernel
theorem dX11_lowest_13 : decode cX11_lowest 13 = .ok (.iload_n 1, 1) := by decide +kernel
theorem dX11_lowest_14 : decode cX11_lowest 14 = .ok (.iaload, 1) := by decide +kernel
theorem dX11_lowest_15 : decode cX11_lowest 15 = .ok (.if_icmp .ge 31, 3) := by decide +kernel
theorem dX11_lowest_18 : decode cX11_lowest 18 = .ok (.aload_n 0, 1) := by decide +kernel
theorem dX11_lowest_19 : decode cX11_lowest 19 = .ok (.getfield 7, 3) := by decide +kernel
theorem dX11_lowest_22 : decode cX11_lowest 22 = .ok (.aload_n 0, 1) := by decide +kernel
theorem dX11_lowest_23 : decode cX11_lowest 23 = .ok (.getfield 35, 3) := by decide +kernel
theorem dX11_lowest_26 : decode cX11_lowest 26 = .ok (.bipush 12, 2) := by decide +kernel
theorem dX11_lowest_28 : decode cX11_lowest 28 = .ok (.iload_n 1, 1) := by decide +kernel
theorem dX11_lowest_29 : decode cX11_lowest 29 = .ok (.imul, 1) := by decide +kernel
theorem dX11_lowest_30 : decode cX11_lowest 30 = .ok (.iload_n 3, 1) := by decide +kernel
theorem dX11_lowest_31 : decode cX11_lowest 31 = .ok (.iadd, 1) := by decide +kernel
theorem dX11_lowest_32 : decode cX11_lowest 32 = .ok (.iaload, 1) := by decide +kernel
theorem dX11_lowest_33 : decode cX11_lowest 33 = .ok (.iaload, 1) := by decide +kernel
theorem dX11_lowest_34 : decode cX11_lowest 34 = .ok (.iload_n 2, 1) := by decide +kernel
theorem dX11_lowest_35 : decode cX11_lowest 35 = .ok (.if_icmp .lt 5, 3) := by decide +kernel
theorem dX11_lowest_38 : decode cX11_lowest 38 = .ok (.iload_n 3, 1) := by decide +kernel
theorem dX11_lowest_39 : decode cX11_lowest 39 = .ok (.ireturn, 1) := by decide +kernel
theorem dX11_lowest_40 : decode cX11_lowest 40 = .ok (.iinc 3 1, 3) := by decide +kernel
theorem dX11_lowest_43 : decode cX11_lowest 43 = .ok (.goto (-35), 3) := by decide +kernel
theorem dX11_lowest_46 : decode cX11_lowest 46 = .ok (.iconst (-1), 1) := by decide +kernel
theorem dX11_lowest_47 : decode cX11_lowest 47 = .ok (.ireturn, 1) := by decide +kernel
theorem dX11_search_0 : decode cX11_search 0 = .ok (.aload_n 0, 1) := by decide +kernel
theorem dX11_search_1 : decode cX11_search 1 = .ok (.iconst 0, 1) := by decide +kernel
theorem dX11_search_2 : decode cX11_search 2 = .ok (.putfield 41, 3) := by decide +kernel
theorem dX11_search_5 : decode cX11_search 5 = .ok (.aload_n 0, 1) := by decide +kernel
theorem dX11_search_6 : decode cX11_search 6 = .ok (.iload_n 1, 1) := by decide +kernel
theorem dX11_search_7 : decode cX11_search 7 = .ok (.invokevirtual 80, 3) := by decide +kernel
theorem dX11_search_10 : decode cX11_search 10 = .ok (.ifCond .ne 6, 3) := by decide +kernel
theorem dX11_search_13 : decode cX11_search 13 = .ok (.bipush (-101), 2) := by decide +kernel
theorem dX11_search_15 : decode cX11_search 15 = .ok (.ireturn, 1) := by decide +kernel
theorem dX11_search_16 : decode cX11_search 16 = .ok (.iload_n 2, 1) := by decide +kernel
theorem dX11_search_17 : decode cX11_search 17 = .ok (.iconst 1, 1) := by decide +kernel
theorem dX11_search_18 : decode cX11_search 18 = .ok (.sipush 1000, 3) := by decide +kernel
theorem dX11_search_21 : decode cX11_search 21 = .ok (.invokestatic 48, 3) := by decide +kernel
theorem dX11_search_24 : decode cX11_search 24 = .ok (.ifCond .ne 6, 3) := by decide +kernel
theorem dX11_search_27 : decode cX11_search 27 = .ok (.bipush (-102), 2) := by decide +kernel
theorem dX11_search_29 : decode cX11_search 29 = .ok (.ireturn, 1) := by decide +kernel
theorem dX11_search_30 : decode cX11_search 30 = .ok (.aload_n 0, 1) := by decide +kernel
theorem dX11_search_31 : decode cX11_search 31 = .ok (.getfield 23, 3) := by decide +kernel
theorem dX11_search_34 : decode cX11_search 34 = .ok (.iload_n 1, 1) := by decide +kernel
theorem dX11_search_35 : decode cX11_search 35 = .ok (.iaload, 1) := by decide +kernel
theorem dX11_search_36 : decode cX11_search 36 = .ok (.istore_n 3, 1) := by decide +kernel
theorem dX11_search_37 : decode cX11_search 37 = .ok (.iload_n 3, 1) := by decide +kernel
theorem dX11_search_38 : decode cX11_search 38 = .ok (.iconst 5, 1) := by decide +kernel
theorem dX11_search_39 : decode cX11_search 39 = .ok (.if_icmp .eq 9, 3) := by decide +kernel
theorem dX11_search_42 : decode cX11_search 42 = .ok (.iload_n 3, 1) := by decide +kernel
theorem dX11_search_43 : decode cX11_search 43 = .ok (.bipush 7, 2) := by decide +kernel
theorem dX11_search_45 : decode cX11_search 45 = .ok (.if_icmp .ne 37, 3) := by decide +kernel
theorem dX11_search_48 : decode cX11_search 48 = .ok (.aload_n 0, 1) := by decide +kernel
theorem dX11_search_49 : decode cX11_search 49 = .ok (.iconst 3, 1) := by decide +kernel
theorem dX11_search_50 : decode cX11_search 50 = .ok (.iconst 5, 1) := by decide +kernel
theorem dX11_search_51 : decode cX11_search 51 = .ok (.invokevirtual 58, 3) := by decide +kernel
theorem dX11_search_54 : decode cX11_search 54 = .ok (.aload_n 0, 1) := by decide +kernel
theorem dX11_search_55 : decode cX11_search 55 = .ok (.iload_n 1, 1) := by decide +kernel
theorem dX11_search_56 : decode cX11_search 56 = .ok (.iload_n 2, 1) := by decide +kernel
theorem dX11_search_57 : decode cX11_search 57 = .ok (.invokevirtual 99, 3) := by decide +kernel
theorem dX11_search_60 : decode cX11_search 60 = .ok (.istore 4, 2) := by decide +kernel
theorem dX11_search_62 : decode cX11_search 62 = .ok (.iload 4, 2) := by decide +kernel
theorem dX11_search_64 : decode cX11_search 64 = .ok (.iconst (-1), 1) := by decide +kernel
theorem dX11_search_65 : decode cX11_search 65 = .ok (.if_icmp .ne 14, 3) := by decide +kernel
theorem dX11_search_68 : decode cX11_search 68 = .ok (.aload_n 0, 1) := by decide +kernel
theorem dX11_search_69 : decode cX11_search 69 = .ok (.iload_n 1, 1) := by decide +kernel
theorem dX11_search_70 : decode cX11_search 70 = .ok (.iload_n 2, 1) := by decide +kernel
theorem dX11_search_71 : decode cX11_search 71 = .ok (.iconst 2, 1) := by decide +kernel
theorem dX11_search_72 : decode cX11_search 72 = .ok (.idiv, 1) := by decide +kernel
theorem dX11_search_73 : decode cX11_search 73 = .ok (.invokevirtual 99, 3) := by decide +kernel
theorem dX11_search_76 : decode cX11_search 76 = .ok (.goto 5, 3) := by decide +kernel
theorem dX11_search_79 : decode cX11_search 79 = .ok (.iload 4, 2) := by decide +kernel
theorem dX11_search_81 : decode cX11_search 81 = .ok (.ireturn, 1) := by decide +kernel
theorem dX11_search_82 : decode cX11_search 82 = .ok (.iload_n 3, 1) := by decide +kernel
theorem dX11_search_83 : decode cX11_search 83 = .ok (.iconst 4, 1) := by decide +kernel
theorem dX11_search_84 : decode cX11_search 84 = .ok (.if_icmp .eq 9, 3) := by decide +kernel
theorem dX11_search_87 : decode cX11_search 87 = .ok (.iload_n 3, 1) := by decide +kernel
theorem dX11_search_88 : decode cX11_search 88 = .ok (.bipush 6, 2) := by decide +kernel
theorem dX11_search_90 : decode cX11_search 90 = .ok (.if_icmp .ne 50, 3) := by decide +kernel
theorem dX11_search_93 : decode cX11_search 93 = .ok (.aload_n 0, 1) := by decide +kernel
theorem dX11_search_94 : decode cX11_search 94 = .ok (.iconst 3, 1) := by decide +kernel
theorem dX11_search_95 : decode cX11_search 95 = .ok (.iconst 4, 1) := by decide +kernel
theorem dX11_search_96 : decode cX11_search 96 = .ok (.invokevirtual 58, 3) := by decide +kernel
theorem dX11_search_99 : decode cX11_search 99 = .ok (.aload_n 0, 1) := by decide +kernel
theorem dX11_search_100 : decode cX11_search 100 = .ok (.iload_n 1, 1) := by decide +kernel
theorem dX11_search_101 : decode cX11_search 101 = .ok (.iload_n 2, 1) := by decide +kernel
theorem dX11_search_102 : decode cX11_search 102 = .ok (.invokevirtual 99, 3) := by decide +kernel
theorem dX11_search_105 : decode cX11_search 105 = .ok (.istore 4, 2) := by decide +kernel
theorem dX11_search_107 : decode cX11_search 107 = .ok (.iload 4, 2) := by decide +kernel
theorem dX11_search_109 : decode cX11_search 109 = .ok (.iconst (-1), 1) := by decide +kernel
theorem dX11_search_110 : decode cX11_search 110 = .ok (.if_icmp .eq 23, 3) := by decide +kernel
theorem dX11_search_113 : decode cX11_search 113 = .ok (.aload_n 0, 1) := by decide +kernel
theorem dX11_search_114 : decode cX11_search 114 = .ok (.getfield 16, 3) := by decide +kernel
theorem dX11_search_117 : decode cX11_search 117 = .ok (.aload_n 0, 1) := by decide +kernel
theorem dX11_search_118 : decode cX11_search 118 = .ok (.getfield 35, 3) := by decide +kernel
theorem dX11_search_121 : decode cX11_search 121 = .ok (.bipush 12, 2) := by decide +kernel
theorem dX11_search_123 : decode cX11_search 123 = .ok (.iload_n 1, 1) := by decide +kernel
theorem dX11_search_124 : decode cX11_search 124 = .ok (.imul, 1) := by decide +kernel
theorem dX11_search_125 : decode cX11_search 125 = .ok (.iload 4, 2) := by decide +kernel
theorem dX11_search_127 : decode cX11_search 127 = .ok (.iadd, 1) := by decide +kernel
theorem dX11_search_128 : decode cX11_search 128 = .ok (.iaload, 1) := by decide +kernel
theorem dX11_search_129 : decode cX11_search 129 = .ok (.baload, 1) := by decide +kernel
theorem dX11_search_130 : decode cX11_search 130 = .ok (.ifCond .eq 7, 3) := by decide +kernel
theorem dX11_search_133 : decode cX11_search 133 = .ok (.iconst (-1), 1) := by decide +kernel
theorem dX11_search_134 : decode cX11_search 134 = .ok (.goto 5, 3) := by decide +kernel
theorem dX11_search_137 : decode cX11_search 137 = .ok (.iload 4, 2) := by decide +kernel
theorem dX11_search_139 : decode cX11_search 139 = .ok (.ireturn, 1) := by decide +kernel
theorem dX11_search_140 : decode cX11_search 140 = .ok (.aload_n 0, 1) := by decide +kernel
theorem dX11_search_141 : decode cX11_search 141 = .ok (.iload_n 1, 1) := by decide +kernel
theorem dX11_search_142 : decode cX11_search 142 = .ok (.iload_n 2, 1) := by decide +kernel
theorem dX11_search_143 : decode cX11_search 143 = .ok (.invokevirtual 99, 3) := by decide +kernel
theorem dX11_search_146 : decode cX11_search 146 = .ok (.ireturn, 1) := by decide +kernel
theorem dX11_freeStrict_0 : decode cX11_freeStrict 0 = .ok (.aload_n 0, 1) := by decide +kernel
theorem dX11_freeStrict_1 : decode cX11_freeStrict 1 = .ok (.iconst 4, 1) := by decide +kernel
theorem dX11_freeStrict_2 : decode cX11_freeStrict 2 = .ok (.iconst 3, 1) := by decide +kernel
theorem dX11_freeStrict_3 : decode cX11_freeStrict 3 = .ok (.invokevirtual 58, 3) := by decide +kernel
theorem dX11_freeStrict_6 : decode cX11_freeStrict 6 = .ok (.aload_n 0, 1) := by decide +kernel
theorem dX11_freeStrict_7 : decode cX11_freeStrict 7 = .ok (.iload_n 1, 1) := by decide +kernel
theorem dX11_freeStrict_8 : decode cX11_freeStrict 8 = .ok (.invokevirtual 70, 3) := by decide +kernel
theorem dX11_freeStrict_11 : decode cX11_freeStrict 11 = .ok (.aload_n 0, 1) := by decide +kernel
theorem dX11_freeStrict_12 : decode cX11_freeStrict 12 = .ok (.getfield 29, 3) := by decide +kernel
theorem dX11_freeStrict_15 : decode cX11_freeStrict 15 = .ok (.iload_n 1, 1) := by decide +kernel
theorem dX11_freeStrict_16 : decode cX11_freeStrict 16 = .ok (.iaload, 1) := by decide +kernel
theorem dX11_freeStrict_17 : decode cX11_freeStrict 17 = .ok (.if_icmp .lt 5, 3) := by decide +kernel
theorem dX11_freeStrict_20 : decode cX11_freeStrict 20 = .ok (.iconst 0, 1) := by decide +kernel
theorem dX11_freeStrict_21 : decode cX11_freeStrict 21 = .ok (.ireturn, 1) := by decide +kernel
theorem dX11_freeStrict_22 : decode cX11_freeStrict 22 = .ok (.aload_n 0, 1) := by decide +kernel
theorem dX11_freeStrict_23 : decode cX11_freeStrict 23 = .ok (.iconst 4, 1) := by decide +kernel
theorem dX11_freeStrict_24 : decode cX11_freeStrict 24 = .ok (.iconst 0, 1) := by decide +kernel
theorem dX11_freeStrict_25 : decode cX11_freeStrict 25 = .ok (.invokevirtual 58, 3) := by decide +kernel
theorem dX11_freeStrict_28 : decode cX11_freeStrict 28 = .ok (.aload_n 0, 1) := by decide +kernel
theorem dX11_freeStrict_29 : decode cX11_freeStrict 29 = .ok (.getfield 26, 3) := by decide +kernel
theorem dX11_freeStrict_32 : decode cX11_freeStrict 32 = .ok (.iload_n 1, 1) := by decide +kernel
theorem dX11_freeStrict_33 : decode cX11_freeStrict 33 = .ok (.iaload, 1) := by decide +kernel
theorem dX11_freeStrict_34 : decode cX11_freeStrict 34 = .ok (.aload_n 0, 1) := by decide +kernel
theorem dX11_freeStrict_35 : decode cX11_freeStrict 35 = .ok (.getfield 32, 3) := by decide +kernel
theorem dX11_freeStrict_38 : decode cX11_freeStrict 38 = .ok (.iload_n 1, 1) := by decide +kernel
theorem dX11_freeStrict_39 : decode cX11_freeStrict 39 = .ok (.iaload, 1) := by decide +kernel
theorem dX11_freeStrict_40 : decode cX11_freeStrict 40 = .ok (.isub, 1) := by decide +kernel
theorem dX11_freeStrict_41 : decode cX11_freeStrict 41 = .ok (.ireturn, 1) := by decide +kernel
theorem dX11_freeOf_0 : decode cX11_freeOf 0 = .ok (.aload_n 0, 1) := by decide +kernel
theorem dX11_freeOf_1 : decode cX11_freeOf 1 = .ok (.getfield 23, 3) := by decide +kernel
theorem dX11_freeOf_4 : decode cX11_freeOf 4 = .ok (.iload_n 1, 1) := by decide +kernel
theorem dX11_freeOf_5 : decode cX11_freeOf 5 = .ok (.iaload, 1) := by decide +kernel
theorem dX11_freeOf_6 : decode cX11_freeOf 6 = .ok (.istore_n 2, 1) := by decide +kernel
theorem dX11_freeOf_7 : decode cX11_freeOf 7 = .ok (.iload_n 2, 1) := by decide +kernel
theorem dX11_freeOf_8 : decode cX11_freeOf 8 = .ok (.bipush 7, 2) := by decide +kernel
theorem dX11_freeOf_10 : decode cX11_freeOf 10 = .ok (.if_icmp .ne 28, 3) := by decide +kernel
theorem dX11_freeOf_13 : decode cX11_freeOf 13 = .ok (.aload_n 0, 1) := by decide +kernel
theorem dX11_freeOf_14 : decode cX11_freeOf 14 = .ok (.iconst 4, 1) := by decide +kernel
theorem dX11_freeOf_15 : decode cX11_freeOf 15 = .ok (.bipush 7, 2) := by decide +kernel
theorem dX11_freeOf_17 : decode cX11_freeOf 17 = .ok (.invokevirtual 58, 3) := by decide +kernel
theorem dX11_freeOf_20 : decode cX11_freeOf 20 = .ok (.aload_n 0, 1) := by decide +kernel
theorem dX11_freeOf_21 : decode cX11_freeOf 21 = .ok (.iload_n 1, 1) := by decide +kernel
theorem dX11_freeOf_22 : decode cX11_freeOf 22 = .ok (.invokevirtual 103, 3) := by decide +kernel
theorem dX11_freeOf_25 : decode cX11_freeOf 25 = .ok (.iconst 1, 1) := by decide +kernel
theorem dX11_freeOf_26 : decode cX11_freeOf 26 = .ok (.isub, 1) := by decide +kernel
theorem dX11_freeOf_27 : decode cX11_freeOf 27 = .ok (.istore_n 3, 1) := by decide +kernel
theorem dX11_freeOf_28 : decode cX11_freeOf 28 = .ok (.iload_n 3, 1) := by decide +kernel
theorem dX11_freeOf_29 : decode cX11_freeOf 29 = .ok (.ifCond .ge 7, 3) := by decide +kernel
theorem dX11_freeOf_32 : decode cX11_freeOf 32 = .ok (.iconst 0, 1) := by decide +kernel
theorem dX11_freeOf_33 : decode cX11_freeOf 33 = .ok (.goto 4, 3) := by decide +kernel
theorem dX11_freeOf_36 : decode cX11_freeOf 36 = .ok (.iload_n 3, 1) := by decide +kernel
theorem dX11_freeOf_37 : decode cX11_freeOf 37 = .ok (.ireturn, 1) := by decide +kernel
theorem dX11_freeOf_38 : decode cX11_freeOf 38 = .ok (.iload_n 2, 1) := by decide +kernel
theorem dX11_freeOf_39 : decode cX11_freeOf 39 = .ok (.iconst 3, 1) := by decide +kernel
theorem dX11_freeOf_40 : decode cX11_freeOf 40 = .ok (.if_icmp .eq 8, 3) := by decide +kernel
theorem dX11_freeOf_43 : decode cX11_freeOf 43 = .ok (.iload_n 2, 1) := by decide +kernel
theorem dX11_freeOf_44 : decode cX11_freeOf 44 = .ok (.iconst 5, 1) := by decide +kernel
theorem dX11_freeOf_45 : decode cX11_freeOf 45 = .ok (.if_icmp .ne 9, 3) := by decide +kernel
theorem dX11_freeOf_48 : decode cX11_freeOf 48 = .ok (.aload_n 0, 1) := by decide +kernel
theorem dX11_freeOf_49 : decode cX11_freeOf 49 = .ok (.iload_n 1, 1) := by decide +kernel
theorem dX11_freeOf_50 : decode cX11_freeOf 50 = .ok (.invokevirtual 103, 3) := by decide +kernel
theorem dX11_freeOf_53 : decode cX11_freeOf 53 = .ok (.ireturn, 1) := by decide +kernel
theorem dX11_freeOf_54 : decode cX11_freeOf 54 = .ok (.aload_n 0, 1) := by decide +kernel
theorem dX11_freeOf_55 : decode cX11_freeOf 55 = .ok (.iconst 4, 1) := by decide +kernel
theorem dX11_freeOf_56 : decode cX11_freeOf 56 = .ok (.iconst 0, 1) := by decide +kernel
theorem dX11_freeOf_57 : decode cX11_freeOf 57 = .ok (.invokevirtual 58, 3) := by decide +kernel
theorem dX11_freeOf_60 : decode cX11_freeOf 60 = .ok (.aload_n 0, 1) := by decide +kernel
theorem dX11_freeOf_61 : decode cX11_freeOf 61 = .ok (.getfield 26, 3) := by decide +kernel
theorem dX11_freeOf_64 : decode cX11_freeOf 64 = .ok (.iload_n 1, 1) := by decide +kernel
theorem dX11_freeOf_65 : decode cX11_freeOf 65 = .ok (.iaload, 1) := by decide +kernel
theorem dX11_freeOf_66 : decode cX11_freeOf 66 = .ok (.aload_n 0, 1) := by decide +kernel
theorem dX11_freeOf_67 : decode cX11_freeOf 67 = .ok (.getfield 32, 3) := by decide +kernel
theorem dX11_freeOf_70 : decode cX11_freeOf 70 = .ok (.iload_n 1, 1) := by decide +kernel
theorem dX11_freeOf_71 : decode cX11_freeOf 71 = .ok (.iaload, 1) := by decide +kernel
theorem dX11_freeOf_72 : decode cX11_freeOf 72 = .ok (.isub, 1) := by decide +kernel
theorem dX11_freeOf_73 : decode cX11_freeOf 73 = .ok (.ireturn, 1) := by decide +kernel
theorem dX11_free_0 : decode cX11_free 0 = .ok (.aload_n 0, 1) := by decide +kernel
theorem dX11_free_1 : decode cX11_free 1 = .ok (.iconst 0, 1) := by decide +kernel
theorem dX11_free_2 : decode cX11_free 2 = .ok (.putfield 41, 3) := by decide +kernel
theorem dX11_free_5 : decode cX11_free 5 = .ok (.aload_n 0, 1) := by decide +kernel
theorem dX11_free_6 : decode cX11_free 6 = .ok (.iload_n 1, 1) := by decide +kernel
theorem dX11_free_7 : decode cX11_free 7 = .ok (.invokevirtual 80, 3) := by decide +kernel
theorem dX11_free_10 : decode cX11_free 10 = .ok (.ifCond .eq 11, 3) := by decide +kernel
theorem dX11_free_13 : decode cX11_free 13 = .ok (.aload_n 0, 1) := by decide +kernel
theorem dX11_free_14 : decode cX11_free 14 = .ok (.iload_n 1, 1) := by decide +kernel
theorem dX11_free_15 : decode cX11_free 15 = .ok (.invokevirtual 106, 3) := by decide +kernel
theorem dX11_free_18 : decode cX11_free 18 = .ok (.goto 5, 3) := by decide +kernel
theorem dX11_free_21 : decode cX11_free 21 = .ok (.bipush (-101), 2) := by decide +kernel
theorem dX11_free_23 : decode cX11_free 23 = .ok (.ireturn, 1) := by decide +kernel
theorem dX11_full_0 : decode cX11_full 0 = .ok (.aload_n 0, 1) := by decide +kernel
theorem dX11_full_1 : decode cX11_full 1 = .ok (.iconst 0, 1) := by decide +kernel
theorem dX11_full_2 : decode cX11_full 2 = .ok (.putfield 41, 3) := by decide +kernel
theorem dX11_full_5 : decode cX11_full 5 = .ok (.aload_n 0, 1) := by decide +kernel
theorem dX11_full_6 : decode cX11_full 6 = .ok (.iload_n 1, 1) := by decide +kernel
theorem dX11_full_7 : decode cX11_full 7 = .ok (.invokevirtual 80, 3) := by decide +kernel
theorem dX11_full_10 : decode cX11_full 10 = .ok (.ifCond .ne 6, 3) := by decide +kernel
theorem dX11_full_13 : decode cX11_full 13 = .ok (.bipush (-101), 2) := by decide +kernel
theorem dX11_full_15 : decode cX11_full 15 = .ok (.ireturn, 1) := by decide +kernel
theorem dX11_full_16 : decode cX11_full 16 = .ok (.aload_n 0, 1) := by decide +kernel
theorem dX11_full_17 : decode cX11_full 17 = .ok (.getfield 23, 3) := by decide +kernel
theorem dX11_full_20 : decode cX11_full 20 = .ok (.iload_n 1, 1) := by decide +kernel
theorem dX11_full_21 : decode cX11_full 21 = .ok (.iaload, 1) := by decide +kernel
theorem dX11_full_22 : decode cX11_full 22 = .ok (.ifCond .ne 26, 3) := by decide +kernel
theorem dX11_full_25 : decode cX11_full 25 = .ok (.aload_n 0, 1) := by decide +kernel
theorem dX11_full_26 : decode cX11_full 26 = .ok (.getfield 32, 3) := by decide +kernel
theorem dX11_full_29 : decode cX11_full 29 = .ok (.iload_n 1, 1) := by decide +kernel
theorem dX11_full_30 : decode cX11_full 30 = .ok (.iaload, 1) := by decide +kernel
theorem dX11_full_31 : decode cX11_full 31 = .ok (.aload_n 0, 1) := by decide +kernel
theorem dX11_full_32 : decode cX11_full 32 = .ok (.getfield 26, 3) := by decide +kernel
theorem dX11_full_35 : decode cX11_full 35 = .ok (.iload_n 1, 1) := by decide +kernel
theorem dX11_full_36 : decode cX11_full 36 = .ok (.iaload, 1) := by decide +kernel
theorem dX11_full_37 : decode cX11_full 37 = .ok (.if_icmp .ne 7, 3) := by decide +kernel
theorem dX11_full_40 : decode cX11_full 40 = .ok (.iconst 1, 1) := by decide +kernel
theorem dX11_full_41 : decode cX11_full 41 = .ok (.goto 20, 3) := by decide +kernel
theorem dX11_full_44 : decode cX11_full 44 = .ok (.iconst 0, 1) := by decide +kernel
theorem dX11_full_45 : decode cX11_full 45 = .ok (.goto 16, 3) := by decide +kernel
theorem dX11_full_48 : decode cX11_full 48 = .ok (.aload_n 0, 1) := by decide +kernel
theorem dX11_full_49 : decode cX11_full 49 = .ok (.iload_n 1, 1) := by decide +kernel
theorem dX11_full_50 : decode cX11_full 50 = .ok (.invokevirtual 106, 3) := by decide +kernel
theorem dX11_full_53 : decode cX11_full 53 = .ok (.ifCond .ne 7, 3) := by decide +kernel
theorem dX11_full_56 : decode cX11_full 56 = .ok (.iconst 1, 1) := by decide +kernel
theorem dX11_full_57 : decode cX11_full 57 = .ok (.goto 4, 3) := by decide +kernel
theorem dX11_full_60 : decode cX11_full 60 = .ok (.iconst 0, 1) := by decide +kernel
theorem dX11_full_61 : decode cX11_full 61 = .ok (.istore_n 2, 1) := by decide +kernel
theorem dX11_full_62 : decode cX11_full 62 = .ok (.iload_n 2, 1) := by decide +kernel
theorem dX11_full_63 : decode cX11_full 63 = .ok (.ifCond .eq 7, 3) := by decide +kernel
theorem dX11_full_66 : decode cX11_full 66 = .ok (.iconst 1, 1) := by decide +kernel
theorem dX11_full_67 : decode cX11_full 67 = .ok (.goto 4, 3) := by decide +kernel
theorem dX11_full_70 : decode cX11_full 70 = .ok (.iconst 0, 1) := by decide +kernel
theorem dX11_full_71 : decode cX11_full 71 = .ok (.ireturn, 1) := by decide +kernel
theorem dX11_move_0 : decode cX11_move 0 = .ok (.aload_n 0, 1) := by decide +kernel
theorem dX11_move_1 : decode cX11_move 1 = .ok (.iconst 0, 1) := by decide +kernel
theorem dX11_move_2 : decode cX11_move 2 = .ok (.putfield 41, 3) := by decide +kernel
theorem dX11_move_5 : decode cX11_move 5 = .ok (.aload_n 0, 1) := by decide +kernel
theorem dX11_move_6 : decode cX11_move 6 = .ok (.iload_n 1, 1) := by decide +kernel
theorem dX11_move_7 : decode cX11_move 7 = .ok (.invokevirtual 80, 3) := by decide +kernel
theorem dX11_move_10 : decode cX11_move 10 = .ok (.ifCond .eq 11, 3) := by decide +kernel
theorem dX11_move_13 : decode cX11_move 13 = .ok (.aload_n 0, 1) := by decide +kernel
theorem dX11_move_14 : decode cX11_move 14 = .ok (.iload_n 2, 1) := by decide +kernel
theorem dX11_move_15 : decode cX11_move 15 = .ok (.invokevirtual 80, 3) := by decide +kernel
theorem dX11_move_18 : decode cX11_move 18 = .ok (.ifCond .ne 6, 3) := by decide +kernel
theorem dX11_move_21 : decode cX11_move 21 = .ok (.bipush (-101), 2) := by decide +kernel
theorem dX11_move_23 : decode cX11_move 23 = .ok (.ireturn, 1) := by decide +kernel
theorem dX11_move_24 : decode cX11_move 24 = .ok (.aload_n 0, 1) := by decide +kernel
theorem dX11_move_25 : decode cX11_move 25 = .ok (.iload_n 1, 1) := by decide +kernel
theorem dX11_move_26 : decode cX11_move 26 = .ok (.invokevirtual 96, 3) := by decide +kernel
theorem dX11_move_29 : decode cX11_move 29 = .ok (.istore_n 3, 1) := by decide +kernel
theorem dX11_move_30 : decode cX11_move 30 = .ok (.iload_n 3, 1) := by decide +kernel
theorem dX11_move_31 : decode cX11_move 31 = .ok (.iconst (-1), 1) := by decide +kernel
theorem dX11_move_32 : decode cX11_move 32 = .ok (.if_icmp .ne 5, 3) := by decide +kernel
theorem dX11_move_35 : decode cX11_move 35 = .ok (.iconst (-1), 1) := by decide +kernel
theorem dX11_move_36 : decode cX11_move 36 = .ok (.ireturn, 1) := by decide +kernel
theorem dX11_move_37 : decode cX11_move 37 = .ok (.aload_n 0, 1) := by decide +kernel
theorem dX11_move_38 : decode cX11_move 38 = .ok (.iload_n 2, 1) := by decide +kernel
theorem dX11_move_39 : decode cX11_move 39 = .ok (.iload_n 3, 1) := by decide +kernel
theorem dX11_move_40 : decode cX11_move 40 = .ok (.invokevirtual 87, 3) := by decide +kernel
theorem dX11_move_43 : decode cX11_move 43 = .ok (.ifCond .eq 7, 3) := by decide +kernel
theorem dX11_move_46 : decode cX11_move 46 = .ok (.iload_n 3, 1) := by decide +kernel
theorem dX11_move_47 : decode cX11_move 47 = .ok (.goto 7, 3) := by decide +kernel
theorem dX11_move_50 : decode cX11_move 50 = .ok (.bipush (-2), 2) := by decide +kernel
theorem dX11_move_52 : decode cX11_move 52 = .ok (.iload_n 3, 1) := by decide +kernel
theorem dX11_move_53 : decode cX11_move 53 = .ok (.isub, 1) := by decide +kernel
theorem dX11_move_54 : decode cX11_move 54 = .ok (.ireturn, 1) := by decide +kernel
theorem dX11_at_0 : decode cX11_at 0 = .ok (.aload_n 0, 1) := by decide +kernel
theorem dX11_at_1 : decode cX11_at 1 = .ok (.iconst 0, 1) := by decide +kernel
theorem dX11_at_2 : decode cX11_at 2 = .ok (.putfield 41, 3) := by decide +kernel
theorem dX11_at_5 : decode cX11_at 5 = .ok (.aload_n 0, 1) := by decide +kernel
theorem dX11_at_6 : decode cX11_at 6 = .ok (.iload_n 1, 1) := by decide +kernel
theorem dX11_at_7 : decode cX11_at 7 = .ok (.invokevirtual 80, 3) := by decide +kernel
theorem dX11_at_10 : decode cX11_at 10 = .ok (.ifCond .eq 33, 3) := by decide +kernel
theorem dX11_at_13 : decode cX11_at 13 = .ok (.iload_n 2, 1) := by decide +kernel
theorem dX11_at_14 : decode cX11_at 14 = .ok (.iconst 0, 1) := by decide +kernel
theorem dX11_at_15 : decode cX11_at 15 = .ok (.aload_n 0, 1) := by decide +kernel
theorem dX11_at_16 : decode cX11_at 16 = .ok (.getfield 32, 3) := by decide +kernel
theorem dX11_at_19 : decode cX11_at 19 = .ok (.iload_n 1, 1) := by decide +kernel
theorem dX11_at_20 : decode cX11_at 20 = .ok (.iaload, 1) := by decide +kernel
theorem dX11_at_21 : decode cX11_at 21 = .ok (.iconst 1, 1) := by decide +kernel
theorem dX11_at_22 : decode cX11_at 22 = .ok (.isub, 1) := by decide +kernel
theorem dX11_at_23 : decode cX11_at 23 = .ok (.invokestatic 48, 3) := by decide +kernel
theorem dX11_at_26 : decode cX11_at 26 = .ok (.ifCond .eq 17, 3) := by decide +kernel
theorem dX11_at_29 : decode cX11_at 29 = .ok (.aload_n 0, 1) := by decide +kernel
theorem dX11_at_30 : decode cX11_at 30 = .ok (.getfield 35, 3) := by decide +kernel
theorem dX11_at_33 : decode cX11_at 33 = .ok (.bipush 12, 2) := by decide +kernel
theorem dX11_at_35 : decode cX11_at 35 = .ok (.iload_n 1, 1) := by decide +kernel
theorem dX11_at_36 : decode cX11_at 36 = .ok (.imul, 1) := by decide +kernel
theorem dX11_at_37 : decode cX11_at 37 = .ok (.iload_n 2, 1) := by decide +kernel
theorem dX11_at_38 : decode cX11_at 38 = .ok (.iadd, 1) := by decide +kernel
theorem dX11_at_39 : decode cX11_at 39 = .ok (.iaload, 1) := by decide +kernel
theorem dX11_at_40 : decode cX11_at 40 = .ok (.goto 5, 3) := by decide +kernel
theorem dX11_at_43 : decode cX11_at 43 = .ok (.bipush (-101), 2) := by decide +kernel
theorem dX11_at_45 : decode cX11_at 45 = .ok (.ireturn, 1) := by decide +kernel
theorem dX11_of_0 : decode cX11_of 0 = .ok (.aload_n 0, 1) := by decide +kernel
theorem dX11_of_1 : decode cX11_of 1 = .ok (.iconst 0, 1) := by decide +kernel
theorem dX11_of_2 : decode cX11_of 2 = .ok (.putfield 41, 3) := by decide +kernel
theorem dX11_of_5 : decode cX11_of 5 = .ok (.aload_n 0, 1) := by decide +kernel
theorem dX11_of_6 : decode cX11_of 6 = .ok (.iload_n 1, 1) := by decide +kernel
theorem dX11_of_7 : decode cX11_of 7 = .ok (.invokevirtual 84, 3) := by decide +kernel
theorem dX11_of_10 : decode cX11_of 10 = .ok (.ifCond .ne 6, 3) := by decide +kernel
theorem dX11_of_13 : decode cX11_of 13 = .ok (.bipush (-101), 2) := by decide +kernel
theorem dX11_of_15 : decode cX11_of 15 = .ok (.ireturn, 1) := by decide +kernel
theorem dX11_of_16 : decode cX11_of 16 = .ok (.iload_n 2, 1) := by decide +kernel
theorem dX11_of_17 : decode cX11_of 17 = .ok (.tableswitch 67 0 3 #[31, 38, 45, 60], 31) := by decide +kernel
theorem dX11_of_48 : decode cX11_of 48 = .ok (.aload_n 0, 1) := by decide +kernel
theorem dX11_of_49 : decode cX11_of 49 = .ok (.getfield 7, 3) := by decide +kernel
theorem dX11_of_52 : decode cX11_of 52 = .ok (.iload_n 1, 1) := by decide +kernel
theorem dX11_of_53 : decode cX11_of 53 = .ok (.iaload, 1) := by decide +kernel
theorem dX11_of_54 : decode cX11_of 54 = .ok (.ireturn, 1) := by decide +kernel
theorem dX11_of_55 : decode cX11_of 55 = .ok (.aload_n 0, 1) := by decide +kernel
theorem dX11_of_56 : decode cX11_of 56 = .ok (.getfield 13, 3) := by decide +kernel
theorem dX11_of_59 : decode cX11_of 59 = .ok (.iload_n 1, 1) := by decide +kernel
theorem dX11_of_60 : decode cX11_of 60 = .ok (.iaload, 1) := by decide +kernel
theorem dX11_of_61 : decode cX11_of 61 = .ok (.ireturn, 1) := by decide +kernel
theorem dX11_of_62 : decode cX11_of 62 = .ok (.aload_n 0, 1) := by decide +kernel
theorem dX11_of_63 : decode cX11_of 63 = .ok (.getfield 16, 3) := by decide +kernel
theorem dX11_of_66 : decode cX11_of 66 = .ok (.iload_n 1, 1) := by decide +kernel
theorem dX11_of_67 : decode cX11_of 67 = .ok (.baload, 1) := by decide +kernel
theorem dX11_of_68 : decode cX11_of 68 = .ok (.ifCond .eq 7, 3) := by decide +kernel
theorem dX11_of_71 : decode cX11_of 71 = .ok (.iconst 1, 1) := by decide +kernel
theorem dX11_of_72 : decode cX11_of 72 = .ok (.goto 4, 3) := by decide +kernel
theorem dX11_of_75 : decode cX11_of 75 = .ok (.iconst 0, 1) := by decide +kernel
theorem dX11_of_76 : decode cX11_of 76 = .ok (.ireturn, 1) := by decide +kernel
theorem dX11_of_77 : decode cX11_of 77 = .ok (.aload_n 0, 1) := by decide +kernel
theorem dX11_of_78 : decode cX11_of 78 = .ok (.getfield 20, 3) := by decide +kernel
theorem dX11_of_81 : decode cX11_of 81 = .ok (.iload_n 1, 1) := by decide +kernel
theorem dX11_of_82 : decode cX11_of 82 = .ok (.iaload, 1) := by decide +kernel
theorem dX11_of_83 : decode cX11_of 83 = .ok (.ireturn, 1) := by decide +kernel
theorem dX11_of_84 : decode cX11_of 84 = .ok (.bipush (-102), 2) := by decide +kernel
theorem dX11_of_86 : decode cX11_of 86 = .ok (.ireturn, 1) := by decide +kernel
theorem dX11_trace_0 : decode cX11_trace 0 = .ok (.aload_n 0, 1) := by decide +kernel
theorem dX11_trace_1 : decode cX11_trace 1 = .ok (.iconst 0, 1) := by decide +kernel
theorem dX11_trace_2 : decode cX11_trace 2 = .ok (.putfield 41, 3) := by decide +kernel
theorem dX11_trace_5 : decode cX11_trace 5 = .ok (.aload_n 0, 1) := by decide +kernel
theorem dX11_trace_6 : decode cX11_trace 6 = .ok (.getfield 55, 3) := by decide +kernel
theorem dX11_trace_9 : decode cX11_trace 9 = .ok (.sipush 200, 3) := by decide +kernel
theorem dX11_trace_12 : decode cX11_trace 12 = .ok (.if_icmp .ge 10, 3) := by decide +kernel
theorem dX11_trace_15 : decode cX11_trace 15 = .ok (.aload_n 0, 1) := by decide +kernel
theorem dX11_trace_16 : decode cX11_trace 16 = .ok (.getfield 55, 3) := by decide +kernel
theorem dX11_trace_19 : decode cX11_trace 19 = .ok (.goto 6, 3) := by decide +kernel
theorem dX11_trace_22 : decode cX11_trace 22 = .ok (.sipush 200, 3) := by decide +kernel
theorem dX11_trace_25 : decode cX11_trace 25 = .ok (.istore_n 2, 1) := by decide +kernel
theorem dX11_trace_26 : decode cX11_trace 26 = .ok (.iload_n 1, 1) := by decide +kernel
theorem dX11_trace_27 : decode cX11_trace 27 = .ok (.iconst 0, 1) := by decide +kernel
theorem dX11_trace_28 : decode cX11_trace 28 = .ok (.iload_n 2, 1) := by decide +kernel
theorem dX11_trace_29 : decode cX11_trace 29 = .ok (.iconst 1, 1) := by decide +kernel
theorem dX11_trace_30 : decode cX11_trace 30 = .ok (.isub, 1) := by decide +kernel
theorem dX11_trace_31 : decode cX11_trace 31 = .ok (.invokestatic 48, 3) := by decide +kernel
theorem dX11_trace_34 : decode cX11_trace 34 = .ok (.ifCond .eq 23, 3) := by decide +kernel
theorem dX11_trace_37 : decode cX11_trace 37 = .ok (.aload_n 0, 1) := by decide +kernel
theorem dX11_trace_38 : decode cX11_trace 38 = .ok (.getfield 38, 3) := by decide +kernel
theorem dX11_trace_41 : decode cX11_trace 41 = .ok (.aload_n 0, 1) := by decide +kernel
theorem dX11_trace_42 : decode cX11_trace 42 = .ok (.getfield 55, 3) := by decide +kernel
theorem dX11_trace_45 : decode cX11_trace 45 = .ok (.iconst 1, 1) := by decide +kernel
theorem dX11_trace_46 : decode cX11_trace 46 = .ok (.isub, 1) := by decide +kernel
theorem dX11_trace_47 : decode cX11_trace 47 = .ok (.iload_n 1, 1) := by decide +kernel
theorem dX11_trace_48 : decode cX11_trace 48 = .ok (.isub, 1) := by decide +kernel
theorem dX11_trace_49 : decode cX11_trace 49 = .ok (.sipush 200, 3) := by decide +kernel
theorem dX11_trace_52 : decode cX11_trace 52 = .ok (.irem, 1) := by decide +kernel
theorem dX11_trace_53 : decode cX11_trace 53 = .ok (.iaload, 1) := by decide +kernel
theorem dX11_trace_54 : decode cX11_trace 54 = .ok (.goto 5, 3) := by decide +kernel
theorem dX11_trace_57 : decode cX11_trace 57 = .ok (.bipush (-101), 2) := by decide +kernel
theorem dX11_trace_59 : decode cX11_trace 59 = .ok (.ireturn, 1) := by decide +kernel
theorem dX11_count_0 : decode cX11_count 0 = .ok (.aload_n 0, 1) := by decide +kernel
theorem dX11_count_1 : decode cX11_count 1 = .ok (.iconst 0, 1) := by decide +kernel
theorem dX11_count_2 : decode cX11_count 2 = .ok (.putfield 41, 3) := by decide +kernel
theorem dX11_count_5 : decode cX11_count 5 = .ok (.iload_n 1, 1) := by decide +kernel
theorem dX11_count_6 : decode cX11_count 6 = .ok (.tableswitch 59 0 4 #[34, 39, 44, 49, 54], 34) := by decide +kernel
theorem dX11_count_40 : decode cX11_count 40 = .ok (.aload_n 0, 1) := by decide +kernel
theorem dX11_count_41 : decode cX11_count 41 = .ok (.getfield 45, 3) := by decide +kernel
theorem dX11_count_44 : decode cX11_count 44 = .ok (.ireturn, 1) := by decide +kernel
theorem dX11_count_45 : decode cX11_count 45 = .ok (.aload_n 0, 1) := by decide +kernel
theorem dX11_count_46 : decode cX11_count 46 = .ok (.getfield 52, 3) := by decide +kernel
theorem dX11_count_49 : decode cX11_count 49 = .ok (.ireturn, 1) := by decide +kernel
theorem dX11_count_50 : decode cX11_count 50 = .ok (.aload_n 0, 1) := by decide +kernel
theorem dX11_count_51 : decode cX11_count 51 = .ok (.getfield 55, 3) := by decide +kernel
theorem dX11_count_54 : decode cX11_count 54 = .ok (.ireturn, 1) := by decide +kernel
theorem dX11_count_55 : decode cX11_count 55 = .ok (.aload_n 0, 1) := by decide +kernel
theorem dX11_count_56 : decode cX11_count 56 = .ok (.getfield 74, 3) := by decide +kernel
theorem dX11_count_59 : decode cX11_count 59 = .ok (.ireturn, 1) := by decide +kernel
theorem dX11_count_60 : decode cX11_count 60 = .ok (.aload_n 0, 1) := by decide +kernel
theorem dX11_count_61 : decode cX11_count 61 = .ok (.getfield 93, 3) := by decide +kernel
theorem dX11_count_64 : decode cX11_count 64 = .ok (.ireturn, 1) := by decide +kernel
theorem dX11_count_65 : decode cX11_count 65 = .ok (.bipush (-102), 2) := by decide +kernel
theorem dX11_count_67 : decode cX11_count 67 = .ok (.ireturn, 1) := by decide +kernel
