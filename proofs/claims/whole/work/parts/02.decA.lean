theorem dX0_init_0 : decode cX0_init 0 = .ok (.aload_n 0, 1) := by decide +kernel
theorem dX0_init_1 : decode cX0_init 1 = .ok (.invokespecial 3, 3) := by decide +kernel
theorem dX0_init_4 : decode cX0_init 4 = .ok (.aload_n 0, 1) := by decide +kernel
theorem dX0_init_5 : decode cX0_init 5 = .ok (.bipush 20, 2) := by decide +kernel
theorem dX0_init_7 : decode cX0_init 7 = .ok (.newarray .int, 2) := by decide +kernel
theorem dX0_init_9 : decode cX0_init 9 = .ok (.putfield 9, 3) := by decide +kernel
theorem dX0_init_12 : decode cX0_init 12 = .ok (.return_, 1) := by decide +kernel
theorem dX0_clear_0 : decode cX0_clear 0 = .ok (.aload_n 0, 1) := by decide +kernel
theorem dX0_clear_1 : decode cX0_clear 1 = .ok (.iconst 0, 1) := by decide +kernel
theorem dX0_clear_2 : decode cX0_clear 2 = .ok (.putfield 15, 3) := by decide +kernel
theorem dX0_clear_5 : decode cX0_clear 5 = .ok (.return_, 1) := by decide +kernel
theorem dX0_choose_0 : decode cX0_choose 0 = .ok (.aload_n 0, 1) := by decide +kernel
theorem dX0_choose_1 : decode cX0_choose 1 = .ok (.iload_n 1, 1) := by decide +kernel
theorem dX0_choose_2 : decode cX0_choose 2 = .ok (.putfield 19, 3) := by decide +kernel
theorem dX0_choose_5 : decode cX0_choose 5 = .ok (.aload_n 0, 1) := by decide +kernel
theorem dX0_choose_6 : decode cX0_choose 6 = .ok (.iload_n 2, 1) := by decide +kernel
theorem dX0_choose_7 : decode cX0_choose 7 = .ok (.putfield 22, 3) := by decide +kernel
theorem dX0_choose_10 : decode cX0_choose 10 = .ok (.aload_n 0, 1) := by decide +kernel
theorem dX0_choose_11 : decode cX0_choose 11 = .ok (.iload_n 3, 1) := by decide +kernel
theorem dX0_choose_12 : decode cX0_choose 12 = .ok (.putfield 25, 3) := by decide +kernel
theorem dX0_choose_15 : decode cX0_choose 15 = .ok (.return_, 1) := by decide +kernel
theorem dX0_perform_0 : decode cX0_perform 0 = .ok (.iload_n 1, 1) := by decide +kernel
theorem dX0_perform_1 : decode cX0_perform 1 = .ok (.tableswitch 60 0 2 #[27, 38, 49], 27) := by decide +kernel
theorem dX0_perform_28 : decode cX0_perform 28 = .ok (.aload_n 0, 1) := by decide +kernel
theorem dX0_perform_29 : decode cX0_perform 29 = .ok (.aload_n 0, 1) := by decide +kernel
theorem dX0_perform_30 : decode cX0_perform 30 = .ok (.getfield 19, 3) := by decide +kernel
theorem dX0_perform_33 : decode cX0_perform 33 = .ok (.iload_n 2, 1) := by decide +kernel
theorem dX0_perform_34 : decode cX0_perform 34 = .ok (.iconst 0, 1) := by decide +kernel
theorem dX0_perform_35 : decode cX0_perform 35 = .ok (.invokevirtual 28, 3) := by decide +kernel
theorem dX0_perform_38 : decode cX0_perform 38 = .ok (.ireturn, 1) := by decide +kernel
theorem dX0_perform_39 : decode cX0_perform 39 = .ok (.aload_n 0, 1) := by decide +kernel
theorem dX0_perform_40 : decode cX0_perform 40 = .ok (.aload_n 0, 1) := by decide +kernel
theorem dX0_perform_41 : decode cX0_perform 41 = .ok (.getfield 19, 3) := by decide +kernel
theorem dX0_perform_44 : decode cX0_perform 44 = .ok (.iload_n 2, 1) := by decide +kernel
theorem dX0_perform_45 : decode cX0_perform 45 = .ok (.iconst 0, 1) := by decide +kernel
theorem dX0_perform_46 : decode cX0_perform 46 = .ok (.invokevirtual 32, 3) := by decide +kernel
theorem dX0_perform_49 : decode cX0_perform 49 = .ok (.ireturn, 1) := by decide +kernel
theorem dX0_perform_50 : decode cX0_perform 50 = .ok (.aload_n 0, 1) := by decide +kernel
theorem dX0_perform_51 : decode cX0_perform 51 = .ok (.aload_n 0, 1) := by decide +kernel
theorem dX0_perform_52 : decode cX0_perform 52 = .ok (.getfield 19, 3) := by decide +kernel
theorem dX0_perform_55 : decode cX0_perform 55 = .ok (.iload_n 2, 1) := by decide +kernel
theorem dX0_perform_56 : decode cX0_perform 56 = .ok (.iconst 0, 1) := by decide +kernel
theorem dX0_perform_57 : decode cX0_perform 57 = .ok (.invokevirtual 35, 3) := by decide +kernel
theorem dX0_perform_60 : decode cX0_perform 60 = .ok (.ireturn, 1) := by decide +kernel
theorem dX0_perform_61 : decode cX0_perform 61 = .ok (.iconst 0, 1) := by decide +kernel
theorem dX0_perform_62 : decode cX0_perform 62 = .ok (.ireturn, 1) := by decide +kernel
theorem dX0_begin_0 : decode cX0_begin 0 = .ok (.aload_n 0, 1) := by decide +kernel
theorem dX0_begin_1 : decode cX0_begin 1 = .ok (.getfield 15, 3) := by decide +kernel
theorem dX0_begin_4 : decode cX0_begin 4 = .ok (.bipush 20, 2) := by decide +kernel
theorem dX0_begin_6 : decode cX0_begin 6 = .ok (.if_icmp .ge 13, 3) := by decide +kernel
theorem dX0_begin_9 : decode cX0_begin 9 = .ok (.aload_n 0, 1) := by decide +kernel
theorem dX0_begin_10 : decode cX0_begin 10 = .ok (.getfield 9, 3) := by decide +kernel
theorem dX0_begin_13 : decode cX0_begin 13 = .ok (.aload_n 0, 1) := by decide +kernel
theorem dX0_begin_14 : decode cX0_begin 14 = .ok (.getfield 15, 3) := by decide +kernel
theorem dX0_begin_17 : decode cX0_begin 17 = .ok (.iload_n 1, 1) := by decide +kernel
theorem dX0_begin_18 : decode cX0_begin 18 = .ok (.iastore, 1) := by decide +kernel
theorem dX0_begin_19 : decode cX0_begin 19 = .ok (.aload_n 0, 1) := by decide +kernel
theorem dX0_begin_20 : decode cX0_begin 20 = .ok (.dup, 1) := by decide +kernel
theorem dX0_begin_21 : decode cX0_begin 21 = .ok (.getfield 15, 3) := by decide +kernel
theorem dX0_begin_24 : decode cX0_begin 24 = .ok (.iconst 1, 1) := by decide +kernel
theorem dX0_begin_25 : decode cX0_begin 25 = .ok (.iadd, 1) := by decide +kernel
theorem dX0_begin_26 : decode cX0_begin 26 = .ok (.putfield 15, 3) := by decide +kernel
theorem dX0_begin_29 : decode cX0_begin 29 = .ok (.return_, 1) := by decide +kernel
theorem dX0_runEarns_0 : decode cX0_runEarns 0 = .ok (.iload_n 3, 1) := by decide +kernel
theorem dX0_runEarns_1 : decode cX0_runEarns 1 = .ok (.bipush 40, 2) := by decide +kernel
theorem dX0_runEarns_3 : decode cX0_runEarns 3 = .ok (.if_icmp .le 5, 3) := by decide +kernel
theorem dX0_runEarns_6 : decode cX0_runEarns 6 = .ok (.iconst 0, 1) := by decide +kernel
theorem dX0_runEarns_7 : decode cX0_runEarns 7 = .ok (.ireturn, 1) := by decide +kernel
theorem dX0_runEarns_8 : decode cX0_runEarns 8 = .ok (.iload_n 1, 1) := by decide +kernel
theorem dX0_runEarns_9 : decode cX0_runEarns 9 = .ok (.tableswitch 115 1 6 #[95, 39, 95, 57, 105, 74], 39) := by decide +kernel
theorem dX0_runEarns_48 : decode cX0_runEarns 48 = .ok (.aload_n 0, 1) := by decide +kernel
theorem dX0_runEarns_49 : decode cX0_runEarns 49 = .ok (.bipush 30, 2) := by decide +kernel
theorem dX0_runEarns_51 : decode cX0_runEarns 51 = .ok (.invokevirtual 38, 3) := by decide +kernel
theorem dX0_runEarns_54 : decode cX0_runEarns 54 = .ok (.aload_n 0, 1) := by decide +kernel
theorem dX0_runEarns_55 : decode cX0_runEarns 55 = .ok (.iconst 0, 1) := by decide +kernel
theorem dX0_runEarns_56 : decode cX0_runEarns 56 = .ok (.iload_n 2, 1) := by decide +kernel
theorem dX0_runEarns_57 : decode cX0_runEarns 57 = .ok (.iconst 3, 1) := by decide +kernel
theorem dX0_runEarns_58 : decode cX0_runEarns 58 = .ok (.imul, 1) := by decide +kernel
theorem dX0_runEarns_59 : decode cX0_runEarns 59 = .ok (.iload_n 3, 1) := by decide +kernel
theorem dX0_runEarns_60 : decode cX0_runEarns 60 = .ok (.iconst 1, 1) := by decide +kernel
theorem dX0_runEarns_61 : decode cX0_runEarns 61 = .ok (.iadd, 1) := by decide +kernel
theorem dX0_runEarns_62 : decode cX0_runEarns 62 = .ok (.invokevirtual 28, 3) := by decide +kernel
theorem dX0_runEarns_65 : decode cX0_runEarns 65 = .ok (.ireturn, 1) := by decide +kernel
theorem dX0_runEarns_66 : decode cX0_runEarns 66 = .ok (.aload_n 0, 1) := by decide +kernel
theorem dX0_runEarns_67 : decode cX0_runEarns 67 = .ok (.bipush 50, 2) := by decide +kernel
theorem dX0_runEarns_69 : decode cX0_runEarns 69 = .ok (.invokevirtual 38, 3) := by decide +kernel
theorem dX0_runEarns_72 : decode cX0_runEarns 72 = .ok (.aload_n 0, 1) := by decide +kernel
theorem dX0_runEarns_73 : decode cX0_runEarns 73 = .ok (.iconst 1, 1) := by decide +kernel
theorem dX0_runEarns_74 : decode cX0_runEarns 74 = .ok (.iload_n 2, 1) := by decide +kernel
theorem dX0_runEarns_75 : decode cX0_runEarns 75 = .ok (.iload_n 3, 1) := by decide +kernel
theorem dX0_runEarns_76 : decode cX0_runEarns 76 = .ok (.iconst 1, 1) := by decide +kernel
theorem dX0_runEarns_77 : decode cX0_runEarns 77 = .ok (.iadd, 1) := by decide +kernel
theorem dX0_runEarns_78 : decode cX0_runEarns 78 = .ok (.invokevirtual 28, 3) := by decide +kernel
theorem dX0_runEarns_81 : decode cX0_runEarns 81 = .ok (.ineg, 1) := by decide +kernel
theorem dX0_runEarns_82 : decode cX0_runEarns 82 = .ok (.ireturn, 1) := by decide +kernel
theorem dX0_runEarns_83 : decode cX0_runEarns 83 = .ok (.aload_n 0, 1) := by decide +kernel
theorem dX0_runEarns_84 : decode cX0_runEarns 84 = .ok (.bipush 71, 2) := by decide +kernel
theorem dX0_runEarns_86 : decode cX0_runEarns 86 = .ok (.invokevirtual 38, 3) := by decide +kernel
theorem dX0_runEarns_89 : decode cX0_runEarns 89 = .ok (.aload_n 0, 1) := by decide +kernel
theorem dX0_runEarns_90 : decode cX0_runEarns 90 = .ok (.iconst 3, 1) := by decide +kernel
theorem dX0_runEarns_91 : decode cX0_runEarns 91 = .ok (.iload_n 2, 1) := by decide +kernel
theorem dX0_runEarns_92 : decode cX0_runEarns 92 = .ok (.iload_n 3, 1) := by decide +kernel
theorem dX0_runEarns_93 : decode cX0_runEarns 93 = .ok (.iconst 1, 1) := by decide +kernel
theorem dX0_runEarns_94 : decode cX0_runEarns 94 = .ok (.iadd, 1) := by decide +kernel
theorem dX0_runEarns_95 : decode cX0_runEarns 95 = .ok (.invokevirtual 28, 3) := by decide +kernel
theorem dX0_runEarns_98 : decode cX0_runEarns 98 = .ok (.aload_n 0, 1) := by decide +kernel
theorem dX0_runEarns_99 : decode cX0_runEarns 99 = .ok (.getfield 22, 3) := by decide +kernel
theorem dX0_runEarns_102 : decode cX0_runEarns 102 = .ok (.ixor, 1) := by decide +kernel
theorem dX0_runEarns_103 : decode cX0_runEarns 103 = .ok (.ireturn, 1) := by decide +kernel
theorem dX0_runEarns_104 : decode cX0_runEarns 104 = .ok (.aload_n 0, 1) := by decide +kernel
theorem dX0_runEarns_105 : decode cX0_runEarns 105 = .ok (.iconst 0, 1) := by decide +kernel
theorem dX0_runEarns_106 : decode cX0_runEarns 106 = .ok (.iload_n 2, 1) := by decide +kernel
theorem dX0_runEarns_107 : decode cX0_runEarns 107 = .ok (.iload_n 3, 1) := by decide +kernel
theorem dX0_runEarns_108 : decode cX0_runEarns 108 = .ok (.iconst 1, 1) := by decide +kernel
theorem dX0_runEarns_109 : decode cX0_runEarns 109 = .ok (.iadd, 1) := by decide +kernel
theorem dX0_runEarns_110 : decode cX0_runEarns 110 = .ok (.invokevirtual 28, 3) := by decide +kernel
theorem dX0_runEarns_113 : decode cX0_runEarns 113 = .ok (.ireturn, 1) := by decide +kernel
theorem dX0_runEarns_114 : decode cX0_runEarns 114 = .ok (.aload_n 0, 1) := by decide +kernel
theorem dX0_runEarns_115 : decode cX0_runEarns 115 = .ok (.iconst 2, 1) := by decide +kernel
theorem dX0_runEarns_116 : decode cX0_runEarns 116 = .ok (.iload_n 2, 1) := by decide +kernel
theorem dX0_runEarns_117 : decode cX0_runEarns 117 = .ok (.iload_n 3, 1) := by decide +kernel
theorem dX0_runEarns_118 : decode cX0_runEarns 118 = .ok (.iconst 1, 1) := by decide +kernel
theorem dX0_runEarns_119 : decode cX0_runEarns 119 = .ok (.iadd, 1) := by decide +kernel
theorem dX0_runEarns_120 : decode cX0_runEarns 120 = .ok (.invokevirtual 28, 3) := by decide +kernel
theorem dX0_runEarns_123 : decode cX0_runEarns 123 = .ok (.ireturn, 1) := by decide +kernel
theorem dX0_runEarns_124 : decode cX0_runEarns 124 = .ok (.aload_n 0, 1) := by decide +kernel
theorem dX0_runEarns_125 : decode cX0_runEarns 125 = .ok (.bipush 10, 2) := by decide +kernel
theorem dX0_runEarns_127 : decode cX0_runEarns 127 = .ok (.invokevirtual 38, 3) := by decide +kernel
theorem dX0_runEarns_130 : decode cX0_runEarns 130 = .ok (.iload_n 2, 1) := by decide +kernel
theorem dX0_runEarns_131 : decode cX0_runEarns 131 = .ok (.aload_n 0, 1) := by decide +kernel
theorem dX0_runEarns_132 : decode cX0_runEarns 132 = .ok (.getfield 25, 3) := by decide +kernel
theorem dX0_runEarns_135 : decode cX0_runEarns 135 = .ok (.iadd, 1) := by decide +kernel
theorem dX0_runEarns_136 : decode cX0_runEarns 136 = .ok (.ireturn, 1) := by decide +kernel
theorem dX0_runSays_0 : decode cX0_runSays 0 = .ok (.iload_n 3, 1) := by decide +kernel
theorem dX0_runSays_1 : decode cX0_runSays 1 = .ok (.bipush 40, 2) := by decide +kernel
theorem dX0_runSays_3 : decode cX0_runSays 3 = .ok (.if_icmp .le 5, 3) := by decide +kernel
theorem dX0_runSays_6 : decode cX0_runSays 6 = .ok (.iconst 0, 1) := by decide +kernel
theorem dX0_runSays_7 : decode cX0_runSays 7 = .ok (.ireturn, 1) := by decide +kernel
theorem dX0_runSays_8 : decode cX0_runSays 8 = .ok (.iload_n 1, 1) := by decide +kernel
theorem dX0_runSays_9 : decode cX0_runSays 9 = .ok (.tableswitch 122 1 6 #[39, 102, 102, 58, 112, 76], 39) := by decide +kernel
theorem dX0_runSays_48 : decode cX0_runSays 48 = .ok (.aload_n 0, 1) := by decide +kernel
theorem dX0_runSays_49 : decode cX0_runSays 49 = .ok (.bipush 20, 2) := by decide +kernel
theorem dX0_runSays_51 : decode cX0_runSays 51 = .ok (.invokevirtual 38, 3) := by decide +kernel
theorem dX0_runSays_54 : decode cX0_runSays 54 = .ok (.aload_n 0, 1) := by decide +kernel
theorem dX0_runSays_55 : decode cX0_runSays 55 = .ok (.iconst 0, 1) := by decide +kernel
theorem dX0_runSays_56 : decode cX0_runSays 56 = .ok (.iload_n 2, 1) := by decide +kernel
theorem dX0_runSays_57 : decode cX0_runSays 57 = .ok (.iload_n 3, 1) := by decide +kernel
theorem dX0_runSays_58 : decode cX0_runSays 58 = .ok (.iconst 1, 1) := by decide +kernel
theorem dX0_runSays_59 : decode cX0_runSays 59 = .ok (.iadd, 1) := by decide +kernel
theorem dX0_runSays_60 : decode cX0_runSays 60 = .ok (.invokevirtual 32, 3) := by decide +kernel
theorem dX0_runSays_63 : decode cX0_runSays 63 = .ok (.bipush 6, 2) := by decide +kernel
theorem dX0_runSays_65 : decode cX0_runSays 65 = .ok (.ixor, 1) := by decide +kernel
theorem dX0_runSays_66 : decode cX0_runSays 66 = .ok (.ireturn, 1) := by decide +kernel
theorem dX0_runSays_67 : decode cX0_runSays 67 = .ok (.aload_n 0, 1) := by decide +kernel
theorem dX0_runSays_68 : decode cX0_runSays 68 = .ok (.bipush 51, 2) := by decide +kernel
theorem dX0_runSays_70 : decode cX0_runSays 70 = .ok (.invokevirtual 38, 3) := by decide +kernel
theorem dX0_runSays_73 : decode cX0_runSays 73 = .ok (.aload_n 0, 1) := by decide +kernel
theorem dX0_runSays_74 : decode cX0_runSays 74 = .ok (.iconst 1, 1) := by decide +kernel
theorem dX0_runSays_75 : decode cX0_runSays 75 = .ok (.iload_n 2, 1) := by decide +kernel
theorem dX0_runSays_76 : decode cX0_runSays 76 = .ok (.iconst 1, 1) := by decide +kernel
theorem dX0_runSays_77 : decode cX0_runSays 77 = .ok (.iadd, 1) := by decide +kernel
theorem dX0_runSays_78 : decode cX0_runSays 78 = .ok (.iload_n 3, 1) := by decide +kernel
theorem dX0_runSays_79 : decode cX0_runSays 79 = .ok (.iconst 1, 1) := by decide +kernel
theorem dX0_runSays_80 : decode cX0_runSays 80 = .ok (.iadd, 1) := by decide +kernel
theorem dX0_runSays_81 : decode cX0_runSays 81 = .ok (.invokevirtual 32, 3) := by decide +kernel
theorem dX0_runSays_84 : decode cX0_runSays 84 = .ok (.ireturn, 1) := by decide +kernel
theorem dX0_runSays_85 : decode cX0_runSays 85 = .ok (.aload_n 0, 1) := by decide +kernel
theorem dX0_runSays_86 : decode cX0_runSays 86 = .ok (.bipush 70, 2) := by decide +kernel
theorem dX0_runSays_88 : decode cX0_runSays 88 = .ok (.invokevirtual 38, 3) := by decide +kernel
theorem dX0_runSays_91 : decode cX0_runSays 91 = .ok (.aload_n 0, 1) := by decide +kernel
theorem dX0_runSays_92 : decode cX0_runSays 92 = .ok (.iconst 3, 1) := by decide +kernel
theorem dX0_runSays_93 : decode cX0_runSays 93 = .ok (.iload_n 2, 1) := by decide +kernel
theorem dX0_runSays_94 : decode cX0_runSays 94 = .ok (.iload_n 3, 1) := by decide +kernel
theorem dX0_runSays_95 : decode cX0_runSays 95 = .ok (.iconst 1, 1) := by decide +kernel
theorem dX0_runSays_96 : decode cX0_runSays 96 = .ok (.iadd, 1) := by decide +kernel
theorem dX0_runSays_97 : decode cX0_runSays 97 = .ok (.invokevirtual 32, 3) := by decide +kernel
theorem dX0_runSays_100 : decode cX0_runSays 100 = .ok (.aload_n 0, 1) := by decide +kernel
theorem dX0_runSays_101 : decode cX0_runSays 101 = .ok (.iconst 3, 1) := by decide +kernel
theorem dX0_runSays_102 : decode cX0_runSays 102 = .ok (.iconst 2, 1) := by decide +kernel
theorem dX0_runSays_103 : decode cX0_runSays 103 = .ok (.iload_n 3, 1) := by decide +kernel
theorem dX0_runSays_104 : decode cX0_runSays 104 = .ok (.iconst 1, 1) := by decide +kernel
theorem dX0_runSays_105 : decode cX0_runSays 105 = .ok (.iadd, 1) := by decide +kernel
theorem dX0_runSays_106 : decode cX0_runSays 106 = .ok (.invokevirtual 28, 3) := by decide +kernel
theorem dX0_runSays_109 : decode cX0_runSays 109 = .ok (.iadd, 1) := by decide +kernel
theorem dX0_runSays_110 : decode cX0_runSays 110 = .ok (.ireturn, 1) := by decide +kernel
theorem dX0_runSays_111 : decode cX0_runSays 111 = .ok (.aload_n 0, 1) := by decide +kernel
theorem dX0_runSays_112 : decode cX0_runSays 112 = .ok (.iconst 0, 1) := by decide +kernel
theorem dX0_runSays_113 : decode cX0_runSays 113 = .ok (.iload_n 2, 1) := by decide +kernel
theorem dX0_runSays_114 : decode cX0_runSays 114 = .ok (.iload_n 3, 1) := by decide +kernel
theorem dX0_runSays_115 : decode cX0_runSays 115 = .ok (.iconst 1, 1) := by decide +kernel
theorem dX0_runSays_116 : decode cX0_runSays 116 = .ok (.iadd, 1) := by decide +kernel
theorem dX0_runSays_117 : decode cX0_runSays 117 = .ok (.invokevirtual 32, 3) := by decide +kernel
theorem dX0_runSays_120 : decode cX0_runSays 120 = .ok (.ireturn, 1) := by decide +kernel
theorem dX0_runSays_121 : decode cX0_runSays 121 = .ok (.aload_n 0, 1) := by decide +kernel
theorem dX0_runSays_122 : decode cX0_runSays 122 = .ok (.iconst 2, 1) := by decide +kernel
theorem dX0_runSays_123 : decode cX0_runSays 123 = .ok (.iload_n 2, 1) := by decide +kernel
theorem dX0_runSays_124 : decode cX0_runSays 124 = .ok (.iload_n 3, 1) := by decide +kernel
theorem dX0_runSays_125 : decode cX0_runSays 125 = .ok (.iconst 1, 1) := by decide +kernel
theorem dX0_runSays_126 : decode cX0_runSays 126 = .ok (.iadd, 1) := by decide +kernel
theorem dX0_runSays_127 : decode cX0_runSays 127 = .ok (.invokevirtual 32, 3) := by decide +kernel
theorem dX0_runSays_130 : decode cX0_runSays 130 = .ok (.ireturn, 1) := by decide +kernel
theorem dX0_runSays_131 : decode cX0_runSays 131 = .ok (.aload_n 0, 1) := by decide +kernel
theorem dX0_runSays_132 : decode cX0_runSays 132 = .ok (.bipush 11, 2) := by decide +kernel
theorem dX0_runSays_134 : decode cX0_runSays 134 = .ok (.invokevirtual 38, 3) := by decide +kernel
theorem dX0_runSays_137 : decode cX0_runSays 137 = .ok (.aload_n 0, 1) := by decide +kernel
theorem dX0_runSays_138 : decode cX0_runSays 138 = .ok (.aload_n 0, 1) := by decide +kernel
theorem dX0_runSays_139 : decode cX0_runSays 139 = .ok (.getfield 19, 3) := by decide +kernel
theorem dX0_runSays_142 : decode cX0_runSays 142 = .ok (.iload_n 2, 1) := by decide +kernel
theorem dX0_runSays_143 : decode cX0_runSays 143 = .ok (.iload_n 3, 1) := by decide +kernel
theorem dX0_runSays_144 : decode cX0_runSays 144 = .ok (.iconst 1, 1) := by decide +kernel
theorem dX0_runSays_145 : decode cX0_runSays 145 = .ok (.iadd, 1) := by decide +kernel
theorem dX0_runSays_146 : decode cX0_runSays 146 = .ok (.invokevirtual 28, 3) := by decide +kernel
theorem dX0_runSays_149 : decode cX0_runSays 149 = .ok (.aload_n 0, 1) := by decide +kernel
theorem dX0_runSays_150 : decode cX0_runSays 150 = .ok (.getfield 22, 3) := by decide +kernel
theorem dX0_runSays_153 : decode cX0_runSays 153 = .ok (.isub, 1) := by decide +kernel
theorem dX0_runSays_154 : decode cX0_runSays 154 = .ok (.ireturn, 1) := by decide +kernel
theorem dX0_runTells_0 : decode cX0_runTells 0 = .ok (.iload_n 3, 1) := by decide +kernel
theorem dX0_runTells_1 : decode cX0_runTells 1 = .ok (.bipush 40, 2) := by decide +kernel
theorem dX0_runTells_3 : decode cX0_runTells 3 = .ok (.if_icmp .le 5, 3) := by decide +kernel
theorem dX0_runTells_6 : decode cX0_runTells 6 = .ok (.iconst 0, 1) := by decide +kernel
theorem dX0_runTells_7 : decode cX0_runTells 7 = .ok (.ireturn, 1) := by decide +kernel
theorem dX0_runTells_8 : decode cX0_runTells 8 = .ok (.iload_n 1, 1) := by decide +kernel
theorem dX0_runTells_9 : decode cX0_runTells 9 = .ok (.tableswitch 119 1 6 #[89, 89, 39, 99, 68, 109], 39) := by decide +kernel
theorem dX0_runTells_48 : decode cX0_runTells 48 = .ok (.aload_n 0, 1) := by decide +kernel
theorem dX0_runTells_49 : decode cX0_runTells 49 = .ok (.bipush 40, 2) := by decide +kernel
theorem dX0_runTells_51 : decode cX0_runTells 51 = .ok (.invokevirtual 38, 3) := by decide +kernel
theorem dX0_runTells_54 : decode cX0_runTells 54 = .ok (.aload_n 0, 1) := by decide +kernel
theorem dX0_runTells_55 : decode cX0_runTells 55 = .ok (.iconst 0, 1) := by decide +kernel
theorem dX0_runTells_56 : decode cX0_runTells 56 = .ok (.iload_n 2, 1) := by decide +kernel
theorem dX0_runTells_57 : decode cX0_runTells 57 = .ok (.iload_n 3, 1) := by decide +kernel
theorem dX0_runTells_58 : decode cX0_runTells 58 = .ok (.iconst 1, 1) := by decide +kernel
theorem dX0_runTells_59 : decode cX0_runTells 59 = .ok (.iadd, 1) := by decide +kernel
theorem dX0_runTells_60 : decode cX0_runTells 60 = .ok (.invokevirtual 35, 3) := by decide +kernel
theorem dX0_runTells_63 : decode cX0_runTells 63 = .ok (.aload_n 0, 1) := by decide +kernel
theorem dX0_runTells_64 : decode cX0_runTells 64 = .ok (.aload_n 0, 1) := by decide +kernel
theorem dX0_runTells_65 : decode cX0_runTells 65 = .ok (.getfield 19, 3) := by decide +kernel
theorem dX0_runTells_68 : decode cX0_runTells 68 = .ok (.iconst 1, 1) := by decide +kernel
theorem dX0_runTells_69 : decode cX0_runTells 69 = .ok (.iload_n 3, 1) := by decide +kernel
theorem dX0_runTells_70 : decode cX0_runTells 70 = .ok (.iconst 1, 1) := by decide +kernel
theorem dX0_runTells_71 : decode cX0_runTells 71 = .ok (.iadd, 1) := by decide +kernel
theorem dX0_runTells_72 : decode cX0_runTells 72 = .ok (.invokevirtual 32, 3) := by decide +kernel
theorem dX0_runTells_75 : decode cX0_runTells 75 = .ok (.iadd, 1) := by decide +kernel
theorem dX0_runTells_76 : decode cX0_runTells 76 = .ok (.ireturn, 1) := by decide +kernel
theorem dX0_runTells_77 : decode cX0_runTells 77 = .ok (.aload_n 0, 1) := by decide +kernel
theorem dX0_runTells_78 : decode cX0_runTells 78 = .ok (.bipush 60, 2) := by decide +kernel
theorem dX0_runTells_80 : decode cX0_runTells 80 = .ok (.invokevirtual 38, 3) := by decide +kernel
theorem dX0_runTells_83 : decode cX0_runTells 83 = .ok (.aload_n 0, 1) := by decide +kernel
theorem dX0_runTells_84 : decode cX0_runTells 84 = .ok (.iconst 2, 1) := by decide +kernel
theorem dX0_runTells_85 : decode cX0_runTells 85 = .ok (.iload_n 2, 1) := by decide +kernel
theorem dX0_runTells_86 : decode cX0_runTells 86 = .ok (.aload_n 0, 1) := by decide +kernel
theorem dX0_runTells_87 : decode cX0_runTells 87 = .ok (.getfield 25, 3) := by decide +kernel
theorem dX0_runTells_90 : decode cX0_runTells 90 = .ok (.isub, 1) := by decide +kernel
theorem dX0_runTells_91 : decode cX0_runTells 91 = .ok (.iload_n 3, 1) := by decide +kernel
theorem dX0_runTells_92 : decode cX0_runTells 92 = .ok (.iconst 1, 1) := by decide +kernel
theorem dX0_runTells_93 : decode cX0_runTells 93 = .ok (.iadd, 1) := by decide +kernel
theorem dX0_runTells_94 : decode cX0_runTells 94 = .ok (.invokevirtual 35, 3) := by decide +kernel
theorem dX0_runTells_97 : decode cX0_runTells 97 = .ok (.ireturn, 1) := by decide +kernel
theorem dX0_runTells_98 : decode cX0_runTells 98 = .ok (.aload_n 0, 1) := by decide +kernel
theorem dX0_runTells_99 : decode cX0_runTells 99 = .ok (.iconst 0, 1) := by decide +kernel
theorem dX0_runTells_100 : decode cX0_runTells 100 = .ok (.iload_n 2, 1) := by decide +kernel
theorem dX0_runTells_101 : decode cX0_runTells 101 = .ok (.iload_n 3, 1) := by decide +kernel
theorem dX0_runTells_102 : decode cX0_runTells 102 = .ok (.iconst 1, 1) := by decide +kernel
theorem dX0_runTells_103 : decode cX0_runTells 103 = .ok (.iadd, 1) := by decide +kernel
theorem dX0_runTells_104 : decode cX0_runTells 104 = .ok (.invokevirtual 35, 3) := by decide +kernel
theorem dX0_runTells_107 : decode cX0_runTells 107 = .ok (.ireturn, 1) := by decide +kernel
theorem dX0_runTells_108 : decode cX0_runTells 108 = .ok (.aload_n 0, 1) := by decide +kernel
theorem dX0_runTells_109 : decode cX0_runTells 109 = .ok (.iconst 1, 1) := by decide +kernel
theorem dX0_runTells_110 : decode cX0_runTells 110 = .ok (.iload_n 2, 1) := by decide +kernel
theorem dX0_runTells_111 : decode cX0_runTells 111 = .ok (.iload_n 3, 1) := by decide +kernel
theorem dX0_runTells_112 : decode cX0_runTells 112 = .ok (.iconst 1, 1) := by decide +kernel
theorem dX0_runTells_113 : decode cX0_runTells 113 = .ok (.iadd, 1) := by decide +kernel
theorem dX0_runTells_114 : decode cX0_runTells 114 = .ok (.invokevirtual 35, 3) := by decide +kernel
theorem dX0_runTells_117 : decode cX0_runTells 117 = .ok (.ireturn, 1) := by decide +kernel
theorem dX0_runTells_118 : decode cX0_runTells 118 = .ok (.aload_n 0, 1) := by decide +kernel
theorem dX0_runTells_119 : decode cX0_runTells 119 = .ok (.iconst 3, 1) := by decide +kernel
theorem dX0_runTells_120 : decode cX0_runTells 120 = .ok (.iload_n 2, 1) := by decide +kernel
theorem dX0_runTells_121 : decode cX0_runTells 121 = .ok (.iload_n 3, 1) := by decide +kernel
theorem dX0_runTells_122 : decode cX0_runTells 122 = .ok (.iconst 1, 1) := by decide +kernel
theorem dX0_runTells_123 : decode cX0_runTells 123 = .ok (.iadd, 1) := by decide +kernel
theorem dX0_runTells_124 : decode cX0_runTells 124 = .ok (.invokevirtual 35, 3) := by decide +kernel
theorem dX0_runTells_127 : decode cX0_runTells 127 = .ok (.ireturn, 1) := by decide +kernel
theorem dX0_runTells_128 : decode cX0_runTells 128 = .ok (.aload_n 0, 1) := by decide +kernel
theorem dX0_runTells_129 : decode cX0_runTells 129 = .ok (.bipush 12, 2) := by decide +kernel
theorem dX0_runTells_131 : decode cX0_runTells 131 = .ok (.invokevirtual 38, 3) := by decide +kernel
theorem dX0_runTells_134 : decode cX0_runTells 134 = .ok (.aload_n 0, 1) := by decide +kernel
theorem dX0_runTells_135 : decode cX0_runTells 135 = .ok (.aload_n 0, 1) := by decide +kernel
theorem dX0_runTells_136 : decode cX0_runTells 136 = .ok (.getfield 19, 3) := by decide +kernel
theorem dX0_runTells_139 : decode cX0_runTells 139 = .ok (.iload_n 2, 1) := by decide +kernel
theorem dX0_runTells_140 : decode cX0_runTells 140 = .ok (.iload_n 3, 1) := by decide +kernel
theorem dX0_runTells_141 : decode cX0_runTells 141 = .ok (.iconst 1, 1) := by decide +kernel
theorem dX0_runTells_142 : decode cX0_runTells 142 = .ok (.iadd, 1) := by decide +kernel
theorem dX0_runTells_143 : decode cX0_runTells 143 = .ok (.invokevirtual 32, 3) := by decide +kernel
theorem dX0_runTells_146 : decode cX0_runTells 146 = .ok (.iconst 2, 1) := by decide +kernel
theorem dX0_runTells_147 : decode cX0_runTells 147 = .ok (.imul, 1) := by decide +kernel
theorem dX0_runTells_148 : decode cX0_runTells 148 = .ok (.ireturn, 1) := by decide +kernel
theorem dX1_init_0 : decode cX1_init 0 = .ok (.aload_n 0, 1) := by decide +kernel
theorem dX1_init_1 : decode cX1_init 1 = .ok (.invokespecial 3, 3) := by decide +kernel
theorem dX1_init_4 : decode cX1_init 4 = .ok (.aload_n 0, 1) := by decide +kernel
theorem dX1_init_5 : decode cX1_init 5 = .ok (.bipush 8, 2) := by decide +kernel
theorem dX1_init_7 : decode cX1_init 7 = .ok (.newarray .int, 2) := by decide +kernel
theorem dX1_init_9 : decode cX1_init 9 = .ok (.putfield 9, 3) := by decide +kernel
theorem dX1_init_12 : decode cX1_init 12 = .ok (.aload_n 0, 1) := by decide +kernel
theorem dX1_init_13 : decode cX1_init 13 = .ok (.bipush 8, 2) := by decide +kernel
theorem dX1_init_15 : decode cX1_init 15 = .ok (.newarray .int, 2) := by decide +kernel
theorem dX1_init_17 : decode cX1_init 17 = .ok (.putfield 15, 3) := by decide +kernel
theorem dX1_init_20 : decode cX1_init 20 = .ok (.aload_n 0, 1) := by decide +kernel
theorem dX1_init_21 : decode cX1_init 21 = .ok (.bipush 12, 2) := by decide +kernel
theorem dX1_init_23 : decode cX1_init 23 = .ok (.newarray .int, 2) := by decide +kernel
theorem dX1_init_25 : decode cX1_init 25 = .ok (.putfield 18, 3) := by decide +kernel
theorem dX1_init_28 : decode cX1_init 28 = .ok (.return_, 1) := by decide +kernel
theorem dX1_takeFrom_0 : decode cX1_takeFrom 0 = .ok (.aload_n 0, 1) := by decide +kernel
theorem dX1_takeFrom_1 : decode cX1_takeFrom 1 = .ok (.aload_n 1, 1) := by decide +kernel
theorem dX1_takeFrom_2 : decode cX1_takeFrom 2 = .ok (.getfield 21, 3) := by decide +kernel
theorem dX1_takeFrom_5 : decode cX1_takeFrom 5 = .ok (.putfield 21, 3) := by decide +kernel
theorem dX1_takeFrom_8 : decode cX1_takeFrom 8 = .ok (.aload_n 1, 1) := by decide +kernel
theorem dX1_takeFrom_9 : decode cX1_takeFrom 9 = .ok (.getfield 9, 3) := by decide +kernel
theorem dX1_takeFrom_12 : decode cX1_takeFrom 12 = .ok (.iconst 0, 1) := by decide +kernel
theorem dX1_takeFrom_13 : decode cX1_takeFrom 13 = .ok (.aload_n 0, 1) := by decide +kernel
theorem dX1_takeFrom_14 : decode cX1_takeFrom 14 = .ok (.getfield 9, 3) := by decide +kernel
theorem dX1_takeFrom_17 : decode cX1_takeFrom 17 = .ok (.iconst 0, 1) := by decide +kernel
theorem dX1_takeFrom_18 : decode cX1_takeFrom 18 = .ok (.bipush 8, 2) := by decide +kernel
theorem dX1_takeFrom_20 : decode cX1_takeFrom 20 = .ok (.invokestatic 25, 3) := by decide +kernel
theorem dX1_takeFrom_23 : decode cX1_takeFrom 23 = .ok (.aload_n 1, 1) := by decide +kernel
theorem dX1_takeFrom_24 : decode cX1_takeFrom 24 = .ok (.getfield 15, 3) := by decide +kernel
theorem dX1_takeFrom_27 : decode cX1_takeFrom 27 = .ok (.iconst 0, 1) := by decide +kernel
theorem dX1_takeFrom_28 : decode cX1_takeFrom 28 = .ok (.aload_n 0, 1) := by decide +kernel
theorem dX1_takeFrom_29 : decode cX1_takeFrom 29 = .ok (.getfield 15, 3) := by decide +kernel
theorem dX1_takeFrom_32 : decode cX1_takeFrom 32 = .ok (.iconst 0, 1) := by decide +kernel
theorem dX1_takeFrom_33 : decode cX1_takeFrom 33 = .ok (.bipush 8, 2) := by decide +kernel
theorem dX1_takeFrom_35 : decode cX1_takeFrom 35 = .ok (.invokestatic 25, 3) := by decide +kernel
theorem dX1_takeFrom_38 : decode cX1_takeFrom 38 = .ok (.aload_n 0, 1) := by decide +kernel
theorem dX1_takeFrom_39 : decode cX1_takeFrom 39 = .ok (.aload_n 1, 1) := by decide +kernel
theorem dX1_takeFrom_40 : decode cX1_takeFrom 40 = .ok (.getfield 31, 3) := by decide +kernel
theorem dX1_takeFrom_43 : decode cX1_takeFrom 43 = .ok (.putfield 31, 3) := by decide +kernel
theorem dX1_takeFrom_46 : decode cX1_takeFrom 46 = .ok (.aload_n 1, 1) := by decide +kernel
theorem dX1_takeFrom_47 : decode cX1_takeFrom 47 = .ok (.getfield 18, 3) := by decide +kernel
theorem dX1_takeFrom_50 : decode cX1_takeFrom 50 = .ok (.iconst 0, 1) := by decide +kernel
theorem dX1_takeFrom_51 : decode cX1_takeFrom 51 = .ok (.aload_n 0, 1) := by decide +kernel
theorem dX1_takeFrom_52 : decode cX1_takeFrom 52 = .ok (.getfield 18, 3) := by decide +kernel
theorem dX1_takeFrom_55 : decode cX1_takeFrom 55 = .ok (.iconst 0, 1) := by decide +kernel
theorem dX1_takeFrom_56 : decode cX1_takeFrom 56 = .ok (.bipush 12, 2) := by decide +kernel
theorem dX1_takeFrom_58 : decode cX1_takeFrom 58 = .ok (.invokestatic 25, 3) := by decide +kernel
theorem dX1_takeFrom_61 : decode cX1_takeFrom 61 = .ok (.return_, 1) := by decide +kernel
theorem dX1_addSeen_0 : decode cX1_addSeen 0 = .ok (.aload_n 0, 1) := by decide +kernel
theorem dX1_addSeen_1 : decode cX1_addSeen 1 = .ok (.getfield 21, 3) := by decide +kernel
theorem dX1_addSeen_4 : decode cX1_addSeen 4 = .ok (.bipush 8, 2) := by decide +kernel
theorem dX1_addSeen_6 : decode cX1_addSeen 6 = .ok (.if_icmp .lt 6, 3) := by decide +kernel
theorem dX1_addSeen_9 : decode cX1_addSeen 9 = .ok (.bipush (-4), 2) := by decide +kernel
theorem dX1_addSeen_11 : decode cX1_addSeen 11 = .ok (.ireturn, 1) := by decide +kernel
theorem dX1_addSeen_12 : decode cX1_addSeen 12 = .ok (.aload_n 0, 1) := by decide +kernel
theorem dX1_addSeen_13 : decode cX1_addSeen 13 = .ok (.getfield 9, 3) := by decide +kernel
theorem dX1_addSeen_16 : decode cX1_addSeen 16 = .ok (.aload_n 0, 1) := by decide +kernel
theorem dX1_addSeen_17 : decode cX1_addSeen 17 = .ok (.getfield 21, 3) := by decide +kernel
theorem dX1_addSeen_20 : decode cX1_addSeen 20 = .ok (.iload_n 1, 1) := by decide +kernel
theorem dX1_addSeen_21 : decode cX1_addSeen 21 = .ok (.iastore, 1) := by decide +kernel
theorem dX1_addSeen_22 : decode cX1_addSeen 22 = .ok (.aload_n 0, 1) := by decide +kernel
theorem dX1_addSeen_23 : decode cX1_addSeen 23 = .ok (.getfield 15, 3) := by decide +kernel
theorem dX1_addSeen_26 : decode cX1_addSeen 26 = .ok (.aload_n 0, 1) := by decide +kernel
theorem dX1_addSeen_27 : decode cX1_addSeen 27 = .ok (.getfield 21, 3) := by decide +kernel
theorem dX1_addSeen_30 : decode cX1_addSeen 30 = .ok (.iload_n 2, 1) := by decide +kernel
theorem dX1_addSeen_31 : decode cX1_addSeen 31 = .ok (.iastore, 1) := by decide +kernel
theorem dX1_addSeen_32 : decode cX1_addSeen 32 = .ok (.aload_n 0, 1) := by decide +kernel
theorem dX1_addSeen_33 : decode cX1_addSeen 33 = .ok (.dup, 1) := by decide +kernel
theorem dX1_addSeen_34 : decode cX1_addSeen 34 = .ok (.getfield 21, 3) := by decide +kernel
theorem dX1_addSeen_37 : decode cX1_addSeen 37 = .ok (.iconst 1, 1) := by decide +kernel
theorem dX1_addSeen_38 : decode cX1_addSeen 38 = .ok (.iadd, 1) := by decide +kernel
theorem dX1_addSeen_39 : decode cX1_addSeen 39 = .ok (.putfield 21, 3) := by decide +kernel
theorem dX1_addSeen_42 : decode cX1_addSeen 42 = .ok (.aload_n 0, 1) := by decide +kernel
theorem dX1_addSeen_43 : decode cX1_addSeen 43 = .ok (.getfield 21, 3) := by decide +kernel
theorem dX1_addSeen_46 : decode cX1_addSeen 46 = .ok (.ireturn, 1) := by decide +kernel
theorem dX1_addBook_0 : decode cX1_addBook 0 = .ok (.aload_n 0, 1) := by decide +kernel
theorem dX1_addBook_1 : decode cX1_addBook 1 = .ok (.getfield 31, 3) := by decide +kernel
theorem dX1_addBook_4 : decode cX1_addBook 4 = .ok (.bipush 12, 2) := by decide +kernel
theorem dX1_addBook_6 : decode cX1_addBook 6 = .ok (.if_icmp .lt 6, 3) := by decide +kernel
theorem dX1_addBook_9 : decode cX1_addBook 9 = .ok (.bipush (-4), 2) := by decide +kernel
theorem dX1_addBook_11 : decode cX1_addBook 11 = .ok (.ireturn, 1) := by decide +kernel
theorem dX1_addBook_12 : decode cX1_addBook 12 = .ok (.aload_n 0, 1) := by decide +kernel
theorem dX1_addBook_13 : decode cX1_addBook 13 = .ok (.getfield 18, 3) := by decide +kernel
theorem dX1_addBook_16 : decode cX1_addBook 16 = .ok (.aload_n 0, 1) := by decide +kernel
theorem dX1_addBook_17 : decode cX1_addBook 17 = .ok (.getfield 31, 3) := by decide +kernel
theorem dX1_addBook_20 : decode cX1_addBook 20 = .ok (.iload_n 1, 1) := by decide +kernel
theorem dX1_addBook_21 : decode cX1_addBook 21 = .ok (.iastore, 1) := by decide +kernel
theorem dX1_addBook_22 : decode cX1_addBook 22 = .ok (.aload_n 0, 1) := by decide +kernel
theorem dX1_addBook_23 : decode cX1_addBook 23 = .ok (.dup, 1) := by decide +kernel
theorem dX1_addBook_24 : decode cX1_addBook 24 = .ok (.getfield 31, 3) := by decide +kernel
theorem dX1_addBook_27 : decode cX1_addBook 27 = .ok (.iconst 1, 1) := by decide +kernel
theorem dX1_addBook_28 : decode cX1_addBook 28 = .ok (.iadd, 1) := by decide +kernel
theorem dX1_addBook_29 : decode cX1_addBook 29 = .ok (.putfield 31, 3) := by decide +kernel
theorem dX1_addBook_32 : decode cX1_addBook 32 = .ok (.aload_n 0, 1) := by decide +kernel
theorem dX1_addBook_33 : decode cX1_addBook 33 = .ok (.getfield 31, 3) := by decide +kernel
theorem dX1_addBook_36 : decode cX1_addBook 36 = .ok (.ireturn, 1) := by decide +kernel
theorem dX2_init_0 : decode cX2_init 0 = .ok (.aload_n 0, 1) := by decide +kernel
theorem dX2_init_1 : decode cX2_init 1 = .ok (.invokespecial 3, 3) := by decide +kernel
theorem dX2_init_4 : decode cX2_init 4 = .ok (.aload_n 0, 1) := by decide +kernel
theorem dX2_init_5 : decode cX2_init 5 = .ok (.bipush 10, 2) := by decide +kernel
theorem dX2_init_7 : decode cX2_init 7 = .ok (.newarray .int, 2) := by decide +kernel
theorem dX2_init_9 : decode cX2_init 9 = .ok (.putfield 9, 3) := by decide +kernel
theorem dX2_init_12 : decode cX2_init 12 = .ok (.aload_n 0, 1) := by decide +kernel
theorem dX2_init_13 : decode cX2_init 13 = .ok (.bipush 10, 2) := by decide +kernel
theorem dX2_init_15 : decode cX2_init 15 = .ok (.newarray .int, 2) := by decide +kernel
theorem dX2_init_17 : decode cX2_init 17 = .ok (.putfield 15, 3) := by decide +kernel
theorem dX2_init_20 : decode cX2_init 20 = .ok (.aload_n 0, 1) := by decide +kernel
theorem dX2_init_21 : decode cX2_init 21 = .ok (.bipush 100, 2) := by decide +kernel
theorem dX2_init_23 : decode cX2_init 23 = .ok (.newarray .int, 2) := by decide +kernel
theorem dX2_init_25 : decode cX2_init 25 = .ok (.putfield 18, 3) := by decide +kernel
theorem dX2_init_28 : decode cX2_init 28 = .ok (.aload_n 0, 1) := by decide +kernel
theorem dX2_init_29 : decode cX2_init 29 = .ok (.bipush 100, 2) := by decide +kernel
theorem dX2_init_31 : decode cX2_init 31 = .ok (.newarray .int, 2) := by decide +kernel
theorem dX2_init_33 : decode cX2_init 33 = .ok (.putfield 21, 3) := by decide +kernel
theorem dX2_init_36 : decode cX2_init 36 = .ok (.aload_n 0, 1) := by decide +kernel
theorem dX2_init_37 : decode cX2_init 37 = .ok (.bipush 100, 2) := by decide +kernel
theorem dX2_init_39 : decode cX2_init 39 = .ok (.newarray .int, 2) := by decide +kernel
theorem dX2_init_41 : decode cX2_init 41 = .ok (.putfield 24, 3) := by decide +kernel
theorem dX2_init_44 : decode cX2_init 44 = .ok (.return_, 1) := by decide +kernel
theorem dX2_clear_0 : decode cX2_clear 0 = .ok (.aload_n 0, 1) := by decide +kernel
theorem dX2_clear_1 : decode cX2_clear 1 = .ok (.iconst 0, 1) := by decide +kernel
theorem dX2_clear_2 : decode cX2_clear 2 = .ok (.putfield 27, 3) := by decide +kernel
theorem dX2_clear_5 : decode cX2_clear 5 = .ok (.aload_n 0, 1) := by decide +kernel
theorem dX2_clear_6 : decode cX2_clear 6 = .ok (.iconst 0, 1) := by decide +kernel
theorem dX2_clear_7 : decode cX2_clear 7 = .ok (.putfield 31, 3) := by decide +kernel
theorem dX2_clear_10 : decode cX2_clear 10 = .ok (.aload_n 0, 1) := by decide +kernel
theorem dX2_clear_11 : decode cX2_clear 11 = .ok (.iconst 0, 1) := by decide +kernel
theorem dX2_clear_12 : decode cX2_clear 12 = .ok (.putfield 35, 3) := by decide +kernel
theorem dX2_clear_15 : decode cX2_clear 15 = .ok (.return_, 1) := by decide +kernel
theorem dX2_takeFrom_0 : decode cX2_takeFrom 0 = .ok (.aload_n 0, 1) := by decide +kernel
theorem dX2_takeFrom_1 : decode cX2_takeFrom 1 = .ok (.aload_n 1, 1) := by decide +kernel
theorem dX2_takeFrom_2 : decode cX2_takeFrom 2 = .ok (.getfield 27, 3) := by decide +kernel
theorem dX2_takeFrom_5 : decode cX2_takeFrom 5 = .ok (.putfield 27, 3) := by decide +kernel
theorem dX2_takeFrom_8 : decode cX2_takeFrom 8 = .ok (.aload_n 0, 1) := by decide +kernel
theorem dX2_takeFrom_9 : decode cX2_takeFrom 9 = .ok (.aload_n 1, 1) := by decide +kernel
theorem dX2_takeFrom_10 : decode cX2_takeFrom 10 = .ok (.getfield 31, 3) := by decide +kernel
theorem dX2_takeFrom_13 : decode cX2_takeFrom 13 = .ok (.putfield 31, 3) := by decide +kernel
theorem dX2_takeFrom_16 : decode cX2_takeFrom 16 = .ok (.aload_n 0, 1) := by decide +kernel
theorem dX2_takeFrom_17 : decode cX2_takeFrom 17 = .ok (.aload_n 1, 1) := by decide +kernel
theorem dX2_takeFrom_18 : decode cX2_takeFrom 18 = .ok (.getfield 35, 3) := by decide +kernel
theorem dX2_takeFrom_21 : decode cX2_takeFrom 21 = .ok (.putfield 35, 3) := by decide +kernel
theorem dX2_takeFrom_24 : decode cX2_takeFrom 24 = .ok (.aload_n 1, 1) := by decide +kernel
theorem dX2_takeFrom_25 : decode cX2_takeFrom 25 = .ok (.getfield 9, 3) := by decide +kernel
theorem dX2_takeFrom_28 : decode cX2_takeFrom 28 = .ok (.iconst 0, 1) := by decide +kernel
theorem dX2_takeFrom_29 : decode cX2_takeFrom 29 = .ok (.aload_n 0, 1) := by decide +kernel
theorem dX2_takeFrom_30 : decode cX2_takeFrom 30 = .ok (.getfield 9, 3) := by decide +kernel
theorem dX2_takeFrom_33 : decode cX2_takeFrom 33 = .ok (.iconst 0, 1) := by decide +kernel
theorem dX2_takeFrom_34 : decode cX2_takeFrom 34 = .ok (.bipush 10, 2) := by decide +kernel
theorem dX2_takeFrom_36 : decode cX2_takeFrom 36 = .ok (.invokestatic 38, 3) := by decide +kernel
theorem dX2_takeFrom_39 : decode cX2_takeFrom 39 = .ok (.aload_n 1, 1) := by decide +kernel
theorem dX2_takeFrom_40 : decode cX2_takeFrom 40 = .ok (.getfield 15, 3) := by decide +kernel
theorem dX2_takeFrom_43 : decode cX2_takeFrom 43 = .ok (.iconst 0, 1) := by decide +kernel
theorem dX2_takeFrom_44 : decode cX2_takeFrom 44 = .ok (.aload_n 0, 1) := by decide +kernel
theorem dX2_takeFrom_45 : decode cX2_takeFrom 45 = .ok (.getfield 15, 3) := by decide +kernel
theorem dX2_takeFrom_48 : decode cX2_takeFrom 48 = .ok (.iconst 0, 1) := by decide +kernel
theorem dX2_takeFrom_49 : decode cX2_takeFrom 49 = .ok (.bipush 10, 2) := by decide +kernel
theorem dX2_takeFrom_51 : decode cX2_takeFrom 51 = .ok (.invokestatic 38, 3) := by decide +kernel
theorem dX2_takeFrom_54 : decode cX2_takeFrom 54 = .ok (.aload_n 1, 1) := by decide +kernel
theorem dX2_takeFrom_55 : decode cX2_takeFrom 55 = .ok (.getfield 18, 3) := by decide +kernel
theorem dX2_takeFrom_58 : decode cX2_takeFrom 58 = .ok (.iconst 0, 1) := by decide +kernel
theorem dX2_takeFrom_59 : decode cX2_takeFrom 59 = .ok (.aload_n 0, 1) := by decide +kernel
theorem dX2_takeFrom_60 : decode cX2_takeFrom 60 = .ok (.getfield 18, 3) := by decide +kernel
theorem dX2_takeFrom_63 : decode cX2_takeFrom 63 = .ok (.iconst 0, 1) := by decide +kernel
theorem dX2_takeFrom_64 : decode cX2_takeFrom 64 = .ok (.bipush 100, 2) := by decide +kernel
theorem dX2_takeFrom_66 : decode cX2_takeFrom 66 = .ok (.invokestatic 38, 3) := by decide +kernel
theorem dX2_takeFrom_69 : decode cX2_takeFrom 69 = .ok (.aload_n 1, 1) := by decide +kernel
theorem dX2_takeFrom_70 : decode cX2_takeFrom 70 = .ok (.getfield 21, 3) := by decide +kernel
theorem dX2_takeFrom_73 : decode cX2_takeFrom 73 = .ok (.iconst 0, 1) := by decide +kernel
theorem dX2_takeFrom_74 : decode cX2_takeFrom 74 = .ok (.aload_n 0, 1) := by decide +kernel
theorem dX2_takeFrom_75 : decode cX2_takeFrom 75 = .ok (.getfield 21, 3) := by decide +kernel
theorem dX2_takeFrom_78 : decode cX2_takeFrom 78 = .ok (.iconst 0, 1) := by decide +kernel
theorem dX2_takeFrom_79 : decode cX2_takeFrom 79 = .ok (.bipush 100, 2) := by decide +kernel
theorem dX2_takeFrom_81 : decode cX2_takeFrom 81 = .ok (.invokestatic 38, 3) := by decide +kernel
theorem dX2_takeFrom_84 : decode cX2_takeFrom 84 = .ok (.aload_n 1, 1) := by decide +kernel
theorem dX2_takeFrom_85 : decode cX2_takeFrom 85 = .ok (.getfield 24, 3) := by decide +kernel
theorem dX2_takeFrom_88 : decode cX2_takeFrom 88 = .ok (.iconst 0, 1) := by decide +kernel
theorem dX2_takeFrom_89 : decode cX2_takeFrom 89 = .ok (.aload_n 0, 1) := by decide +kernel
theorem dX2_takeFrom_90 : decode cX2_takeFrom 90 = .ok (.getfield 24, 3) := by decide +kernel
theorem dX2_takeFrom_93 : decode cX2_takeFrom 93 = .ok (.iconst 0, 1) := by decide +kernel
theorem dX2_takeFrom_94 : decode cX2_takeFrom 94 = .ok (.bipush 100, 2) := by decide +kernel
theorem dX2_takeFrom_96 : decode cX2_takeFrom 96 = .ok (.invokestatic 38, 3) := by decide +kernel
theorem dX2_takeFrom_99 : decode cX2_takeFrom 99 = .ok (.return_, 1) := by decide +kernel
theorem dX2_put_0 : decode cX2_put 0 = .ok (.aload_n 0, 1) := by decide +kernel
theorem dX2_put_1 : decode cX2_put 1 = .ok (.getfield 35, 3) := by decide +kernel
theorem dX2_put_4 : decode cX2_put 4 = .ok (.bipush 100, 2) := by decide +kernel
theorem dX2_put_6 : decode cX2_put 6 = .ok (.if_icmp .ge 43, 3) := by decide +kernel
theorem dX2_put_9 : decode cX2_put 9 = .ok (.aload_n 0, 1) := by decide +kernel
theorem dX2_put_10 : decode cX2_put 10 = .ok (.getfield 18, 3) := by decide +kernel
theorem dX2_put_13 : decode cX2_put 13 = .ok (.aload_n 0, 1) := by decide +kernel
theorem dX2_put_14 : decode cX2_put 14 = .ok (.getfield 35, 3) := by decide +kernel
theorem dX2_put_17 : decode cX2_put 17 = .ok (.iload_n 1, 1) := by decide +kernel
theorem dX2_put_18 : decode cX2_put 18 = .ok (.iastore, 1) := by decide +kernel
theorem dX2_put_19 : decode cX2_put 19 = .ok (.aload_n 0, 1) := by decide +kernel
theorem dX2_put_20 : decode cX2_put 20 = .ok (.getfield 21, 3) := by decide +kernel
theorem dX2_put_23 : decode cX2_put 23 = .ok (.aload_n 0, 1) := by decide +kernel
theorem dX2_put_24 : decode cX2_put 24 = .ok (.getfield 35, 3) := by decide +kernel
theorem dX2_put_27 : decode cX2_put 27 = .ok (.iload_n 2, 1) := by decide +kernel
theorem dX2_put_28 : decode cX2_put 28 = .ok (.iastore, 1) := by decide +kernel
theorem dX2_put_29 : decode cX2_put 29 = .ok (.aload_n 0, 1) := by decide +kernel
theorem dX2_put_30 : decode cX2_put 30 = .ok (.getfield 24, 3) := by decide +kernel
theorem dX2_put_33 : decode cX2_put 33 = .ok (.aload_n 0, 1) := by decide +kernel
theorem dX2_put_34 : decode cX2_put 34 = .ok (.getfield 35, 3) := by decide +kernel
theorem dX2_put_37 : decode cX2_put 37 = .ok (.iload_n 3, 1) := by decide +kernel
theorem dX2_put_38 : decode cX2_put 38 = .ok (.iastore, 1) := by decide +kernel
theorem dX2_put_39 : decode cX2_put 39 = .ok (.aload_n 0, 1) := by decide +kernel
theorem dX2_put_40 : decode cX2_put 40 = .ok (.dup, 1) := by decide +kernel
theorem dX2_put_41 : decode cX2_put 41 = .ok (.getfield 35, 3) := by decide +kernel
theorem dX2_put_44 : decode cX2_put 44 = .ok (.iconst 1, 1) := by decide +kernel
theorem dX2_put_45 : decode cX2_put 45 = .ok (.iadd, 1) := by decide +kernel
theorem dX2_put_46 : decode cX2_put 46 = .ok (.putfield 35, 3) := by decide +kernel
theorem dX2_put_49 : decode cX2_put 49 = .ok (.return_, 1) := by decide +kernel
theorem dX2_close_0 : decode cX2_close 0 = .ok (.aload_n 0, 1) := by decide +kernel
theorem dX2_close_1 : decode cX2_close 1 = .ok (.getfield 31, 3) := by decide +kernel
theorem dX2_close_4 : decode cX2_close 4 = .ok (.bipush 10, 2) := by decide +kernel
theorem dX2_close_6 : decode cX2_close 6 = .ok (.if_icmp .lt 5, 3) := by decide +kernel
theorem dX2_close_9 : decode cX2_close 9 = .ok (.iconst 0, 1) := by decide +kernel
theorem dX2_close_10 : decode cX2_close 10 = .ok (.ireturn, 1) := by decide +kernel
theorem dX2_close_11 : decode cX2_close 11 = .ok (.aload_n 0, 1) := by decide +kernel
theorem dX2_close_12 : decode cX2_close 12 = .ok (.getfield 9, 3) := by decide +kernel
theorem dX2_close_15 : decode cX2_close 15 = .ok (.aload_n 0, 1) := by decide +kernel
theorem dX2_close_16 : decode cX2_close 16 = .ok (.getfield 31, 3) := by decide +kernel
theorem dX2_close_19 : decode cX2_close 19 = .ok (.iload_n 1, 1) := by decide +kernel
theorem dX2_close_20 : decode cX2_close 20 = .ok (.iastore, 1) := by decide +kernel
theorem dX2_close_21 : decode cX2_close 21 = .ok (.aload_n 0, 1) := by decide +kernel
theorem dX2_close_22 : decode cX2_close 22 = .ok (.getfield 15, 3) := by decide +kernel
theorem dX2_close_25 : decode cX2_close 25 = .ok (.aload_n 0, 1) := by decide +kernel
theorem dX2_close_26 : decode cX2_close 26 = .ok (.getfield 31, 3) := by decide +kernel
theorem dX2_close_29 : decode cX2_close 29 = .ok (.aload_n 0, 1) := by decide +kernel
theorem dX2_close_30 : decode cX2_close 30 = .ok (.getfield 35, 3) := by decide +kernel
theorem dX2_close_33 : decode cX2_close 33 = .ok (.iastore, 1) := by decide +kernel
theorem dX2_close_34 : decode cX2_close 34 = .ok (.aload_n 0, 1) := by decide +kernel
theorem dX2_close_35 : decode cX2_close 35 = .ok (.dup, 1) := by decide +kernel
theorem dX2_close_36 : decode cX2_close 36 = .ok (.getfield 31, 3) := by decide +kernel
theorem dX2_close_39 : decode cX2_close 39 = .ok (.iconst 1, 1) := by decide +kernel
theorem dX2_close_40 : decode cX2_close 40 = .ok (.iadd, 1) := by decide +kernel
theorem dX2_close_41 : decode cX2_close 41 = .ok (.putfield 31, 3) := by decide +kernel
theorem dX2_close_44 : decode cX2_close 44 = .ok (.iconst 1, 1) := by decide +kernel
theorem dX2_close_45 : decode cX2_close 45 = .ok (.ireturn, 1) := by decide +kernel
theorem dX2_addsBy_0 : decode cX2_addsBy 0 = .ok (.iconst 0, 1) := by decide +kernel
theorem dX2_addsBy_1 : decode cX2_addsBy 1 = .ok (.istore_n 2, 1) := by decide +kernel
theorem dX2_addsBy_2 : decode cX2_addsBy 2 = .ok (.iconst 0, 1) := by decide +kernel
theorem dX2_addsBy_3 : decode cX2_addsBy 3 = .ok (.istore_n 3, 1) := by decide +kernel
theorem dX2_addsBy_4 : decode cX2_addsBy 4 = .ok (.iconst 0, 1) := by decide +kernel
theorem dX2_addsBy_5 : decode cX2_addsBy 5 = .ok (.istore 4, 2) := by decide +kernel
theorem dX2_addsBy_7 : decode cX2_addsBy 7 = .ok (.iload 4, 2) := by decide +kernel
theorem dX2_addsBy_9 : decode cX2_addsBy 9 = .ok (.aload_n 0, 1) := by decide +kernel
theorem dX2_addsBy_10 : decode cX2_addsBy 10 = .ok (.getfield 31, 3) := by decide +kernel
theorem dX2_addsBy_13 : decode cX2_addsBy 13 = .ok (.if_icmp .ge 43, 3) := by decide +kernel
theorem dX2_addsBy_16 : decode cX2_addsBy 16 = .ok (.aload_n 0, 1) := by decide +kernel
theorem dX2_addsBy_17 : decode cX2_addsBy 17 = .ok (.iload_n 3, 1) := by decide +kernel
theorem dX2_addsBy_18 : decode cX2_addsBy 18 = .ok (.aload_n 0, 1) := by decide +kernel
theorem dX2_addsBy_19 : decode cX2_addsBy 19 = .ok (.getfield 15, 3) := by decide +kernel
theorem dX2_addsBy_22 : decode cX2_addsBy 22 = .ok (.iload 4, 2) := by decide +kernel
theorem dX2_addsBy_24 : decode cX2_addsBy 24 = .ok (.iaload, 1) := by decide +kernel
theorem dX2_addsBy_25 : decode cX2_addsBy 25 = .ok (.aload_n 1, 1) := by decide +kernel
theorem dX2_addsBy_26 : decode cX2_addsBy 26 = .ok (.invokevirtual 44, 3) := by decide +kernel
theorem dX2_addsBy_29 : decode cX2_addsBy 29 = .ok (.ifCond .eq 13, 3) := by decide +kernel
theorem dX2_addsBy_32 : decode cX2_addsBy 32 = .ok (.iload_n 2, 1) := by decide +kernel
theorem dX2_addsBy_33 : decode cX2_addsBy 33 = .ok (.aload_n 0, 1) := by decide +kernel
theorem dX2_addsBy_34 : decode cX2_addsBy 34 = .ok (.getfield 9, 3) := by decide +kernel
theorem dX2_addsBy_37 : decode cX2_addsBy 37 = .ok (.iload 4, 2) := by decide +kernel
theorem dX2_addsBy_39 : decode cX2_addsBy 39 = .ok (.iaload, 1) := by decide +kernel
theorem dX2_addsBy_40 : decode cX2_addsBy 40 = .ok (.iadd, 1) := by decide +kernel
theorem dX2_addsBy_41 : decode cX2_addsBy 41 = .ok (.istore_n 2, 1) := by decide +kernel
theorem dX2_addsBy_42 : decode cX2_addsBy 42 = .ok (.aload_n 0, 1) := by decide +kernel
theorem dX2_addsBy_43 : decode cX2_addsBy 43 = .ok (.getfield 15, 3) := by decide +kernel
theorem dX2_addsBy_46 : decode cX2_addsBy 46 = .ok (.iload 4, 2) := by decide +kernel
theorem dX2_addsBy_48 : decode cX2_addsBy 48 = .ok (.iaload, 1) := by decide +kernel
theorem dX2_addsBy_49 : decode cX2_addsBy 49 = .ok (.istore_n 3, 1) := by decide +kernel
theorem dX2_addsBy_50 : decode cX2_addsBy 50 = .ok (.iinc 4 1, 3) := by decide +kernel
theorem dX2_addsBy_53 : decode cX2_addsBy 53 = .ok (.goto (-46), 3) := by decide +kernel
theorem dX2_addsBy_56 : decode cX2_addsBy 56 = .ok (.iload_n 2, 1) := by decide +kernel
theorem dX2_addsBy_57 : decode cX2_addsBy 57 = .ok (.ireturn, 1) := by decide +kernel
theorem dX2_holds_0 : decode cX2_holds 0 = .ok (.iconst 0, 1) := by decide +kernel
theorem dX2_holds_1 : decode cX2_holds 1 = .ok (.istore 4, 2) := by decide +kernel
theorem dX2_holds_3 : decode cX2_holds 3 = .ok (.iload_n 1, 1) := by decide +kernel
theorem dX2_holds_4 : decode cX2_holds 4 = .ok (.istore 5, 2) := by decide +kernel
theorem dX2_holds_6 : decode cX2_holds 6 = .ok (.iload 5, 2) := by decide +kernel
theorem dX2_holds_8 : decode cX2_holds 8 = .ok (.iload_n 2, 1) := by decide +kernel
theorem dX2_holds_9 : decode cX2_holds 9 = .ok (.if_icmp .ge 107, 3) := by decide +kernel
theorem dX2_holds_12 : decode cX2_holds 12 = .ok (.iload 4, 2) := by decide +kernel
theorem dX2_holds_14 : decode cX2_holds 14 = .ok (.iconst 1, 1) := by decide +kernel
theorem dX2_holds_15 : decode cX2_holds 15 = .ok (.iand, 1) := by decide +kernel
theorem dX2_holds_16 : decode cX2_holds 16 = .ok (.istore 6, 2) := by decide +kernel
theorem dX2_holds_18 : decode cX2_holds 18 = .ok (.aload_n 0, 1) := by decide +kernel
theorem dX2_holds_19 : decode cX2_holds 19 = .ok (.getfield 18, 3) := by decide +kernel
theorem dX2_holds_22 : decode cX2_holds 22 = .ok (.iload 5, 2) := by decide +kernel
theorem dX2_holds_24 : decode cX2_holds 24 = .ok (.iaload, 1) := by decide +kernel
theorem dX2_holds_25 : decode cX2_holds 25 = .ok (.tableswitch 63 6 8 #[27, 36, 51], 27) := by decide +kernel
theorem dX2_holds_52 : decode cX2_holds 52 = .ok (.iload 4, 2) := by decide +kernel
theorem dX2_holds_54 : decode cX2_holds 54 = .ok (.iconst 1, 1) := by decide +kernel
theorem dX2_holds_55 : decode cX2_holds 55 = .ok (.ixor, 1) := by decide +kernel
theorem dX2_holds_56 : decode cX2_holds 56 = .ok (.istore 4, 2) := by decide +kernel
theorem dX2_holds_58 : decode cX2_holds 58 = .ok (.goto 52, 3) := by decide +kernel
theorem dX2_holds_61 : decode cX2_holds 61 = .ok (.iload 4, 2) := by decide +kernel
theorem dX2_holds_63 : decode cX2_holds 63 = .ok (.iconst 1, 1) := by decide +kernel
theorem dX2_holds_64 : decode cX2_holds 64 = .ok (.ishr, 1) := by decide +kernel
theorem dX2_holds_65 : decode cX2_holds 65 = .ok (.iload 6, 2) := by decide +kernel
theorem dX2_holds_67 : decode cX2_holds 67 = .ok (.bipush (-2), 2) := by decide +kernel
theorem dX2_holds_69 : decode cX2_holds 69 = .ok (.ior, 1) := by decide +kernel
theorem dX2_holds_70 : decode cX2_holds 70 = .ok (.iand, 1) := by decide +kernel
theorem dX2_holds_71 : decode cX2_holds 71 = .ok (.istore 4, 2) := by decide +kernel
theorem dX2_holds_73 : decode cX2_holds 73 = .ok (.goto 37, 3) := by decide +kernel
theorem dX2_holds_76 : decode cX2_holds 76 = .ok (.iload 4, 2) := by decide +kernel
theorem dX2_holds_78 : decode cX2_holds 78 = .ok (.iconst 1, 1) := by decide +kernel
theorem dX2_holds_79 : decode cX2_holds 79 = .ok (.ishr, 1) := by decide +kernel
theorem dX2_holds_80 : decode cX2_holds 80 = .ok (.iload 6, 2) := by decide +kernel
theorem dX2_holds_82 : decode cX2_holds 82 = .ok (.ior, 1) := by decide +kernel
theorem dX2_holds_83 : decode cX2_holds 83 = .ok (.istore 4, 2) := by decide +kernel
theorem dX2_holds_85 : decode cX2_holds 85 = .ok (.goto 25, 3) := by decide +kernel
theorem dX2_holds_88 : decode cX2_holds 88 = .ok (.iload 4, 2) := by decide +kernel
theorem dX2_holds_90 : decode cX2_holds 90 = .ok (.iconst 1, 1) := by decide +kernel
theorem dX2_holds_91 : decode cX2_holds 91 = .ok (.ishl, 1) := by decide +kernel
theorem dX2_holds_92 : decode cX2_holds 92 = .ok (.aload_n 0, 1) := by decide +kernel
theorem dX2_holds_93 : decode cX2_holds 93 = .ok (.iload 5, 2) := by decide +kernel
theorem dX2_holds_95 : decode cX2_holds 95 = .ok (.aload_n 3, 1) := by decide +kernel
theorem dX2_holds_96 : decode cX2_holds 96 = .ok (.invokevirtual 48, 3) := by decide +kernel
theorem dX2_holds_99 : decode cX2_holds 99 = .ok (.ifCond .eq 7, 3) := by decide +kernel
theorem dX2_holds_102 : decode cX2_holds 102 = .ok (.iconst 1, 1) := by decide +kernel
theorem dX2_holds_103 : decode cX2_holds 103 = .ok (.goto 4, 3) := by decide +kernel
theorem dX2_holds_106 : decode cX2_holds 106 = .ok (.iconst 0, 1) := by decide +kernel
theorem dX2_holds_107 : decode cX2_holds 107 = .ok (.ior, 1) := by decide +kernel
theorem dX2_holds_108 : decode cX2_holds 108 = .ok (.istore 4, 2) := by decide +kernel
theorem dX2_holds_110 : decode cX2_holds 110 = .ok (.iinc 5 1, 3) := by decide +kernel
theorem dX2_holds_113 : decode cX2_holds 113 = .ok (.goto (-107), 3) := by decide +kernel
theorem dX2_holds_116 : decode cX2_holds 116 = .ok (.iload 4, 2) := by decide +kernel
theorem dX2_holds_118 : decode cX2_holds 118 = .ok (.iconst 1, 1) := by decide +kernel
theorem dX2_holds_119 : decode cX2_holds 119 = .ok (.iand, 1) := by decide +kernel
theorem dX2_holds_120 : decode cX2_holds 120 = .ok (.iconst 1, 1) := by decide +kernel
theorem dX2_holds_121 : decode cX2_holds 121 = .ok (.if_icmp .ne 7, 3) := by decide +kernel
theorem dX2_holds_124 : decode cX2_holds 124 = .ok (.iconst 1, 1) := by decide +kernel
theorem dX2_holds_125 : decode cX2_holds 125 = .ok (.goto 4, 3) := by decide +kernel
theorem dX2_holds_128 : decode cX2_holds 128 = .ok (.iconst 0, 1) := by decide +kernel
theorem dX2_holds_129 : decode cX2_holds 129 = .ok (.ireturn, 1) := by decide +kernel
theorem dX2_passes_0 : decode cX2_passes 0 = .ok (.aload_n 0, 1) := by decide +kernel
theorem dX2_passes_1 : decode cX2_passes 1 = .ok (.getfield 18, 3) := by decide +kernel
theorem dX2_passes_4 : decode cX2_passes 4 = .ok (.iload_n 1, 1) := by decide +kernel
theorem dX2_passes_5 : decode cX2_passes 5 = .ok (.iaload, 1) := by decide +kernel
theorem dX2_passes_6 : decode cX2_passes 6 = .ok (.istore_n 3, 1) := by decide +kernel
theorem dX2_passes_7 : decode cX2_passes 7 = .ok (.iload_n 3, 1) := by decide +kernel
theorem dX2_passes_8 : decode cX2_passes 8 = .ok (.ifCond .lt 9, 3) := by decide +kernel
theorem dX2_passes_11 : decode cX2_passes 11 = .ok (.iload_n 3, 1) := by decide +kernel
theorem dX2_passes_12 : decode cX2_passes 12 = .ok (.aload_n 2, 1) := by decide +kernel
theorem dX2_passes_13 : decode cX2_passes 13 = .ok (.arraylength, 1) := by decide +kernel
theorem dX2_passes_14 : decode cX2_passes 14 = .ok (.if_icmp .lt 5, 3) := by decide +kernel
theorem dX2_passes_17 : decode cX2_passes 17 = .ok (.iconst 0, 1) := by decide +kernel
theorem dX2_passes_18 : decode cX2_passes 18 = .ok (.ireturn, 1) := by decide +kernel
theorem dX2_passes_19 : decode cX2_passes 19 = .ok (.aload_n 0, 1) := by decide +kernel
theorem dX2_passes_20 : decode cX2_passes 20 = .ok (.getfield 21, 3) := by decide +kernel
theorem dX2_passes_23 : decode cX2_passes 23 = .ok (.iload_n 1, 1) := by decide +kernel
theorem dX2_passes_24 : decode cX2_passes 24 = .ok (.iaload, 1) := by decide +kernel
theorem dX2_passes_25 : decode cX2_passes 25 = .ok (.lookupswitch 63 #[(60, 27), (62, 45)], 27) := by decide +kernel
theorem dX2_passes_52 : decode cX2_passes 52 = .ok (.aload_n 2, 1) := by decide +kernel
theorem dX2_passes_53 : decode cX2_passes 53 = .ok (.iload_n 3, 1) := by decide +kernel
theorem dX2_passes_54 : decode cX2_passes 54 = .ok (.iaload, 1) := by decide +kernel
theorem dX2_passes_55 : decode cX2_passes 55 = .ok (.aload_n 0, 1) := by decide +kernel
theorem dX2_passes_56 : decode cX2_passes 56 = .ok (.getfield 24, 3) := by decide +kernel
theorem dX2_passes_59 : decode cX2_passes 59 = .ok (.iload_n 1, 1) := by decide +kernel
theorem dX2_passes_60 : decode cX2_passes 60 = .ok (.iaload, 1) := by decide +kernel
theorem dX2_passes_61 : decode cX2_passes 61 = .ok (.if_icmp .ge 7, 3) := by decide +kernel
theorem dX2_passes_64 : decode cX2_passes 64 = .ok (.iconst 1, 1) := by decide +kernel
theorem dX2_passes_65 : decode cX2_passes 65 = .ok (.goto 4, 3) := by decide +kernel
theorem dX2_passes_68 : decode cX2_passes 68 = .ok (.iconst 0, 1) := by decide +kernel
theorem dX2_passes_69 : decode cX2_passes 69 = .ok (.ireturn, 1) := by decide +kernel
theorem dX2_passes_70 : decode cX2_passes 70 = .ok (.aload_n 2, 1) := by decide +kernel
theorem dX2_passes_71 : decode cX2_passes 71 = .ok (.iload_n 3, 1) := by decide +kernel
theorem dX2_passes_72 : decode cX2_passes 72 = .ok (.iaload, 1) := by decide +kernel
theorem dX2_passes_73 : decode cX2_passes 73 = .ok (.aload_n 0, 1) := by decide +kernel
theorem dX2_passes_74 : decode cX2_passes 74 = .ok (.getfield 24, 3) := by decide +kernel
theorem dX2_passes_77 : decode cX2_passes 77 = .ok (.iload_n 1, 1) := by decide +kernel
theorem dX2_passes_78 : decode cX2_passes 78 = .ok (.iaload, 1) := by decide +kernel
theorem dX2_passes_79 : decode cX2_passes 79 = .ok (.if_icmp .le 7, 3) := by decide +kernel
theorem dX2_passes_82 : decode cX2_passes 82 = .ok (.iconst 1, 1) := by decide +kernel
theorem dX2_passes_83 : decode cX2_passes 83 = .ok (.goto 4, 3) := by decide +kernel
theorem dX2_passes_86 : decode cX2_passes 86 = .ok (.iconst 0, 1) := by decide +kernel
theorem dX2_passes_87 : decode cX2_passes 87 = .ok (.ireturn, 1) := by decide +kernel
theorem dX2_passes_88 : decode cX2_passes 88 = .ok (.aload_n 2, 1) := by decide +kernel
theorem dX2_passes_89 : decode cX2_passes 89 = .ok (.iload_n 3, 1) := by decide +kernel
theorem dX2_passes_90 : decode cX2_passes 90 = .ok (.iaload, 1) := by decide +kernel
theorem dX2_passes_91 : decode cX2_passes 91 = .ok (.aload_n 0, 1) := by decide +kernel
theorem dX2_passes_92 : decode cX2_passes 92 = .ok (.getfield 24, 3) := by decide +kernel
theorem dX2_passes_95 : decode cX2_passes 95 = .ok (.iload_n 1, 1) := by decide +kernel
theorem dX2_passes_96 : decode cX2_passes 96 = .ok (.iaload, 1) := by decide +kernel
theorem dX2_passes_97 : decode cX2_passes 97 = .ok (.if_icmp .ne 7, 3) := by decide +kernel
theorem dX2_passes_100 : decode cX2_passes 100 = .ok (.iconst 1, 1) := by decide +kernel
theorem dX2_passes_101 : decode cX2_passes 101 = .ok (.goto 4, 3) := by decide +kernel
theorem dX2_passes_104 : decode cX2_passes 104 = .ok (.iconst 0, 1) := by decide +kernel
theorem dX2_passes_105 : decode cX2_passes 105 = .ok (.ireturn, 1) := by decide +kernel
theorem dX3_init_0 : decode cX3_init 0 = .ok (.aload_n 0, 1) := by decide +kernel
theorem dX3_init_1 : decode cX3_init 1 = .ok (.invokespecial 3, 3) := by decide +kernel
theorem dX3_init_4 : decode cX3_init 4 = .ok (.aload_n 0, 1) := by decide +kernel
theorem dX3_init_5 : decode cX3_init 5 = .ok (.new 9, 3) := by decide +kernel
theorem dX3_init_8 : decode cX3_init 8 = .ok (.dup, 1) := by decide +kernel
theorem dX3_init_9 : decode cX3_init 9 = .ok (.invokespecial 11, 3) := by decide +kernel
theorem dX3_init_12 : decode cX3_init 12 = .ok (.putfield 12, 3) := by decide +kernel
theorem dX3_init_15 : decode cX3_init 15 = .ok (.aload_n 0, 1) := by decide +kernel
theorem dX3_init_16 : decode cX3_init 16 = .ok (.bipush 100, 2) := by decide +kernel
theorem dX3_init_18 : decode cX3_init 18 = .ok (.newarray .byte, 2) := by decide +kernel
theorem dX3_init_20 : decode cX3_init 20 = .ok (.putfield 18, 3) := by decide +kernel
theorem dX3_init_23 : decode cX3_init 23 = .ok (.return_, 1) := by decide +kernel
theorem dX3_addSign_0 : decode cX3_addSign 0 = .ok (.aload_n 0, 1) := by decide +kernel
theorem dX3_addSign_1 : decode cX3_addSign 1 = .ok (.getfield 22, 3) := by decide +kernel
theorem dX3_addSign_4 : decode cX3_addSign 4 = .ok (.bipush 100, 2) := by decide +kernel
theorem dX3_addSign_6 : decode cX3_addSign 6 = .ok (.if_icmp .lt 6, 3) := by decide +kernel
theorem dX3_addSign_9 : decode cX3_addSign 9 = .ok (.bipush (-4), 2) := by decide +kernel
theorem dX3_addSign_11 : decode cX3_addSign 11 = .ok (.ireturn, 1) := by decide +kernel
theorem dX3_addSign_12 : decode cX3_addSign 12 = .ok (.aload_n 0, 1) := by decide +kernel
theorem dX3_addSign_13 : decode cX3_addSign 13 = .ok (.getfield 18, 3) := by decide +kernel
theorem dX3_addSign_16 : decode cX3_addSign 16 = .ok (.aload_n 0, 1) := by decide +kernel
theorem dX3_addSign_17 : decode cX3_addSign 17 = .ok (.getfield 22, 3) := by decide +kernel
theorem dX3_addSign_20 : decode cX3_addSign 20 = .ok (.iload_n 1, 1) := by decide +kernel
theorem dX3_addSign_21 : decode cX3_addSign 21 = .ok (.i2b, 1) := by decide +kernel
theorem dX3_addSign_22 : decode cX3_addSign 22 = .ok (.bastore, 1) := by decide +kernel
theorem dX3_addSign_23 : decode cX3_addSign 23 = .ok (.aload_n 0, 1) := by decide +kernel
theorem dX3_addSign_24 : decode cX3_addSign 24 = .ok (.dup, 1) := by decide +kernel
theorem dX3_addSign_25 : decode cX3_addSign 25 = .ok (.getfield 22, 3) := by decide +kernel
theorem dX3_addSign_28 : decode cX3_addSign 28 = .ok (.iconst 1, 1) := by decide +kernel
theorem dX3_addSign_29 : decode cX3_addSign 29 = .ok (.iadd, 1) := by decide +kernel
theorem dX3_addSign_30 : decode cX3_addSign 30 = .ok (.putfield 22, 3) := by decide +kernel
theorem dX3_addSign_33 : decode cX3_addSign 33 = .ok (.aload_n 0, 1) := by decide +kernel
theorem dX3_addSign_34 : decode cX3_addSign 34 = .ok (.getfield 22, 3) := by decide +kernel
theorem dX3_addSign_37 : decode cX3_addSign 37 = .ok (.ireturn, 1) := by decide +kernel
theorem dX3_clear_0 : decode cX3_clear 0 = .ok (.aload_n 0, 1) := by decide +kernel
theorem dX3_clear_1 : decode cX3_clear 1 = .ok (.iconst 0, 1) := by decide +kernel
theorem dX3_clear_2 : decode cX3_clear 2 = .ok (.putfield 22, 3) := by decide +kernel
theorem dX3_clear_5 : decode cX3_clear 5 = .ok (.return_, 1) := by decide +kernel
theorem dX3_readStreet_0 : decode cX3_readStreet 0 = .ok (.aload_n 0, 1) := by decide +kernel
theorem dX3_readStreet_1 : decode cX3_readStreet 1 = .ok (.iconst 0, 1) := by decide +kernel
theorem dX3_readStreet_2 : decode cX3_readStreet 2 = .ok (.putfield 26, 3) := by decide +kernel
theorem dX3_readStreet_5 : decode cX3_readStreet 5 = .ok (.aload_n 0, 1) := by decide +kernel
theorem dX3_readStreet_6 : decode cX3_readStreet 6 = .ok (.getfield 12, 3) := by decide +kernel
theorem dX3_readStreet_9 : decode cX3_readStreet 9 = .ok (.invokevirtual 29, 3) := by decide +kernel
theorem dX3_readStreet_12 : decode cX3_readStreet 12 = .ok (.iconst 1, 1) := by decide +kernel
theorem dX3_readStreet_13 : decode cX3_readStreet 13 = .ok (.istore_n 1, 1) := by decide +kernel
theorem dX3_readStreet_14 : decode cX3_readStreet 14 = .ok (.iload_n 1, 1) := by decide +kernel
theorem dX3_readStreet_15 : decode cX3_readStreet 15 = .ok (.bipush 10, 2) := by decide +kernel
theorem dX3_readStreet_17 : decode cX3_readStreet 17 = .ok (.if_icmp .gt 54, 3) := by decide +kernel
theorem dX3_readStreet_20 : decode cX3_readStreet 20 = .ok (.aload_n 0, 1) := by decide +kernel
theorem dX3_readStreet_21 : decode cX3_readStreet 21 = .ok (.invokevirtual 32, 3) := by decide +kernel
theorem dX3_readStreet_24 : decode cX3_readStreet 24 = .ok (.ifCond .ne 8, 3) := by decide +kernel
theorem dX3_readStreet_27 : decode cX3_readStreet 27 = .ok (.aload_n 0, 1) := by decide +kernel
theorem dX3_readStreet_28 : decode cX3_readStreet 28 = .ok (.getfield 26, 3) := by decide +kernel
theorem dX3_readStreet_31 : decode cX3_readStreet 31 = .ok (.ireturn, 1) := by decide +kernel
theorem dX3_readStreet_32 : decode cX3_readStreet 32 = .ok (.aload_n 0, 1) := by decide +kernel
theorem dX3_readStreet_33 : decode cX3_readStreet 33 = .ok (.getfield 26, 3) := by decide +kernel
theorem dX3_readStreet_36 : decode cX3_readStreet 36 = .ok (.aload_n 0, 1) := by decide +kernel
theorem dX3_readStreet_37 : decode cX3_readStreet 37 = .ok (.getfield 22, 3) := by decide +kernel
theorem dX3_readStreet_40 : decode cX3_readStreet 40 = .ok (.if_icmp .lt 5, 3) := by decide +kernel
theorem dX3_readStreet_43 : decode cX3_readStreet 43 = .ok (.iconst (-1), 1) := by decide +kernel
theorem dX3_readStreet_44 : decode cX3_readStreet 44 = .ok (.ireturn, 1) := by decide +kernel
theorem dX3_readStreet_45 : decode cX3_readStreet 45 = .ok (.iload_n 1, 1) := by decide +kernel
theorem dX3_readStreet_46 : decode cX3_readStreet 46 = .ok (.bipush 10, 2) := by decide +kernel
theorem dX3_readStreet_48 : decode cX3_readStreet 48 = .ok (.if_icmp .eq 12, 3) := by decide +kernel
theorem dX3_readStreet_51 : decode cX3_readStreet 51 = .ok (.aload_n 0, 1) := by decide +kernel
theorem dX3_readStreet_52 : decode cX3_readStreet 52 = .ok (.ldc 36, 2) := by decide +kernel
theorem dX3_readStreet_54 : decode cX3_readStreet 54 = .ok (.invokevirtual 38, 3) := by decide +kernel
theorem dX3_readStreet_57 : decode cX3_readStreet 57 = .ok (.ifCond .ne 8, 3) := by decide +kernel
theorem dX3_readStreet_60 : decode cX3_readStreet 60 = .ok (.aload_n 0, 1) := by decide +kernel
theorem dX3_readStreet_61 : decode cX3_readStreet 61 = .ok (.getfield 26, 3) := by decide +kernel
theorem dX3_readStreet_64 : decode cX3_readStreet 64 = .ok (.ireturn, 1) := by decide +kernel
theorem dX3_readStreet_65 : decode cX3_readStreet 65 = .ok (.iinc 1 1, 3) := by decide +kernel
theorem dX3_readStreet_68 : decode cX3_readStreet 68 = .ok (.goto (-54), 3) := by decide +kernel
theorem dX3_readStreet_71 : decode cX3_readStreet 71 = .ok (.aload_n 0, 1) := by decide +kernel
theorem dX3_readStreet_72 : decode cX3_readStreet 72 = .ok (.getfield 26, 3) := by decide +kernel
theorem dX3_readStreet_75 : decode cX3_readStreet 75 = .ok (.ireturn, 1) := by decide +kernel
theorem dX3_sign_0 : decode cX3_sign 0 = .ok (.aload_n 0, 1) := by decide +kernel
theorem dX3_sign_1 : decode cX3_sign 1 = .ok (.getfield 26, 3) := by decide +kernel
theorem dX3_sign_4 : decode cX3_sign 4 = .ok (.aload_n 0, 1) := by decide +kernel
theorem dX3_sign_5 : decode cX3_sign 5 = .ok (.getfield 22, 3) := by decide +kernel
theorem dX3_sign_8 : decode cX3_sign 8 = .ok (.if_icmp .ge 15, 3) := by decide +kernel
theorem dX3_sign_11 : decode cX3_sign 11 = .ok (.aload_n 0, 1) := by decide +kernel
theorem dX3_sign_12 : decode cX3_sign 12 = .ok (.getfield 18, 3) := by decide +kernel
theorem dX3_sign_15 : decode cX3_sign 15 = .ok (.aload_n 0, 1) := by decide +kernel
theorem dX3_sign_16 : decode cX3_sign 16 = .ok (.getfield 26, 3) := by decide +kernel
theorem dX3_sign_19 : decode cX3_sign 19 = .ok (.baload, 1) := by decide +kernel
theorem dX3_sign_20 : decode cX3_sign 20 = .ok (.goto 4, 3) := by decide +kernel
theorem dX3_sign_23 : decode cX3_sign 23 = .ok (.iconst (-1), 1) := by decide +kernel
theorem dX3_sign_24 : decode cX3_sign 24 = .ok (.ireturn, 1) := by decide +kernel
theorem dX3_clause_0 : decode cX3_clause 0 = .ok (.aload_n 0, 1) := by decide +kernel
theorem dX3_clause_1 : decode cX3_clause 1 = .ok (.invokevirtual 42, 3) := by decide +kernel
theorem dX3_clause_4 : decode cX3_clause 4 = .ok (.bipush 116, 2) := by decide +kernel
theorem dX3_clause_6 : decode cX3_clause 6 = .ok (.if_icmp .ne 7, 3) := by decide +kernel
theorem dX3_clause_9 : decode cX3_clause 9 = .ok (.iconst 1, 1) := by decide +kernel
theorem dX3_clause_10 : decode cX3_clause 10 = .ok (.goto 4, 3) := by decide +kernel
theorem dX3_clause_13 : decode cX3_clause 13 = .ok (.iconst 0, 1) := by decide +kernel
theorem dX3_clause_14 : decode cX3_clause 14 = .ok (.istore_n 1, 1) := by decide +kernel
theorem dX3_clause_15 : decode cX3_clause 15 = .ok (.aload_n 0, 1) := by decide +kernel
theorem dX3_clause_16 : decode cX3_clause 16 = .ok (.invokevirtual 42, 3) := by decide +kernel
theorem dX3_clause_19 : decode cX3_clause 19 = .ok (.bipush 114, 2) := by decide +kernel
theorem dX3_clause_21 : decode cX3_clause 21 = .ok (.if_icmp .ne 8, 3) := by decide +kernel
theorem dX3_clause_24 : decode cX3_clause 24 = .ok (.aload_n 0, 1) := by decide +kernel
theorem dX3_clause_25 : decode cX3_clause 25 = .ok (.invokevirtual 46, 3) := by decide +kernel
theorem dX3_clause_28 : decode cX3_clause 28 = .ok (.ireturn, 1) := by decide +kernel
theorem dX3_clause_29 : decode cX3_clause 29 = .ok (.aload_n 0, 1) := by decide +kernel
theorem dX3_clause_30 : decode cX3_clause 30 = .ok (.iload_n 1, 1) := by decide +kernel
theorem dX3_clause_31 : decode cX3_clause 31 = .ok (.ifCond .eq 8, 3) := by decide +kernel
theorem dX3_clause_34 : decode cX3_clause 34 = .ok (.ldc 49, 2) := by decide +kernel
theorem dX3_clause_36 : decode cX3_clause 36 = .ok (.goto 5, 3) := by decide +kernel
theorem dX3_clause_39 : decode cX3_clause 39 = .ok (.ldc 51, 2) := by decide +kernel
theorem dX3_clause_41 : decode cX3_clause 41 = .ok (.invokevirtual 38, 3) := by decide +kernel
theorem dX3_clause_44 : decode cX3_clause 44 = .ok (.ifCond .ne 5, 3) := by decide +kernel
theorem dX3_clause_47 : decode cX3_clause 47 = .ok (.iconst 0, 1) := by decide +kernel
theorem dX3_clause_48 : decode cX3_clause 48 = .ok (.ireturn, 1) := by decide +kernel
theorem dX3_clause_49 : decode cX3_clause 49 = .ok (.aload_n 0, 1) := by decide +kernel
theorem dX3_clause_50 : decode cX3_clause 50 = .ok (.invokevirtual 53, 3) := by decide +kernel
theorem dX3_clause_53 : decode cX3_clause 53 = .ok (.istore_n 2, 1) := by decide +kernel
theorem dX3_clause_54 : decode cX3_clause 54 = .ok (.iload_n 2, 1) := by decide +kernel
theorem dX3_clause_55 : decode cX3_clause 55 = .ok (.ifCond .lt 44, 3) := by decide +kernel
theorem dX3_clause_58 : decode cX3_clause 58 = .ok (.aload_n 0, 1) := by decide +kernel
theorem dX3_clause_59 : decode cX3_clause 59 = .ok (.ldc 56, 2) := by decide +kernel
theorem dX3_clause_61 : decode cX3_clause 61 = .ok (.invokevirtual 38, 3) := by decide +kernel
theorem dX3_clause_64 : decode cX3_clause 64 = .ok (.ifCond .eq 35, 3) := by decide +kernel
theorem dX3_clause_67 : decode cX3_clause 67 = .ok (.aload_n 0, 1) := by decide +kernel
theorem dX3_clause_68 : decode cX3_clause 68 = .ok (.iconst 0, 1) := by decide +kernel
theorem dX3_clause_69 : decode cX3_clause 69 = .ok (.invokevirtual 58, 3) := by decide +kernel
theorem dX3_clause_72 : decode cX3_clause 72 = .ok (.ifCond .eq 27, 3) := by decide +kernel
theorem dX3_clause_75 : decode cX3_clause 75 = .ok (.aload_n 0, 1) := by decide +kernel
theorem dX3_clause_76 : decode cX3_clause 76 = .ok (.getfield 12, 3) := by decide +kernel
theorem dX3_clause_79 : decode cX3_clause 79 = .ok (.iload_n 1, 1) := by decide +kernel
theorem dX3_clause_80 : decode cX3_clause 80 = .ok (.ifCond .eq 8, 3) := by decide +kernel
theorem dX3_clause_83 : decode cX3_clause 83 = .ok (.iload_n 2, 1) := by decide +kernel
theorem dX3_clause_84 : decode cX3_clause 84 = .ok (.ineg, 1) := by decide +kernel
theorem dX3_clause_85 : decode cX3_clause 85 = .ok (.goto 4, 3) := by decide +kernel
theorem dX3_clause_88 : decode cX3_clause 88 = .ok (.iload_n 2, 1) := by decide +kernel
theorem dX3_clause_89 : decode cX3_clause 89 = .ok (.invokevirtual 62, 3) := by decide +kernel
theorem dX3_clause_92 : decode cX3_clause 92 = .ok (.ifCond .eq 7, 3) := by decide +kernel
theorem dX3_clause_95 : decode cX3_clause 95 = .ok (.iconst 1, 1) := by decide +kernel
theorem dX3_clause_96 : decode cX3_clause 96 = .ok (.goto 4, 3) := by decide +kernel
theorem dX3_clause_99 : decode cX3_clause 99 = .ok (.iconst 0, 1) := by decide +kernel
theorem dX3_clause_100 : decode cX3_clause 100 = .ok (.ireturn, 1) := by decide +kernel
theorem dX3_shape_0 : decode cX3_shape 0 = .ok (.aload_n 0, 1) := by decide +kernel
theorem dX3_shape_1 : decode cX3_shape 1 = .ok (.dup, 1) := by decide +kernel
theorem dX3_shape_2 : decode cX3_shape 2 = .ok (.getfield 26, 3) := by decide +kernel
theorem dX3_shape_5 : decode cX3_shape 5 = .ok (.iconst 1, 1) := by decide +kernel
theorem dX3_shape_6 : decode cX3_shape 6 = .ok (.iadd, 1) := by decide +kernel
theorem dX3_shape_7 : decode cX3_shape 7 = .ok (.putfield 26, 3) := by decide +kernel
theorem dX3_shape_10 : decode cX3_shape 10 = .ok (.aload_n 0, 1) := by decide +kernel
theorem dX3_shape_11 : decode cX3_shape 11 = .ok (.getfield 12, 3) := by decide +kernel
theorem dX3_shape_14 : decode cX3_shape 14 = .ok (.aload_n 0, 1) := by decide +kernel
theorem dX3_shape_15 : decode cX3_shape 15 = .ok (.invokevirtual 42, 3) := by decide +kernel
theorem dX3_shape_18 : decode cX3_shape 18 = .ok (.bipush 105, 2) := by decide +kernel
theorem dX3_shape_20 : decode cX3_shape 20 = .ok (.if_icmp .ne 7, 3) := by decide +kernel
theorem dX3_shape_23 : decode cX3_shape 23 = .ok (.iconst 1, 1) := by decide +kernel
theorem dX3_shape_24 : decode cX3_shape 24 = .ok (.goto 4, 3) := by decide +kernel
theorem dX3_shape_27 : decode cX3_shape 27 = .ok (.iconst 0, 1) := by decide +kernel
theorem dX3_shape_28 : decode cX3_shape 28 = .ok (.putfield 65, 3) := by decide +kernel
theorem dX3_shape_31 : decode cX3_shape 31 = .ok (.aload_n 0, 1) := by decide +kernel
theorem dX3_shape_32 : decode cX3_shape 32 = .ok (.aload_n 0, 1) := by decide +kernel
theorem dX3_shape_33 : decode cX3_shape 33 = .ok (.getfield 12, 3) := by decide +kernel
theorem dX3_shape_36 : decode cX3_shape 36 = .ok (.getfield 65, 3) := by decide +kernel
theorem dX3_shape_39 : decode cX3_shape 39 = .ok (.ifCond .eq 8, 3) := by decide +kernel
theorem dX3_shape_42 : decode cX3_shape 42 = .ok (.ldc 69, 2) := by decide +kernel
theorem dX3_shape_44 : decode cX3_shape 44 = .ok (.goto 5, 3) := by decide +kernel
theorem dX3_shape_47 : decode cX3_shape 47 = .ok (.ldc 71, 2) := by decide +kernel
theorem dX3_shape_49 : decode cX3_shape 49 = .ok (.invokevirtual 38, 3) := by decide +kernel
theorem dX3_shape_52 : decode cX3_shape 52 = .ok (.ireturn, 1) := by decide +kernel
theorem dX3_word_0 : decode cX3_word 0 = .ok (.iconst 0, 1) := by decide +kernel
theorem dX3_word_1 : decode cX3_word 1 = .ok (.istore_n 2, 1) := by decide +kernel
theorem dX3_word_2 : decode cX3_word 2 = .ok (.iload_n 2, 1) := by decide +kernel
theorem dX3_word_3 : decode cX3_word 3 = .ok (.aload_n 1, 1) := by decide +kernel
theorem dX3_word_4 : decode cX3_word 4 = .ok (.invokevirtual 73, 3) := by decide +kernel
theorem dX3_word_7 : decode cX3_word 7 = .ok (.if_icmp .ge 33, 3) := by decide +kernel
theorem dX3_word_10 : decode cX3_word 10 = .ok (.aload_n 0, 1) := by decide +kernel
theorem dX3_word_11 : decode cX3_word 11 = .ok (.invokevirtual 42, 3) := by decide +kernel
theorem dX3_word_14 : decode cX3_word 14 = .ok (.aload_n 1, 1) := by decide +kernel
theorem dX3_word_15 : decode cX3_word 15 = .ok (.iload_n 2, 1) := by decide +kernel
theorem dX3_word_16 : decode cX3_word 16 = .ok (.invokevirtual 78, 3) := by decide +kernel
theorem dX3_word_19 : decode cX3_word 19 = .ok (.if_icmp .eq 5, 3) := by decide +kernel
theorem dX3_word_22 : decode cX3_word 22 = .ok (.iconst 0, 1) := by decide +kernel
theorem dX3_word_23 : decode cX3_word 23 = .ok (.ireturn, 1) := by decide +kernel
theorem dX3_word_24 : decode cX3_word 24 = .ok (.aload_n 0, 1) := by decide +kernel
theorem dX3_word_25 : decode cX3_word 25 = .ok (.dup, 1) := by decide +kernel
theorem dX3_word_26 : decode cX3_word 26 = .ok (.getfield 26, 3) := by decide +kernel
theorem dX3_word_29 : decode cX3_word 29 = .ok (.iconst 1, 1) := by decide +kernel
theorem dX3_word_30 : decode cX3_word 30 = .ok (.iadd, 1) := by decide +kernel
theorem dX3_word_31 : decode cX3_word 31 = .ok (.putfield 26, 3) := by decide +kernel
theorem dX3_word_34 : decode cX3_word 34 = .ok (.iinc 2 1, 3) := by decide +kernel
theorem dX3_word_37 : decode cX3_word 37 = .ok (.goto (-35), 3) := by decide +kernel
theorem dX3_word_40 : decode cX3_word 40 = .ok (.iconst 1, 1) := by decide +kernel
theorem dX3_word_41 : decode cX3_word 41 = .ok (.ireturn, 1) := by decide +kernel
theorem dX3_number_0 : decode cX3_number 0 = .ok (.iconst (-1), 1) := by decide +kernel
theorem dX3_number_1 : decode cX3_number 1 = .ok (.istore_n 1, 1) := by decide +kernel
theorem dX3_number_2 : decode cX3_number 2 = .ok (.iconst 0, 1) := by decide +kernel
theorem dX3_number_3 : decode cX3_number 3 = .ok (.istore_n 2, 1) := by decide +kernel
theorem dX3_number_4 : decode cX3_number 4 = .ok (.iload_n 2, 1) := by decide +kernel
theorem dX3_number_5 : decode cX3_number 5 = .ok (.iconst 2, 1) := by decide +kernel
theorem dX3_number_6 : decode cX3_number 6 = .ok (.if_icmp .ge 52, 3) := by decide +kernel
theorem dX3_number_9 : decode cX3_number 9 = .ok (.aload_n 0, 1) := by decide +kernel
theorem dX3_number_10 : decode cX3_number 10 = .ok (.invokevirtual 42, 3) := by decide +kernel
theorem dX3_number_13 : decode cX3_number 13 = .ok (.istore_n 3, 1) := by decide +kernel
theorem dX3_number_14 : decode cX3_number 14 = .ok (.iload_n 3, 1) := by decide +kernel
theorem dX3_number_15 : decode cX3_number 15 = .ok (.bipush 48, 2) := by decide +kernel
theorem dX3_number_17 : decode cX3_number 17 = .ok (.if_icmp .lt 9, 3) := by decide +kernel
theorem dX3_number_20 : decode cX3_number 20 = .ok (.iload_n 3, 1) := by decide +kernel
theorem dX3_number_21 : decode cX3_number 21 = .ok (.bipush 57, 2) := by decide +kernel
theorem dX3_number_23 : decode cX3_number 23 = .ok (.if_icmp .le 5, 3) := by decide +kernel
theorem dX3_number_26 : decode cX3_number 26 = .ok (.iload_n 1, 1) := by decide +kernel
theorem dX3_number_27 : decode cX3_number 27 = .ok (.ireturn, 1) := by decide +kernel
theorem dX3_number_28 : decode cX3_number 28 = .ok (.iload_n 1, 1) := by decide +kernel
theorem dX3_number_29 : decode cX3_number 29 = .ok (.iconst 0, 1) := by decide +kernel
theorem dX3_number_30 : decode cX3_number 30 = .ok (.invokestatic 82, 3) := by decide +kernel
theorem dX3_number_33 : decode cX3_number 33 = .ok (.bipush 10, 2) := by decide +kernel
theorem dX3_number_35 : decode cX3_number 35 = .ok (.imul, 1) := by decide +kernel
theorem dX3_number_36 : decode cX3_number 36 = .ok (.iload_n 3, 1) := by decide +kernel
theorem dX3_number_37 : decode cX3_number 37 = .ok (.iadd, 1) := by decide +kernel
theorem dX3_number_38 : decode cX3_number 38 = .ok (.bipush 48, 2) := by decide +kernel
theorem dX3_number_40 : decode cX3_number 40 = .ok (.isub, 1) := by decide +kernel
theorem dX3_number_41 : decode cX3_number 41 = .ok (.istore_n 1, 1) := by decide +kernel
theorem dX3_number_42 : decode cX3_number 42 = .ok (.aload_n 0, 1) := by decide +kernel
theorem dX3_number_43 : decode cX3_number 43 = .ok (.dup, 1) := by decide +kernel
theorem dX3_number_44 : decode cX3_number 44 = .ok (.getfield 26, 3) := by decide +kernel
theorem dX3_number_47 : decode cX3_number 47 = .ok (.iconst 1, 1) := by decide +kernel
theorem dX3_number_48 : decode cX3_number 48 = .ok (.iadd, 1) := by decide +kernel
theorem dX3_number_49 : decode cX3_number 49 = .ok (.putfield 26, 3) := by decide +kernel
theorem dX3_number_52 : decode cX3_number 52 = .ok (.iinc 2 1, 3) := by decide +kernel
theorem dX3_number_55 : decode cX3_number 55 = .ok (.goto (-51), 3) := by decide +kernel
theorem dX3_number_58 : decode cX3_number 58 = .ok (.iload_n 1, 1) := by decide +kernel
theorem dX3_number_59 : decode cX3_number 59 = .ok (.ireturn, 1) := by decide +kernel
theorem dX3_either_0 : decode cX3_either 0 = .ok (.iconst 0, 1) := by decide +kernel
theorem dX3_either_1 : decode cX3_either 1 = .ok (.istore_n 2, 1) := by decide +kernel
theorem dX3_either_2 : decode cX3_either 2 = .ok (.iconst 0, 1) := by decide +kernel
theorem dX3_either_3 : decode cX3_either 3 = .ok (.istore_n 3, 1) := by decide +kernel
theorem dX3_either_4 : decode cX3_either 4 = .ok (.iconst 0, 1) := by decide +kernel
theorem dX3_either_5 : decode cX3_either 5 = .ok (.istore 4, 2) := by decide +kernel
theorem dX3_either_7 : decode cX3_either 7 = .ok (.iload 4, 2) := by decide +kernel
theorem dX3_either_9 : decode cX3_either 9 = .ok (.bipush 100, 2) := by decide +kernel
theorem dX3_either_11 : decode cX3_either 11 = .ok (.if_icmp .ge 99, 3) := by decide +kernel
theorem dX3_either_14 : decode cX3_either 14 = .ok (.aload_n 0, 1) := by decide +kernel
theorem dX3_either_15 : decode cX3_either 15 = .ok (.iload_n 1, 1) := by decide +kernel
theorem dX3_either_16 : decode cX3_either 16 = .ok (.invokevirtual 88, 3) := by decide +kernel
theorem dX3_either_19 : decode cX3_either 19 = .ok (.ifCond .ne 5, 3) := by decide +kernel
theorem dX3_either_22 : decode cX3_either 22 = .ok (.iconst 0, 1) := by decide +kernel
theorem dX3_either_23 : decode cX3_either 23 = .ok (.ireturn, 1) := by decide +kernel
theorem dX3_either_24 : decode cX3_either 24 = .ok (.iload_n 3, 1) := by decide +kernel
theorem dX3_either_25 : decode cX3_either 25 = .ok (.ifCond .eq 14, 3) := by decide +kernel
theorem dX3_either_28 : decode cX3_either 28 = .ok (.aload_n 0, 1) := by decide +kernel
theorem dX3_either_29 : decode cX3_either 29 = .ok (.getfield 12, 3) := by decide +kernel
theorem dX3_either_32 : decode cX3_either 32 = .ok (.bipush 7, 2) := by decide +kernel
theorem dX3_either_34 : decode cX3_either 34 = .ok (.iconst 0, 1) := by decide +kernel
theorem dX3_either_35 : decode cX3_either 35 = .ok (.iconst 0, 1) := by decide +kernel
theorem dX3_either_36 : decode cX3_either 36 = .ok (.invokevirtual 91, 3) := by decide +kernel
theorem dX3_either_39 : decode cX3_either 39 = .ok (.aload_n 0, 1) := by decide +kernel
theorem dX3_either_40 : decode cX3_either 40 = .ok (.invokevirtual 42, 3) := by decide +kernel
theorem dX3_either_43 : decode cX3_either 43 = .ok (.bipush 38, 2) := by decide +kernel
theorem dX3_either_45 : decode cX3_either 45 = .ok (.if_icmp .ne 7, 3) := by decide +kernel
theorem dX3_either_48 : decode cX3_either 48 = .ok (.iconst 1, 1) := by decide +kernel
theorem dX3_either_49 : decode cX3_either 49 = .ok (.goto 4, 3) := by decide +kernel
theorem dX3_either_52 : decode cX3_either 52 = .ok (.iconst 0, 1) := by decide +kernel
theorem dX3_either_53 : decode cX3_either 53 = .ok (.istore_n 3, 1) := by decide +kernel
theorem dX3_either_54 : decode cX3_either 54 = .ok (.iload_n 3, 1) := by decide +kernel
theorem dX3_either_55 : decode cX3_either 55 = .ok (.ifCond .ne 39, 3) := by decide +kernel
theorem dX3_either_58 : decode cX3_either 58 = .ok (.iload_n 2, 1) := by decide +kernel
theorem dX3_either_59 : decode cX3_either 59 = .ok (.ifCond .eq 14, 3) := by decide +kernel
theorem dX3_either_62 : decode cX3_either 62 = .ok (.aload_n 0, 1) := by decide +kernel
theorem dX3_either_63 : decode cX3_either 63 = .ok (.getfield 12, 3) := by decide +kernel
theorem dX3_either_66 : decode cX3_either 66 = .ok (.bipush 8, 2) := by decide +kernel
theorem dX3_either_68 : decode cX3_either 68 = .ok (.iconst 0, 1) := by decide +kernel
theorem dX3_either_69 : decode cX3_either 69 = .ok (.iconst 0, 1) := by decide +kernel
theorem dX3_either_70 : decode cX3_either 70 = .ok (.invokevirtual 91, 3) := by decide +kernel
theorem dX3_either_73 : decode cX3_either 73 = .ok (.aload_n 0, 1) := by decide +kernel
theorem dX3_either_74 : decode cX3_either 74 = .ok (.invokevirtual 42, 3) := by decide +kernel
theorem dX3_either_77 : decode cX3_either 77 = .ok (.bipush 124, 2) := by decide +kernel
theorem dX3_either_79 : decode cX3_either 79 = .ok (.if_icmp .ne 7, 3) := by decide +kernel
theorem dX3_either_82 : decode cX3_either 82 = .ok (.iconst 1, 1) := by decide +kernel
theorem dX3_either_83 : decode cX3_either 83 = .ok (.goto 4, 3) := by decide +kernel
theorem dX3_either_86 : decode cX3_either 86 = .ok (.iconst 0, 1) := by decide +kernel
theorem dX3_either_87 : decode cX3_either 87 = .ok (.istore_n 2, 1) := by decide +kernel
theorem dX3_either_88 : decode cX3_either 88 = .ok (.iload_n 2, 1) := by decide +kernel
theorem dX3_either_89 : decode cX3_either 89 = .ok (.ifCond .ne 5, 3) := by decide +kernel
theorem dX3_either_92 : decode cX3_either 92 = .ok (.iconst 1, 1) := by decide +kernel
theorem dX3_either_93 : decode cX3_either 93 = .ok (.ireturn, 1) := by decide +kernel
theorem dX3_either_94 : decode cX3_either 94 = .ok (.aload_n 0, 1) := by decide +kernel
theorem dX3_either_95 : decode cX3_either 95 = .ok (.dup, 1) := by decide +kernel
theorem dX3_either_96 : decode cX3_either 96 = .ok (.getfield 26, 3) := by decide +kernel
theorem dX3_either_99 : decode cX3_either 99 = .ok (.iconst 1, 1) := by decide +kernel
theorem dX3_either_100 : decode cX3_either 100 = .ok (.iadd, 1) := by decide +kernel
theorem dX3_either_101 : decode cX3_either 101 = .ok (.putfield 26, 3) := by decide +kernel
theorem dX3_either_104 : decode cX3_either 104 = .ok (.iinc 4 1, 3) := by decide +kernel
theorem dX3_either_107 : decode cX3_either 107 = .ok (.goto (-100), 3) := by decide +kernel
theorem dX3_either_110 : decode cX3_either 110 = .ok (.iconst 0, 1) := by decide +kernel
theorem dX3_either_111 : decode cX3_either 111 = .ok (.ireturn, 1) := by decide +kernel
theorem dX3_factor_0 : decode cX3_factor 0 = .ok (.aload_n 0, 1) := by decide +kernel
theorem dX3_factor_1 : decode cX3_factor 1 = .ok (.invokevirtual 42, 3) := by decide +kernel
theorem dX3_factor_4 : decode cX3_factor 4 = .ok (.istore_n 2, 1) := by decide +kernel
theorem dX3_factor_5 : decode cX3_factor 5 = .ok (.iload_n 1, 1) := by decide +kernel
theorem dX3_factor_6 : decode cX3_factor 6 = .ok (.iconst 4, 1) := by decide +kernel
theorem dX3_factor_7 : decode cX3_factor 7 = .ok (.if_icmp .ge 15, 3) := by decide +kernel
theorem dX3_factor_10 : decode cX3_factor 10 = .ok (.iload_n 2, 1) := by decide +kernel
theorem dX3_factor_11 : decode cX3_factor 11 = .ok (.bipush 33, 2) := by decide +kernel
theorem dX3_factor_13 : decode cX3_factor 13 = .ok (.if_icmp .eq 14, 3) := by decide +kernel
theorem dX3_factor_16 : decode cX3_factor 16 = .ok (.iload_n 2, 1) := by decide +kernel
theorem dX3_factor_17 : decode cX3_factor 17 = .ok (.bipush 40, 2) := by decide +kernel
theorem dX3_factor_19 : decode cX3_factor 19 = .ok (.if_icmp .eq 8, 3) := by decide +kernel
theorem dX3_factor_22 : decode cX3_factor 22 = .ok (.aload_n 0, 1) := by decide +kernel
theorem dX3_factor_23 : decode cX3_factor 23 = .ok (.invokevirtual 95, 3) := by decide +kernel
theorem dX3_factor_26 : decode cX3_factor 26 = .ok (.ireturn, 1) := by decide +kernel
theorem dX3_factor_27 : decode cX3_factor 27 = .ok (.aload_n 0, 1) := by decide +kernel
theorem dX3_factor_28 : decode cX3_factor 28 = .ok (.dup, 1) := by decide +kernel
theorem dX3_factor_29 : decode cX3_factor 29 = .ok (.getfield 26, 3) := by decide +kernel
theorem dX3_factor_32 : decode cX3_factor 32 = .ok (.iconst 1, 1) := by decide +kernel
theorem dX3_factor_33 : decode cX3_factor 33 = .ok (.iadd, 1) := by decide +kernel
theorem dX3_factor_34 : decode cX3_factor 34 = .ok (.putfield 26, 3) := by decide +kernel
theorem dX3_factor_37 : decode cX3_factor 37 = .ok (.iload_n 2, 1) := by decide +kernel
theorem dX3_factor_38 : decode cX3_factor 38 = .ok (.bipush 40, 2) := by decide +kernel
theorem dX3_factor_40 : decode cX3_factor 40 = .ok (.if_icmp .ne 28, 3) := by decide +kernel
theorem dX3_factor_43 : decode cX3_factor 43 = .ok (.aload_n 0, 1) := by decide +kernel
theorem dX3_factor_44 : decode cX3_factor 44 = .ok (.iload_n 1, 1) := by decide +kernel
theorem dX3_factor_45 : decode cX3_factor 45 = .ok (.iconst 1, 1) := by decide +kernel
theorem dX3_factor_46 : decode cX3_factor 46 = .ok (.iadd, 1) := by decide +kernel
theorem dX3_factor_47 : decode cX3_factor 47 = .ok (.invokevirtual 58, 3) := by decide +kernel
theorem dX3_factor_50 : decode cX3_factor 50 = .ok (.ifCond .eq 16, 3) := by decide +kernel
theorem dX3_factor_53 : decode cX3_factor 53 = .ok (.aload_n 0, 1) := by decide +kernel
theorem dX3_factor_54 : decode cX3_factor 54 = .ok (.ldc 98, 2) := by decide +kernel
theorem dX3_factor_56 : decode cX3_factor 56 = .ok (.invokevirtual 38, 3) := by decide +kernel
theorem dX3_factor_59 : decode cX3_factor 59 = .ok (.ifCond .eq 7, 3) := by decide +kernel
theorem dX3_factor_62 : decode cX3_factor 62 = .ok (.iconst 1, 1) := by decide +kernel
theorem dX3_factor_63 : decode cX3_factor 63 = .ok (.goto 4, 3) := by decide +kernel
theorem dX3_factor_66 : decode cX3_factor 66 = .ok (.iconst 0, 1) := by decide +kernel
theorem dX3_factor_67 : decode cX3_factor 67 = .ok (.ireturn, 1) := by decide +kernel
theorem dX3_factor_68 : decode cX3_factor 68 = .ok (.aload_n 0, 1) := by decide +kernel
theorem dX3_factor_69 : decode cX3_factor 69 = .ok (.iload_n 1, 1) := by decide +kernel
theorem dX3_factor_70 : decode cX3_factor 70 = .ok (.iconst 1, 1) := by decide +kernel
theorem dX3_factor_71 : decode cX3_factor 71 = .ok (.iadd, 1) := by decide +kernel
theorem dX3_factor_72 : decode cX3_factor 72 = .ok (.invokevirtual 88, 3) := by decide +kernel
theorem dX3_factor_75 : decode cX3_factor 75 = .ok (.ifCond .ne 5, 3) := by decide +kernel
theorem dX3_factor_78 : decode cX3_factor 78 = .ok (.iconst 0, 1) := by decide +kernel
theorem dX3_factor_79 : decode cX3_factor 79 = .ok (.ireturn, 1) := by decide +kernel
theorem dX3_factor_80 : decode cX3_factor 80 = .ok (.aload_n 0, 1) := by decide +kernel
theorem dX3_factor_81 : decode cX3_factor 81 = .ok (.getfield 12, 3) := by decide +kernel
theorem dX3_factor_84 : decode cX3_factor 84 = .ok (.bipush 6, 2) := by decide +kernel
theorem dX3_factor_86 : decode cX3_factor 86 = .ok (.iconst 0, 1) := by decide +kernel
theorem dX3_factor_87 : decode cX3_factor 87 = .ok (.iconst 0, 1) := by decide +kernel
theorem dX3_factor_88 : decode cX3_factor 88 = .ok (.invokevirtual 91, 3) := by decide +kernel
theorem dX3_factor_91 : decode cX3_factor 91 = .ok (.iconst 1, 1) := by decide +kernel
theorem dX3_factor_92 : decode cX3_factor 92 = .ok (.ireturn, 1) := by decide +kernel
theorem dX3_test_0 : decode cX3_test 0 = .ok (.aload_n 0, 1) := by decide +kernel
theorem dX3_test_1 : decode cX3_test 1 = .ok (.invokevirtual 42, 3) := by decide +kernel
theorem dX3_test_4 : decode cX3_test 4 = .ok (.iconst (-1), 1) := by decide +kernel
theorem dX3_test_5 : decode cX3_test 5 = .ok (.if_icmp .ne 7, 3) := by decide +kernel
theorem dX3_test_8 : decode cX3_test 8 = .ok (.iconst (-1), 1) := by decide +kernel
theorem dX3_test_9 : decode cX3_test 9 = .ok (.goto 13, 3) := by decide +kernel
theorem dX3_test_12 : decode cX3_test 12 = .ok (.ldc 100, 2) := by decide +kernel
theorem dX3_test_14 : decode cX3_test 14 = .ok (.aload_n 0, 1) := by decide +kernel
theorem dX3_test_15 : decode cX3_test 15 = .ok (.invokevirtual 42, 3) := by decide +kernel
theorem dX3_test_18 : decode cX3_test 18 = .ok (.i2c, 1) := by decide +kernel
theorem dX3_test_19 : decode cX3_test 19 = .ok (.invokevirtual 102, 3) := by decide +kernel
theorem dX3_test_22 : decode cX3_test 22 = .ok (.istore_n 1, 1) := by decide +kernel
theorem dX3_test_23 : decode cX3_test 23 = .ok (.iload_n 1, 1) := by decide +kernel
theorem dX3_test_24 : decode cX3_test 24 = .ok (.ifCond .ge 5, 3) := by decide +kernel
theorem dX3_test_27 : decode cX3_test 27 = .ok (.iconst 0, 1) := by decide +kernel
theorem dX3_test_28 : decode cX3_test 28 = .ok (.ireturn, 1) := by decide +kernel
theorem dX3_test_29 : decode cX3_test 29 = .ok (.aload_n 0, 1) := by decide +kernel
theorem dX3_test_30 : decode cX3_test 30 = .ok (.dup, 1) := by decide +kernel
theorem dX3_test_31 : decode cX3_test 31 = .ok (.getfield 26, 3) := by decide +kernel
theorem dX3_test_34 : decode cX3_test 34 = .ok (.iconst 1, 1) := by decide +kernel
theorem dX3_test_35 : decode cX3_test 35 = .ok (.iadd, 1) := by decide +kernel
theorem dX3_test_36 : decode cX3_test 36 = .ok (.putfield 26, 3) := by decide +kernel
theorem dX3_test_39 : decode cX3_test 39 = .ok (.aload_n 0, 1) := by decide +kernel
theorem dX3_test_40 : decode cX3_test 40 = .ok (.invokevirtual 42, 3) := by decide +kernel
theorem dX3_test_43 : decode cX3_test 43 = .ok (.istore_n 2, 1) := by decide +kernel
theorem dX3_test_44 : decode cX3_test 44 = .ok (.iload_n 2, 1) := by decide +kernel
theorem dX3_test_45 : decode cX3_test 45 = .ok (.bipush 60, 2) := by decide +kernel
theorem dX3_test_47 : decode cX3_test 47 = .ok (.if_icmp .eq 17, 3) := by decide +kernel
theorem dX3_test_50 : decode cX3_test 50 = .ok (.iload_n 2, 1) := by decide +kernel
theorem dX3_test_51 : decode cX3_test 51 = .ok (.bipush 61, 2) := by decide +kernel
theorem dX3_test_53 : decode cX3_test 53 = .ok (.if_icmp .eq 11, 3) := by decide +kernel
theorem dX3_test_56 : decode cX3_test 56 = .ok (.iload_n 2, 1) := by decide +kernel
theorem dX3_test_57 : decode cX3_test 57 = .ok (.bipush 62, 2) := by decide +kernel
theorem dX3_test_59 : decode cX3_test 59 = .ok (.if_icmp .eq 5, 3) := by decide +kernel
theorem dX3_test_62 : decode cX3_test 62 = .ok (.iconst 0, 1) := by decide +kernel
theorem dX3_test_63 : decode cX3_test 63 = .ok (.ireturn, 1) := by decide +kernel
theorem dX3_test_64 : decode cX3_test 64 = .ok (.aload_n 0, 1) := by decide +kernel
theorem dX3_test_65 : decode cX3_test 65 = .ok (.dup, 1) := by decide +kernel
theorem dX3_test_66 : decode cX3_test 66 = .ok (.getfield 26, 3) := by decide +kernel
theorem dX3_test_69 : decode cX3_test 69 = .ok (.iconst 1, 1) := by decide +kernel
theorem dX3_test_70 : decode cX3_test 70 = .ok (.iadd, 1) := by decide +kernel
theorem dX3_test_71 : decode cX3_test 71 = .ok (.putfield 26, 3) := by decide +kernel
theorem dX3_test_74 : decode cX3_test 74 = .ok (.aload_n 0, 1) := by decide +kernel
theorem dX3_test_75 : decode cX3_test 75 = .ok (.invokevirtual 53, 3) := by decide +kernel
theorem dX3_test_78 : decode cX3_test 78 = .ok (.istore_n 3, 1) := by decide +kernel
theorem dX3_test_79 : decode cX3_test 79 = .ok (.iload_n 3, 1) := by decide +kernel
theorem dX3_test_80 : decode cX3_test 80 = .ok (.ifCond .ge 5, 3) := by decide +kernel
theorem dX3_test_83 : decode cX3_test 83 = .ok (.iconst 0, 1) := by decide +kernel
theorem dX3_test_84 : decode cX3_test 84 = .ok (.ireturn, 1) := by decide +kernel
theorem dX3_test_85 : decode cX3_test 85 = .ok (.aload_n 0, 1) := by decide +kernel
theorem dX3_test_86 : decode cX3_test 86 = .ok (.getfield 12, 3) := by decide +kernel
theorem dX3_test_89 : decode cX3_test 89 = .ok (.iload_n 1, 1) := by decide +kernel
theorem dX3_test_90 : decode cX3_test 90 = .ok (.iload_n 2, 1) := by decide +kernel
theorem dX3_test_91 : decode cX3_test 91 = .ok (.iload_n 3, 1) := by decide +kernel
theorem dX3_test_92 : decode cX3_test 92 = .ok (.invokevirtual 91, 3) := by decide +kernel
theorem dX3_test_95 : decode cX3_test 95 = .ok (.iconst 1, 1) := by decide +kernel
theorem dX3_test_96 : decode cX3_test 96 = .ok (.ireturn, 1) := by decide +kernel
theorem dX4_init_0 : decode cX4_init 0 = .ok (.aload_n 0, 1) := by decide +kernel
theorem dX4_init_1 : decode cX4_init 1 = .ok (.invokespecial 3, 3) := by decide +kernel
theorem dX4_init_4 : decode cX4_init 4 = .ok (.aload_n 0, 1) := by decide +kernel
theorem dX4_init_5 : decode cX4_init 5 = .ok (.iconst (-1), 1) := by decide +kernel
theorem dX4_init_6 : decode cX4_init 6 = .ok (.putfield 9, 3) := by decide +kernel
theorem dX4_init_9 : decode cX4_init 9 = .ok (.aload_n 0, 1) := by decide +kernel
theorem dX4_init_10 : decode cX4_init 10 = .ok (.bipush 60, 2) := by decide +kernel
theorem dX4_init_12 : decode cX4_init 12 = .ok (.newarray .long, 2) := by decide +kernel
theorem dX4_init_14 : decode cX4_init 14 = .ok (.putfield 15, 3) := by decide +kernel
theorem dX4_init_17 : decode cX4_init 17 = .ok (.return_, 1) := by decide +kernel
theorem dX4_become_0 : decode cX4_become 0 = .ok (.aload_n 0, 1) := by decide +kernel
theorem dX4_become_1 : decode cX4_become 1 = .ok (.iload_n 1, 1) := by decide +kernel
theorem dX4_become_2 : decode cX4_become 2 = .ok (.putfield 9, 3) := by decide +kernel
theorem dX4_become_5 : decode cX4_become 5 = .ok (.aload_n 0, 1) := by decide +kernel
theorem dX4_become_6 : decode cX4_become 6 = .ok (.iload_n 2, 1) := by decide +kernel
theorem dX4_become_7 : decode cX4_become 7 = .ok (.putfield 19, 3) := by decide +kernel
theorem dX4_become_10 : decode cX4_become 10 = .ok (.iconst 0, 1) := by decide +kernel
theorem dX4_become_11 : decode cX4_become 11 = .ok (.istore_n 3, 1) := by decide +kernel
theorem dX4_become_12 : decode cX4_become 12 = .ok (.iload_n 3, 1) := by decide +kernel
theorem dX4_become_13 : decode cX4_become 13 = .ok (.bipush 60, 2) := by decide +kernel
theorem dX4_become_15 : decode cX4_become 15 = .ok (.if_icmp .ge 16, 3) := by decide +kernel
theorem dX4_become_18 : decode cX4_become 18 = .ok (.aload_n 0, 1) := by decide +kernel
theorem dX4_become_19 : decode cX4_become 19 = .ok (.getfield 15, 3) := by decide +kernel
theorem dX4_become_22 : decode cX4_become 22 = .ok (.iload_n 3, 1) := by decide +kernel
theorem dX4_become_23 : decode cX4_become 23 = .ok (.lconst 0, 1) := by decide +kernel
theorem dX4_become_24 : decode cX4_become 24 = .ok (.lastore, 1) := by decide +kernel
theorem dX4_become_25 : decode cX4_become 25 = .ok (.iinc 3 1, 3) := by decide +kernel
theorem dX4_become_28 : decode cX4_become 28 = .ok (.goto (-16), 3) := by decide +kernel
theorem dX4_become_31 : decode cX4_become 31 = .ok (.return_, 1) := by decide +kernel
theorem dX4_reaches_0 : decode cX4_reaches 0 = .ok (.iload_n 1, 1) := by decide +kernel
theorem dX4_reaches_1 : decode cX4_reaches 1 = .ok (.ifCond .lt 29, 3) := by decide +kernel
theorem dX4_reaches_4 : decode cX4_reaches 4 = .ok (.iload_n 2, 1) := by decide +kernel
theorem dX4_reaches_5 : decode cX4_reaches 5 = .ok (.ifCond .lt 25, 3) := by decide +kernel
theorem dX4_reaches_8 : decode cX4_reaches 8 = .ok (.iload_n 2, 1) := by decide +kernel
theorem dX4_reaches_9 : decode cX4_reaches 9 = .ok (.aload_n 0, 1) := by decide +kernel
theorem dX4_reaches_10 : decode cX4_reaches 10 = .ok (.getfield 19, 3) := by decide +kernel
theorem dX4_reaches_13 : decode cX4_reaches 13 = .ok (.if_icmp .gt 17, 3) := by decide +kernel
theorem dX4_reaches_16 : decode cX4_reaches 16 = .ok (.iload_n 1, 1) := by decide +kernel
theorem dX4_reaches_17 : decode cX4_reaches 17 = .ok (.aload_n 0, 1) := by decide +kernel
theorem dX4_reaches_18 : decode cX4_reaches 18 = .ok (.getfield 19, 3) := by decide +kernel
theorem dX4_reaches_21 : decode cX4_reaches 21 = .ok (.iload_n 2, 1) := by decide +kernel
theorem dX4_reaches_22 : decode cX4_reaches 22 = .ok (.isub, 1) := by decide +kernel
theorem dX4_reaches_23 : decode cX4_reaches 23 = .ok (.if_icmp .gt 7, 3) := by decide +kernel
theorem dX4_reaches_26 : decode cX4_reaches 26 = .ok (.iconst 1, 1) := by decide +kernel
theorem dX4_reaches_27 : decode cX4_reaches 27 = .ok (.goto 4, 3) := by decide +kernel
theorem dX4_reaches_30 : decode cX4_reaches 30 = .ok (.iconst 0, 1) := by decide +kernel
theorem dX4_reaches_31 : decode cX4_reaches 31 = .ok (.ireturn, 1) := by decide +kernel
theorem dX4_fitted_0 : decode cX4_fitted 0 = .ok (.aload_n 0, 1) := by decide +kernel
theorem dX4_fitted_1 : decode cX4_fitted 1 = .ok (.getfield 9, 3) := by decide +kernel
theorem dX4_fitted_4 : decode cX4_fitted 4 = .ok (.tableswitch 62 0 4 #[36, 41, 46, 62, 50], 36) := by decide +kernel
theorem dX4_fitted_40 : decode cX4_fitted 40 = .ok (.lload_n 1, 1) := by decide +kernel
theorem dX4_fitted_41 : decode cX4_fitted 41 = .ok (.l2i, 1) := by decide +kernel
theorem dX4_fitted_42 : decode cX4_fitted 42 = .ok (.i2b, 1) := by decide +kernel
theorem dX4_fitted_43 : decode cX4_fitted 43 = .ok (.i2l, 1) := by decide +kernel
theorem dX4_fitted_44 : decode cX4_fitted 44 = .ok (.lreturn, 1) := by decide +kernel
theorem dX4_fitted_45 : decode cX4_fitted 45 = .ok (.lload_n 1, 1) := by decide +kernel
theorem dX4_fitted_46 : decode cX4_fitted 46 = .ok (.l2i, 1) := by decide +kernel
theorem dX4_fitted_47 : decode cX4_fitted 47 = .ok (.i2s, 1) := by decide +kernel
theorem dX4_fitted_48 : decode cX4_fitted 48 = .ok (.i2l, 1) := by decide +kernel
theorem dX4_fitted_49 : decode cX4_fitted 49 = .ok (.lreturn, 1) := by decide +kernel
theorem dX4_fitted_50 : decode cX4_fitted 50 = .ok (.lload_n 1, 1) := by decide +kernel
theorem dX4_fitted_51 : decode cX4_fitted 51 = .ok (.l2i, 1) := by decide +kernel
theorem dX4_fitted_52 : decode cX4_fitted 52 = .ok (.i2l, 1) := by decide +kernel
theorem dX4_fitted_53 : decode cX4_fitted 53 = .ok (.lreturn, 1) := by decide +kernel
theorem dX4_fitted_54 : decode cX4_fitted 54 = .ok (.lload_n 1, 1) := by decide +kernel
theorem dX4_fitted_55 : decode cX4_fitted 55 = .ok (.lconst 0, 1) := by decide +kernel
theorem dX4_fitted_56 : decode cX4_fitted 56 = .ok (.lcmp, 1) := by decide +kernel
theorem dX4_fitted_57 : decode cX4_fitted 57 = .ok (.ifCond .eq 7, 3) := by decide +kernel
theorem dX4_fitted_60 : decode cX4_fitted 60 = .ok (.lconst 1, 1) := by decide +kernel
theorem dX4_fitted_61 : decode cX4_fitted 61 = .ok (.goto 4, 3) := by decide +kernel
theorem dX4_fitted_64 : decode cX4_fitted 64 = .ok (.lconst 0, 1) := by decide +kernel
theorem dX4_fitted_65 : decode cX4_fitted 65 = .ok (.lreturn, 1) := by decide +kernel
theorem dX4_fitted_66 : decode cX4_fitted 66 = .ok (.lload_n 1, 1) := by decide +kernel
theorem dX4_fitted_67 : decode cX4_fitted 67 = .ok (.lreturn, 1) := by decide +kernel
theorem dJ11_isValidCodePoint_9a6ad_0 : decode cJ11_isValidCodePoint_9a6ad 0 = .ok (.iload_n 0, 1) := by decide +kernel
theorem dJ11_isValidCodePoint_9a6ad_1 : decode cJ11_isValidCodePoint_9a6ad 1 = .ok (.bipush 16, 2) := by decide +kernel
theorem dJ11_isValidCodePoint_9a6ad_3 : decode cJ11_isValidCodePoint_9a6ad 3 = .ok (.iushr, 1) := by decide +kernel
theorem dJ11_isValidCodePoint_9a6ad_4 : decode cJ11_isValidCodePoint_9a6ad 4 = .ok (.istore_n 1, 1) := by decide +kernel
theorem dJ11_isValidCodePoint_9a6ad_5 : decode cJ11_isValidCodePoint_9a6ad 5 = .ok (.iload_n 1, 1) := by decide +kernel
theorem dJ11_isValidCodePoint_9a6ad_6 : decode cJ11_isValidCodePoint_9a6ad 6 = .ok (.bipush 17, 2) := by decide +kernel
theorem dJ11_isValidCodePoint_9a6ad_8 : decode cJ11_isValidCodePoint_9a6ad 8 = .ok (.if_icmp .ge 7, 3) := by decide +kernel
theorem dJ11_isValidCodePoint_9a6ad_11 : decode cJ11_isValidCodePoint_9a6ad 11 = .ok (.iconst 1, 1) := by decide +kernel
theorem dJ11_isValidCodePoint_9a6ad_12 : decode cJ11_isValidCodePoint_9a6ad 12 = .ok (.goto 4, 3) := by decide +kernel
theorem dJ11_isValidCodePoint_9a6ad_15 : decode cJ11_isValidCodePoint_9a6ad 15 = .ok (.iconst 0, 1) := by decide +kernel
theorem dJ11_isValidCodePoint_9a6ad_16 : decode cJ11_isValidCodePoint_9a6ad 16 = .ok (.ireturn, 1) := by decide +kernel
theorem dJ11_highSurrogate_5068e_0 : decode cJ11_highSurrogate_5068e 0 = .ok (.iload_n 0, 1) := by decide +kernel
theorem dJ11_highSurrogate_5068e_1 : decode cJ11_highSurrogate_5068e 1 = .ok (.bipush 10, 2) := by decide +kernel
theorem dJ11_highSurrogate_5068e_3 : decode cJ11_highSurrogate_5068e 3 = .ok (.iushr, 1) := by decide +kernel
theorem dJ11_highSurrogate_5068e_4 : decode cJ11_highSurrogate_5068e 4 = .ok (.ldc 110, 2) := by decide +kernel
theorem dJ11_highSurrogate_5068e_6 : decode cJ11_highSurrogate_5068e 6 = .ok (.iadd, 1) := by decide +kernel
theorem dJ11_highSurrogate_5068e_7 : decode cJ11_highSurrogate_5068e 7 = .ok (.i2c, 1) := by decide +kernel
theorem dJ11_highSurrogate_5068e_8 : decode cJ11_highSurrogate_5068e 8 = .ok (.ireturn, 1) := by decide +kernel
theorem dJ11_lowSurrogate_5068e_0 : decode cJ11_lowSurrogate_5068e 0 = .ok (.iload_n 0, 1) := by decide +kernel
theorem dJ11_lowSurrogate_5068e_1 : decode cJ11_lowSurrogate_5068e 1 = .ok (.sipush 1023, 3) := by decide +kernel
theorem dJ11_lowSurrogate_5068e_4 : decode cJ11_lowSurrogate_5068e 4 = .ok (.iand, 1) := by decide +kernel
theorem dJ11_lowSurrogate_5068e_5 : decode cJ11_lowSurrogate_5068e 5 = .ok (.ldc 76, 2) := by decide +kernel
theorem dJ11_lowSurrogate_5068e_7 : decode cJ11_lowSurrogate_5068e 7 = .ok (.iadd, 1) := by decide +kernel
theorem dJ11_lowSurrogate_5068e_8 : decode cJ11_lowSurrogate_5068e 8 = .ok (.i2c, 1) := by decide +kernel
theorem dJ11_lowSurrogate_5068e_9 : decode cJ11_lowSurrogate_5068e 9 = .ok (.ireturn, 1) := by decide +kernel
theorem dJ9_abs_0f7a4_0 : decode cJ9_abs_0f7a4 0 = .ok (.iload_n 0, 1) := by decide +kernel
theorem dJ9_abs_0f7a4_1 : decode cJ9_abs_0f7a4 1 = .ok (.ifCond .ge 8, 3) := by decide +kernel
theorem dJ9_abs_0f7a4_4 : decode cJ9_abs_0f7a4 4 = .ok (.iload_n 0, 1) := by decide +kernel
theorem dJ9_abs_0f7a4_5 : decode cJ9_abs_0f7a4 5 = .ok (.ineg, 1) := by decide +kernel
theorem dJ9_abs_0f7a4_6 : decode cJ9_abs_0f7a4 6 = .ok (.goto 4, 3) := by decide +kernel
theorem dJ9_abs_0f7a4_9 : decode cJ9_abs_0f7a4 9 = .ok (.iload_n 0, 1) := by decide +kernel
theorem dJ9_abs_0f7a4_10 : decode cJ9_abs_0f7a4 10 = .ok (.ireturn, 1) := by decide +kernel
theorem dJ9_max_7cf53_0 : decode cJ9_max_7cf53 0 = .ok (.iload_n 0, 1) := by decide +kernel
theorem dJ9_max_7cf53_1 : decode cJ9_max_7cf53 1 = .ok (.iload_n 1, 1) := by decide +kernel
theorem dJ9_max_7cf53_2 : decode cJ9_max_7cf53 2 = .ok (.if_icmp .lt 7, 3) := by decide +kernel
theorem dJ9_max_7cf53_5 : decode cJ9_max_7cf53 5 = .ok (.iload_n 0, 1) := by decide +kernel
theorem dJ9_max_7cf53_6 : decode cJ9_max_7cf53 6 = .ok (.goto 4, 3) := by decide +kernel
theorem dJ9_max_7cf53_9 : decode cJ9_max_7cf53 9 = .ok (.iload_n 1, 1) := by decide +kernel
theorem dJ9_max_7cf53_10 : decode cJ9_max_7cf53 10 = .ok (.ireturn, 1) := by decide +kernel
theorem dJ9_min_7cf53_0 : decode cJ9_min_7cf53 0 = .ok (.iload_n 0, 1) := by decide +kernel
theorem dJ9_min_7cf53_1 : decode cJ9_min_7cf53 1 = .ok (.iload_n 1, 1) := by decide +kernel
theorem dJ9_min_7cf53_2 : decode cJ9_min_7cf53 2 = .ok (.if_icmp .gt 7, 3) := by decide +kernel
theorem dJ9_min_7cf53_5 : decode cJ9_min_7cf53 5 = .ok (.iload_n 0, 1) := by decide +kernel
theorem dJ9_min_7cf53_6 : decode cJ9_min_7cf53 6 = .ok (.goto 4, 3) := by decide +kernel
theorem dJ9_min_7cf53_9 : decode cJ9_min_7cf53 9 = .ok (.iload_n 1, 1) := by decide +kernel
theorem dJ9_min_7cf53_10 : decode cJ9_min_7cf53 10 = .ok (.ireturn, 1) := by decide +kernel
theorem dJ0_length_8abf5_0 : decode cJ0_length_8abf5 0 = .ok (.aload_n 0, 1) := by decide +kernel
theorem dJ0_length_8abf5_1 : decode cJ0_length_8abf5 1 = .ok (.getfield 9, 3) := by decide +kernel
theorem dJ0_length_8abf5_4 : decode cJ0_length_8abf5 4 = .ok (.arraylength, 1) := by decide +kernel
theorem dJ0_length_8abf5_5 : decode cJ0_length_8abf5 5 = .ok (.aload_n 0, 1) := by decide +kernel
theorem dJ0_length_8abf5_6 : decode cJ0_length_8abf5 6 = .ok (.invokevirtual 335, 3) := by decide +kernel
theorem dJ0_length_8abf5_9 : decode cJ0_length_8abf5 9 = .ok (.ishr, 1) := by decide +kernel
theorem dJ0_length_8abf5_10 : decode cJ0_length_8abf5 10 = .ok (.ireturn, 1) := by decide +kernel
theorem dJ0_charAt_5068e_0 : decode cJ0_charAt_5068e 0 = .ok (.aload_n 0, 1) := by decide +kernel
theorem dJ0_charAt_5068e_1 : decode cJ0_charAt_5068e 1 = .ok (.invokevirtual 492, 3) := by decide +kernel
theorem dJ0_charAt_5068e_4 : decode cJ0_charAt_5068e 4 = .ok (.ifCond .eq 12, 3) := by decide +kernel
theorem dJ0_charAt_5068e_7 : decode cJ0_charAt_5068e 7 = .ok (.aload_n 0, 1) := by decide +kernel
theorem dJ0_charAt_5068e_8 : decode cJ0_charAt_5068e 8 = .ok (.getfield 9, 3) := by decide +kernel
theorem dJ0_charAt_5068e_11 : decode cJ0_charAt_5068e 11 = .ok (.iload_n 1, 1) := by decide +kernel
theorem dJ0_charAt_5068e_12 : decode cJ0_charAt_5068e 12 = .ok (.invokestatic 495, 3) := by decide +kernel
theorem dJ0_charAt_5068e_15 : decode cJ0_charAt_5068e 15 = .ok (.ireturn, 1) := by decide +kernel
theorem dJ0_charAt_5068e_16 : decode cJ0_charAt_5068e 16 = .ok (.aload_n 0, 1) := by decide +kernel
theorem dJ0_charAt_5068e_17 : decode cJ0_charAt_5068e 17 = .ok (.getfield 9, 3) := by decide +kernel
theorem dJ0_charAt_5068e_20 : decode cJ0_charAt_5068e 20 = .ok (.iload_n 1, 1) := by decide +kernel
theorem dJ0_charAt_5068e_21 : decode cJ0_charAt_5068e 21 = .ok (.invokestatic 498, 3) := by decide +kernel
theorem dJ0_charAt_5068e_24 : decode cJ0_charAt_5068e 24 = .ok (.ireturn, 1) := by decide +kernel
theorem dJ0_indexOf_0f7a4_0 : decode cJ0_indexOf_0f7a4 0 = .ok (.aload_n 0, 1) := by decide +kernel
theorem dJ0_indexOf_0f7a4_1 : decode cJ0_indexOf_0f7a4 1 = .ok (.iload_n 1, 1) := by decide +kernel
theorem dJ0_indexOf_0f7a4_2 : decode cJ0_indexOf_0f7a4 2 = .ok (.iconst 0, 1) := by decide +kernel
theorem dJ0_indexOf_0f7a4_3 : decode cJ0_indexOf_0f7a4 3 = .ok (.invokevirtual 633, 3) := by decide +kernel
theorem dJ0_indexOf_0f7a4_6 : decode cJ0_indexOf_0f7a4 6 = .ok (.ireturn, 1) := by decide +kernel
theorem dJ0_indexOf_7cf53_0 : decode cJ0_indexOf_7cf53 0 = .ok (.aload_n 0, 1) := by decide +kernel
theorem dJ0_indexOf_7cf53_1 : decode cJ0_indexOf_7cf53 1 = .ok (.invokevirtual 492, 3) := by decide +kernel
theorem dJ0_indexOf_7cf53_4 : decode cJ0_indexOf_7cf53 4 = .ok (.ifCond .eq 19, 3) := by decide +kernel
theorem dJ0_indexOf_7cf53_7 : decode cJ0_indexOf_7cf53 7 = .ok (.aload_n 0, 1) := by decide +kernel
theorem dJ0_indexOf_7cf53_8 : decode cJ0_indexOf_7cf53 8 = .ok (.getfield 9, 3) := by decide +kernel
theorem dJ0_indexOf_7cf53_11 : decode cJ0_indexOf_7cf53 11 = .ok (.iload_n 1, 1) := by decide +kernel
theorem dJ0_indexOf_7cf53_12 : decode cJ0_indexOf_7cf53 12 = .ok (.iload_n 2, 1) := by decide +kernel
theorem dJ0_indexOf_7cf53_13 : decode cJ0_indexOf_7cf53 13 = .ok (.aload_n 0, 1) := by decide +kernel
theorem dJ0_indexOf_7cf53_14 : decode cJ0_indexOf_7cf53 14 = .ok (.invokevirtual 505, 3) := by decide +kernel
theorem dJ0_indexOf_7cf53_17 : decode cJ0_indexOf_7cf53 17 = .ok (.invokestatic 637, 3) := by decide +kernel
theorem dJ0_indexOf_7cf53_20 : decode cJ0_indexOf_7cf53 20 = .ok (.goto 16, 3) := by decide +kernel
theorem dJ0_indexOf_7cf53_23 : decode cJ0_indexOf_7cf53 23 = .ok (.aload_n 0, 1) := by decide +kernel
theorem dJ0_indexOf_7cf53_24 : decode cJ0_indexOf_7cf53 24 = .ok (.getfield 9, 3) := by decide +kernel
theorem dJ0_indexOf_7cf53_27 : decode cJ0_indexOf_7cf53 27 = .ok (.iload_n 1, 1) := by decide +kernel
theorem dJ0_indexOf_7cf53_28 : decode cJ0_indexOf_7cf53 28 = .ok (.iload_n 2, 1) := by decide +kernel
theorem dJ0_indexOf_7cf53_29 : decode cJ0_indexOf_7cf53 29 = .ok (.aload_n 0, 1) := by decide +kernel
theorem dJ0_indexOf_7cf53_30 : decode cJ0_indexOf_7cf53 30 = .ok (.invokevirtual 505, 3) := by decide +kernel
theorem dJ0_indexOf_7cf53_33 : decode cJ0_indexOf_7cf53 33 = .ok (.invokestatic 640, 3) := by decide +kernel
theorem dJ0_indexOf_7cf53_36 : decode cJ0_indexOf_7cf53 36 = .ok (.ireturn, 1) := by decide +kernel
theorem dJ0_coder_7d493_0 : decode cJ0_coder_7d493 0 = .ok (.getstatic 38, 3) := by decide +kernel
theorem dJ0_coder_7d493_3 : decode cJ0_coder_7d493 3 = .ok (.ifCond .eq 10, 3) := by decide +kernel
theorem dJ0_coder_7d493_6 : decode cJ0_coder_7d493 6 = .ok (.aload_n 0, 1) := by decide +kernel
theorem dJ0_coder_7d493_7 : decode cJ0_coder_7d493 7 = .ok (.getfield 15, 3) := by decide +kernel
theorem dJ0_coder_7d493_10 : decode cJ0_coder_7d493 10 = .ok (.goto 4, 3) := by decide +kernel
theorem dJ0_coder_7d493_13 : decode cJ0_coder_7d493 13 = .ok (.iconst 1, 1) := by decide +kernel
theorem dJ0_coder_7d493_14 : decode cJ0_coder_7d493 14 = .ok (.ireturn, 1) := by decide +kernel
theorem dJ0_isLatin1_aae02_0 : decode cJ0_isLatin1_aae02 0 = .ok (.getstatic 38, 3) := by decide +kernel
theorem dJ0_isLatin1_aae02_3 : decode cJ0_isLatin1_aae02 3 = .ok (.ifCond .eq 14, 3) := by decide +kernel
theorem dJ0_isLatin1_aae02_6 : decode cJ0_isLatin1_aae02 6 = .ok (.aload_n 0, 1) := by decide +kernel
theorem dJ0_isLatin1_aae02_7 : decode cJ0_isLatin1_aae02 7 = .ok (.getfield 15, 3) := by decide +kernel
theorem dJ0_isLatin1_aae02_10 : decode cJ0_isLatin1_aae02 10 = .ok (.ifCond .ne 7, 3) := by decide +kernel
theorem dJ0_isLatin1_aae02_13 : decode cJ0_isLatin1_aae02 13 = .ok (.iconst 1, 1) := by decide +kernel
theorem dJ0_isLatin1_aae02_14 : decode cJ0_isLatin1_aae02 14 = .ok (.goto 4, 3) := by decide +kernel
theorem dJ0_isLatin1_aae02_17 : decode cJ0_isLatin1_aae02 17 = .ok (.iconst 0, 1) := by decide +kernel
theorem dJ0_isLatin1_aae02_18 : decode cJ0_isLatin1_aae02 18 = .ok (.ireturn, 1) := by decide +kernel
theorem dJ0_checkIndex_df160_0 : decode cJ0_checkIndex_df160 0 = .ok (.iload_n 0, 1) := by decide +kernel
theorem dJ0_checkIndex_df160_1 : decode cJ0_checkIndex_df160 1 = .ok (.iload_n 1, 1) := by decide +kernel
theorem dJ0_checkIndex_df160_2 : decode cJ0_checkIndex_df160 2 = .ok (.getstatic 1053, 3) := by decide +kernel
theorem dJ0_checkIndex_df160_5 : decode cJ0_checkIndex_df160 5 = .ok (.invokestatic 1059, 3) := by decide +kernel
theorem dJ0_checkIndex_df160_8 : decode cJ0_checkIndex_df160 8 = .ok (.pop, 1) := by decide +kernel
theorem dJ0_checkIndex_df160_9 : decode cJ0_checkIndex_df160 9 = .ok (.return_, 1) := by decide +kernel
theorem dJ0_checkBoundsBeginEnd_23922_0 : decode cJ0_checkBoundsBeginEnd_23922 0 = .ok (.iload_n 0, 1) := by decide +kernel
theorem dJ0_checkBoundsBeginEnd_23922_1 : decode cJ0_checkBoundsBeginEnd_23922 1 = .ok (.iload_n 1, 1) := by decide +kernel
theorem dJ0_checkBoundsBeginEnd_23922_2 : decode cJ0_checkBoundsBeginEnd_23922 2 = .ok (.iload_n 2, 1) := by decide +kernel
theorem dJ0_checkBoundsBeginEnd_23922_3 : decode cJ0_checkBoundsBeginEnd_23922 3 = .ok (.getstatic 1053, 3) := by decide +kernel
theorem dJ0_checkBoundsBeginEnd_23922_6 : decode cJ0_checkBoundsBeginEnd_23922 6 = .ok (.invokestatic 1062, 3) := by decide +kernel
theorem dJ0_checkBoundsBeginEnd_23922_9 : decode cJ0_checkBoundsBeginEnd_23922 9 = .ok (.pop, 1) := by decide +kernel
theorem dJ0_checkBoundsBeginEnd_23922_10 : decode cJ0_checkBoundsBeginEnd_23922 10 = .ok (.return_, 1) := by decide +kernel
theorem dJ1_charAt_3b067_0 : decode cJ1_charAt_3b067 0 = .ok (.iload_n 1, 1) := by decide +kernel
theorem dJ1_charAt_3b067_1 : decode cJ1_charAt_3b067 1 = .ok (.aload_n 0, 1) := by decide +kernel
theorem dJ1_charAt_3b067_2 : decode cJ1_charAt_3b067 2 = .ok (.arraylength, 1) := by decide +kernel
theorem dJ1_charAt_3b067_3 : decode cJ1_charAt_3b067 3 = .ok (.invokestatic 9, 3) := by decide +kernel
theorem dJ1_charAt_3b067_6 : decode cJ1_charAt_3b067 6 = .ok (.aload_n 0, 1) := by decide +kernel
theorem dJ1_charAt_3b067_7 : decode cJ1_charAt_3b067 7 = .ok (.iload_n 1, 1) := by decide +kernel
theorem dJ1_charAt_3b067_8 : decode cJ1_charAt_3b067 8 = .ok (.baload, 1) := by decide +kernel
theorem dJ1_charAt_3b067_9 : decode cJ1_charAt_3b067 9 = .ok (.sipush 255, 3) := by decide +kernel
theorem dJ1_charAt_3b067_12 : decode cJ1_charAt_3b067 12 = .ok (.iand, 1) := by decide +kernel
theorem dJ1_charAt_3b067_13 : decode cJ1_charAt_3b067 13 = .ok (.i2c, 1) := by decide +kernel
theorem dJ1_charAt_3b067_14 : decode cJ1_charAt_3b067 14 = .ok (.ireturn, 1) := by decide +kernel
theorem dJ1_canEncode_9a6ad_0 : decode cJ1_canEncode_9a6ad 0 = .ok (.iload_n 0, 1) := by decide +kernel
theorem dJ1_canEncode_9a6ad_1 : decode cJ1_canEncode_9a6ad 1 = .ok (.ifCond .lt 14, 3) := by decide +kernel
theorem dJ1_canEncode_9a6ad_4 : decode cJ1_canEncode_9a6ad 4 = .ok (.iload_n 0, 1) := by decide +kernel
theorem dJ1_canEncode_9a6ad_5 : decode cJ1_canEncode_9a6ad 5 = .ok (.sipush 255, 3) := by decide +kernel
theorem dJ1_canEncode_9a6ad_8 : decode cJ1_canEncode_9a6ad 8 = .ok (.if_icmp .gt 7, 3) := by decide +kernel
theorem dJ1_canEncode_9a6ad_11 : decode cJ1_canEncode_9a6ad 11 = .ok (.iconst 1, 1) := by decide +kernel
theorem dJ1_canEncode_9a6ad_12 : decode cJ1_canEncode_9a6ad 12 = .ok (.goto 4, 3) := by decide +kernel
theorem dJ1_canEncode_9a6ad_15 : decode cJ1_canEncode_9a6ad 15 = .ok (.iconst 0, 1) := by decide +kernel
theorem dJ1_canEncode_9a6ad_16 : decode cJ1_canEncode_9a6ad 16 = .ok (.ireturn, 1) := by decide +kernel
theorem dJ1_indexOf_4cfef_0 : decode cJ1_indexOf_4cfef 0 = .ok (.iload_n 1, 1) := by decide +kernel
theorem dJ1_indexOf_4cfef_1 : decode cJ1_indexOf_4cfef 1 = .ok (.invokestatic 88, 3) := by decide +kernel
theorem dJ1_indexOf_4cfef_4 : decode cJ1_indexOf_4cfef 4 = .ok (.ifCond .ne 5, 3) := by decide +kernel
theorem dJ1_indexOf_4cfef_7 : decode cJ1_indexOf_4cfef 7 = .ok (.iconst (-1), 1) := by decide +kernel
theorem dJ1_indexOf_4cfef_8 : decode cJ1_indexOf_4cfef 8 = .ok (.ireturn, 1) := by decide +kernel
theorem dJ1_indexOf_4cfef_9 : decode cJ1_indexOf_4cfef 9 = .ok (.iload_n 2, 1) := by decide +kernel
theorem dJ1_indexOf_4cfef_10 : decode cJ1_indexOf_4cfef 10 = .ok (.iconst 0, 1) := by decide +kernel
theorem dJ1_indexOf_4cfef_11 : decode cJ1_indexOf_4cfef 11 = .ok (.invokestatic 92, 3) := by decide +kernel
theorem dJ1_indexOf_4cfef_14 : decode cJ1_indexOf_4cfef 14 = .ok (.istore_n 2, 1) := by decide +kernel
theorem dJ1_indexOf_4cfef_15 : decode cJ1_indexOf_4cfef 15 = .ok (.iload_n 3, 1) := by decide +kernel
theorem dJ1_indexOf_4cfef_16 : decode cJ1_indexOf_4cfef 16 = .ok (.aload_n 0, 1) := by decide +kernel
theorem dJ1_indexOf_4cfef_17 : decode cJ1_indexOf_4cfef 17 = .ok (.arraylength, 1) := by decide +kernel
theorem dJ1_indexOf_4cfef_18 : decode cJ1_indexOf_4cfef 18 = .ok (.invokestatic 38, 3) := by decide +kernel
theorem dJ1_indexOf_4cfef_21 : decode cJ1_indexOf_4cfef 21 = .ok (.istore_n 3, 1) := by decide +kernel
theorem dJ1_indexOf_4cfef_22 : decode cJ1_indexOf_4cfef 22 = .ok (.iload_n 2, 1) := by decide +kernel
theorem dJ1_indexOf_4cfef_23 : decode cJ1_indexOf_4cfef 23 = .ok (.iload_n 3, 1) := by decide +kernel
theorem dJ1_indexOf_4cfef_24 : decode cJ1_indexOf_4cfef 24 = .ok (.if_icmp .lt 5, 3) := by decide +kernel
theorem dJ1_indexOf_4cfef_27 : decode cJ1_indexOf_4cfef 27 = .ok (.iconst (-1), 1) := by decide +kernel
theorem dJ1_indexOf_4cfef_28 : decode cJ1_indexOf_4cfef 28 = .ok (.ireturn, 1) := by decide +kernel
theorem dJ1_indexOf_4cfef_29 : decode cJ1_indexOf_4cfef 29 = .ok (.aload_n 0, 1) := by decide +kernel
theorem dJ1_indexOf_4cfef_30 : decode cJ1_indexOf_4cfef 30 = .ok (.iload_n 1, 1) := by decide +kernel
theorem dJ1_indexOf_4cfef_31 : decode cJ1_indexOf_4cfef 31 = .ok (.iload_n 2, 1) := by decide +kernel
theorem dJ1_indexOf_4cfef_32 : decode cJ1_indexOf_4cfef 32 = .ok (.iload_n 3, 1) := by decide +kernel
theorem dJ1_indexOf_4cfef_33 : decode cJ1_indexOf_4cfef 33 = .ok (.invokestatic 95, 3) := by decide +kernel
theorem dJ1_indexOf_4cfef_36 : decode cJ1_indexOf_4cfef 36 = .ok (.ireturn, 1) := by decide +kernel
theorem dJ1_indexOfChar_4cfef_0 : decode cJ1_indexOfChar_4cfef 0 = .ok (.iload_n 1, 1) := by decide +kernel
theorem dJ1_indexOfChar_4cfef_1 : decode cJ1_indexOfChar_4cfef 1 = .ok (.i2b, 1) := by decide +kernel
theorem dJ1_indexOfChar_4cfef_2 : decode cJ1_indexOfChar_4cfef 2 = .ok (.istore 4, 2) := by decide +kernel
theorem dJ1_indexOfChar_4cfef_4 : decode cJ1_indexOfChar_4cfef 4 = .ok (.iload_n 2, 1) := by decide +kernel
theorem dJ1_indexOfChar_4cfef_5 : decode cJ1_indexOfChar_4cfef 5 = .ok (.istore 5, 2) := by decide +kernel
theorem dJ1_indexOfChar_4cfef_7 : decode cJ1_indexOfChar_4cfef 7 = .ok (.iload 5, 2) := by decide +kernel
theorem dJ1_indexOfChar_4cfef_9 : decode cJ1_indexOfChar_4cfef 9 = .ok (.iload_n 3, 1) := by decide +kernel
theorem dJ1_indexOfChar_4cfef_10 : decode cJ1_indexOfChar_4cfef 10 = .ok (.if_icmp .ge 21, 3) := by decide +kernel
theorem dJ1_indexOfChar_4cfef_13 : decode cJ1_indexOfChar_4cfef 13 = .ok (.aload_n 0, 1) := by decide +kernel
theorem dJ1_indexOfChar_4cfef_14 : decode cJ1_indexOfChar_4cfef 14 = .ok (.iload 5, 2) := by decide +kernel
theorem dJ1_indexOfChar_4cfef_16 : decode cJ1_indexOfChar_4cfef 16 = .ok (.baload, 1) := by decide +kernel
theorem dJ1_indexOfChar_4cfef_17 : decode cJ1_indexOfChar_4cfef 17 = .ok (.iload 4, 2) := by decide +kernel
theorem dJ1_indexOfChar_4cfef_19 : decode cJ1_indexOfChar_4cfef 19 = .ok (.if_icmp .ne 6, 3) := by decide +kernel
theorem dJ1_indexOfChar_4cfef_22 : decode cJ1_indexOfChar_4cfef 22 = .ok (.iload 5, 2) := by decide +kernel
theorem dJ1_indexOfChar_4cfef_24 : decode cJ1_indexOfChar_4cfef 24 = .ok (.ireturn, 1) := by decide +kernel
theorem dJ1_indexOfChar_4cfef_25 : decode cJ1_indexOfChar_4cfef 25 = .ok (.iinc 5 1, 3) := by decide +kernel
theorem dJ1_indexOfChar_4cfef_28 : decode cJ1_indexOfChar_4cfef 28 = .ok (.goto (-21), 3) := by decide +kernel
theorem dJ1_indexOfChar_4cfef_31 : decode cJ1_indexOfChar_4cfef 31 = .ok (.iconst (-1), 1) := by decide +kernel
theorem dJ1_indexOfChar_4cfef_32 : decode cJ1_indexOfChar_4cfef 32 = .ok (.ireturn, 1) := by decide +kernel
theorem dJ2_getChar_3b067_0 : decode cJ2_getChar_3b067 0 = .ok (.getstatic 44, 3) := by decide +kernel
theorem dJ2_getChar_3b067_3 : decode cJ2_getChar_3b067 3 = .ok (.ifCond .ne 25, 3) := by decide +kernel
theorem dJ2_getChar_3b067_6 : decode cJ2_getChar_3b067 6 = .ok (.iload_n 1, 1) := by decide +kernel
theorem dJ2_getChar_3b067_7 : decode cJ2_getChar_3b067 7 = .ok (.ifCond .lt 11, 3) := by decide +kernel
theorem dJ2_getChar_3b067_10 : decode cJ2_getChar_3b067 10 = .ok (.iload_n 1, 1) := by decide +kernel
theorem dJ2_getChar_3b067_11 : decode cJ2_getChar_3b067 11 = .ok (.aload_n 0, 1) := by decide +kernel
theorem dJ2_getChar_3b067_12 : decode cJ2_getChar_3b067 12 = .ok (.invokestatic 48, 3) := by decide +kernel
theorem dJ2_getChar_3b067_15 : decode cJ2_getChar_3b067 15 = .ok (.if_icmp .lt 13, 3) := by decide +kernel
theorem dJ2_getChar_3b067_18 : decode cJ2_getChar_3b067 18 = .ok (.new 52, 3) := by decide +kernel
theorem dJ2_getChar_3b067_21 : decode cJ2_getChar_3b067 21 = .ok (.dup, 1) := by decide +kernel
theorem dJ2_getChar_3b067_22 : decode cJ2_getChar_3b067 22 = .ok (.ldc 54, 2) := by decide +kernel
theorem dJ2_getChar_3b067_24 : decode cJ2_getChar_3b067 24 = .ok (.invokespecial 56, 3) := by decide +kernel
theorem dJ2_getChar_3b067_27 : decode cJ2_getChar_3b067 27 = .ok (.athrow, 1) := by decide +kernel
theorem dJ2_getChar_3b067_28 : decode cJ2_getChar_3b067 28 = .ok (.iload_n 1, 1) := by decide +kernel
theorem dJ2_getChar_3b067_29 : decode cJ2_getChar_3b067 29 = .ok (.iconst 1, 1) := by decide +kernel
theorem dJ2_getChar_3b067_30 : decode cJ2_getChar_3b067 30 = .ok (.ishl, 1) := by decide +kernel
theorem dJ2_getChar_3b067_31 : decode cJ2_getChar_3b067 31 = .ok (.istore_n 1, 1) := by decide +kernel
theorem dJ2_getChar_3b067_32 : decode cJ2_getChar_3b067 32 = .ok (.aload_n 0, 1) := by decide +kernel
theorem dJ2_getChar_3b067_33 : decode cJ2_getChar_3b067 33 = .ok (.iload_n 1, 1) := by decide +kernel
theorem dJ2_getChar_3b067_34 : decode cJ2_getChar_3b067 34 = .ok (.iinc 1 1, 3) := by decide +kernel
theorem dJ2_getChar_3b067_37 : decode cJ2_getChar_3b067 37 = .ok (.baload, 1) := by decide +kernel
theorem dJ2_getChar_3b067_38 : decode cJ2_getChar_3b067 38 = .ok (.sipush 255, 3) := by decide +kernel
theorem dJ2_getChar_3b067_41 : decode cJ2_getChar_3b067 41 = .ok (.iand, 1) := by decide +kernel
theorem dJ2_getChar_3b067_42 : decode cJ2_getChar_3b067 42 = .ok (.getstatic 59, 3) := by decide +kernel
theorem dJ2_getChar_3b067_45 : decode cJ2_getChar_3b067 45 = .ok (.ishl, 1) := by decide +kernel
theorem dJ2_getChar_3b067_46 : decode cJ2_getChar_3b067 46 = .ok (.aload_n 0, 1) := by decide +kernel
theorem dJ2_getChar_3b067_47 : decode cJ2_getChar_3b067 47 = .ok (.iload_n 1, 1) := by decide +kernel
theorem dJ2_getChar_3b067_48 : decode cJ2_getChar_3b067 48 = .ok (.baload, 1) := by decide +kernel
theorem dJ2_getChar_3b067_49 : decode cJ2_getChar_3b067 49 = .ok (.sipush 255, 3) := by decide +kernel
theorem dJ2_getChar_3b067_52 : decode cJ2_getChar_3b067 52 = .ok (.iand, 1) := by decide +kernel
theorem dJ2_getChar_3b067_53 : decode cJ2_getChar_3b067 53 = .ok (.getstatic 63, 3) := by decide +kernel
theorem dJ2_getChar_3b067_56 : decode cJ2_getChar_3b067 56 = .ok (.ishl, 1) := by decide +kernel
theorem dJ2_getChar_3b067_57 : decode cJ2_getChar_3b067 57 = .ok (.ior, 1) := by decide +kernel
theorem dJ2_getChar_3b067_58 : decode cJ2_getChar_3b067 58 = .ok (.i2c, 1) := by decide +kernel
theorem dJ2_getChar_3b067_59 : decode cJ2_getChar_3b067 59 = .ok (.ireturn, 1) := by decide +kernel
theorem dJ2_length_9d52b_0 : decode cJ2_length_9d52b 0 = .ok (.aload_n 0, 1) := by decide +kernel
theorem dJ2_length_9d52b_1 : decode cJ2_length_9d52b 1 = .ok (.arraylength, 1) := by decide +kernel
theorem dJ2_length_9d52b_2 : decode cJ2_length_9d52b 2 = .ok (.iconst 1, 1) := by decide +kernel
theorem dJ2_length_9d52b_3 : decode cJ2_length_9d52b 3 = .ok (.ishr, 1) := by decide +kernel
theorem dJ2_length_9d52b_4 : decode cJ2_length_9d52b 4 = .ok (.ireturn, 1) := by decide +kernel
theorem dJ2_indexOf_4cfef_0 : decode cJ2_indexOf_4cfef 0 = .ok (.iload_n 2, 1) := by decide +kernel
theorem dJ2_indexOf_4cfef_1 : decode cJ2_indexOf_4cfef 1 = .ok (.iconst 0, 1) := by decide +kernel
theorem dJ2_indexOf_4cfef_2 : decode cJ2_indexOf_4cfef 2 = .ok (.invokestatic 224, 3) := by decide +kernel
theorem dJ2_indexOf_4cfef_5 : decode cJ2_indexOf_4cfef 5 = .ok (.istore_n 2, 1) := by decide +kernel
theorem dJ2_indexOf_4cfef_6 : decode cJ2_indexOf_4cfef 6 = .ok (.iload_n 3, 1) := by decide +kernel
theorem dJ2_indexOf_4cfef_7 : decode cJ2_indexOf_4cfef 7 = .ok (.aload_n 0, 1) := by decide +kernel
theorem dJ2_indexOf_4cfef_8 : decode cJ2_indexOf_4cfef 8 = .ok (.arraylength, 1) := by decide +kernel
theorem dJ2_indexOf_4cfef_9 : decode cJ2_indexOf_4cfef 9 = .ok (.iconst 1, 1) := by decide +kernel
theorem dJ2_indexOf_4cfef_10 : decode cJ2_indexOf_4cfef 10 = .ok (.ishr, 1) := by decide +kernel
theorem dJ2_indexOf_4cfef_11 : decode cJ2_indexOf_4cfef 11 = .ok (.invokestatic 183, 3) := by decide +kernel
theorem dJ2_indexOf_4cfef_14 : decode cJ2_indexOf_4cfef 14 = .ok (.istore_n 3, 1) := by decide +kernel
theorem dJ2_indexOf_4cfef_15 : decode cJ2_indexOf_4cfef 15 = .ok (.iload_n 2, 1) := by decide +kernel
theorem dJ2_indexOf_4cfef_16 : decode cJ2_indexOf_4cfef 16 = .ok (.iload_n 3, 1) := by decide +kernel
theorem dJ2_indexOf_4cfef_17 : decode cJ2_indexOf_4cfef 17 = .ok (.if_icmp .lt 5, 3) := by decide +kernel
theorem dJ2_indexOf_4cfef_20 : decode cJ2_indexOf_4cfef 20 = .ok (.iconst (-1), 1) := by decide +kernel
theorem dJ2_indexOf_4cfef_21 : decode cJ2_indexOf_4cfef 21 = .ok (.ireturn, 1) := by decide +kernel
theorem dJ2_indexOf_4cfef_22 : decode cJ2_indexOf_4cfef 22 = .ok (.iload_n 1, 1) := by decide +kernel
theorem dJ2_indexOf_4cfef_23 : decode cJ2_indexOf_4cfef 23 = .ok (.ldc 227, 2) := by decide +kernel
theorem dJ2_indexOf_4cfef_25 : decode cJ2_indexOf_4cfef 25 = .ok (.if_icmp .ge 11, 3) := by decide +kernel
theorem dJ2_indexOf_4cfef_28 : decode cJ2_indexOf_4cfef 28 = .ok (.aload_n 0, 1) := by decide +kernel
theorem dJ2_indexOf_4cfef_29 : decode cJ2_indexOf_4cfef 29 = .ok (.iload_n 1, 1) := by decide +kernel
theorem dJ2_indexOf_4cfef_30 : decode cJ2_indexOf_4cfef 30 = .ok (.iload_n 2, 1) := by decide +kernel
theorem dJ2_indexOf_4cfef_31 : decode cJ2_indexOf_4cfef 31 = .ok (.iload_n 3, 1) := by decide +kernel
theorem dJ2_indexOf_4cfef_32 : decode cJ2_indexOf_4cfef 32 = .ok (.invokestatic 228, 3) := by decide +kernel
theorem dJ2_indexOf_4cfef_35 : decode cJ2_indexOf_4cfef 35 = .ok (.ireturn, 1) := by decide +kernel
theorem dJ2_indexOf_4cfef_36 : decode cJ2_indexOf_4cfef 36 = .ok (.aload_n 0, 1) := by decide +kernel
theorem dJ2_indexOf_4cfef_37 : decode cJ2_indexOf_4cfef 37 = .ok (.iload_n 1, 1) := by decide +kernel
theorem dJ2_indexOf_4cfef_38 : decode cJ2_indexOf_4cfef 38 = .ok (.iload_n 2, 1) := by decide +kernel
theorem dJ2_indexOf_4cfef_39 : decode cJ2_indexOf_4cfef 39 = .ok (.iload_n 3, 1) := by decide +kernel
theorem dJ2_indexOf_4cfef_40 : decode cJ2_indexOf_4cfef 40 = .ok (.invokestatic 232, 3) := by decide +kernel
theorem dJ2_indexOf_4cfef_43 : decode cJ2_indexOf_4cfef 43 = .ok (.ireturn, 1) := by decide +kernel
theorem dJ2_indexOfChar_4cfef_0 : decode cJ2_indexOfChar_4cfef 0 = .ok (.iload_n 2, 1) := by decide +kernel
theorem dJ2_indexOfChar_4cfef_1 : decode cJ2_indexOfChar_4cfef 1 = .ok (.iload_n 3, 1) := by decide +kernel
theorem dJ2_indexOfChar_4cfef_2 : decode cJ2_indexOfChar_4cfef 2 = .ok (.aload_n 0, 1) := by decide +kernel
theorem dJ2_indexOfChar_4cfef_3 : decode cJ2_indexOfChar_4cfef 3 = .ok (.invokestatic 96, 3) := by decide +kernel
theorem dJ2_indexOfChar_4cfef_6 : decode cJ2_indexOfChar_4cfef 6 = .ok (.aload_n 0, 1) := by decide +kernel
theorem dJ2_indexOfChar_4cfef_7 : decode cJ2_indexOfChar_4cfef 7 = .ok (.iload_n 1, 1) := by decide +kernel
theorem dJ2_indexOfChar_4cfef_8 : decode cJ2_indexOfChar_4cfef 8 = .ok (.iload_n 2, 1) := by decide +kernel
theorem dJ2_indexOfChar_4cfef_9 : decode cJ2_indexOfChar_4cfef 9 = .ok (.iload_n 3, 1) := by decide +kernel
theorem dJ2_indexOfChar_4cfef_10 : decode cJ2_indexOfChar_4cfef 10 = .ok (.invokestatic 244, 3) := by decide +kernel
theorem dJ2_indexOfChar_4cfef_13 : decode cJ2_indexOfChar_4cfef 13 = .ok (.ireturn, 1) := by decide +kernel
theorem dJ2_indexOfCharUnsafe_4cfef_0 : decode cJ2_indexOfCharUnsafe_4cfef 0 = .ok (.iload_n 2, 1) := by decide +kernel
theorem dJ2_indexOfCharUnsafe_4cfef_1 : decode cJ2_indexOfCharUnsafe_4cfef 1 = .ok (.istore 4, 2) := by decide +kernel
theorem dJ2_indexOfCharUnsafe_4cfef_3 : decode cJ2_indexOfCharUnsafe_4cfef 3 = .ok (.iload 4, 2) := by decide +kernel
theorem dJ2_indexOfCharUnsafe_4cfef_5 : decode cJ2_indexOfCharUnsafe_4cfef 5 = .ok (.iload_n 3, 1) := by decide +kernel
theorem dJ2_indexOfCharUnsafe_4cfef_6 : decode cJ2_indexOfCharUnsafe_4cfef 6 = .ok (.if_icmp .ge 22, 3) := by decide +kernel
theorem dJ2_indexOfCharUnsafe_4cfef_9 : decode cJ2_indexOfCharUnsafe_4cfef 9 = .ok (.aload_n 0, 1) := by decide +kernel
theorem dJ2_indexOfCharUnsafe_4cfef_10 : decode cJ2_indexOfCharUnsafe_4cfef 10 = .ok (.iload 4, 2) := by decide +kernel
theorem dJ2_indexOfCharUnsafe_4cfef_12 : decode cJ2_indexOfCharUnsafe_4cfef 12 = .ok (.invokestatic 71, 3) := by decide +kernel
theorem dJ2_indexOfCharUnsafe_4cfef_15 : decode cJ2_indexOfCharUnsafe_4cfef 15 = .ok (.iload_n 1, 1) := by decide +kernel
theorem dJ2_indexOfCharUnsafe_4cfef_16 : decode cJ2_indexOfCharUnsafe_4cfef 16 = .ok (.if_icmp .ne 6, 3) := by decide +kernel
theorem dJ2_indexOfCharUnsafe_4cfef_19 : decode cJ2_indexOfCharUnsafe_4cfef 19 = .ok (.iload 4, 2) := by decide +kernel
theorem dJ2_indexOfCharUnsafe_4cfef_21 : decode cJ2_indexOfCharUnsafe_4cfef 21 = .ok (.ireturn, 1) := by decide +kernel
theorem dJ2_indexOfCharUnsafe_4cfef_22 : decode cJ2_indexOfCharUnsafe_4cfef 22 = .ok (.iinc 4 1, 3) := by decide +kernel
theorem dJ2_indexOfCharUnsafe_4cfef_25 : decode cJ2_indexOfCharUnsafe_4cfef 25 = .ok (.goto (-22), 3) := by decide +kernel
theorem dJ2_indexOfCharUnsafe_4cfef_28 : decode cJ2_indexOfCharUnsafe_4cfef 28 = .ok (.iconst (-1), 1) := by decide +kernel
theorem dJ2_indexOfCharUnsafe_4cfef_29 : decode cJ2_indexOfCharUnsafe_4cfef 29 = .ok (.ireturn, 1) := by decide +kernel
theorem dJ2_indexOfSupplementary_4cfef_0 : decode cJ2_indexOfSupplementary_4cfef 0 = .ok (.iload_n 1, 1) := by decide +kernel
theorem dJ2_indexOfSupplementary_4cfef_1 : decode cJ2_indexOfSupplementary_4cfef 1 = .ok (.invokestatic 164, 3) := by decide +kernel
theorem dJ2_indexOfSupplementary_4cfef_4 : decode cJ2_indexOfSupplementary_4cfef 4 = .ok (.ifCond .eq 65, 3) := by decide +kernel
theorem dJ2_indexOfSupplementary_4cfef_7 : decode cJ2_indexOfSupplementary_4cfef 7 = .ok (.iload_n 1, 1) := by decide +kernel
theorem dJ2_indexOfSupplementary_4cfef_8 : decode cJ2_indexOfSupplementary_4cfef 8 = .ok (.invokestatic 157, 3) := by decide +kernel
theorem dJ2_indexOfSupplementary_4cfef_11 : decode cJ2_indexOfSupplementary_4cfef 11 = .ok (.istore 4, 2) := by decide +kernel
theorem dJ2_indexOfSupplementary_4cfef_13 : decode cJ2_indexOfSupplementary_4cfef 13 = .ok (.iload_n 1, 1) := by decide +kernel
theorem dJ2_indexOfSupplementary_4cfef_14 : decode cJ2_indexOfSupplementary_4cfef 14 = .ok (.invokestatic 161, 3) := by decide +kernel
theorem dJ2_indexOfSupplementary_4cfef_17 : decode cJ2_indexOfSupplementary_4cfef 17 = .ok (.istore 5, 2) := by decide +kernel
theorem dJ2_indexOfSupplementary_4cfef_19 : decode cJ2_indexOfSupplementary_4cfef 19 = .ok (.iload_n 2, 1) := by decide +kernel
theorem dJ2_indexOfSupplementary_4cfef_20 : decode cJ2_indexOfSupplementary_4cfef 20 = .ok (.iload_n 3, 1) := by decide +kernel
theorem dJ2_indexOfSupplementary_4cfef_21 : decode cJ2_indexOfSupplementary_4cfef 21 = .ok (.aload_n 0, 1) := by decide +kernel
theorem dJ2_indexOfSupplementary_4cfef_22 : decode cJ2_indexOfSupplementary_4cfef 22 = .ok (.invokestatic 96, 3) := by decide +kernel
theorem dJ2_indexOfSupplementary_4cfef_25 : decode cJ2_indexOfSupplementary_4cfef 25 = .ok (.iload_n 2, 1) := by decide +kernel
theorem dJ2_indexOfSupplementary_4cfef_26 : decode cJ2_indexOfSupplementary_4cfef 26 = .ok (.istore 6, 2) := by decide +kernel
theorem dJ2_indexOfSupplementary_4cfef_28 : decode cJ2_indexOfSupplementary_4cfef 28 = .ok (.iload 6, 2) := by decide +kernel
theorem dJ2_indexOfSupplementary_4cfef_30 : decode cJ2_indexOfSupplementary_4cfef 30 = .ok (.iload_n 3, 1) := by decide +kernel
theorem dJ2_indexOfSupplementary_4cfef_31 : decode cJ2_indexOfSupplementary_4cfef 31 = .ok (.iconst 1, 1) := by decide +kernel
theorem dJ2_indexOfSupplementary_4cfef_32 : decode cJ2_indexOfSupplementary_4cfef 32 = .ok (.isub, 1) := by decide +kernel
theorem dJ2_indexOfSupplementary_4cfef_33 : decode cJ2_indexOfSupplementary_4cfef 33 = .ok (.if_icmp .ge 36, 3) := by decide +kernel
theorem dJ2_indexOfSupplementary_4cfef_36 : decode cJ2_indexOfSupplementary_4cfef 36 = .ok (.aload_n 0, 1) := by decide +kernel
theorem dJ2_indexOfSupplementary_4cfef_37 : decode cJ2_indexOfSupplementary_4cfef 37 = .ok (.iload 6, 2) := by decide +kernel
theorem dJ2_indexOfSupplementary_4cfef_39 : decode cJ2_indexOfSupplementary_4cfef 39 = .ok (.invokestatic 71, 3) := by decide +kernel
theorem dJ2_indexOfSupplementary_4cfef_42 : decode cJ2_indexOfSupplementary_4cfef 42 = .ok (.iload 4, 2) := by decide +kernel
theorem dJ2_indexOfSupplementary_4cfef_44 : decode cJ2_indexOfSupplementary_4cfef 44 = .ok (.if_icmp .ne 19, 3) := by decide +kernel
theorem dJ2_indexOfSupplementary_4cfef_47 : decode cJ2_indexOfSupplementary_4cfef 47 = .ok (.aload_n 0, 1) := by decide +kernel
theorem dJ2_indexOfSupplementary_4cfef_48 : decode cJ2_indexOfSupplementary_4cfef 48 = .ok (.iload 6, 2) := by decide +kernel
theorem dJ2_indexOfSupplementary_4cfef_50 : decode cJ2_indexOfSupplementary_4cfef 50 = .ok (.iconst 1, 1) := by decide +kernel
theorem dJ2_indexOfSupplementary_4cfef_51 : decode cJ2_indexOfSupplementary_4cfef 51 = .ok (.iadd, 1) := by decide +kernel
theorem dJ2_indexOfSupplementary_4cfef_52 : decode cJ2_indexOfSupplementary_4cfef 52 = .ok (.invokestatic 71, 3) := by decide +kernel
theorem dJ2_indexOfSupplementary_4cfef_55 : decode cJ2_indexOfSupplementary_4cfef 55 = .ok (.iload 5, 2) := by decide +kernel
theorem dJ2_indexOfSupplementary_4cfef_57 : decode cJ2_indexOfSupplementary_4cfef 57 = .ok (.if_icmp .ne 6, 3) := by decide +kernel
theorem dJ2_indexOfSupplementary_4cfef_60 : decode cJ2_indexOfSupplementary_4cfef 60 = .ok (.iload 6, 2) := by decide +kernel
theorem dJ2_indexOfSupplementary_4cfef_62 : decode cJ2_indexOfSupplementary_4cfef 62 = .ok (.ireturn, 1) := by decide +kernel
theorem dJ2_indexOfSupplementary_4cfef_63 : decode cJ2_indexOfSupplementary_4cfef 63 = .ok (.iinc 6 1, 3) := by decide +kernel
theorem dJ2_indexOfSupplementary_4cfef_66 : decode cJ2_indexOfSupplementary_4cfef 66 = .ok (.goto (-38), 3) := by decide +kernel
theorem dJ2_indexOfSupplementary_4cfef_69 : decode cJ2_indexOfSupplementary_4cfef 69 = .ok (.iconst (-1), 1) := by decide +kernel
theorem dJ2_indexOfSupplementary_4cfef_70 : decode cJ2_indexOfSupplementary_4cfef 70 = .ok (.ireturn, 1) := by decide +kernel
theorem dJ2_charAt_3b067_0 : decode cJ2_charAt_3b067 0 = .ok (.iload_n 1, 1) := by decide +kernel
theorem dJ2_charAt_3b067_1 : decode cJ2_charAt_3b067 1 = .ok (.aload_n 0, 1) := by decide +kernel
theorem dJ2_charAt_3b067_2 : decode cJ2_charAt_3b067 2 = .ok (.invokestatic 67, 3) := by decide +kernel
theorem dJ2_charAt_3b067_5 : decode cJ2_charAt_3b067 5 = .ok (.aload_n 0, 1) := by decide +kernel
theorem dJ2_charAt_3b067_6 : decode cJ2_charAt_3b067 6 = .ok (.iload_n 1, 1) := by decide +kernel
theorem dJ2_charAt_3b067_7 : decode cJ2_charAt_3b067 7 = .ok (.invokestatic 71, 3) := by decide +kernel
theorem dJ2_charAt_3b067_10 : decode cJ2_charAt_3b067 10 = .ok (.ireturn, 1) := by decide +kernel
theorem dJ2_checkIndex_2214a_0 : decode cJ2_checkIndex_2214a 0 = .ok (.iload_n 0, 1) := by decide +kernel
theorem dJ2_checkIndex_2214a_1 : decode cJ2_checkIndex_2214a 1 = .ok (.aload_n 1, 1) := by decide +kernel
theorem dJ2_checkIndex_2214a_2 : decode cJ2_checkIndex_2214a 2 = .ok (.invokestatic 48, 3) := by decide +kernel
theorem dJ2_checkIndex_2214a_5 : decode cJ2_checkIndex_2214a 5 = .ok (.invokestatic 414, 3) := by decide +kernel
theorem dJ2_checkIndex_2214a_8 : decode cJ2_checkIndex_2214a 8 = .ok (.return_, 1) := by decide +kernel
theorem dJ2_checkBoundsBeginEnd_d044e_0 : decode cJ2_checkBoundsBeginEnd_d044e 0 = .ok (.iload_n 0, 1) := by decide +kernel
theorem dJ2_checkBoundsBeginEnd_d044e_1 : decode cJ2_checkBoundsBeginEnd_d044e 1 = .ok (.iload_n 1, 1) := by decide +kernel
theorem dJ2_checkBoundsBeginEnd_d044e_2 : decode cJ2_checkBoundsBeginEnd_d044e 2 = .ok (.aload_n 2, 1) := by decide +kernel
theorem dJ2_checkBoundsBeginEnd_d044e_3 : decode cJ2_checkBoundsBeginEnd_d044e 3 = .ok (.invokestatic 48, 3) := by decide +kernel
theorem dJ2_checkBoundsBeginEnd_d044e_6 : decode cJ2_checkBoundsBeginEnd_d044e 6 = .ok (.invokestatic 241, 3) := by decide +kernel
theorem dJ2_checkBoundsBeginEnd_d044e_9 : decode cJ2_checkBoundsBeginEnd_d044e 9 = .ok (.return_, 1) := by decide +kernel
theorem dJ3_checkIndex_8e157_0 : decode cJ3_checkIndex_8e157 0 = .ok (.iload_n 0, 1) := by decide +kernel
theorem dJ3_checkIndex_8e157_1 : decode cJ3_checkIndex_8e157 1 = .ok (.ifCond .lt 8, 3) := by decide +kernel
theorem dJ3_checkIndex_8e157_4 : decode cJ3_checkIndex_8e157 4 = .ok (.iload_n 0, 1) := by decide +kernel
theorem dJ3_checkIndex_8e157_5 : decode cJ3_checkIndex_8e157 5 = .ok (.iload_n 1, 1) := by decide +kernel
theorem dJ3_checkIndex_8e157_6 : decode cJ3_checkIndex_8e157 6 = .ok (.if_icmp .lt 10, 3) := by decide +kernel
theorem dJ3_checkIndex_8e157_9 : decode cJ3_checkIndex_8e157 9 = .ok (.aload_n 2, 1) := by decide +kernel
theorem dJ3_checkIndex_8e157_10 : decode cJ3_checkIndex_8e157 10 = .ok (.iload_n 0, 1) := by decide +kernel
theorem dJ3_checkIndex_8e157_11 : decode cJ3_checkIndex_8e157 11 = .ok (.iload_n 1, 1) := by decide +kernel
theorem dJ3_checkIndex_8e157_12 : decode cJ3_checkIndex_8e157 12 = .ok (.invokestatic 95, 3) := by decide +kernel
theorem dJ3_checkIndex_8e157_15 : decode cJ3_checkIndex_8e157 15 = .ok (.athrow, 1) := by decide +kernel
theorem dJ3_checkIndex_8e157_16 : decode cJ3_checkIndex_8e157 16 = .ok (.iload_n 0, 1) := by decide +kernel
theorem dJ3_checkIndex_8e157_17 : decode cJ3_checkIndex_8e157 17 = .ok (.ireturn, 1) := by decide +kernel
theorem dJ3_checkFromToIndex_8c36e_0 : decode cJ3_checkFromToIndex_8c36e 0 = .ok (.iload_n 0, 1) := by decide +kernel
theorem dJ3_checkFromToIndex_8c36e_1 : decode cJ3_checkFromToIndex_8c36e 1 = .ok (.ifCond .lt 13, 3) := by decide +kernel
theorem dJ3_checkFromToIndex_8c36e_4 : decode cJ3_checkFromToIndex_8c36e 4 = .ok (.iload_n 0, 1) := by decide +kernel
theorem dJ3_checkFromToIndex_8c36e_5 : decode cJ3_checkFromToIndex_8c36e 5 = .ok (.iload_n 1, 1) := by decide +kernel
theorem dJ3_checkFromToIndex_8c36e_6 : decode cJ3_checkFromToIndex_8c36e 6 = .ok (.if_icmp .gt 8, 3) := by decide +kernel
theorem dJ3_checkFromToIndex_8c36e_9 : decode cJ3_checkFromToIndex_8c36e 9 = .ok (.iload_n 1, 1) := by decide +kernel
theorem dJ3_checkFromToIndex_8c36e_10 : decode cJ3_checkFromToIndex_8c36e 10 = .ok (.iload_n 2, 1) := by decide +kernel
theorem dJ3_checkFromToIndex_8c36e_11 : decode cJ3_checkFromToIndex_8c36e 11 = .ok (.if_icmp .le 11, 3) := by decide +kernel
theorem dJ3_checkFromToIndex_8c36e_14 : decode cJ3_checkFromToIndex_8c36e 14 = .ok (.aload_n 3, 1) := by decide +kernel
theorem dJ3_checkFromToIndex_8c36e_15 : decode cJ3_checkFromToIndex_8c36e 15 = .ok (.iload_n 0, 1) := by decide +kernel
theorem dJ3_checkFromToIndex_8c36e_16 : decode cJ3_checkFromToIndex_8c36e 16 = .ok (.iload_n 1, 1) := by decide +kernel
theorem dJ3_checkFromToIndex_8c36e_17 : decode cJ3_checkFromToIndex_8c36e 17 = .ok (.iload_n 2, 1) := by decide +kernel
theorem dJ3_checkFromToIndex_8c36e_18 : decode cJ3_checkFromToIndex_8c36e 18 = .ok (.invokestatic 99, 3) := by decide +kernel
theorem dJ3_checkFromToIndex_8c36e_21 : decode cJ3_checkFromToIndex_8c36e 21 = .ok (.athrow, 1) := by decide +kernel
theorem dJ3_checkFromToIndex_8c36e_22 : decode cJ3_checkFromToIndex_8c36e 22 = .ok (.iload_n 0, 1) := by decide +kernel
theorem dJ3_checkFromToIndex_8c36e_23 : decode cJ3_checkFromToIndex_8c36e 23 = .ok (.ireturn, 1) := by decide +kernel
theorem dL_law_0 : decode cL_law 0 = .ok (.new 7, 3) := by decide +kernel
theorem dL_law_3 : decode cL_law 3 = .ok (.dup, 1) := by decide +kernel
theorem dL_law_4 : decode cL_law 4 = .ok (.invokespecial 9, 3) := by decide +kernel
theorem dL_law_7 : decode cL_law 7 = .ok (.astore_n 1, 1) := by decide +kernel
theorem dL_law_8 : decode cL_law 8 = .ok (.new 10, 3) := by decide +kernel
theorem dL_law_11 : decode cL_law 11 = .ok (.dup, 1) := by decide +kernel
theorem dL_law_12 : decode cL_law 12 = .ok (.invokespecial 12, 3) := by decide +kernel
theorem dL_law_15 : decode cL_law 15 = .ok (.astore_n 2, 1) := by decide +kernel
theorem dL_law_16 : decode cL_law 16 = .ok (.iconst 0, 1) := by decide +kernel
theorem dL_law_17 : decode cL_law 17 = .ok (.istore_n 3, 1) := by decide +kernel
theorem dL_law_18 : decode cL_law 18 = .ok (.iload_n 3, 1) := by decide +kernel
theorem dL_law_19 : decode cL_law 19 = .ok (.aload_n 0, 1) := by decide +kernel
theorem dL_law_20 : decode cL_law 20 = .ok (.arraylength, 1) := by decide +kernel
theorem dL_law_21 : decode cL_law 21 = .ok (.bipush 6, 2) := by decide +kernel
theorem dL_law_23 : decode cL_law 23 = .ok (.isub, 1) := by decide +kernel
theorem dL_law_24 : decode cL_law 24 = .ok (.if_icmp .gt 1228, 3) := by decide +kernel
theorem dL_law_27 : decode cL_law 27 = .ok (.aload_n 0, 1) := by decide +kernel
theorem dL_law_28 : decode cL_law 28 = .ok (.iload_n 3, 1) := by decide +kernel
theorem dL_law_29 : decode cL_law 29 = .ok (.iaload, 1) := by decide +kernel
theorem dL_law_30 : decode cL_law 30 = .ok (.bipush 63, 2) := by decide +kernel
theorem dL_law_32 : decode cL_law 32 = .ok (.iand, 1) := by decide +kernel
theorem dL_law_33 : decode cL_law 33 = .ok (.tableswitch 1213 0 34 #[155, 198, 231, 264, 307, 330, 343, 366, 379, 412, 425, 438, 481, 504, 517, 570, 593, 616, 649, 672, 705, 749, 783, 806, 819, 852, 865, 878, 921, 944, 977, 1000, 1043, 1116, 1150], 155) := by decide +kernel
theorem dL_law_188 : decode cL_law 188 = .ok (.aload_n 1, 1) := by decide +kernel
theorem dL_law_189 : decode cL_law 189 = .ok (.aload_n 0, 1) := by decide +kernel
theorem dL_law_190 : decode cL_law 190 = .ok (.iload_n 3, 1) := by decide +kernel
theorem dL_law_191 : decode cL_law 191 = .ok (.iconst 1, 1) := by decide +kernel
theorem dL_law_192 : decode cL_law 192 = .ok (.iadd, 1) := by decide +kernel
theorem dL_law_193 : decode cL_law 193 = .ok (.iaload, 1) := by decide +kernel
theorem dL_law_194 : decode cL_law 194 = .ok (.aload_n 0, 1) := by decide +kernel
theorem dL_law_195 : decode cL_law 195 = .ok (.iload_n 3, 1) := by decide +kernel
theorem dL_law_196 : decode cL_law 196 = .ok (.iconst 2, 1) := by decide +kernel
theorem dL_law_197 : decode cL_law 197 = .ok (.iadd, 1) := by decide +kernel
theorem dL_law_198 : decode cL_law 198 = .ok (.iaload, 1) := by decide +kernel
theorem dL_law_199 : decode cL_law 199 = .ok (.aload_n 0, 1) := by decide +kernel
theorem dL_law_200 : decode cL_law 200 = .ok (.iload_n 3, 1) := by decide +kernel
theorem dL_law_201 : decode cL_law 201 = .ok (.iconst 3, 1) := by decide +kernel
theorem dL_law_202 : decode cL_law 202 = .ok (.iadd, 1) := by decide +kernel
theorem dL_law_203 : decode cL_law 203 = .ok (.iaload, 1) := by decide +kernel
theorem dL_law_204 : decode cL_law 204 = .ok (.invokevirtual 13, 3) := by decide +kernel
theorem dL_law_207 : decode cL_law 207 = .ok (.aload_n 2, 1) := by decide +kernel
theorem dL_law_208 : decode cL_law 208 = .ok (.aload_n 0, 1) := by decide +kernel
theorem dL_law_209 : decode cL_law 209 = .ok (.iload_n 3, 1) := by decide +kernel
theorem dL_law_210 : decode cL_law 210 = .ok (.iconst 1, 1) := by decide +kernel
theorem dL_law_211 : decode cL_law 211 = .ok (.iadd, 1) := by decide +kernel
theorem dL_law_212 : decode cL_law 212 = .ok (.iaload, 1) := by decide +kernel
theorem dL_law_213 : decode cL_law 213 = .ok (.aload_n 0, 1) := by decide +kernel
theorem dL_law_214 : decode cL_law 214 = .ok (.iload_n 3, 1) := by decide +kernel
theorem dL_law_215 : decode cL_law 215 = .ok (.iconst 2, 1) := by decide +kernel
theorem dL_law_216 : decode cL_law 216 = .ok (.iadd, 1) := by decide +kernel
theorem dL_law_217 : decode cL_law 217 = .ok (.iaload, 1) := by decide +kernel
theorem dL_law_218 : decode cL_law 218 = .ok (.aload_n 0, 1) := by decide +kernel
theorem dL_law_219 : decode cL_law 219 = .ok (.iload_n 3, 1) := by decide +kernel
theorem dL_law_220 : decode cL_law 220 = .ok (.iconst 3, 1) := by decide +kernel
theorem dL_law_221 : decode cL_law 221 = .ok (.iadd, 1) := by decide +kernel
theorem dL_law_222 : decode cL_law 222 = .ok (.iaload, 1) := by decide +kernel
theorem dL_law_223 : decode cL_law 223 = .ok (.invokevirtual 17, 3) := by decide +kernel
theorem dL_law_226 : decode cL_law 226 = .ok (.if_icmp .eq 1020, 3) := by decide +kernel
theorem dL_law_229 : decode cL_law 229 = .ok (.iconst 0, 1) := by decide +kernel
theorem dL_law_230 : decode cL_law 230 = .ok (.ireturn, 1) := by decide +kernel
theorem dL_law_231 : decode cL_law 231 = .ok (.aload_n 1, 1) := by decide +kernel
theorem dL_law_232 : decode cL_law 232 = .ok (.aload_n 0, 1) := by decide +kernel
theorem dL_law_233 : decode cL_law 233 = .ok (.iload_n 3, 1) := by decide +kernel
theorem dL_law_234 : decode cL_law 234 = .ok (.iconst 1, 1) := by decide +kernel
theorem dL_law_235 : decode cL_law 235 = .ok (.iadd, 1) := by decide +kernel
theorem dL_law_236 : decode cL_law 236 = .ok (.iaload, 1) := by decide +kernel
theorem dL_law_237 : decode cL_law 237 = .ok (.aload_n 0, 1) := by decide +kernel
theorem dL_law_238 : decode cL_law 238 = .ok (.iload_n 3, 1) := by decide +kernel
theorem dL_law_239 : decode cL_law 239 = .ok (.iconst 2, 1) := by decide +kernel
theorem dL_law_240 : decode cL_law 240 = .ok (.iadd, 1) := by decide +kernel
theorem dL_law_241 : decode cL_law 241 = .ok (.iaload, 1) := by decide +kernel
theorem dL_law_242 : decode cL_law 242 = .ok (.invokevirtual 18, 3) := by decide +kernel
theorem dL_law_245 : decode cL_law 245 = .ok (.aload_n 2, 1) := by decide +kernel
theorem dL_law_246 : decode cL_law 246 = .ok (.aload_n 0, 1) := by decide +kernel
theorem dL_law_247 : decode cL_law 247 = .ok (.iload_n 3, 1) := by decide +kernel
theorem dL_law_248 : decode cL_law 248 = .ok (.iconst 1, 1) := by decide +kernel
theorem dL_law_249 : decode cL_law 249 = .ok (.iadd, 1) := by decide +kernel
theorem dL_law_250 : decode cL_law 250 = .ok (.iaload, 1) := by decide +kernel
theorem dL_law_251 : decode cL_law 251 = .ok (.aload_n 0, 1) := by decide +kernel
theorem dL_law_252 : decode cL_law 252 = .ok (.iload_n 3, 1) := by decide +kernel
theorem dL_law_253 : decode cL_law 253 = .ok (.iconst 2, 1) := by decide +kernel
theorem dL_law_254 : decode cL_law 254 = .ok (.iadd, 1) := by decide +kernel
theorem dL_law_255 : decode cL_law 255 = .ok (.iaload, 1) := by decide +kernel
theorem dL_law_256 : decode cL_law 256 = .ok (.invokevirtual 22, 3) := by decide +kernel
theorem dL_law_259 : decode cL_law 259 = .ok (.if_icmp .eq 987, 3) := by decide +kernel
theorem dL_law_262 : decode cL_law 262 = .ok (.iconst 0, 1) := by decide +kernel
theorem dL_law_263 : decode cL_law 263 = .ok (.ireturn, 1) := by decide +kernel
theorem dL_law_264 : decode cL_law 264 = .ok (.aload_n 1, 1) := by decide +kernel
theorem dL_law_265 : decode cL_law 265 = .ok (.aload_n 0, 1) := by decide +kernel
theorem dL_law_266 : decode cL_law 266 = .ok (.iload_n 3, 1) := by decide +kernel
theorem dL_law_267 : decode cL_law 267 = .ok (.iconst 1, 1) := by decide +kernel
theorem dL_law_268 : decode cL_law 268 = .ok (.iadd, 1) := by decide +kernel
theorem dL_law_269 : decode cL_law 269 = .ok (.iaload, 1) := by decide +kernel
theorem dL_law_270 : decode cL_law 270 = .ok (.aload_n 0, 1) := by decide +kernel
theorem dL_law_271 : decode cL_law 271 = .ok (.iload_n 3, 1) := by decide +kernel
theorem dL_law_272 : decode cL_law 272 = .ok (.iconst 2, 1) := by decide +kernel
theorem dL_law_273 : decode cL_law 273 = .ok (.iadd, 1) := by decide +kernel
theorem dL_law_274 : decode cL_law 274 = .ok (.iaload, 1) := by decide +kernel
theorem dL_law_275 : decode cL_law 275 = .ok (.invokevirtual 23, 3) := by decide +kernel
theorem dL_law_278 : decode cL_law 278 = .ok (.aload_n 2, 1) := by decide +kernel
theorem dL_law_279 : decode cL_law 279 = .ok (.aload_n 0, 1) := by decide +kernel
theorem dL_law_280 : decode cL_law 280 = .ok (.iload_n 3, 1) := by decide +kernel
theorem dL_law_281 : decode cL_law 281 = .ok (.iconst 1, 1) := by decide +kernel
theorem dL_law_282 : decode cL_law 282 = .ok (.iadd, 1) := by decide +kernel
theorem dL_law_283 : decode cL_law 283 = .ok (.iaload, 1) := by decide +kernel
theorem dL_law_284 : decode cL_law 284 = .ok (.aload_n 0, 1) := by decide +kernel
theorem dL_law_285 : decode cL_law 285 = .ok (.iload_n 3, 1) := by decide +kernel
theorem dL_law_286 : decode cL_law 286 = .ok (.iconst 2, 1) := by decide +kernel
theorem dL_law_287 : decode cL_law 287 = .ok (.iadd, 1) := by decide +kernel
theorem dL_law_288 : decode cL_law 288 = .ok (.iaload, 1) := by decide +kernel
theorem dL_law_289 : decode cL_law 289 = .ok (.invokevirtual 26, 3) := by decide +kernel
theorem dL_law_292 : decode cL_law 292 = .ok (.if_icmp .eq 954, 3) := by decide +kernel
theorem dL_law_295 : decode cL_law 295 = .ok (.iconst 0, 1) := by decide +kernel
theorem dL_law_296 : decode cL_law 296 = .ok (.ireturn, 1) := by decide +kernel
theorem dL_law_297 : decode cL_law 297 = .ok (.aload_n 1, 1) := by decide +kernel
theorem dL_law_298 : decode cL_law 298 = .ok (.aload_n 0, 1) := by decide +kernel
theorem dL_law_299 : decode cL_law 299 = .ok (.iload_n 3, 1) := by decide +kernel
theorem dL_law_300 : decode cL_law 300 = .ok (.iconst 1, 1) := by decide +kernel
theorem dL_law_301 : decode cL_law 301 = .ok (.iadd, 1) := by decide +kernel
theorem dL_law_302 : decode cL_law 302 = .ok (.iaload, 1) := by decide +kernel
theorem dL_law_303 : decode cL_law 303 = .ok (.aload_n 0, 1) := by decide +kernel
theorem dL_law_304 : decode cL_law 304 = .ok (.iload_n 3, 1) := by decide +kernel
theorem dL_law_305 : decode cL_law 305 = .ok (.iconst 2, 1) := by decide +kernel
theorem dL_law_306 : decode cL_law 306 = .ok (.iadd, 1) := by decide +kernel
theorem dL_law_307 : decode cL_law 307 = .ok (.iaload, 1) := by decide +kernel
theorem dL_law_308 : decode cL_law 308 = .ok (.aload_n 0, 1) := by decide +kernel
theorem dL_law_309 : decode cL_law 309 = .ok (.iload_n 3, 1) := by decide +kernel
theorem dL_law_310 : decode cL_law 310 = .ok (.iconst 3, 1) := by decide +kernel
theorem dL_law_311 : decode cL_law 311 = .ok (.iadd, 1) := by decide +kernel
theorem dL_law_312 : decode cL_law 312 = .ok (.iaload, 1) := by decide +kernel
theorem dL_law_313 : decode cL_law 313 = .ok (.invokevirtual 27, 3) := by decide +kernel
theorem dL_law_316 : decode cL_law 316 = .ok (.aload_n 2, 1) := by decide +kernel
theorem dL_law_317 : decode cL_law 317 = .ok (.aload_n 0, 1) := by decide +kernel
theorem dL_law_318 : decode cL_law 318 = .ok (.iload_n 3, 1) := by decide +kernel
theorem dL_law_319 : decode cL_law 319 = .ok (.iconst 1, 1) := by decide +kernel
theorem dL_law_320 : decode cL_law 320 = .ok (.iadd, 1) := by decide +kernel
theorem dL_law_321 : decode cL_law 321 = .ok (.iaload, 1) := by decide +kernel
theorem dL_law_322 : decode cL_law 322 = .ok (.aload_n 0, 1) := by decide +kernel
theorem dL_law_323 : decode cL_law 323 = .ok (.iload_n 3, 1) := by decide +kernel
theorem dL_law_324 : decode cL_law 324 = .ok (.iconst 2, 1) := by decide +kernel
theorem dL_law_325 : decode cL_law 325 = .ok (.iadd, 1) := by decide +kernel
theorem dL_law_326 : decode cL_law 326 = .ok (.iaload, 1) := by decide +kernel
theorem dL_law_327 : decode cL_law 327 = .ok (.aload_n 0, 1) := by decide +kernel
theorem dL_law_328 : decode cL_law 328 = .ok (.iload_n 3, 1) := by decide +kernel
theorem dL_law_329 : decode cL_law 329 = .ok (.iconst 3, 1) := by decide +kernel
theorem dL_law_330 : decode cL_law 330 = .ok (.iadd, 1) := by decide +kernel
theorem dL_law_331 : decode cL_law 331 = .ok (.iaload, 1) := by decide +kernel
theorem dL_law_332 : decode cL_law 332 = .ok (.invokevirtual 30, 3) := by decide +kernel
theorem dL_law_335 : decode cL_law 335 = .ok (.if_icmp .eq 911, 3) := by decide +kernel
theorem dL_law_338 : decode cL_law 338 = .ok (.iconst 0, 1) := by decide +kernel
theorem dL_law_339 : decode cL_law 339 = .ok (.ireturn, 1) := by decide +kernel
theorem dL_law_340 : decode cL_law 340 = .ok (.aload_n 1, 1) := by decide +kernel
theorem dL_law_341 : decode cL_law 341 = .ok (.aload_n 0, 1) := by decide +kernel
theorem dL_law_342 : decode cL_law 342 = .ok (.iload_n 3, 1) := by decide +kernel
theorem dL_law_343 : decode cL_law 343 = .ok (.iconst 1, 1) := by decide +kernel
theorem dL_law_344 : decode cL_law 344 = .ok (.iadd, 1) := by decide +kernel
theorem dL_law_345 : decode cL_law 345 = .ok (.iaload, 1) := by decide +kernel
theorem dL_law_346 : decode cL_law 346 = .ok (.invokevirtual 31, 3) := by decide +kernel
theorem dL_law_349 : decode cL_law 349 = .ok (.aload_n 2, 1) := by decide +kernel
theorem dL_law_350 : decode cL_law 350 = .ok (.aload_n 0, 1) := by decide +kernel
theorem dL_law_351 : decode cL_law 351 = .ok (.iload_n 3, 1) := by decide +kernel
theorem dL_law_352 : decode cL_law 352 = .ok (.iconst 1, 1) := by decide +kernel
theorem dL_law_353 : decode cL_law 353 = .ok (.iadd, 1) := by decide +kernel
theorem dL_law_354 : decode cL_law 354 = .ok (.iaload, 1) := by decide +kernel
theorem dL_law_355 : decode cL_law 355 = .ok (.invokevirtual 35, 3) := by decide +kernel
theorem dL_law_358 : decode cL_law 358 = .ok (.if_icmp .eq 888, 3) := by decide +kernel
theorem dL_law_361 : decode cL_law 361 = .ok (.iconst 0, 1) := by decide +kernel
theorem dL_law_362 : decode cL_law 362 = .ok (.ireturn, 1) := by decide +kernel
theorem dL_law_363 : decode cL_law 363 = .ok (.aload_n 1, 1) := by decide +kernel
theorem dL_law_364 : decode cL_law 364 = .ok (.invokevirtual 36, 3) := by decide +kernel
theorem dL_law_367 : decode cL_law 367 = .ok (.aload_n 2, 1) := by decide +kernel
theorem dL_law_368 : decode cL_law 368 = .ok (.invokevirtual 40, 3) := by decide +kernel
theorem dL_law_371 : decode cL_law 371 = .ok (.if_icmp .eq 875, 3) := by decide +kernel
theorem dL_law_374 : decode cL_law 374 = .ok (.iconst 0, 1) := by decide +kernel
theorem dL_law_375 : decode cL_law 375 = .ok (.ireturn, 1) := by decide +kernel
theorem dL_law_376 : decode cL_law 376 = .ok (.aload_n 1, 1) := by decide +kernel
theorem dL_law_377 : decode cL_law 377 = .ok (.aload_n 0, 1) := by decide +kernel
theorem dL_law_378 : decode cL_law 378 = .ok (.iload_n 3, 1) := by decide +kernel
theorem dL_law_379 : decode cL_law 379 = .ok (.iconst 1, 1) := by decide +kernel
theorem dL_law_380 : decode cL_law 380 = .ok (.iadd, 1) := by decide +kernel
theorem dL_law_381 : decode cL_law 381 = .ok (.iaload, 1) := by decide +kernel
theorem dL_law_382 : decode cL_law 382 = .ok (.invokevirtual 41, 3) := by decide +kernel
theorem dL_law_385 : decode cL_law 385 = .ok (.aload_n 2, 1) := by decide +kernel
theorem dL_law_386 : decode cL_law 386 = .ok (.aload_n 0, 1) := by decide +kernel
theorem dL_law_387 : decode cL_law 387 = .ok (.iload_n 3, 1) := by decide +kernel
theorem dL_law_388 : decode cL_law 388 = .ok (.iconst 1, 1) := by decide +kernel
theorem dL_law_389 : decode cL_law 389 = .ok (.iadd, 1) := by decide +kernel
theorem dL_law_390 : decode cL_law 390 = .ok (.iaload, 1) := by decide +kernel
theorem dL_law_391 : decode cL_law 391 = .ok (.invokevirtual 44, 3) := by decide +kernel
theorem dL_law_394 : decode cL_law 394 = .ok (.if_icmp .eq 852, 3) := by decide +kernel
theorem dL_law_397 : decode cL_law 397 = .ok (.iconst 0, 1) := by decide +kernel
theorem dL_law_398 : decode cL_law 398 = .ok (.ireturn, 1) := by decide +kernel
theorem dL_law_399 : decode cL_law 399 = .ok (.aload_n 1, 1) := by decide +kernel
theorem dL_law_400 : decode cL_law 400 = .ok (.invokevirtual 45, 3) := by decide +kernel
theorem dL_law_403 : decode cL_law 403 = .ok (.aload_n 2, 1) := by decide +kernel
theorem dL_law_404 : decode cL_law 404 = .ok (.invokevirtual 48, 3) := by decide +kernel
theorem dL_law_407 : decode cL_law 407 = .ok (.if_icmp .eq 839, 3) := by decide +kernel
theorem dL_law_410 : decode cL_law 410 = .ok (.iconst 0, 1) := by decide +kernel
theorem dL_law_411 : decode cL_law 411 = .ok (.ireturn, 1) := by decide +kernel
theorem dL_law_412 : decode cL_law 412 = .ok (.aload_n 1, 1) := by decide +kernel
theorem dL_law_413 : decode cL_law 413 = .ok (.aload_n 0, 1) := by decide +kernel
theorem dL_law_414 : decode cL_law 414 = .ok (.iload_n 3, 1) := by decide +kernel
theorem dL_law_415 : decode cL_law 415 = .ok (.iconst 1, 1) := by decide +kernel
theorem dL_law_416 : decode cL_law 416 = .ok (.iadd, 1) := by decide +kernel
theorem dL_law_417 : decode cL_law 417 = .ok (.iaload, 1) := by decide +kernel
theorem dL_law_418 : decode cL_law 418 = .ok (.aload_n 0, 1) := by decide +kernel
theorem dL_law_419 : decode cL_law 419 = .ok (.iload_n 3, 1) := by decide +kernel
theorem dL_law_420 : decode cL_law 420 = .ok (.iconst 2, 1) := by decide +kernel
theorem dL_law_421 : decode cL_law 421 = .ok (.iadd, 1) := by decide +kernel
theorem dL_law_422 : decode cL_law 422 = .ok (.iaload, 1) := by decide +kernel
theorem dL_law_423 : decode cL_law 423 = .ok (.invokevirtual 49, 3) := by decide +kernel
theorem dL_law_426 : decode cL_law 426 = .ok (.aload_n 2, 1) := by decide +kernel
theorem dL_law_427 : decode cL_law 427 = .ok (.aload_n 0, 1) := by decide +kernel
theorem dL_law_428 : decode cL_law 428 = .ok (.iload_n 3, 1) := by decide +kernel
theorem dL_law_429 : decode cL_law 429 = .ok (.iconst 1, 1) := by decide +kernel
theorem dL_law_430 : decode cL_law 430 = .ok (.iadd, 1) := by decide +kernel
theorem dL_law_431 : decode cL_law 431 = .ok (.iaload, 1) := by decide +kernel
theorem dL_law_432 : decode cL_law 432 = .ok (.aload_n 0, 1) := by decide +kernel
theorem dL_law_433 : decode cL_law 433 = .ok (.iload_n 3, 1) := by decide +kernel
theorem dL_law_434 : decode cL_law 434 = .ok (.iconst 2, 1) := by decide +kernel
theorem dL_law_435 : decode cL_law 435 = .ok (.iadd, 1) := by decide +kernel
theorem dL_law_436 : decode cL_law 436 = .ok (.iaload, 1) := by decide +kernel
theorem dL_law_437 : decode cL_law 437 = .ok (.invokevirtual 52, 3) := by decide +kernel
theorem dL_law_440 : decode cL_law 440 = .ok (.if_icmp .eq 806, 3) := by decide +kernel
theorem dL_law_443 : decode cL_law 443 = .ok (.iconst 0, 1) := by decide +kernel
theorem dL_law_444 : decode cL_law 444 = .ok (.ireturn, 1) := by decide +kernel
theorem dL_law_445 : decode cL_law 445 = .ok (.aload_n 1, 1) := by decide +kernel
theorem dL_law_446 : decode cL_law 446 = .ok (.invokevirtual 53, 3) := by decide +kernel
theorem dL_law_449 : decode cL_law 449 = .ok (.aload_n 2, 1) := by decide +kernel
theorem dL_law_450 : decode cL_law 450 = .ok (.invokevirtual 56, 3) := by decide +kernel
theorem dL_law_453 : decode cL_law 453 = .ok (.if_icmp .eq 793, 3) := by decide +kernel
theorem dL_law_456 : decode cL_law 456 = .ok (.iconst 0, 1) := by decide +kernel
theorem dL_law_457 : decode cL_law 457 = .ok (.ireturn, 1) := by decide +kernel
theorem dL_law_458 : decode cL_law 458 = .ok (.aload_n 1, 1) := by decide +kernel
theorem dL_law_459 : decode cL_law 459 = .ok (.invokevirtual 57, 3) := by decide +kernel
theorem dL_law_462 : decode cL_law 462 = .ok (.aload_n 2, 1) := by decide +kernel
theorem dL_law_463 : decode cL_law 463 = .ok (.invokevirtual 60, 3) := by decide +kernel
theorem dL_law_466 : decode cL_law 466 = .ok (.if_icmp .eq 780, 3) := by decide +kernel
theorem dL_law_469 : decode cL_law 469 = .ok (.iconst 0, 1) := by decide +kernel
theorem dL_law_470 : decode cL_law 470 = .ok (.ireturn, 1) := by decide +kernel
theorem dL_law_471 : decode cL_law 471 = .ok (.aload_n 1, 1) := by decide +kernel
theorem dL_law_472 : decode cL_law 472 = .ok (.aload_n 0, 1) := by decide +kernel
theorem dL_law_473 : decode cL_law 473 = .ok (.iload_n 3, 1) := by decide +kernel
theorem dL_law_474 : decode cL_law 474 = .ok (.iconst 1, 1) := by decide +kernel
theorem dL_law_475 : decode cL_law 475 = .ok (.iadd, 1) := by decide +kernel
theorem dL_law_476 : decode cL_law 476 = .ok (.iaload, 1) := by decide +kernel
theorem dL_law_477 : decode cL_law 477 = .ok (.aload_n 0, 1) := by decide +kernel
theorem dL_law_478 : decode cL_law 478 = .ok (.iload_n 3, 1) := by decide +kernel
theorem dL_law_479 : decode cL_law 479 = .ok (.iconst 2, 1) := by decide +kernel
theorem dL_law_480 : decode cL_law 480 = .ok (.iadd, 1) := by decide +kernel
theorem dL_law_481 : decode cL_law 481 = .ok (.iaload, 1) := by decide +kernel
theorem dL_law_482 : decode cL_law 482 = .ok (.aload_n 0, 1) := by decide +kernel
theorem dL_law_483 : decode cL_law 483 = .ok (.iload_n 3, 1) := by decide +kernel
theorem dL_law_484 : decode cL_law 484 = .ok (.iconst 3, 1) := by decide +kernel
theorem dL_law_485 : decode cL_law 485 = .ok (.iadd, 1) := by decide +kernel
theorem dL_law_486 : decode cL_law 486 = .ok (.iaload, 1) := by decide +kernel
theorem dL_law_487 : decode cL_law 487 = .ok (.invokevirtual 61, 3) := by decide +kernel
theorem dL_law_490 : decode cL_law 490 = .ok (.aload_n 2, 1) := by decide +kernel
theorem dL_law_491 : decode cL_law 491 = .ok (.aload_n 0, 1) := by decide +kernel
theorem dL_law_492 : decode cL_law 492 = .ok (.iload_n 3, 1) := by decide +kernel
theorem dL_law_493 : decode cL_law 493 = .ok (.iconst 1, 1) := by decide +kernel
theorem dL_law_494 : decode cL_law 494 = .ok (.iadd, 1) := by decide +kernel
theorem dL_law_495 : decode cL_law 495 = .ok (.iaload, 1) := by decide +kernel
theorem dL_law_496 : decode cL_law 496 = .ok (.aload_n 0, 1) := by decide +kernel
theorem dL_law_497 : decode cL_law 497 = .ok (.iload_n 3, 1) := by decide +kernel
theorem dL_law_498 : decode cL_law 498 = .ok (.iconst 2, 1) := by decide +kernel
theorem dL_law_499 : decode cL_law 499 = .ok (.iadd, 1) := by decide +kernel
theorem dL_law_500 : decode cL_law 500 = .ok (.iaload, 1) := by decide +kernel
theorem dL_law_501 : decode cL_law 501 = .ok (.aload_n 0, 1) := by decide +kernel
theorem dL_law_502 : decode cL_law 502 = .ok (.iload_n 3, 1) := by decide +kernel
theorem dL_law_503 : decode cL_law 503 = .ok (.iconst 3, 1) := by decide +kernel
theorem dL_law_504 : decode cL_law 504 = .ok (.iadd, 1) := by decide +kernel
theorem dL_law_505 : decode cL_law 505 = .ok (.iaload, 1) := by decide +kernel
theorem dL_law_506 : decode cL_law 506 = .ok (.invokevirtual 64, 3) := by decide +kernel
theorem dL_law_509 : decode cL_law 509 = .ok (.if_icmp .eq 737, 3) := by decide +kernel
theorem dL_law_512 : decode cL_law 512 = .ok (.iconst 0, 1) := by decide +kernel
theorem dL_law_513 : decode cL_law 513 = .ok (.ireturn, 1) := by decide +kernel
theorem dL_law_514 : decode cL_law 514 = .ok (.aload_n 1, 1) := by decide +kernel
theorem dL_law_515 : decode cL_law 515 = .ok (.aload_n 0, 1) := by decide +kernel
theorem dL_law_516 : decode cL_law 516 = .ok (.iload_n 3, 1) := by decide +kernel
theorem dL_law_517 : decode cL_law 517 = .ok (.iconst 1, 1) := by decide +kernel
theorem dL_law_518 : decode cL_law 518 = .ok (.iadd, 1) := by decide +kernel
theorem dL_law_519 : decode cL_law 519 = .ok (.iaload, 1) := by decide +kernel
theorem dL_law_520 : decode cL_law 520 = .ok (.invokevirtual 65, 3) := by decide +kernel
theorem dL_law_523 : decode cL_law 523 = .ok (.aload_n 2, 1) := by decide +kernel
theorem dL_law_524 : decode cL_law 524 = .ok (.aload_n 0, 1) := by decide +kernel
theorem dL_law_525 : decode cL_law 525 = .ok (.iload_n 3, 1) := by decide +kernel
theorem dL_law_526 : decode cL_law 526 = .ok (.iconst 1, 1) := by decide +kernel
theorem dL_law_527 : decode cL_law 527 = .ok (.iadd, 1) := by decide +kernel
theorem dL_law_528 : decode cL_law 528 = .ok (.iaload, 1) := by decide +kernel
theorem dL_law_529 : decode cL_law 529 = .ok (.invokevirtual 68, 3) := by decide +kernel
theorem dL_law_532 : decode cL_law 532 = .ok (.if_icmp .eq 714, 3) := by decide +kernel
theorem dL_law_535 : decode cL_law 535 = .ok (.iconst 0, 1) := by decide +kernel
theorem dL_law_536 : decode cL_law 536 = .ok (.ireturn, 1) := by decide +kernel
theorem dL_law_537 : decode cL_law 537 = .ok (.aload_n 1, 1) := by decide +kernel
theorem dL_law_538 : decode cL_law 538 = .ok (.invokevirtual 69, 3) := by decide +kernel
theorem dL_law_541 : decode cL_law 541 = .ok (.aload_n 2, 1) := by decide +kernel
theorem dL_law_542 : decode cL_law 542 = .ok (.invokevirtual 72, 3) := by decide +kernel
theorem dL_law_545 : decode cL_law 545 = .ok (.if_icmp .eq 701, 3) := by decide +kernel
theorem dL_law_548 : decode cL_law 548 = .ok (.iconst 0, 1) := by decide +kernel
theorem dL_law_549 : decode cL_law 549 = .ok (.ireturn, 1) := by decide +kernel
theorem dL_law_550 : decode cL_law 550 = .ok (.aload_n 1, 1) := by decide +kernel
theorem dL_law_551 : decode cL_law 551 = .ok (.aload_n 0, 1) := by decide +kernel
theorem dL_law_552 : decode cL_law 552 = .ok (.iload_n 3, 1) := by decide +kernel
theorem dL_law_553 : decode cL_law 553 = .ok (.iconst 1, 1) := by decide +kernel
theorem dL_law_554 : decode cL_law 554 = .ok (.iadd, 1) := by decide +kernel
theorem dL_law_555 : decode cL_law 555 = .ok (.iaload, 1) := by decide +kernel
theorem dL_law_556 : decode cL_law 556 = .ok (.aload_n 0, 1) := by decide +kernel
theorem dL_law_557 : decode cL_law 557 = .ok (.iload_n 3, 1) := by decide +kernel
theorem dL_law_558 : decode cL_law 558 = .ok (.iconst 2, 1) := by decide +kernel
theorem dL_law_559 : decode cL_law 559 = .ok (.iadd, 1) := by decide +kernel
theorem dL_law_560 : decode cL_law 560 = .ok (.iaload, 1) := by decide +kernel
theorem dL_law_561 : decode cL_law 561 = .ok (.aload_n 0, 1) := by decide +kernel
theorem dL_law_562 : decode cL_law 562 = .ok (.iload_n 3, 1) := by decide +kernel
theorem dL_law_563 : decode cL_law 563 = .ok (.iconst 3, 1) := by decide +kernel
theorem dL_law_564 : decode cL_law 564 = .ok (.iadd, 1) := by decide +kernel
theorem dL_law_565 : decode cL_law 565 = .ok (.iaload, 1) := by decide +kernel
theorem dL_law_566 : decode cL_law 566 = .ok (.aload_n 0, 1) := by decide +kernel
theorem dL_law_567 : decode cL_law 567 = .ok (.iload_n 3, 1) := by decide +kernel
theorem dL_law_568 : decode cL_law 568 = .ok (.iconst 4, 1) := by decide +kernel
theorem dL_law_569 : decode cL_law 569 = .ok (.iadd, 1) := by decide +kernel
theorem dL_law_570 : decode cL_law 570 = .ok (.iaload, 1) := by decide +kernel
theorem dL_law_571 : decode cL_law 571 = .ok (.invokevirtual 73, 3) := by decide +kernel
theorem dL_law_574 : decode cL_law 574 = .ok (.aload_n 2, 1) := by decide +kernel
theorem dL_law_575 : decode cL_law 575 = .ok (.aload_n 0, 1) := by decide +kernel
theorem dL_law_576 : decode cL_law 576 = .ok (.iload_n 3, 1) := by decide +kernel
theorem dL_law_577 : decode cL_law 577 = .ok (.iconst 1, 1) := by decide +kernel
theorem dL_law_578 : decode cL_law 578 = .ok (.iadd, 1) := by decide +kernel
theorem dL_law_579 : decode cL_law 579 = .ok (.iaload, 1) := by decide +kernel
theorem dL_law_580 : decode cL_law 580 = .ok (.aload_n 0, 1) := by decide +kernel
theorem dL_law_581 : decode cL_law 581 = .ok (.iload_n 3, 1) := by decide +kernel
theorem dL_law_582 : decode cL_law 582 = .ok (.iconst 2, 1) := by decide +kernel
theorem dL_law_583 : decode cL_law 583 = .ok (.iadd, 1) := by decide +kernel
theorem dL_law_584 : decode cL_law 584 = .ok (.iaload, 1) := by decide +kernel
theorem dL_law_585 : decode cL_law 585 = .ok (.aload_n 0, 1) := by decide +kernel
theorem dL_law_586 : decode cL_law 586 = .ok (.iload_n 3, 1) := by decide +kernel
theorem dL_law_587 : decode cL_law 587 = .ok (.iconst 3, 1) := by decide +kernel
theorem dL_law_588 : decode cL_law 588 = .ok (.iadd, 1) := by decide +kernel
theorem dL_law_589 : decode cL_law 589 = .ok (.iaload, 1) := by decide +kernel
theorem dL_law_590 : decode cL_law 590 = .ok (.aload_n 0, 1) := by decide +kernel
theorem dL_law_591 : decode cL_law 591 = .ok (.iload_n 3, 1) := by decide +kernel
theorem dL_law_592 : decode cL_law 592 = .ok (.iconst 4, 1) := by decide +kernel
theorem dL_law_593 : decode cL_law 593 = .ok (.iadd, 1) := by decide +kernel
theorem dL_law_594 : decode cL_law 594 = .ok (.iaload, 1) := by decide +kernel
theorem dL_law_595 : decode cL_law 595 = .ok (.invokevirtual 77, 3) := by decide +kernel
theorem dL_law_598 : decode cL_law 598 = .ok (.if_icmp .eq 648, 3) := by decide +kernel
theorem dL_law_601 : decode cL_law 601 = .ok (.iconst 0, 1) := by decide +kernel
theorem dL_law_602 : decode cL_law 602 = .ok (.ireturn, 1) := by decide +kernel
theorem dL_law_603 : decode cL_law 603 = .ok (.aload_n 1, 1) := by decide +kernel
theorem dL_law_604 : decode cL_law 604 = .ok (.aload_n 0, 1) := by decide +kernel
theorem dL_law_605 : decode cL_law 605 = .ok (.iload_n 3, 1) := by decide +kernel
theorem dL_law_606 : decode cL_law 606 = .ok (.iconst 1, 1) := by decide +kernel
theorem dL_law_607 : decode cL_law 607 = .ok (.iadd, 1) := by decide +kernel
theorem dL_law_608 : decode cL_law 608 = .ok (.iaload, 1) := by decide +kernel
theorem dL_law_609 : decode cL_law 609 = .ok (.invokevirtual 78, 3) := by decide +kernel
theorem dL_law_612 : decode cL_law 612 = .ok (.aload_n 2, 1) := by decide +kernel
theorem dL_law_613 : decode cL_law 613 = .ok (.aload_n 0, 1) := by decide +kernel
theorem dL_law_614 : decode cL_law 614 = .ok (.iload_n 3, 1) := by decide +kernel
theorem dL_law_615 : decode cL_law 615 = .ok (.iconst 1, 1) := by decide +kernel
theorem dL_law_616 : decode cL_law 616 = .ok (.iadd, 1) := by decide +kernel
theorem dL_law_617 : decode cL_law 617 = .ok (.iaload, 1) := by decide +kernel
theorem dL_law_618 : decode cL_law 618 = .ok (.invokevirtual 81, 3) := by decide +kernel
theorem dL_law_621 : decode cL_law 621 = .ok (.if_icmp .eq 625, 3) := by decide +kernel
theorem dL_law_624 : decode cL_law 624 = .ok (.iconst 0, 1) := by decide +kernel
theorem dL_law_625 : decode cL_law 625 = .ok (.ireturn, 1) := by decide +kernel
theorem dL_law_626 : decode cL_law 626 = .ok (.aload_n 1, 1) := by decide +kernel
theorem dL_law_627 : decode cL_law 627 = .ok (.aload_n 0, 1) := by decide +kernel
theorem dL_law_628 : decode cL_law 628 = .ok (.iload_n 3, 1) := by decide +kernel
theorem dL_law_629 : decode cL_law 629 = .ok (.iconst 1, 1) := by decide +kernel
theorem dL_law_630 : decode cL_law 630 = .ok (.iadd, 1) := by decide +kernel
theorem dL_law_631 : decode cL_law 631 = .ok (.iaload, 1) := by decide +kernel
theorem dL_law_632 : decode cL_law 632 = .ok (.invokevirtual 82, 3) := by decide +kernel
theorem dL_law_635 : decode cL_law 635 = .ok (.aload_n 2, 1) := by decide +kernel
theorem dL_law_636 : decode cL_law 636 = .ok (.aload_n 0, 1) := by decide +kernel
theorem dL_law_637 : decode cL_law 637 = .ok (.iload_n 3, 1) := by decide +kernel
theorem dL_law_638 : decode cL_law 638 = .ok (.iconst 1, 1) := by decide +kernel
theorem dL_law_639 : decode cL_law 639 = .ok (.iadd, 1) := by decide +kernel
theorem dL_law_640 : decode cL_law 640 = .ok (.iaload, 1) := by decide +kernel
theorem dL_law_641 : decode cL_law 641 = .ok (.invokevirtual 85, 3) := by decide +kernel
theorem dL_law_644 : decode cL_law 644 = .ok (.if_icmp .eq 602, 3) := by decide +kernel
theorem dL_law_647 : decode cL_law 647 = .ok (.iconst 0, 1) := by decide +kernel
theorem dL_law_648 : decode cL_law 648 = .ok (.ireturn, 1) := by decide +kernel
theorem dL_law_649 : decode cL_law 649 = .ok (.aload_n 1, 1) := by decide +kernel
theorem dL_law_650 : decode cL_law 650 = .ok (.aload_n 0, 1) := by decide +kernel
theorem dL_law_651 : decode cL_law 651 = .ok (.iload_n 3, 1) := by decide +kernel
theorem dL_law_652 : decode cL_law 652 = .ok (.iconst 1, 1) := by decide +kernel
theorem dL_law_653 : decode cL_law 653 = .ok (.iadd, 1) := by decide +kernel
theorem dL_law_654 : decode cL_law 654 = .ok (.iaload, 1) := by decide +kernel
theorem dL_law_655 : decode cL_law 655 = .ok (.aload_n 0, 1) := by decide +kernel
theorem dL_law_656 : decode cL_law 656 = .ok (.iload_n 3, 1) := by decide +kernel
theorem dL_law_657 : decode cL_law 657 = .ok (.iconst 2, 1) := by decide +kernel
theorem dL_law_658 : decode cL_law 658 = .ok (.iadd, 1) := by decide +kernel
theorem dL_law_659 : decode cL_law 659 = .ok (.iaload, 1) := by decide +kernel
theorem dL_law_660 : decode cL_law 660 = .ok (.invokevirtual 86, 3) := by decide +kernel
theorem dL_law_663 : decode cL_law 663 = .ok (.aload_n 2, 1) := by decide +kernel
theorem dL_law_664 : decode cL_law 664 = .ok (.aload_n 0, 1) := by decide +kernel
theorem dL_law_665 : decode cL_law 665 = .ok (.iload_n 3, 1) := by decide +kernel
theorem dL_law_666 : decode cL_law 666 = .ok (.iconst 1, 1) := by decide +kernel
theorem dL_law_667 : decode cL_law 667 = .ok (.iadd, 1) := by decide +kernel
theorem dL_law_668 : decode cL_law 668 = .ok (.iaload, 1) := by decide +kernel
theorem dL_law_669 : decode cL_law 669 = .ok (.aload_n 0, 1) := by decide +kernel
theorem dL_law_670 : decode cL_law 670 = .ok (.iload_n 3, 1) := by decide +kernel
theorem dL_law_671 : decode cL_law 671 = .ok (.iconst 2, 1) := by decide +kernel
theorem dL_law_672 : decode cL_law 672 = .ok (.iadd, 1) := by decide +kernel
theorem dL_law_673 : decode cL_law 673 = .ok (.iaload, 1) := by decide +kernel
theorem dL_law_674 : decode cL_law 674 = .ok (.invokevirtual 89, 3) := by decide +kernel
theorem dL_law_677 : decode cL_law 677 = .ok (.if_icmp .eq 569, 3) := by decide +kernel
theorem dL_law_680 : decode cL_law 680 = .ok (.iconst 0, 1) := by decide +kernel
theorem dL_law_681 : decode cL_law 681 = .ok (.ireturn, 1) := by decide +kernel
theorem dL_law_682 : decode cL_law 682 = .ok (.aload_n 1, 1) := by decide +kernel
theorem dL_law_683 : decode cL_law 683 = .ok (.aload_n 0, 1) := by decide +kernel
theorem dL_law_684 : decode cL_law 684 = .ok (.iload_n 3, 1) := by decide +kernel
theorem dL_law_685 : decode cL_law 685 = .ok (.iconst 1, 1) := by decide +kernel
theorem dL_law_686 : decode cL_law 686 = .ok (.iadd, 1) := by decide +kernel
theorem dL_law_687 : decode cL_law 687 = .ok (.iaload, 1) := by decide +kernel
theorem dL_law_688 : decode cL_law 688 = .ok (.invokevirtual 90, 3) := by decide +kernel
theorem dL_law_691 : decode cL_law 691 = .ok (.aload_n 2, 1) := by decide +kernel
theorem dL_law_692 : decode cL_law 692 = .ok (.aload_n 0, 1) := by decide +kernel
theorem dL_law_693 : decode cL_law 693 = .ok (.iload_n 3, 1) := by decide +kernel
theorem dL_law_694 : decode cL_law 694 = .ok (.iconst 1, 1) := by decide +kernel
theorem dL_law_695 : decode cL_law 695 = .ok (.iadd, 1) := by decide +kernel
theorem dL_law_696 : decode cL_law 696 = .ok (.iaload, 1) := by decide +kernel
theorem dL_law_697 : decode cL_law 697 = .ok (.invokevirtual 93, 3) := by decide +kernel
theorem dL_law_700 : decode cL_law 700 = .ok (.if_icmp .eq 546, 3) := by decide +kernel
theorem dL_law_703 : decode cL_law 703 = .ok (.iconst 0, 1) := by decide +kernel
theorem dL_law_704 : decode cL_law 704 = .ok (.ireturn, 1) := by decide +kernel
theorem dL_law_705 : decode cL_law 705 = .ok (.aload_n 1, 1) := by decide +kernel
theorem dL_law_706 : decode cL_law 706 = .ok (.aload_n 0, 1) := by decide +kernel
theorem dL_law_707 : decode cL_law 707 = .ok (.iload_n 3, 1) := by decide +kernel
theorem dL_law_708 : decode cL_law 708 = .ok (.iconst 1, 1) := by decide +kernel
theorem dL_law_709 : decode cL_law 709 = .ok (.iadd, 1) := by decide +kernel
theorem dL_law_710 : decode cL_law 710 = .ok (.iaload, 1) := by decide +kernel
theorem dL_law_711 : decode cL_law 711 = .ok (.aload_n 0, 1) := by decide +kernel
theorem dL_law_712 : decode cL_law 712 = .ok (.iload_n 3, 1) := by decide +kernel
theorem dL_law_713 : decode cL_law 713 = .ok (.iconst 2, 1) := by decide +kernel
theorem dL_law_714 : decode cL_law 714 = .ok (.iadd, 1) := by decide +kernel
theorem dL_law_715 : decode cL_law 715 = .ok (.iaload, 1) := by decide +kernel
theorem dL_law_716 : decode cL_law 716 = .ok (.invokevirtual 94, 3) := by decide +kernel
theorem dL_law_719 : decode cL_law 719 = .ok (.aload_n 2, 1) := by decide +kernel
theorem dL_law_720 : decode cL_law 720 = .ok (.aload_n 0, 1) := by decide +kernel
theorem dL_law_721 : decode cL_law 721 = .ok (.iload_n 3, 1) := by decide +kernel
theorem dL_law_722 : decode cL_law 722 = .ok (.iconst 1, 1) := by decide +kernel
theorem dL_law_723 : decode cL_law 723 = .ok (.iadd, 1) := by decide +kernel
theorem dL_law_724 : decode cL_law 724 = .ok (.iaload, 1) := by decide +kernel
theorem dL_law_725 : decode cL_law 725 = .ok (.aload_n 0, 1) := by decide +kernel
theorem dL_law_726 : decode cL_law 726 = .ok (.iload_n 3, 1) := by decide +kernel
theorem dL_law_727 : decode cL_law 727 = .ok (.iconst 2, 1) := by decide +kernel
theorem dL_law_728 : decode cL_law 728 = .ok (.iadd, 1) := by decide +kernel
theorem dL_law_729 : decode cL_law 729 = .ok (.iaload, 1) := by decide +kernel
theorem dL_law_730 : decode cL_law 730 = .ok (.invokevirtual 97, 3) := by decide +kernel
theorem dL_law_733 : decode cL_law 733 = .ok (.if_icmp .eq 513, 3) := by decide +kernel
theorem dL_law_736 : decode cL_law 736 = .ok (.iconst 0, 1) := by decide +kernel
theorem dL_law_737 : decode cL_law 737 = .ok (.ireturn, 1) := by decide +kernel
theorem dL_law_738 : decode cL_law 738 = .ok (.aload_n 1, 1) := by decide +kernel
theorem dL_law_739 : decode cL_law 739 = .ok (.aload_n 0, 1) := by decide +kernel
theorem dL_law_740 : decode cL_law 740 = .ok (.iload_n 3, 1) := by decide +kernel
theorem dL_law_741 : decode cL_law 741 = .ok (.iconst 1, 1) := by decide +kernel
theorem dL_law_742 : decode cL_law 742 = .ok (.iadd, 1) := by decide +kernel
theorem dL_law_743 : decode cL_law 743 = .ok (.iaload, 1) := by decide +kernel
theorem dL_law_744 : decode cL_law 744 = .ok (.aload_n 0, 1) := by decide +kernel
theorem dL_law_745 : decode cL_law 745 = .ok (.iload_n 3, 1) := by decide +kernel
theorem dL_law_746 : decode cL_law 746 = .ok (.iconst 2, 1) := by decide +kernel
theorem dL_law_747 : decode cL_law 747 = .ok (.iadd, 1) := by decide +kernel
theorem dL_law_748 : decode cL_law 748 = .ok (.iaload, 1) := by decide +kernel
theorem dL_law_749 : decode cL_law 749 = .ok (.aload_n 0, 1) := by decide +kernel
theorem dL_law_750 : decode cL_law 750 = .ok (.iload_n 3, 1) := by decide +kernel
theorem dL_law_751 : decode cL_law 751 = .ok (.iconst 3, 1) := by decide +kernel
theorem dL_law_752 : decode cL_law 752 = .ok (.iadd, 1) := by decide +kernel
theorem dL_law_753 : decode cL_law 753 = .ok (.iaload, 1) := by decide +kernel
theorem dL_law_754 : decode cL_law 754 = .ok (.invokevirtual 98, 3) := by decide +kernel
theorem dL_law_757 : decode cL_law 757 = .ok (.aload_n 2, 1) := by decide +kernel
theorem dL_law_758 : decode cL_law 758 = .ok (.aload_n 0, 1) := by decide +kernel
theorem dL_law_759 : decode cL_law 759 = .ok (.iload_n 3, 1) := by decide +kernel
theorem dL_law_760 : decode cL_law 760 = .ok (.iconst 1, 1) := by decide +kernel
theorem dL_law_761 : decode cL_law 761 = .ok (.iadd, 1) := by decide +kernel
theorem dL_law_762 : decode cL_law 762 = .ok (.iaload, 1) := by decide +kernel
theorem dL_law_763 : decode cL_law 763 = .ok (.aload_n 0, 1) := by decide +kernel
theorem dL_law_764 : decode cL_law 764 = .ok (.iload_n 3, 1) := by decide +kernel
theorem dL_law_765 : decode cL_law 765 = .ok (.iconst 2, 1) := by decide +kernel
theorem dL_law_766 : decode cL_law 766 = .ok (.iadd, 1) := by decide +kernel
theorem dL_law_767 : decode cL_law 767 = .ok (.iaload, 1) := by decide +kernel
theorem dL_law_768 : decode cL_law 768 = .ok (.aload_n 0, 1) := by decide +kernel
theorem dL_law_769 : decode cL_law 769 = .ok (.iload_n 3, 1) := by decide +kernel
theorem dL_law_770 : decode cL_law 770 = .ok (.iconst 3, 1) := by decide +kernel
theorem dL_law_771 : decode cL_law 771 = .ok (.iadd, 1) := by decide +kernel
theorem dL_law_772 : decode cL_law 772 = .ok (.iaload, 1) := by decide +kernel
theorem dL_law_773 : decode cL_law 773 = .ok (.invokevirtual 102, 3) := by decide +kernel
theorem dL_law_776 : decode cL_law 776 = .ok (.lcmp, 1) := by decide +kernel
theorem dL_law_777 : decode cL_law 777 = .ok (.ifCond .eq 469, 3) := by decide +kernel
theorem dL_law_780 : decode cL_law 780 = .ok (.iconst 0, 1) := by decide +kernel
theorem dL_law_781 : decode cL_law 781 = .ok (.ireturn, 1) := by decide +kernel
theorem dL_law_782 : decode cL_law 782 = .ok (.aload_n 1, 1) := by decide +kernel
theorem dL_law_783 : decode cL_law 783 = .ok (.aload_n 0, 1) := by decide +kernel
theorem dL_law_784 : decode cL_law 784 = .ok (.iload_n 3, 1) := by decide +kernel
theorem dL_law_785 : decode cL_law 785 = .ok (.iconst 1, 1) := by decide +kernel
theorem dL_law_786 : decode cL_law 786 = .ok (.iadd, 1) := by decide +kernel
theorem dL_law_787 : decode cL_law 787 = .ok (.iaload, 1) := by decide +kernel
theorem dL_law_788 : decode cL_law 788 = .ok (.aload_n 0, 1) := by decide +kernel
theorem dL_law_789 : decode cL_law 789 = .ok (.iload_n 3, 1) := by decide +kernel
theorem dL_law_790 : decode cL_law 790 = .ok (.iconst 2, 1) := by decide +kernel
theorem dL_law_791 : decode cL_law 791 = .ok (.iadd, 1) := by decide +kernel
theorem dL_law_792 : decode cL_law 792 = .ok (.iaload, 1) := by decide +kernel
theorem dL_law_793 : decode cL_law 793 = .ok (.invokevirtual 103, 3) := by decide +kernel
theorem dL_law_796 : decode cL_law 796 = .ok (.aload_n 2, 1) := by decide +kernel
theorem dL_law_797 : decode cL_law 797 = .ok (.aload_n 0, 1) := by decide +kernel
theorem dL_law_798 : decode cL_law 798 = .ok (.iload_n 3, 1) := by decide +kernel
theorem dL_law_799 : decode cL_law 799 = .ok (.iconst 1, 1) := by decide +kernel
theorem dL_law_800 : decode cL_law 800 = .ok (.iadd, 1) := by decide +kernel
theorem dL_law_801 : decode cL_law 801 = .ok (.iaload, 1) := by decide +kernel
theorem dL_law_802 : decode cL_law 802 = .ok (.aload_n 0, 1) := by decide +kernel
theorem dL_law_803 : decode cL_law 803 = .ok (.iload_n 3, 1) := by decide +kernel
theorem dL_law_804 : decode cL_law 804 = .ok (.iconst 2, 1) := by decide +kernel
theorem dL_law_805 : decode cL_law 805 = .ok (.iadd, 1) := by decide +kernel
theorem dL_law_806 : decode cL_law 806 = .ok (.iaload, 1) := by decide +kernel
theorem dL_law_807 : decode cL_law 807 = .ok (.invokevirtual 107, 3) := by decide +kernel
theorem dL_law_810 : decode cL_law 810 = .ok (.lcmp, 1) := by decide +kernel
theorem dL_law_811 : decode cL_law 811 = .ok (.ifCond .eq 435, 3) := by decide +kernel
theorem dL_law_814 : decode cL_law 814 = .ok (.iconst 0, 1) := by decide +kernel
theorem dL_law_815 : decode cL_law 815 = .ok (.ireturn, 1) := by decide +kernel
theorem dL_law_816 : decode cL_law 816 = .ok (.aload_n 1, 1) := by decide +kernel
theorem dL_law_817 : decode cL_law 817 = .ok (.aload_n 0, 1) := by decide +kernel
theorem dL_law_818 : decode cL_law 818 = .ok (.iload_n 3, 1) := by decide +kernel
theorem dL_law_819 : decode cL_law 819 = .ok (.iconst 1, 1) := by decide +kernel
theorem dL_law_820 : decode cL_law 820 = .ok (.iadd, 1) := by decide +kernel
theorem dL_law_821 : decode cL_law 821 = .ok (.iaload, 1) := by decide +kernel
theorem dL_law_822 : decode cL_law 822 = .ok (.invokevirtual 108, 3) := by decide +kernel
theorem dL_law_825 : decode cL_law 825 = .ok (.aload_n 2, 1) := by decide +kernel
theorem dL_law_826 : decode cL_law 826 = .ok (.aload_n 0, 1) := by decide +kernel
theorem dL_law_827 : decode cL_law 827 = .ok (.iload_n 3, 1) := by decide +kernel
theorem dL_law_828 : decode cL_law 828 = .ok (.iconst 1, 1) := by decide +kernel
theorem dL_law_829 : decode cL_law 829 = .ok (.iadd, 1) := by decide +kernel
theorem dL_law_830 : decode cL_law 830 = .ok (.iaload, 1) := by decide +kernel
theorem dL_law_831 : decode cL_law 831 = .ok (.invokevirtual 111, 3) := by decide +kernel
theorem dL_law_834 : decode cL_law 834 = .ok (.if_icmp .eq 412, 3) := by decide +kernel
theorem dL_law_837 : decode cL_law 837 = .ok (.iconst 0, 1) := by decide +kernel
theorem dL_law_838 : decode cL_law 838 = .ok (.ireturn, 1) := by decide +kernel
theorem dL_law_839 : decode cL_law 839 = .ok (.aload_n 1, 1) := by decide +kernel
theorem dL_law_840 : decode cL_law 840 = .ok (.invokevirtual 112, 3) := by decide +kernel
theorem dL_law_843 : decode cL_law 843 = .ok (.aload_n 2, 1) := by decide +kernel
theorem dL_law_844 : decode cL_law 844 = .ok (.invokevirtual 115, 3) := by decide +kernel
theorem dL_law_847 : decode cL_law 847 = .ok (.if_icmp .eq 399, 3) := by decide +kernel
theorem dL_law_850 : decode cL_law 850 = .ok (.iconst 0, 1) := by decide +kernel
theorem dL_law_851 : decode cL_law 851 = .ok (.ireturn, 1) := by decide +kernel
theorem dL_law_852 : decode cL_law 852 = .ok (.aload_n 1, 1) := by decide +kernel
theorem dL_law_853 : decode cL_law 853 = .ok (.aload_n 0, 1) := by decide +kernel
theorem dL_law_854 : decode cL_law 854 = .ok (.iload_n 3, 1) := by decide +kernel
theorem dL_law_855 : decode cL_law 855 = .ok (.iconst 1, 1) := by decide +kernel
theorem dL_law_856 : decode cL_law 856 = .ok (.iadd, 1) := by decide +kernel
theorem dL_law_857 : decode cL_law 857 = .ok (.iaload, 1) := by decide +kernel
theorem dL_law_858 : decode cL_law 858 = .ok (.aload_n 0, 1) := by decide +kernel
theorem dL_law_859 : decode cL_law 859 = .ok (.iload_n 3, 1) := by decide +kernel
theorem dL_law_860 : decode cL_law 860 = .ok (.iconst 2, 1) := by decide +kernel
theorem dL_law_861 : decode cL_law 861 = .ok (.iadd, 1) := by decide +kernel
theorem dL_law_862 : decode cL_law 862 = .ok (.iaload, 1) := by decide +kernel
theorem dL_law_863 : decode cL_law 863 = .ok (.invokevirtual 116, 3) := by decide +kernel
theorem dL_law_866 : decode cL_law 866 = .ok (.aload_n 2, 1) := by decide +kernel
theorem dL_law_867 : decode cL_law 867 = .ok (.aload_n 0, 1) := by decide +kernel
theorem dL_law_868 : decode cL_law 868 = .ok (.iload_n 3, 1) := by decide +kernel
theorem dL_law_869 : decode cL_law 869 = .ok (.iconst 1, 1) := by decide +kernel
theorem dL_law_870 : decode cL_law 870 = .ok (.iadd, 1) := by decide +kernel
theorem dL_law_871 : decode cL_law 871 = .ok (.iaload, 1) := by decide +kernel
theorem dL_law_872 : decode cL_law 872 = .ok (.aload_n 0, 1) := by decide +kernel
theorem dL_law_873 : decode cL_law 873 = .ok (.iload_n 3, 1) := by decide +kernel
theorem dL_law_874 : decode cL_law 874 = .ok (.iconst 2, 1) := by decide +kernel
theorem dL_law_875 : decode cL_law 875 = .ok (.iadd, 1) := by decide +kernel
theorem dL_law_876 : decode cL_law 876 = .ok (.iaload, 1) := by decide +kernel
theorem dL_law_877 : decode cL_law 877 = .ok (.invokevirtual 119, 3) := by decide +kernel
theorem dL_law_880 : decode cL_law 880 = .ok (.if_icmp .eq 366, 3) := by decide +kernel
theorem dL_law_883 : decode cL_law 883 = .ok (.iconst 0, 1) := by decide +kernel
theorem dL_law_884 : decode cL_law 884 = .ok (.ireturn, 1) := by decide +kernel
theorem dL_law_885 : decode cL_law 885 = .ok (.aload_n 1, 1) := by decide +kernel
theorem dL_law_886 : decode cL_law 886 = .ok (.invokevirtual 120, 3) := by decide +kernel
theorem dL_law_889 : decode cL_law 889 = .ok (.aload_n 2, 1) := by decide +kernel
theorem dL_law_890 : decode cL_law 890 = .ok (.invokevirtual 123, 3) := by decide +kernel
theorem dL_law_893 : decode cL_law 893 = .ok (.if_icmp .eq 353, 3) := by decide +kernel
theorem dL_law_896 : decode cL_law 896 = .ok (.iconst 0, 1) := by decide +kernel
theorem dL_law_897 : decode cL_law 897 = .ok (.ireturn, 1) := by decide +kernel
theorem dL_law_898 : decode cL_law 898 = .ok (.aload_n 1, 1) := by decide +kernel
theorem dL_law_899 : decode cL_law 899 = .ok (.invokevirtual 124, 3) := by decide +kernel
theorem dL_law_902 : decode cL_law 902 = .ok (.aload_n 2, 1) := by decide +kernel
theorem dL_law_903 : decode cL_law 903 = .ok (.invokevirtual 127, 3) := by decide +kernel
theorem dL_law_906 : decode cL_law 906 = .ok (.if_icmp .eq 340, 3) := by decide +kernel
theorem dL_law_909 : decode cL_law 909 = .ok (.iconst 0, 1) := by decide +kernel
theorem dL_law_910 : decode cL_law 910 = .ok (.ireturn, 1) := by decide +kernel
theorem dL_law_911 : decode cL_law 911 = .ok (.aload_n 1, 1) := by decide +kernel
theorem dL_law_912 : decode cL_law 912 = .ok (.aload_n 0, 1) := by decide +kernel
theorem dL_law_913 : decode cL_law 913 = .ok (.iload_n 3, 1) := by decide +kernel
theorem dL_law_914 : decode cL_law 914 = .ok (.iconst 1, 1) := by decide +kernel
theorem dL_law_915 : decode cL_law 915 = .ok (.iadd, 1) := by decide +kernel
theorem dL_law_916 : decode cL_law 916 = .ok (.iaload, 1) := by decide +kernel
theorem dL_law_917 : decode cL_law 917 = .ok (.aload_n 0, 1) := by decide +kernel
theorem dL_law_918 : decode cL_law 918 = .ok (.iload_n 3, 1) := by decide +kernel
theorem dL_law_919 : decode cL_law 919 = .ok (.iconst 2, 1) := by decide +kernel
theorem dL_law_920 : decode cL_law 920 = .ok (.iadd, 1) := by decide +kernel
theorem dL_law_921 : decode cL_law 921 = .ok (.iaload, 1) := by decide +kernel
theorem dL_law_922 : decode cL_law 922 = .ok (.aload_n 0, 1) := by decide +kernel
theorem dL_law_923 : decode cL_law 923 = .ok (.iload_n 3, 1) := by decide +kernel
theorem dL_law_924 : decode cL_law 924 = .ok (.iconst 3, 1) := by decide +kernel
theorem dL_law_925 : decode cL_law 925 = .ok (.iadd, 1) := by decide +kernel
theorem dL_law_926 : decode cL_law 926 = .ok (.iaload, 1) := by decide +kernel
theorem dL_law_927 : decode cL_law 927 = .ok (.invokevirtual 128, 3) := by decide +kernel
theorem dL_law_930 : decode cL_law 930 = .ok (.aload_n 2, 1) := by decide +kernel
theorem dL_law_931 : decode cL_law 931 = .ok (.aload_n 0, 1) := by decide +kernel
theorem dL_law_932 : decode cL_law 932 = .ok (.iload_n 3, 1) := by decide +kernel
theorem dL_law_933 : decode cL_law 933 = .ok (.iconst 1, 1) := by decide +kernel
theorem dL_law_934 : decode cL_law 934 = .ok (.iadd, 1) := by decide +kernel
theorem dL_law_935 : decode cL_law 935 = .ok (.iaload, 1) := by decide +kernel
theorem dL_law_936 : decode cL_law 936 = .ok (.aload_n 0, 1) := by decide +kernel
theorem dL_law_937 : decode cL_law 937 = .ok (.iload_n 3, 1) := by decide +kernel
theorem dL_law_938 : decode cL_law 938 = .ok (.iconst 2, 1) := by decide +kernel
theorem dL_law_939 : decode cL_law 939 = .ok (.iadd, 1) := by decide +kernel
theorem dL_law_940 : decode cL_law 940 = .ok (.iaload, 1) := by decide +kernel
theorem dL_law_941 : decode cL_law 941 = .ok (.aload_n 0, 1) := by decide +kernel
theorem dL_law_942 : decode cL_law 942 = .ok (.iload_n 3, 1) := by decide +kernel
theorem dL_law_943 : decode cL_law 943 = .ok (.iconst 3, 1) := by decide +kernel
theorem dL_law_944 : decode cL_law 944 = .ok (.iadd, 1) := by decide +kernel
theorem dL_law_945 : decode cL_law 945 = .ok (.iaload, 1) := by decide +kernel
theorem dL_law_946 : decode cL_law 946 = .ok (.invokevirtual 131, 3) := by decide +kernel
theorem dL_law_949 : decode cL_law 949 = .ok (.if_icmp .eq 297, 3) := by decide +kernel
theorem dL_law_952 : decode cL_law 952 = .ok (.iconst 0, 1) := by decide +kernel
theorem dL_law_953 : decode cL_law 953 = .ok (.ireturn, 1) := by decide +kernel
theorem dL_law_954 : decode cL_law 954 = .ok (.aload_n 1, 1) := by decide +kernel
theorem dL_law_955 : decode cL_law 955 = .ok (.aload_n 0, 1) := by decide +kernel
theorem dL_law_956 : decode cL_law 956 = .ok (.iload_n 3, 1) := by decide +kernel
theorem dL_law_957 : decode cL_law 957 = .ok (.iconst 1, 1) := by decide +kernel
theorem dL_law_958 : decode cL_law 958 = .ok (.iadd, 1) := by decide +kernel
theorem dL_law_959 : decode cL_law 959 = .ok (.iaload, 1) := by decide +kernel
theorem dL_law_960 : decode cL_law 960 = .ok (.invokevirtual 132, 3) := by decide +kernel
theorem dL_law_963 : decode cL_law 963 = .ok (.aload_n 2, 1) := by decide +kernel
theorem dL_law_964 : decode cL_law 964 = .ok (.aload_n 0, 1) := by decide +kernel
theorem dL_law_965 : decode cL_law 965 = .ok (.iload_n 3, 1) := by decide +kernel
theorem dL_law_966 : decode cL_law 966 = .ok (.iconst 1, 1) := by decide +kernel
theorem dL_law_967 : decode cL_law 967 = .ok (.iadd, 1) := by decide +kernel
theorem dL_law_968 : decode cL_law 968 = .ok (.iaload, 1) := by decide +kernel
theorem dL_law_969 : decode cL_law 969 = .ok (.invokevirtual 135, 3) := by decide +kernel
theorem dL_law_972 : decode cL_law 972 = .ok (.if_icmp .eq 274, 3) := by decide +kernel
theorem dL_law_975 : decode cL_law 975 = .ok (.iconst 0, 1) := by decide +kernel
theorem dL_law_976 : decode cL_law 976 = .ok (.ireturn, 1) := by decide +kernel
theorem dL_law_977 : decode cL_law 977 = .ok (.aload_n 1, 1) := by decide +kernel
theorem dL_law_978 : decode cL_law 978 = .ok (.aload_n 0, 1) := by decide +kernel
theorem dL_law_979 : decode cL_law 979 = .ok (.iload_n 3, 1) := by decide +kernel
theorem dL_law_980 : decode cL_law 980 = .ok (.iconst 1, 1) := by decide +kernel
theorem dL_law_981 : decode cL_law 981 = .ok (.iadd, 1) := by decide +kernel
theorem dL_law_982 : decode cL_law 982 = .ok (.iaload, 1) := by decide +kernel
theorem dL_law_983 : decode cL_law 983 = .ok (.aload_n 0, 1) := by decide +kernel
theorem dL_law_984 : decode cL_law 984 = .ok (.iload_n 3, 1) := by decide +kernel
theorem dL_law_985 : decode cL_law 985 = .ok (.iconst 2, 1) := by decide +kernel
theorem dL_law_986 : decode cL_law 986 = .ok (.iadd, 1) := by decide +kernel
theorem dL_law_987 : decode cL_law 987 = .ok (.iaload, 1) := by decide +kernel
theorem dL_law_988 : decode cL_law 988 = .ok (.invokevirtual 136, 3) := by decide +kernel
theorem dL_law_991 : decode cL_law 991 = .ok (.aload_n 2, 1) := by decide +kernel
theorem dL_law_992 : decode cL_law 992 = .ok (.aload_n 0, 1) := by decide +kernel
theorem dL_law_993 : decode cL_law 993 = .ok (.iload_n 3, 1) := by decide +kernel
theorem dL_law_994 : decode cL_law 994 = .ok (.iconst 1, 1) := by decide +kernel
theorem dL_law_995 : decode cL_law 995 = .ok (.iadd, 1) := by decide +kernel
theorem dL_law_996 : decode cL_law 996 = .ok (.iaload, 1) := by decide +kernel
theorem dL_law_997 : decode cL_law 997 = .ok (.aload_n 0, 1) := by decide +kernel
theorem dL_law_998 : decode cL_law 998 = .ok (.iload_n 3, 1) := by decide +kernel
theorem dL_law_999 : decode cL_law 999 = .ok (.iconst 2, 1) := by decide +kernel
theorem dL_law_1000 : decode cL_law 1000 = .ok (.iadd, 1) := by decide +kernel
theorem dL_law_1001 : decode cL_law 1001 = .ok (.iaload, 1) := by decide +kernel
theorem dL_law_1002 : decode cL_law 1002 = .ok (.invokevirtual 139, 3) := by decide +kernel
theorem dL_law_1005 : decode cL_law 1005 = .ok (.if_icmp .eq 241, 3) := by decide +kernel
theorem dL_law_1008 : decode cL_law 1008 = .ok (.iconst 0, 1) := by decide +kernel
theorem dL_law_1009 : decode cL_law 1009 = .ok (.ireturn, 1) := by decide +kernel
theorem dL_law_1010 : decode cL_law 1010 = .ok (.aload_n 1, 1) := by decide +kernel
theorem dL_law_1011 : decode cL_law 1011 = .ok (.aload_n 0, 1) := by decide +kernel
theorem dL_law_1012 : decode cL_law 1012 = .ok (.iload_n 3, 1) := by decide +kernel
theorem dL_law_1013 : decode cL_law 1013 = .ok (.iconst 1, 1) := by decide +kernel
theorem dL_law_1014 : decode cL_law 1014 = .ok (.iadd, 1) := by decide +kernel
theorem dL_law_1015 : decode cL_law 1015 = .ok (.iaload, 1) := by decide +kernel
theorem dL_law_1016 : decode cL_law 1016 = .ok (.invokevirtual 140, 3) := by decide +kernel
theorem dL_law_1019 : decode cL_law 1019 = .ok (.aload_n 2, 1) := by decide +kernel
theorem dL_law_1020 : decode cL_law 1020 = .ok (.aload_n 0, 1) := by decide +kernel
theorem dL_law_1021 : decode cL_law 1021 = .ok (.iload_n 3, 1) := by decide +kernel
theorem dL_law_1022 : decode cL_law 1022 = .ok (.iconst 1, 1) := by decide +kernel
theorem dL_law_1023 : decode cL_law 1023 = .ok (.iadd, 1) := by decide +kernel
theorem dL_law_1024 : decode cL_law 1024 = .ok (.iaload, 1) := by decide +kernel
theorem dL_law_1025 : decode cL_law 1025 = .ok (.invokevirtual 143, 3) := by decide +kernel
theorem dL_law_1028 : decode cL_law 1028 = .ok (.if_icmp .eq 218, 3) := by decide +kernel
theorem dL_law_1031 : decode cL_law 1031 = .ok (.iconst 0, 1) := by decide +kernel
theorem dL_law_1032 : decode cL_law 1032 = .ok (.ireturn, 1) := by decide +kernel
theorem dL_law_1033 : decode cL_law 1033 = .ok (.aload_n 1, 1) := by decide +kernel
theorem dL_law_1034 : decode cL_law 1034 = .ok (.aload_n 0, 1) := by decide +kernel
theorem dL_law_1035 : decode cL_law 1035 = .ok (.iload_n 3, 1) := by decide +kernel
theorem dL_law_1036 : decode cL_law 1036 = .ok (.iconst 1, 1) := by decide +kernel
theorem dL_law_1037 : decode cL_law 1037 = .ok (.iadd, 1) := by decide +kernel
theorem dL_law_1038 : decode cL_law 1038 = .ok (.iaload, 1) := by decide +kernel
theorem dL_law_1039 : decode cL_law 1039 = .ok (.aload_n 0, 1) := by decide +kernel
theorem dL_law_1040 : decode cL_law 1040 = .ok (.iload_n 3, 1) := by decide +kernel
theorem dL_law_1041 : decode cL_law 1041 = .ok (.iconst 2, 1) := by decide +kernel
theorem dL_law_1042 : decode cL_law 1042 = .ok (.iadd, 1) := by decide +kernel
theorem dL_law_1043 : decode cL_law 1043 = .ok (.iaload, 1) := by decide +kernel
theorem dL_law_1044 : decode cL_law 1044 = .ok (.aload_n 0, 1) := by decide +kernel
theorem dL_law_1045 : decode cL_law 1045 = .ok (.iload_n 3, 1) := by decide +kernel
theorem dL_law_1046 : decode cL_law 1046 = .ok (.iconst 3, 1) := by decide +kernel
theorem dL_law_1047 : decode cL_law 1047 = .ok (.iadd, 1) := by decide +kernel
theorem dL_law_1048 : decode cL_law 1048 = .ok (.iaload, 1) := by decide +kernel
theorem dL_law_1049 : decode cL_law 1049 = .ok (.invokevirtual 144, 3) := by decide +kernel
theorem dL_law_1052 : decode cL_law 1052 = .ok (.aload_n 2, 1) := by decide +kernel
theorem dL_law_1053 : decode cL_law 1053 = .ok (.aload_n 0, 1) := by decide +kernel
theorem dL_law_1054 : decode cL_law 1054 = .ok (.iload_n 3, 1) := by decide +kernel
theorem dL_law_1055 : decode cL_law 1055 = .ok (.iconst 1, 1) := by decide +kernel
theorem dL_law_1056 : decode cL_law 1056 = .ok (.iadd, 1) := by decide +kernel
theorem dL_law_1057 : decode cL_law 1057 = .ok (.iaload, 1) := by decide +kernel
theorem dL_law_1058 : decode cL_law 1058 = .ok (.aload_n 0, 1) := by decide +kernel
theorem dL_law_1059 : decode cL_law 1059 = .ok (.iload_n 3, 1) := by decide +kernel
theorem dL_law_1060 : decode cL_law 1060 = .ok (.iconst 2, 1) := by decide +kernel
theorem dL_law_1061 : decode cL_law 1061 = .ok (.iadd, 1) := by decide +kernel
theorem dL_law_1062 : decode cL_law 1062 = .ok (.iaload, 1) := by decide +kernel
theorem dL_law_1063 : decode cL_law 1063 = .ok (.aload_n 0, 1) := by decide +kernel
theorem dL_law_1064 : decode cL_law 1064 = .ok (.iload_n 3, 1) := by decide +kernel
theorem dL_law_1065 : decode cL_law 1065 = .ok (.iconst 3, 1) := by decide +kernel
theorem dL_law_1066 : decode cL_law 1066 = .ok (.iadd, 1) := by decide +kernel
theorem dL_law_1067 : decode cL_law 1067 = .ok (.iaload, 1) := by decide +kernel
theorem dL_law_1068 : decode cL_law 1068 = .ok (.invokevirtual 147, 3) := by decide +kernel
theorem dL_law_1071 : decode cL_law 1071 = .ok (.if_icmp .eq 175, 3) := by decide +kernel
theorem dL_law_1074 : decode cL_law 1074 = .ok (.iconst 0, 1) := by decide +kernel
theorem dL_law_1075 : decode cL_law 1075 = .ok (.ireturn, 1) := by decide +kernel
theorem dL_law_1076 : decode cL_law 1076 = .ok (.aload_n 1, 1) := by decide +kernel
theorem dL_law_1077 : decode cL_law 1077 = .ok (.aload_n 0, 1) := by decide +kernel
theorem dL_law_1078 : decode cL_law 1078 = .ok (.iload_n 3, 1) := by decide +kernel
theorem dL_law_1079 : decode cL_law 1079 = .ok (.iconst 1, 1) := by decide +kernel
theorem dL_law_1080 : decode cL_law 1080 = .ok (.iadd, 1) := by decide +kernel
theorem dL_law_1081 : decode cL_law 1081 = .ok (.iaload, 1) := by decide +kernel
theorem dL_law_1082 : decode cL_law 1082 = .ok (.aload_n 0, 1) := by decide +kernel
theorem dL_law_1083 : decode cL_law 1083 = .ok (.iload_n 3, 1) := by decide +kernel
theorem dL_law_1084 : decode cL_law 1084 = .ok (.iconst 2, 1) := by decide +kernel
theorem dL_law_1085 : decode cL_law 1085 = .ok (.iadd, 1) := by decide +kernel
theorem dL_law_1086 : decode cL_law 1086 = .ok (.iaload, 1) := by decide +kernel
theorem dL_law_1087 : decode cL_law 1087 = .ok (.aload_n 0, 1) := by decide +kernel
theorem dL_law_1088 : decode cL_law 1088 = .ok (.iload_n 3, 1) := by decide +kernel
theorem dL_law_1089 : decode cL_law 1089 = .ok (.iconst 3, 1) := by decide +kernel
theorem dL_law_1090 : decode cL_law 1090 = .ok (.iadd, 1) := by decide +kernel
theorem dL_law_1091 : decode cL_law 1091 = .ok (.iaload, 1) := by decide +kernel
theorem dL_law_1092 : decode cL_law 1092 = .ok (.i2l, 1) := by decide +kernel
theorem dL_law_1093 : decode cL_law 1093 = .ok (.bipush 32, 2) := by decide +kernel
theorem dL_law_1095 : decode cL_law 1095 = .ok (.lshl, 1) := by decide +kernel
theorem dL_law_1096 : decode cL_law 1096 = .ok (.aload_n 0, 1) := by decide +kernel
theorem dL_law_1097 : decode cL_law 1097 = .ok (.iload_n 3, 1) := by decide +kernel
theorem dL_law_1098 : decode cL_law 1098 = .ok (.iconst 4, 1) := by decide +kernel
theorem dL_law_1099 : decode cL_law 1099 = .ok (.iadd, 1) := by decide +kernel
theorem dL_law_1100 : decode cL_law 1100 = .ok (.iaload, 1) := by decide +kernel
theorem dL_law_1101 : decode cL_law 1101 = .ok (.i2l, 1) := by decide +kernel
theorem dL_law_1102 : decode cL_law 1102 = .ok (.ldc2_w 148, 3) := by decide +kernel
theorem dL_law_1105 : decode cL_law 1105 = .ok (.land, 1) := by decide +kernel
theorem dL_law_1106 : decode cL_law 1106 = .ok (.lor, 1) := by decide +kernel
theorem dL_law_1107 : decode cL_law 1107 = .ok (.invokevirtual 150, 3) := by decide +kernel
theorem dL_law_1110 : decode cL_law 1110 = .ok (.aload_n 2, 1) := by decide +kernel
theorem dL_law_1111 : decode cL_law 1111 = .ok (.aload_n 0, 1) := by decide +kernel
theorem dL_law_1112 : decode cL_law 1112 = .ok (.iload_n 3, 1) := by decide +kernel
theorem dL_law_1113 : decode cL_law 1113 = .ok (.iconst 1, 1) := by decide +kernel
theorem dL_law_1114 : decode cL_law 1114 = .ok (.iadd, 1) := by decide +kernel
theorem dL_law_1115 : decode cL_law 1115 = .ok (.iaload, 1) := by decide +kernel
theorem dL_law_1116 : decode cL_law 1116 = .ok (.aload_n 0, 1) := by decide +kernel
theorem dL_law_1117 : decode cL_law 1117 = .ok (.iload_n 3, 1) := by decide +kernel
theorem dL_law_1118 : decode cL_law 1118 = .ok (.iconst 2, 1) := by decide +kernel
theorem dL_law_1119 : decode cL_law 1119 = .ok (.iadd, 1) := by decide +kernel
theorem dL_law_1120 : decode cL_law 1120 = .ok (.iaload, 1) := by decide +kernel
theorem dL_law_1121 : decode cL_law 1121 = .ok (.aload_n 0, 1) := by decide +kernel
theorem dL_law_1122 : decode cL_law 1122 = .ok (.iload_n 3, 1) := by decide +kernel
theorem dL_law_1123 : decode cL_law 1123 = .ok (.iconst 3, 1) := by decide +kernel
theorem dL_law_1124 : decode cL_law 1124 = .ok (.iadd, 1) := by decide +kernel
theorem dL_law_1125 : decode cL_law 1125 = .ok (.iaload, 1) := by decide +kernel
theorem dL_law_1126 : decode cL_law 1126 = .ok (.i2l, 1) := by decide +kernel
theorem dL_law_1127 : decode cL_law 1127 = .ok (.bipush 32, 2) := by decide +kernel
theorem dL_law_1129 : decode cL_law 1129 = .ok (.lshl, 1) := by decide +kernel
theorem dL_law_1130 : decode cL_law 1130 = .ok (.aload_n 0, 1) := by decide +kernel
theorem dL_law_1131 : decode cL_law 1131 = .ok (.iload_n 3, 1) := by decide +kernel
theorem dL_law_1132 : decode cL_law 1132 = .ok (.iconst 4, 1) := by decide +kernel
theorem dL_law_1133 : decode cL_law 1133 = .ok (.iadd, 1) := by decide +kernel
theorem dL_law_1134 : decode cL_law 1134 = .ok (.iaload, 1) := by decide +kernel
theorem dL_law_1135 : decode cL_law 1135 = .ok (.i2l, 1) := by decide +kernel
theorem dL_law_1136 : decode cL_law 1136 = .ok (.ldc2_w 148, 3) := by decide +kernel
theorem dL_law_1139 : decode cL_law 1139 = .ok (.land, 1) := by decide +kernel
theorem dL_law_1140 : decode cL_law 1140 = .ok (.lor, 1) := by decide +kernel
theorem dL_law_1141 : decode cL_law 1141 = .ok (.invokevirtual 154, 3) := by decide +kernel
theorem dL_law_1144 : decode cL_law 1144 = .ok (.if_icmp .eq 102, 3) := by decide +kernel
theorem dL_law_1147 : decode cL_law 1147 = .ok (.iconst 0, 1) := by decide +kernel
theorem dL_law_1148 : decode cL_law 1148 = .ok (.ireturn, 1) := by decide +kernel
theorem dL_law_1149 : decode cL_law 1149 = .ok (.aload_n 1, 1) := by decide +kernel
theorem dL_law_1150 : decode cL_law 1150 = .ok (.aload_n 0, 1) := by decide +kernel
theorem dL_law_1151 : decode cL_law 1151 = .ok (.iload_n 3, 1) := by decide +kernel
theorem dL_law_1152 : decode cL_law 1152 = .ok (.iconst 1, 1) := by decide +kernel
theorem dL_law_1153 : decode cL_law 1153 = .ok (.iadd, 1) := by decide +kernel
theorem dL_law_1154 : decode cL_law 1154 = .ok (.iaload, 1) := by decide +kernel
theorem dL_law_1155 : decode cL_law 1155 = .ok (.aload_n 0, 1) := by decide +kernel
theorem dL_law_1156 : decode cL_law 1156 = .ok (.iload_n 3, 1) := by decide +kernel
theorem dL_law_1157 : decode cL_law 1157 = .ok (.iconst 2, 1) := by decide +kernel
theorem dL_law_1158 : decode cL_law 1158 = .ok (.iadd, 1) := by decide +kernel
theorem dL_law_1159 : decode cL_law 1159 = .ok (.iaload, 1) := by decide +kernel
theorem dL_law_1160 : decode cL_law 1160 = .ok (.invokevirtual 155, 3) := by decide +kernel
theorem dL_law_1163 : decode cL_law 1163 = .ok (.aload_n 2, 1) := by decide +kernel
theorem dL_law_1164 : decode cL_law 1164 = .ok (.aload_n 0, 1) := by decide +kernel
theorem dL_law_1165 : decode cL_law 1165 = .ok (.iload_n 3, 1) := by decide +kernel
theorem dL_law_1166 : decode cL_law 1166 = .ok (.iconst 1, 1) := by decide +kernel
theorem dL_law_1167 : decode cL_law 1167 = .ok (.iadd, 1) := by decide +kernel
theorem dL_law_1168 : decode cL_law 1168 = .ok (.iaload, 1) := by decide +kernel
theorem dL_law_1169 : decode cL_law 1169 = .ok (.aload_n 0, 1) := by decide +kernel
theorem dL_law_1170 : decode cL_law 1170 = .ok (.iload_n 3, 1) := by decide +kernel
theorem dL_law_1171 : decode cL_law 1171 = .ok (.iconst 2, 1) := by decide +kernel
theorem dL_law_1172 : decode cL_law 1172 = .ok (.iadd, 1) := by decide +kernel
theorem dL_law_1173 : decode cL_law 1173 = .ok (.iaload, 1) := by decide +kernel
theorem dL_law_1174 : decode cL_law 1174 = .ok (.invokevirtual 158, 3) := by decide +kernel
theorem dL_law_1177 : decode cL_law 1177 = .ok (.lcmp, 1) := by decide +kernel
theorem dL_law_1178 : decode cL_law 1178 = .ok (.ifCond .eq 68, 3) := by decide +kernel
theorem dL_law_1181 : decode cL_law 1181 = .ok (.iconst 0, 1) := by decide +kernel
theorem dL_law_1182 : decode cL_law 1182 = .ok (.ireturn, 1) := by decide +kernel
theorem dL_law_1183 : decode cL_law 1183 = .ok (.aload_n 1, 1) := by decide +kernel
theorem dL_law_1184 : decode cL_law 1184 = .ok (.aload_n 0, 1) := by decide +kernel
theorem dL_law_1185 : decode cL_law 1185 = .ok (.iload_n 3, 1) := by decide +kernel
theorem dL_law_1186 : decode cL_law 1186 = .ok (.iconst 1, 1) := by decide +kernel
theorem dL_law_1187 : decode cL_law 1187 = .ok (.iadd, 1) := by decide +kernel
theorem dL_law_1188 : decode cL_law 1188 = .ok (.iaload, 1) := by decide +kernel
theorem dL_law_1189 : decode cL_law 1189 = .ok (.aload_n 0, 1) := by decide +kernel
theorem dL_law_1190 : decode cL_law 1190 = .ok (.iload_n 3, 1) := by decide +kernel
theorem dL_law_1191 : decode cL_law 1191 = .ok (.iconst 2, 1) := by decide +kernel
theorem dL_law_1192 : decode cL_law 1192 = .ok (.iadd, 1) := by decide +kernel
theorem dL_law_1193 : decode cL_law 1193 = .ok (.iaload, 1) := by decide +kernel
theorem dL_law_1194 : decode cL_law 1194 = .ok (.aload_n 0, 1) := by decide +kernel
theorem dL_law_1195 : decode cL_law 1195 = .ok (.iload_n 3, 1) := by decide +kernel
theorem dL_law_1196 : decode cL_law 1196 = .ok (.iconst 3, 1) := by decide +kernel
theorem dL_law_1197 : decode cL_law 1197 = .ok (.iadd, 1) := by decide +kernel
theorem dL_law_1198 : decode cL_law 1198 = .ok (.iaload, 1) := by decide +kernel
theorem dL_law_1199 : decode cL_law 1199 = .ok (.aload_n 0, 1) := by decide +kernel
theorem dL_law_1200 : decode cL_law 1200 = .ok (.iload_n 3, 1) := by decide +kernel
theorem dL_law_1201 : decode cL_law 1201 = .ok (.iconst 4, 1) := by decide +kernel
theorem dL_law_1202 : decode cL_law 1202 = .ok (.iadd, 1) := by decide +kernel
theorem dL_law_1203 : decode cL_law 1203 = .ok (.iaload, 1) := by decide +kernel
theorem dL_law_1204 : decode cL_law 1204 = .ok (.aload_n 0, 1) := by decide +kernel
theorem dL_law_1205 : decode cL_law 1205 = .ok (.iload_n 3, 1) := by decide +kernel
theorem dL_law_1206 : decode cL_law 1206 = .ok (.iconst 5, 1) := by decide +kernel
theorem dL_law_1207 : decode cL_law 1207 = .ok (.iadd, 1) := by decide +kernel
theorem dL_law_1208 : decode cL_law 1208 = .ok (.iaload, 1) := by decide +kernel
theorem dL_law_1209 : decode cL_law 1209 = .ok (.invokevirtual 159, 3) := by decide +kernel
theorem dL_law_1212 : decode cL_law 1212 = .ok (.aload_n 2, 1) := by decide +kernel
theorem dL_law_1213 : decode cL_law 1213 = .ok (.aload_n 0, 1) := by decide +kernel
theorem dL_law_1214 : decode cL_law 1214 = .ok (.iload_n 3, 1) := by decide +kernel
theorem dL_law_1215 : decode cL_law 1215 = .ok (.iconst 1, 1) := by decide +kernel
theorem dL_law_1216 : decode cL_law 1216 = .ok (.iadd, 1) := by decide +kernel
theorem dL_law_1217 : decode cL_law 1217 = .ok (.iaload, 1) := by decide +kernel
theorem dL_law_1218 : decode cL_law 1218 = .ok (.aload_n 0, 1) := by decide +kernel
theorem dL_law_1219 : decode cL_law 1219 = .ok (.iload_n 3, 1) := by decide +kernel
theorem dL_law_1220 : decode cL_law 1220 = .ok (.iconst 2, 1) := by decide +kernel
theorem dL_law_1221 : decode cL_law 1221 = .ok (.iadd, 1) := by decide +kernel
theorem dL_law_1222 : decode cL_law 1222 = .ok (.iaload, 1) := by decide +kernel
theorem dL_law_1223 : decode cL_law 1223 = .ok (.aload_n 0, 1) := by decide +kernel
theorem dL_law_1224 : decode cL_law 1224 = .ok (.iload_n 3, 1) := by decide +kernel
theorem dL_law_1225 : decode cL_law 1225 = .ok (.iconst 3, 1) := by decide +kernel
theorem dL_law_1226 : decode cL_law 1226 = .ok (.iadd, 1) := by decide +kernel
theorem dL_law_1227 : decode cL_law 1227 = .ok (.iaload, 1) := by decide +kernel
theorem dL_law_1228 : decode cL_law 1228 = .ok (.aload_n 0, 1) := by decide +kernel
theorem dL_law_1229 : decode cL_law 1229 = .ok (.iload_n 3, 1) := by decide +kernel
theorem dL_law_1230 : decode cL_law 1230 = .ok (.iconst 4, 1) := by decide +kernel
theorem dL_law_1231 : decode cL_law 1231 = .ok (.iadd, 1) := by decide +kernel
theorem dL_law_1232 : decode cL_law 1232 = .ok (.iaload, 1) := by decide +kernel
theorem dL_law_1233 : decode cL_law 1233 = .ok (.aload_n 0, 1) := by decide +kernel
theorem dL_law_1234 : decode cL_law 1234 = .ok (.iload_n 3, 1) := by decide +kernel
theorem dL_law_1235 : decode cL_law 1235 = .ok (.iconst 5, 1) := by decide +kernel
theorem dL_law_1236 : decode cL_law 1236 = .ok (.iadd, 1) := by decide +kernel
theorem dL_law_1237 : decode cL_law 1237 = .ok (.iaload, 1) := by decide +kernel
theorem dL_law_1238 : decode cL_law 1238 = .ok (.invokevirtual 163, 3) := by decide +kernel
theorem dL_law_1241 : decode cL_law 1241 = .ok (.if_icmp .eq 5, 3) := by decide +kernel
theorem dL_law_1244 : decode cL_law 1244 = .ok (.iconst 0, 1) := by decide +kernel
theorem dL_law_1245 : decode cL_law 1245 = .ok (.ireturn, 1) := by decide +kernel
theorem dL_law_1246 : decode cL_law 1246 = .ok (.iinc 3 6, 3) := by decide +kernel
theorem dL_law_1249 : decode cL_law 1249 = .ok (.goto (-1231), 3) := by decide +kernel
theorem dL_law_1252 : decode cL_law 1252 = .ok (.iconst 1, 1) := by decide +kernel
theorem dL_law_1253 : decode cL_law 1253 = .ok (.ireturn, 1) := by decide +kernel
