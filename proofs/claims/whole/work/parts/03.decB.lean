theorem dX5_init_0 : decode cX5_init 0 = .ok (.aload_n 0, 1) := by decide +kernel
theorem dX5_init_1 : decode cX5_init 1 = .ok (.invokespecial 3, 3) := by decide +kernel
theorem dX5_init_4 : decode cX5_init 4 = .ok (.aload_n 0, 1) := by decide +kernel
theorem dX5_init_5 : decode cX5_init 5 = .ok (.bipush 7, 2) := by decide +kernel
theorem dX5_init_7 : decode cX5_init 7 = .ok (.newarray .int, 2) := by decide +kernel
theorem dX5_init_9 : decode cX5_init 9 = .ok (.putfield 9, 3) := by decide +kernel
theorem dX5_init_12 : decode cX5_init 12 = .ok (.aload_n 0, 1) := by decide +kernel
theorem dX5_init_13 : decode cX5_init 13 = .ok (.bipush 7, 2) := by decide +kernel
theorem dX5_init_15 : decode cX5_init 15 = .ok (.newarray .int, 2) := by decide +kernel
theorem dX5_init_17 : decode cX5_init 17 = .ok (.putfield 15, 3) := by decide +kernel
theorem dX5_init_20 : decode cX5_init 20 = .ok (.aload_n 0, 1) := by decide +kernel
theorem dX5_init_21 : decode cX5_init 21 = .ok (.bipush 7, 2) := by decide +kernel
theorem dX5_init_23 : decode cX5_init 23 = .ok (.newarray .int, 2) := by decide +kernel
theorem dX5_init_25 : decode cX5_init 25 = .ok (.putfield 18, 3) := by decide +kernel
theorem dX5_init_28 : decode cX5_init 28 = .ok (.aload_n 0, 1) := by decide +kernel
theorem dX5_init_29 : decode cX5_init 29 = .ok (.bipush 28, 2) := by decide +kernel
theorem dX5_init_31 : decode cX5_init 31 = .ok (.newarray .int, 2) := by decide +kernel
theorem dX5_init_33 : decode cX5_init 33 = .ok (.putfield 21, 3) := by decide +kernel
theorem dX5_init_36 : decode cX5_init 36 = .ok (.aload_n 0, 1) := by decide +kernel
theorem dX5_init_37 : decode cX5_init 37 = .ok (.bipush 7, 2) := by decide +kernel
theorem dX5_init_39 : decode cX5_init 39 = .ok (.newarray .int, 2) := by decide +kernel
theorem dX5_init_41 : decode cX5_init 41 = .ok (.putfield 24, 3) := by decide +kernel
theorem dX5_init_44 : decode cX5_init 44 = .ok (.aload_n 0, 1) := by decide +kernel
theorem dX5_init_45 : decode cX5_init 45 = .ok (.bipush 7, 2) := by decide +kernel
theorem dX5_init_47 : decode cX5_init 47 = .ok (.newarray .int, 2) := by decide +kernel
theorem dX5_init_49 : decode cX5_init 49 = .ok (.putfield 27, 3) := by decide +kernel
theorem dX5_init_52 : decode cX5_init 52 = .ok (.aload_n 0, 1) := by decide +kernel
theorem dX5_init_53 : decode cX5_init 53 = .ok (.iconst 5, 1) := by decide +kernel
theorem dX5_init_54 : decode cX5_init 54 = .ok (.newarray .int, 2) := by decide +kernel
theorem dX5_init_56 : decode cX5_init 56 = .ok (.putfield 30, 3) := by decide +kernel
theorem dX5_init_59 : decode cX5_init 59 = .ok (.aload_n 0, 1) := by decide +kernel
theorem dX5_init_60 : decode cX5_init 60 = .ok (.ldc 33, 2) := by decide +kernel
theorem dX5_init_62 : decode cX5_init 62 = .ok (.invokevirtual 35, 3) := by decide +kernel
theorem dX5_init_65 : decode cX5_init 65 = .ok (.newarray .int, 2) := by decide +kernel
theorem dX5_init_67 : decode cX5_init 67 = .ok (.putfield 41, 3) := by decide +kernel
theorem dX5_init_70 : decode cX5_init 70 = .ok (.return_, 1) := by decide +kernel
theorem dX5_takeFrom_0 : decode cX5_takeFrom 0 = .ok (.aload_n 0, 1) := by decide +kernel
theorem dX5_takeFrom_1 : decode cX5_takeFrom 1 = .ok (.aload_n 1, 1) := by decide +kernel
theorem dX5_takeFrom_2 : decode cX5_takeFrom 2 = .ok (.getfield 44, 3) := by decide +kernel
theorem dX5_takeFrom_5 : decode cX5_takeFrom 5 = .ok (.putfield 44, 3) := by decide +kernel
theorem dX5_takeFrom_8 : decode cX5_takeFrom 8 = .ok (.aload_n 0, 1) := by decide +kernel
theorem dX5_takeFrom_9 : decode cX5_takeFrom 9 = .ok (.aload_n 1, 1) := by decide +kernel
theorem dX5_takeFrom_10 : decode cX5_takeFrom 10 = .ok (.getfield 48, 3) := by decide +kernel
theorem dX5_takeFrom_13 : decode cX5_takeFrom 13 = .ok (.putfield 48, 3) := by decide +kernel
theorem dX5_takeFrom_16 : decode cX5_takeFrom 16 = .ok (.aload_n 0, 1) := by decide +kernel
theorem dX5_takeFrom_17 : decode cX5_takeFrom 17 = .ok (.aload_n 1, 1) := by decide +kernel
theorem dX5_takeFrom_18 : decode cX5_takeFrom 18 = .ok (.getfield 51, 3) := by decide +kernel
theorem dX5_takeFrom_21 : decode cX5_takeFrom 21 = .ok (.putfield 51, 3) := by decide +kernel
theorem dX5_takeFrom_24 : decode cX5_takeFrom 24 = .ok (.aload_n 1, 1) := by decide +kernel
theorem dX5_takeFrom_25 : decode cX5_takeFrom 25 = .ok (.getfield 9, 3) := by decide +kernel
theorem dX5_takeFrom_28 : decode cX5_takeFrom 28 = .ok (.iconst 0, 1) := by decide +kernel
theorem dX5_takeFrom_29 : decode cX5_takeFrom 29 = .ok (.aload_n 0, 1) := by decide +kernel
theorem dX5_takeFrom_30 : decode cX5_takeFrom 30 = .ok (.getfield 9, 3) := by decide +kernel
theorem dX5_takeFrom_33 : decode cX5_takeFrom 33 = .ok (.iconst 0, 1) := by decide +kernel
theorem dX5_takeFrom_34 : decode cX5_takeFrom 34 = .ok (.bipush 7, 2) := by decide +kernel
theorem dX5_takeFrom_36 : decode cX5_takeFrom 36 = .ok (.invokestatic 55, 3) := by decide +kernel
theorem dX5_takeFrom_39 : decode cX5_takeFrom 39 = .ok (.aload_n 1, 1) := by decide +kernel
theorem dX5_takeFrom_40 : decode cX5_takeFrom 40 = .ok (.getfield 15, 3) := by decide +kernel
theorem dX5_takeFrom_43 : decode cX5_takeFrom 43 = .ok (.iconst 0, 1) := by decide +kernel
theorem dX5_takeFrom_44 : decode cX5_takeFrom 44 = .ok (.aload_n 0, 1) := by decide +kernel
theorem dX5_takeFrom_45 : decode cX5_takeFrom 45 = .ok (.getfield 15, 3) := by decide +kernel
theorem dX5_takeFrom_48 : decode cX5_takeFrom 48 = .ok (.iconst 0, 1) := by decide +kernel
theorem dX5_takeFrom_49 : decode cX5_takeFrom 49 = .ok (.bipush 7, 2) := by decide +kernel
theorem dX5_takeFrom_51 : decode cX5_takeFrom 51 = .ok (.invokestatic 55, 3) := by decide +kernel
theorem dX5_takeFrom_54 : decode cX5_takeFrom 54 = .ok (.aload_n 1, 1) := by decide +kernel
theorem dX5_takeFrom_55 : decode cX5_takeFrom 55 = .ok (.getfield 18, 3) := by decide +kernel
theorem dX5_takeFrom_58 : decode cX5_takeFrom 58 = .ok (.iconst 0, 1) := by decide +kernel
theorem dX5_takeFrom_59 : decode cX5_takeFrom 59 = .ok (.aload_n 0, 1) := by decide +kernel
theorem dX5_takeFrom_60 : decode cX5_takeFrom 60 = .ok (.getfield 18, 3) := by decide +kernel
theorem dX5_takeFrom_63 : decode cX5_takeFrom 63 = .ok (.iconst 0, 1) := by decide +kernel
theorem dX5_takeFrom_64 : decode cX5_takeFrom 64 = .ok (.bipush 7, 2) := by decide +kernel
theorem dX5_takeFrom_66 : decode cX5_takeFrom 66 = .ok (.invokestatic 55, 3) := by decide +kernel
theorem dX5_takeFrom_69 : decode cX5_takeFrom 69 = .ok (.aload_n 1, 1) := by decide +kernel
theorem dX5_takeFrom_70 : decode cX5_takeFrom 70 = .ok (.getfield 21, 3) := by decide +kernel
theorem dX5_takeFrom_73 : decode cX5_takeFrom 73 = .ok (.iconst 0, 1) := by decide +kernel
theorem dX5_takeFrom_74 : decode cX5_takeFrom 74 = .ok (.aload_n 0, 1) := by decide +kernel
theorem dX5_takeFrom_75 : decode cX5_takeFrom 75 = .ok (.getfield 21, 3) := by decide +kernel
theorem dX5_takeFrom_78 : decode cX5_takeFrom 78 = .ok (.iconst 0, 1) := by decide +kernel
theorem dX5_takeFrom_79 : decode cX5_takeFrom 79 = .ok (.bipush 28, 2) := by decide +kernel
theorem dX5_takeFrom_81 : decode cX5_takeFrom 81 = .ok (.invokestatic 55, 3) := by decide +kernel
theorem dX5_takeFrom_84 : decode cX5_takeFrom 84 = .ok (.return_, 1) := by decide +kernel
theorem dX5_insert_0 : decode cX5_insert 0 = .ok (.iload_n 1, 1) := by decide +kernel
theorem dX5_insert_1 : decode cX5_insert 1 = .ok (.ifCond .lt 20, 3) := by decide +kernel
theorem dX5_insert_4 : decode cX5_insert 4 = .ok (.iload_n 1, 1) := by decide +kernel
theorem dX5_insert_5 : decode cX5_insert 5 = .ok (.aload_n 0, 1) := by decide +kernel
theorem dX5_insert_6 : decode cX5_insert 6 = .ok (.getfield 44, 3) := by decide +kernel
theorem dX5_insert_9 : decode cX5_insert 9 = .ok (.if_icmp .gt 12, 3) := by decide +kernel
theorem dX5_insert_12 : decode cX5_insert 12 = .ok (.aload_n 0, 1) := by decide +kernel
theorem dX5_insert_13 : decode cX5_insert 13 = .ok (.getfield 44, 3) := by decide +kernel
theorem dX5_insert_16 : decode cX5_insert 16 = .ok (.bipush 7, 2) := by decide +kernel
theorem dX5_insert_18 : decode cX5_insert 18 = .ok (.if_icmp .lt 4, 3) := by decide +kernel
theorem dX5_insert_21 : decode cX5_insert 21 = .ok (.return_, 1) := by decide +kernel
theorem dX5_insert_22 : decode cX5_insert 22 = .ok (.aload_n 0, 1) := by decide +kernel
theorem dX5_insert_23 : decode cX5_insert 23 = .ok (.getfield 44, 3) := by decide +kernel
theorem dX5_insert_26 : decode cX5_insert 26 = .ok (.istore 5, 2) := by decide +kernel
theorem dX5_insert_28 : decode cX5_insert 28 = .ok (.iload 5, 2) := by decide +kernel
theorem dX5_insert_30 : decode cX5_insert 30 = .ok (.iload_n 1, 1) := by decide +kernel
theorem dX5_insert_31 : decode cX5_insert 31 = .ok (.if_icmp .le 19, 3) := by decide +kernel
theorem dX5_insert_34 : decode cX5_insert 34 = .ok (.aload_n 0, 1) := by decide +kernel
theorem dX5_insert_35 : decode cX5_insert 35 = .ok (.iload 5, 2) := by decide +kernel
theorem dX5_insert_37 : decode cX5_insert 37 = .ok (.iconst 1, 1) := by decide +kernel
theorem dX5_insert_38 : decode cX5_insert 38 = .ok (.isub, 1) := by decide +kernel
theorem dX5_insert_39 : decode cX5_insert 39 = .ok (.iload 5, 2) := by decide +kernel
theorem dX5_insert_41 : decode cX5_insert 41 = .ok (.invokevirtual 61, 3) := by decide +kernel
theorem dX5_insert_44 : decode cX5_insert 44 = .ok (.iinc 5 (-1), 3) := by decide +kernel
theorem dX5_insert_47 : decode cX5_insert 47 = .ok (.goto (-19), 3) := by decide +kernel
theorem dX5_insert_50 : decode cX5_insert 50 = .ok (.aload_n 0, 1) := by decide +kernel
theorem dX5_insert_51 : decode cX5_insert 51 = .ok (.dup, 1) := by decide +kernel
theorem dX5_insert_52 : decode cX5_insert 52 = .ok (.getfield 44, 3) := by decide +kernel
theorem dX5_insert_55 : decode cX5_insert 55 = .ok (.iconst 1, 1) := by decide +kernel
theorem dX5_insert_56 : decode cX5_insert 56 = .ok (.iadd, 1) := by decide +kernel
theorem dX5_insert_57 : decode cX5_insert 57 = .ok (.putfield 44, 3) := by decide +kernel
theorem dX5_insert_60 : decode cX5_insert 60 = .ok (.aload_n 0, 1) := by decide +kernel
theorem dX5_insert_61 : decode cX5_insert 61 = .ok (.getfield 9, 3) := by decide +kernel
theorem dX5_insert_64 : decode cX5_insert 64 = .ok (.iload_n 1, 1) := by decide +kernel
theorem dX5_insert_65 : decode cX5_insert 65 = .ok (.iload_n 2, 1) := by decide +kernel
theorem dX5_insert_66 : decode cX5_insert 66 = .ok (.iastore, 1) := by decide +kernel
theorem dX5_insert_67 : decode cX5_insert 67 = .ok (.aload_n 0, 1) := by decide +kernel
theorem dX5_insert_68 : decode cX5_insert 68 = .ok (.getfield 15, 3) := by decide +kernel
theorem dX5_insert_71 : decode cX5_insert 71 = .ok (.iload_n 1, 1) := by decide +kernel
theorem dX5_insert_72 : decode cX5_insert 72 = .ok (.iload_n 3, 1) := by decide +kernel
theorem dX5_insert_73 : decode cX5_insert 73 = .ok (.iastore, 1) := by decide +kernel
theorem dX5_insert_74 : decode cX5_insert 74 = .ok (.aload_n 0, 1) := by decide +kernel
theorem dX5_insert_75 : decode cX5_insert 75 = .ok (.getfield 18, 3) := by decide +kernel
theorem dX5_insert_78 : decode cX5_insert 78 = .ok (.iload_n 1, 1) := by decide +kernel
theorem dX5_insert_79 : decode cX5_insert 79 = .ok (.iload 4, 2) := by decide +kernel
theorem dX5_insert_81 : decode cX5_insert 81 = .ok (.iastore, 1) := by decide +kernel
theorem dX5_insert_82 : decode cX5_insert 82 = .ok (.iconst 0, 1) := by decide +kernel
theorem dX5_insert_83 : decode cX5_insert 83 = .ok (.istore 5, 2) := by decide +kernel
theorem dX5_insert_85 : decode cX5_insert 85 = .ok (.iload 5, 2) := by decide +kernel
theorem dX5_insert_87 : decode cX5_insert 87 = .ok (.iconst 4, 1) := by decide +kernel
theorem dX5_insert_88 : decode cX5_insert 88 = .ok (.if_icmp .ge 21, 3) := by decide +kernel
theorem dX5_insert_91 : decode cX5_insert 91 = .ok (.aload_n 0, 1) := by decide +kernel
theorem dX5_insert_92 : decode cX5_insert 92 = .ok (.getfield 21, 3) := by decide +kernel
theorem dX5_insert_95 : decode cX5_insert 95 = .ok (.iload_n 1, 1) := by decide +kernel
theorem dX5_insert_96 : decode cX5_insert 96 = .ok (.iconst 4, 1) := by decide +kernel
theorem dX5_insert_97 : decode cX5_insert 97 = .ok (.imul, 1) := by decide +kernel
theorem dX5_insert_98 : decode cX5_insert 98 = .ok (.iload 5, 2) := by decide +kernel
theorem dX5_insert_100 : decode cX5_insert 100 = .ok (.iadd, 1) := by decide +kernel
theorem dX5_insert_101 : decode cX5_insert 101 = .ok (.iconst 0, 1) := by decide +kernel
theorem dX5_insert_102 : decode cX5_insert 102 = .ok (.iastore, 1) := by decide +kernel
theorem dX5_insert_103 : decode cX5_insert 103 = .ok (.iinc 5 1, 3) := by decide +kernel
theorem dX5_insert_106 : decode cX5_insert 106 = .ok (.goto (-21), 3) := by decide +kernel
theorem dX5_insert_109 : decode cX5_insert 109 = .ok (.return_, 1) := by decide +kernel
theorem dX5_remove_0 : decode cX5_remove 0 = .ok (.iload_n 1, 1) := by decide +kernel
theorem dX5_remove_1 : decode cX5_remove 1 = .ok (.ifCond .lt 11, 3) := by decide +kernel
theorem dX5_remove_4 : decode cX5_remove 4 = .ok (.iload_n 1, 1) := by decide +kernel
theorem dX5_remove_5 : decode cX5_remove 5 = .ok (.aload_n 0, 1) := by decide +kernel
theorem dX5_remove_6 : decode cX5_remove 6 = .ok (.getfield 44, 3) := by decide +kernel
theorem dX5_remove_9 : decode cX5_remove 9 = .ok (.if_icmp .lt 4, 3) := by decide +kernel
theorem dX5_remove_12 : decode cX5_remove 12 = .ok (.return_, 1) := by decide +kernel
theorem dX5_remove_13 : decode cX5_remove 13 = .ok (.aload_n 0, 1) := by decide +kernel
theorem dX5_remove_14 : decode cX5_remove 14 = .ok (.dup, 1) := by decide +kernel
theorem dX5_remove_15 : decode cX5_remove 15 = .ok (.getfield 44, 3) := by decide +kernel
theorem dX5_remove_18 : decode cX5_remove 18 = .ok (.iconst 1, 1) := by decide +kernel
theorem dX5_remove_19 : decode cX5_remove 19 = .ok (.isub, 1) := by decide +kernel
theorem dX5_remove_20 : decode cX5_remove 20 = .ok (.putfield 44, 3) := by decide +kernel
theorem dX5_remove_23 : decode cX5_remove 23 = .ok (.iload_n 1, 1) := by decide +kernel
theorem dX5_remove_24 : decode cX5_remove 24 = .ok (.istore_n 2, 1) := by decide +kernel
theorem dX5_remove_25 : decode cX5_remove 25 = .ok (.iload_n 2, 1) := by decide +kernel
theorem dX5_remove_26 : decode cX5_remove 26 = .ok (.aload_n 0, 1) := by decide +kernel
theorem dX5_remove_27 : decode cX5_remove 27 = .ok (.getfield 44, 3) := by decide +kernel
theorem dX5_remove_30 : decode cX5_remove 30 = .ok (.if_icmp .ge 17, 3) := by decide +kernel
theorem dX5_remove_33 : decode cX5_remove 33 = .ok (.aload_n 0, 1) := by decide +kernel
theorem dX5_remove_34 : decode cX5_remove 34 = .ok (.iload_n 2, 1) := by decide +kernel
theorem dX5_remove_35 : decode cX5_remove 35 = .ok (.iconst 1, 1) := by decide +kernel
theorem dX5_remove_36 : decode cX5_remove 36 = .ok (.iadd, 1) := by decide +kernel
theorem dX5_remove_37 : decode cX5_remove 37 = .ok (.iload_n 2, 1) := by decide +kernel
theorem dX5_remove_38 : decode cX5_remove 38 = .ok (.invokevirtual 61, 3) := by decide +kernel
theorem dX5_remove_41 : decode cX5_remove 41 = .ok (.iinc 2 1, 3) := by decide +kernel
theorem dX5_remove_44 : decode cX5_remove 44 = .ok (.goto (-19), 3) := by decide +kernel
theorem dX5_remove_47 : decode cX5_remove 47 = .ok (.return_, 1) := by decide +kernel
theorem dX5_copyHouse_0 : decode cX5_copyHouse 0 = .ok (.aload_n 0, 1) := by decide +kernel
theorem dX5_copyHouse_1 : decode cX5_copyHouse 1 = .ok (.getfield 9, 3) := by decide +kernel
theorem dX5_copyHouse_4 : decode cX5_copyHouse 4 = .ok (.iload_n 2, 1) := by decide +kernel
theorem dX5_copyHouse_5 : decode cX5_copyHouse 5 = .ok (.aload_n 0, 1) := by decide +kernel
theorem dX5_copyHouse_6 : decode cX5_copyHouse 6 = .ok (.getfield 9, 3) := by decide +kernel
theorem dX5_copyHouse_9 : decode cX5_copyHouse 9 = .ok (.iload_n 1, 1) := by decide +kernel
theorem dX5_copyHouse_10 : decode cX5_copyHouse 10 = .ok (.iaload, 1) := by decide +kernel
theorem dX5_copyHouse_11 : decode cX5_copyHouse 11 = .ok (.iastore, 1) := by decide +kernel
theorem dX5_copyHouse_12 : decode cX5_copyHouse 12 = .ok (.aload_n 0, 1) := by decide +kernel
theorem dX5_copyHouse_13 : decode cX5_copyHouse 13 = .ok (.getfield 15, 3) := by decide +kernel
theorem dX5_copyHouse_16 : decode cX5_copyHouse 16 = .ok (.iload_n 2, 1) := by decide +kernel
theorem dX5_copyHouse_17 : decode cX5_copyHouse 17 = .ok (.aload_n 0, 1) := by decide +kernel
theorem dX5_copyHouse_18 : decode cX5_copyHouse 18 = .ok (.getfield 15, 3) := by decide +kernel
theorem dX5_copyHouse_21 : decode cX5_copyHouse 21 = .ok (.iload_n 1, 1) := by decide +kernel
theorem dX5_copyHouse_22 : decode cX5_copyHouse 22 = .ok (.iaload, 1) := by decide +kernel
theorem dX5_copyHouse_23 : decode cX5_copyHouse 23 = .ok (.iastore, 1) := by decide +kernel
theorem dX5_copyHouse_24 : decode cX5_copyHouse 24 = .ok (.aload_n 0, 1) := by decide +kernel
theorem dX5_copyHouse_25 : decode cX5_copyHouse 25 = .ok (.getfield 18, 3) := by decide +kernel
theorem dX5_copyHouse_28 : decode cX5_copyHouse 28 = .ok (.iload_n 2, 1) := by decide +kernel
theorem dX5_copyHouse_29 : decode cX5_copyHouse 29 = .ok (.aload_n 0, 1) := by decide +kernel
theorem dX5_copyHouse_30 : decode cX5_copyHouse 30 = .ok (.getfield 18, 3) := by decide +kernel
theorem dX5_copyHouse_33 : decode cX5_copyHouse 33 = .ok (.iload_n 1, 1) := by decide +kernel
theorem dX5_copyHouse_34 : decode cX5_copyHouse 34 = .ok (.iaload, 1) := by decide +kernel
theorem dX5_copyHouse_35 : decode cX5_copyHouse 35 = .ok (.iastore, 1) := by decide +kernel
theorem dX5_copyHouse_36 : decode cX5_copyHouse 36 = .ok (.aload_n 0, 1) := by decide +kernel
theorem dX5_copyHouse_37 : decode cX5_copyHouse 37 = .ok (.getfield 21, 3) := by decide +kernel
theorem dX5_copyHouse_40 : decode cX5_copyHouse 40 = .ok (.iload_n 1, 1) := by decide +kernel
theorem dX5_copyHouse_41 : decode cX5_copyHouse 41 = .ok (.iconst 4, 1) := by decide +kernel
theorem dX5_copyHouse_42 : decode cX5_copyHouse 42 = .ok (.imul, 1) := by decide +kernel
theorem dX5_copyHouse_43 : decode cX5_copyHouse 43 = .ok (.aload_n 0, 1) := by decide +kernel
theorem dX5_copyHouse_44 : decode cX5_copyHouse 44 = .ok (.getfield 21, 3) := by decide +kernel
theorem dX5_copyHouse_47 : decode cX5_copyHouse 47 = .ok (.iload_n 2, 1) := by decide +kernel
theorem dX5_copyHouse_48 : decode cX5_copyHouse 48 = .ok (.iconst 4, 1) := by decide +kernel
theorem dX5_copyHouse_49 : decode cX5_copyHouse 49 = .ok (.imul, 1) := by decide +kernel
theorem dX5_copyHouse_50 : decode cX5_copyHouse 50 = .ok (.iconst 4, 1) := by decide +kernel
theorem dX5_copyHouse_51 : decode cX5_copyHouse 51 = .ok (.invokestatic 55, 3) := by decide +kernel
theorem dX5_copyHouse_54 : decode cX5_copyHouse 54 = .ok (.return_, 1) := by decide +kernel
theorem dX5_give_0 : decode cX5_give 0 = .ok (.aload_n 0, 1) := by decide +kernel
theorem dX5_give_1 : decode cX5_give 1 = .ok (.getfield 18, 3) := by decide +kernel
theorem dX5_give_4 : decode cX5_give 4 = .ok (.iload_n 1, 1) := by decide +kernel
theorem dX5_give_5 : decode cX5_give 5 = .ok (.bipush 99, 2) := by decide +kernel
theorem dX5_give_7 : decode cX5_give 7 = .ok (.aload_n 0, 1) := by decide +kernel
theorem dX5_give_8 : decode cX5_give 8 = .ok (.getfield 18, 3) := by decide +kernel
theorem dX5_give_11 : decode cX5_give 11 = .ok (.iload_n 1, 1) := by decide +kernel
theorem dX5_give_12 : decode cX5_give 12 = .ok (.iaload, 1) := by decide +kernel
theorem dX5_give_13 : decode cX5_give 13 = .ok (.iload_n 2, 1) := by decide +kernel
theorem dX5_give_14 : decode cX5_give 14 = .ok (.iadd, 1) := by decide +kernel
theorem dX5_give_15 : decode cX5_give 15 = .ok (.invokestatic 65, 3) := by decide +kernel
theorem dX5_give_18 : decode cX5_give 18 = .ok (.iastore, 1) := by decide +kernel
theorem dX5_give_19 : decode cX5_give 19 = .ok (.return_, 1) := by decide +kernel
theorem dX5_isRing_0 : decode cX5_isRing 0 = .ok (.aload_n 0, 1) := by decide +kernel
theorem dX5_isRing_1 : decode cX5_isRing 1 = .ok (.getfield 51, 3) := by decide +kernel
theorem dX5_isRing_4 : decode cX5_isRing 4 = .ok (.ifnull 17, 3) := by decide +kernel
theorem dX5_isRing_7 : decode cX5_isRing 7 = .ok (.aload_n 0, 1) := by decide +kernel
theorem dX5_isRing_8 : decode cX5_isRing 8 = .ok (.getfield 51, 3) := by decide +kernel
theorem dX5_isRing_11 : decode cX5_isRing 11 = .ok (.getfield 71, 3) := by decide +kernel
theorem dX5_isRing_14 : decode cX5_isRing 14 = .ok (.ifCond .eq 7, 3) := by decide +kernel
theorem dX5_isRing_17 : decode cX5_isRing 17 = .ok (.iconst 1, 1) := by decide +kernel
theorem dX5_isRing_18 : decode cX5_isRing 18 = .ok (.goto 4, 3) := by decide +kernel
theorem dX5_isRing_21 : decode cX5_isRing 21 = .ok (.iconst 0, 1) := by decide +kernel
theorem dX5_isRing_22 : decode cX5_isRing 22 = .ok (.ireturn, 1) := by decide +kernel
theorem dX5_total_0 : decode cX5_total 0 = .ok (.iconst 0, 1) := by decide +kernel
theorem dX5_total_1 : decode cX5_total 1 = .ok (.istore_n 1, 1) := by decide +kernel
theorem dX5_total_2 : decode cX5_total 2 = .ok (.iconst 0, 1) := by decide +kernel
theorem dX5_total_3 : decode cX5_total 3 = .ok (.istore_n 2, 1) := by decide +kernel
theorem dX5_total_4 : decode cX5_total 4 = .ok (.iload_n 2, 1) := by decide +kernel
theorem dX5_total_5 : decode cX5_total 5 = .ok (.aload_n 0, 1) := by decide +kernel
theorem dX5_total_6 : decode cX5_total 6 = .ok (.getfield 44, 3) := by decide +kernel
theorem dX5_total_9 : decode cX5_total 9 = .ok (.if_icmp .ge 18, 3) := by decide +kernel
theorem dX5_total_12 : decode cX5_total 12 = .ok (.iload_n 1, 1) := by decide +kernel
theorem dX5_total_13 : decode cX5_total 13 = .ok (.aload_n 0, 1) := by decide +kernel
theorem dX5_total_14 : decode cX5_total 14 = .ok (.getfield 18, 3) := by decide +kernel
theorem dX5_total_17 : decode cX5_total 17 = .ok (.iload_n 2, 1) := by decide +kernel
theorem dX5_total_18 : decode cX5_total 18 = .ok (.iaload, 1) := by decide +kernel
theorem dX5_total_19 : decode cX5_total 19 = .ok (.iadd, 1) := by decide +kernel
theorem dX5_total_20 : decode cX5_total 20 = .ok (.istore_n 1, 1) := by decide +kernel
theorem dX5_total_21 : decode cX5_total 21 = .ok (.iinc 2 1, 3) := by decide +kernel
theorem dX5_total_24 : decode cX5_total 24 = .ok (.goto (-20), 3) := by decide +kernel
theorem dX5_total_27 : decode cX5_total 27 = .ok (.iload_n 1, 1) := by decide +kernel
theorem dX5_total_28 : decode cX5_total 28 = .ok (.ireturn, 1) := by decide +kernel
theorem dX5_someEarns_0 : decode cX5_someEarns 0 = .ok (.iconst 0, 1) := by decide +kernel
theorem dX5_someEarns_1 : decode cX5_someEarns 1 = .ok (.istore_n 2, 1) := by decide +kernel
theorem dX5_someEarns_2 : decode cX5_someEarns 2 = .ok (.iload_n 2, 1) := by decide +kernel
theorem dX5_someEarns_3 : decode cX5_someEarns 3 = .ok (.aload_n 0, 1) := by decide +kernel
theorem dX5_someEarns_4 : decode cX5_someEarns 4 = .ok (.getfield 44, 3) := by decide +kernel
theorem dX5_someEarns_7 : decode cX5_someEarns 7 = .ok (.if_icmp .ge 21, 3) := by decide +kernel
theorem dX5_someEarns_10 : decode cX5_someEarns 10 = .ok (.aload_n 0, 1) := by decide +kernel
theorem dX5_someEarns_11 : decode cX5_someEarns 11 = .ok (.getfield 18, 3) := by decide +kernel
theorem dX5_someEarns_14 : decode cX5_someEarns 14 = .ok (.iload_n 2, 1) := by decide +kernel
theorem dX5_someEarns_15 : decode cX5_someEarns 15 = .ok (.iaload, 1) := by decide +kernel
theorem dX5_someEarns_16 : decode cX5_someEarns 16 = .ok (.iload_n 1, 1) := by decide +kernel
theorem dX5_someEarns_17 : decode cX5_someEarns 17 = .ok (.if_icmp .ne 5, 3) := by decide +kernel
theorem dX5_someEarns_20 : decode cX5_someEarns 20 = .ok (.iconst 1, 1) := by decide +kernel
theorem dX5_someEarns_21 : decode cX5_someEarns 21 = .ok (.ireturn, 1) := by decide +kernel
theorem dX5_someEarns_22 : decode cX5_someEarns 22 = .ok (.iinc 2 1, 3) := by decide +kernel
theorem dX5_someEarns_25 : decode cX5_someEarns 25 = .ok (.goto (-23), 3) := by decide +kernel
theorem dX5_someEarns_28 : decode cX5_someEarns 28 = .ok (.iconst 0, 1) := by decide +kernel
theorem dX5_someEarns_29 : decode cX5_someEarns 29 = .ok (.ireturn, 1) := by decide +kernel
theorem dX5_go_0 : decode cX5_go 0 = .ok (.iconst 0, 1) := by decide +kernel
theorem dX5_go_1 : decode cX5_go 1 = .ok (.istore_n 2, 1) := by decide +kernel
theorem dX5_go_2 : decode cX5_go 2 = .ok (.iload_n 2, 1) := by decide +kernel
theorem dX5_go_3 : decode cX5_go 3 = .ok (.iload_n 1, 1) := by decide +kernel
theorem dX5_go_4 : decode cX5_go 4 = .ok (.if_icmp .ge 44, 3) := by decide +kernel
theorem dX5_go_7 : decode cX5_go 7 = .ok (.aload_n 0, 1) := by decide +kernel
theorem dX5_go_8 : decode cX5_go 8 = .ok (.invokevirtual 77, 3) := by decide +kernel
theorem dX5_go_11 : decode cX5_go 11 = .ok (.aload_n 0, 1) := by decide +kernel
theorem dX5_go_12 : decode cX5_go 12 = .ok (.invokevirtual 80, 3) := by decide +kernel
theorem dX5_go_15 : decode cX5_go 15 = .ok (.aload_n 0, 1) := by decide +kernel
theorem dX5_go_16 : decode cX5_go 16 = .ok (.getfield 27, 3) := by decide +kernel
theorem dX5_go_19 : decode cX5_go 19 = .ok (.iconst 0, 1) := by decide +kernel
theorem dX5_go_20 : decode cX5_go 20 = .ok (.aload_n 0, 1) := by decide +kernel
theorem dX5_go_21 : decode cX5_go 21 = .ok (.getfield 18, 3) := by decide +kernel
theorem dX5_go_24 : decode cX5_go 24 = .ok (.iconst 0, 1) := by decide +kernel
theorem dX5_go_25 : decode cX5_go 25 = .ok (.aload_n 0, 1) := by decide +kernel
theorem dX5_go_26 : decode cX5_go 26 = .ok (.getfield 44, 3) := by decide +kernel
theorem dX5_go_29 : decode cX5_go 29 = .ok (.invokestatic 55, 3) := by decide +kernel
theorem dX5_go_32 : decode cX5_go 32 = .ok (.aload_n 0, 1) := by decide +kernel
theorem dX5_go_33 : decode cX5_go 33 = .ok (.dup, 1) := by decide +kernel
theorem dX5_go_34 : decode cX5_go 34 = .ok (.getfield 48, 3) := by decide +kernel
theorem dX5_go_37 : decode cX5_go 37 = .ok (.iconst 1, 1) := by decide +kernel
theorem dX5_go_38 : decode cX5_go 38 = .ok (.iadd, 1) := by decide +kernel
theorem dX5_go_39 : decode cX5_go 39 = .ok (.putfield 48, 3) := by decide +kernel
theorem dX5_go_42 : decode cX5_go 42 = .ok (.iinc 2 1, 3) := by decide +kernel
theorem dX5_go_45 : decode cX5_go 45 = .ok (.goto (-43), 3) := by decide +kernel
theorem dX5_go_48 : decode cX5_go 48 = .ok (.return_, 1) := by decide +kernel
theorem dX5_sayByKind_0 : decode cX5_sayByKind 0 = .ok (.iconst 0, 1) := by decide +kernel
theorem dX5_sayByKind_1 : decode cX5_sayByKind 1 = .ok (.istore_n 1, 1) := by decide +kernel
theorem dX5_sayByKind_2 : decode cX5_sayByKind 2 = .ok (.iload_n 1, 1) := by decide +kernel
theorem dX5_sayByKind_3 : decode cX5_sayByKind 3 = .ok (.aload_n 0, 1) := by decide +kernel
theorem dX5_sayByKind_4 : decode cX5_sayByKind 4 = .ok (.getfield 44, 3) := by decide +kernel
theorem dX5_sayByKind_7 : decode cX5_sayByKind 7 = .ok (.if_icmp .ge 61, 3) := by decide +kernel
theorem dX5_sayByKind_10 : decode cX5_sayByKind 10 = .ok (.aload_n 0, 1) := by decide +kernel
theorem dX5_sayByKind_11 : decode cX5_sayByKind 11 = .ok (.getfield 9, 3) := by decide +kernel
theorem dX5_sayByKind_14 : decode cX5_sayByKind 14 = .ok (.iload_n 1, 1) := by decide +kernel
theorem dX5_sayByKind_15 : decode cX5_sayByKind 15 = .ok (.iaload, 1) := by decide +kernel
theorem dX5_sayByKind_16 : decode cX5_sayByKind 16 = .ok (.iconst 5, 1) := by decide +kernel
theorem dX5_sayByKind_17 : decode cX5_sayByKind 17 = .ok (.if_icmp .ne 23, 3) := by decide +kernel
theorem dX5_sayByKind_20 : decode cX5_sayByKind 20 = .ok (.aload_n 0, 1) := by decide +kernel
theorem dX5_sayByKind_21 : decode cX5_sayByKind 21 = .ok (.getfield 48, 3) := by decide +kernel
theorem dX5_sayByKind_24 : decode cX5_sayByKind 24 = .ok (.bipush 9, 2) := by decide +kernel
theorem dX5_sayByKind_26 : decode cX5_sayByKind 26 = .ok (.irem, 1) := by decide +kernel
theorem dX5_sayByKind_27 : decode cX5_sayByKind 27 = .ok (.aload_n 0, 1) := by decide +kernel
theorem dX5_sayByKind_28 : decode cX5_sayByKind 28 = .ok (.getfield 15, 3) := by decide +kernel
theorem dX5_sayByKind_31 : decode cX5_sayByKind 31 = .ok (.iload_n 1, 1) := by decide +kernel
theorem dX5_sayByKind_32 : decode cX5_sayByKind 32 = .ok (.iaload, 1) := by decide +kernel
theorem dX5_sayByKind_33 : decode cX5_sayByKind 33 = .ok (.if_icmp .ne 7, 3) := by decide +kernel
theorem dX5_sayByKind_36 : decode cX5_sayByKind 36 = .ok (.iconst 1, 1) := by decide +kernel
theorem dX5_sayByKind_37 : decode cX5_sayByKind 37 = .ok (.goto 4, 3) := by decide +kernel
theorem dX5_sayByKind_40 : decode cX5_sayByKind 40 = .ok (.iconst 0, 1) := by decide +kernel
theorem dX5_sayByKind_41 : decode cX5_sayByKind 41 = .ok (.istore_n 2, 1) := by decide +kernel
theorem dX5_sayByKind_42 : decode cX5_sayByKind 42 = .ok (.aload_n 0, 1) := by decide +kernel
theorem dX5_sayByKind_43 : decode cX5_sayByKind 43 = .ok (.getfield 24, 3) := by decide +kernel
theorem dX5_sayByKind_46 : decode cX5_sayByKind 46 = .ok (.iload_n 1, 1) := by decide +kernel
theorem dX5_sayByKind_47 : decode cX5_sayByKind 47 = .ok (.iload_n 2, 1) := by decide +kernel
theorem dX5_sayByKind_48 : decode cX5_sayByKind 48 = .ok (.ifCond .eq 7, 3) := by decide +kernel
theorem dX5_sayByKind_51 : decode cX5_sayByKind 51 = .ok (.iconst 0, 1) := by decide +kernel
theorem dX5_sayByKind_52 : decode cX5_sayByKind 52 = .ok (.goto 9, 3) := by decide +kernel
theorem dX5_sayByKind_55 : decode cX5_sayByKind 55 = .ok (.aload_n 0, 1) := by decide +kernel
theorem dX5_sayByKind_56 : decode cX5_sayByKind 56 = .ok (.getfield 18, 3) := by decide +kernel
theorem dX5_sayByKind_59 : decode cX5_sayByKind 59 = .ok (.iload_n 1, 1) := by decide +kernel
theorem dX5_sayByKind_60 : decode cX5_sayByKind 60 = .ok (.iaload, 1) := by decide +kernel
theorem dX5_sayByKind_61 : decode cX5_sayByKind 61 = .ok (.iastore, 1) := by decide +kernel
theorem dX5_sayByKind_62 : decode cX5_sayByKind 62 = .ok (.iinc 1 1, 3) := by decide +kernel
theorem dX5_sayByKind_65 : decode cX5_sayByKind 65 = .ok (.goto (-63), 3) := by decide +kernel
theorem dX5_sayByKind_68 : decode cX5_sayByKind 68 = .ok (.return_, 1) := by decide +kernel
theorem dX5_sayPlain_0 : decode cX5_sayPlain 0 = .ok (.iconst 0, 1) := by decide +kernel
theorem dX5_sayPlain_1 : decode cX5_sayPlain 1 = .ok (.istore_n 2, 1) := by decide +kernel
theorem dX5_sayPlain_2 : decode cX5_sayPlain 2 = .ok (.iload_n 2, 1) := by decide +kernel
theorem dX5_sayPlain_3 : decode cX5_sayPlain 3 = .ok (.aload_n 0, 1) := by decide +kernel
theorem dX5_sayPlain_4 : decode cX5_sayPlain 4 = .ok (.getfield 44, 3) := by decide +kernel
theorem dX5_sayPlain_7 : decode cX5_sayPlain 7 = .ok (.if_icmp .ge 30, 3) := by decide +kernel
theorem dX5_sayPlain_10 : decode cX5_sayPlain 10 = .ok (.aload_n 0, 1) := by decide +kernel
theorem dX5_sayPlain_11 : decode cX5_sayPlain 11 = .ok (.getfield 24, 3) := by decide +kernel
theorem dX5_sayPlain_14 : decode cX5_sayPlain 14 = .ok (.iload_n 2, 1) := by decide +kernel
theorem dX5_sayPlain_15 : decode cX5_sayPlain 15 = .ok (.iload_n 2, 1) := by decide +kernel
theorem dX5_sayPlain_16 : decode cX5_sayPlain 16 = .ok (.iload_n 1, 1) := by decide +kernel
theorem dX5_sayPlain_17 : decode cX5_sayPlain 17 = .ok (.if_icmp .ne 7, 3) := by decide +kernel
theorem dX5_sayPlain_20 : decode cX5_sayPlain 20 = .ok (.iconst 0, 1) := by decide +kernel
theorem dX5_sayPlain_21 : decode cX5_sayPlain 21 = .ok (.goto 9, 3) := by decide +kernel
theorem dX5_sayPlain_24 : decode cX5_sayPlain 24 = .ok (.aload_n 0, 1) := by decide +kernel
theorem dX5_sayPlain_25 : decode cX5_sayPlain 25 = .ok (.getfield 18, 3) := by decide +kernel
theorem dX5_sayPlain_28 : decode cX5_sayPlain 28 = .ok (.iload_n 2, 1) := by decide +kernel
theorem dX5_sayPlain_29 : decode cX5_sayPlain 29 = .ok (.iaload, 1) := by decide +kernel
theorem dX5_sayPlain_30 : decode cX5_sayPlain 30 = .ok (.iastore, 1) := by decide +kernel
theorem dX5_sayPlain_31 : decode cX5_sayPlain 31 = .ok (.iinc 2 1, 3) := by decide +kernel
theorem dX5_sayPlain_34 : decode cX5_sayPlain 34 = .ok (.goto (-32), 3) := by decide +kernel
theorem dX5_sayPlain_37 : decode cX5_sayPlain 37 = .ok (.return_, 1) := by decide +kernel
theorem dX5_reckon_0 : decode cX5_reckon 0 = .ok (.iconst 0, 1) := by decide +kernel
theorem dX5_reckon_1 : decode cX5_reckon 1 = .ok (.istore_n 1, 1) := by decide +kernel
theorem dX5_reckon_2 : decode cX5_reckon 2 = .ok (.iload_n 1, 1) := by decide +kernel
theorem dX5_reckon_3 : decode cX5_reckon 3 = .ok (.aload_n 0, 1) := by decide +kernel
theorem dX5_reckon_4 : decode cX5_reckon 4 = .ok (.getfield 44, 3) := by decide +kernel
theorem dX5_reckon_7 : decode cX5_reckon 7 = .ok (.if_icmp .ge 35, 3) := by decide +kernel
theorem dX5_reckon_10 : decode cX5_reckon 10 = .ok (.aload_n 0, 1) := by decide +kernel
theorem dX5_reckon_11 : decode cX5_reckon 11 = .ok (.getfield 27, 3) := by decide +kernel
theorem dX5_reckon_14 : decode cX5_reckon 14 = .ok (.iload_n 1, 1) := by decide +kernel
theorem dX5_reckon_15 : decode cX5_reckon 15 = .ok (.iconst 0, 1) := by decide +kernel
theorem dX5_reckon_16 : decode cX5_reckon 16 = .ok (.bipush 99, 2) := by decide +kernel
theorem dX5_reckon_18 : decode cX5_reckon 18 = .ok (.aload_n 0, 1) := by decide +kernel
theorem dX5_reckon_19 : decode cX5_reckon 19 = .ok (.iload_n 1, 1) := by decide +kernel
theorem dX5_reckon_20 : decode cX5_reckon 20 = .ok (.invokevirtual 83, 3) := by decide +kernel
theorem dX5_reckon_23 : decode cX5_reckon 23 = .ok (.aload_n 0, 1) := by decide +kernel
theorem dX5_reckon_24 : decode cX5_reckon 24 = .ok (.iload_n 1, 1) := by decide +kernel
theorem dX5_reckon_25 : decode cX5_reckon 25 = .ok (.invokevirtual 87, 3) := by decide +kernel
theorem dX5_reckon_28 : decode cX5_reckon 28 = .ok (.iadd, 1) := by decide +kernel
theorem dX5_reckon_29 : decode cX5_reckon 29 = .ok (.invokestatic 65, 3) := by decide +kernel
theorem dX5_reckon_32 : decode cX5_reckon 32 = .ok (.invokestatic 90, 3) := by decide +kernel
theorem dX5_reckon_35 : decode cX5_reckon 35 = .ok (.iastore, 1) := by decide +kernel
theorem dX5_reckon_36 : decode cX5_reckon 36 = .ok (.iinc 1 1, 3) := by decide +kernel
theorem dX5_reckon_39 : decode cX5_reckon 39 = .ok (.goto (-37), 3) := by decide +kernel
theorem dX5_reckon_42 : decode cX5_reckon 42 = .ok (.return_, 1) := by decide +kernel
theorem dX5_nextByKind_0 : decode cX5_nextByKind 0 = .ok (.aload_n 0, 1) := by decide +kernel
theorem dX5_nextByKind_1 : decode cX5_nextByKind 1 = .ok (.getfield 9, 3) := by decide +kernel
theorem dX5_nextByKind_4 : decode cX5_nextByKind 4 = .ok (.iload_n 1, 1) := by decide +kernel
theorem dX5_nextByKind_5 : decode cX5_nextByKind 5 = .ok (.iaload, 1) := by decide +kernel
theorem dX5_nextByKind_6 : decode cX5_nextByKind 6 = .ok (.tableswitch 137 1 6 #[38, 68, 83, 44, 68, 102], 38) := by decide +kernel
theorem dX5_nextByKind_44 : decode cX5_nextByKind 44 = .ok (.aload_n 0, 1) := by decide +kernel
theorem dX5_nextByKind_45 : decode cX5_nextByKind 45 = .ok (.iload_n 1, 1) := by decide +kernel
theorem dX5_nextByKind_46 : decode cX5_nextByKind 46 = .ok (.invokevirtual 93, 3) := by decide +kernel
theorem dX5_nextByKind_49 : decode cX5_nextByKind 49 = .ok (.ireturn, 1) := by decide +kernel
theorem dX5_nextByKind_50 : decode cX5_nextByKind 50 = .ok (.aload_n 0, 1) := by decide +kernel
theorem dX5_nextByKind_51 : decode cX5_nextByKind 51 = .ok (.iload_n 1, 1) := by decide +kernel
theorem dX5_nextByKind_52 : decode cX5_nextByKind 52 = .ok (.invokevirtual 96, 3) := by decide +kernel
theorem dX5_nextByKind_55 : decode cX5_nextByKind 55 = .ok (.ifCond .eq 13, 3) := by decide +kernel
theorem dX5_nextByKind_58 : decode cX5_nextByKind 58 = .ok (.aload_n 0, 1) := by decide +kernel
theorem dX5_nextByKind_59 : decode cX5_nextByKind 59 = .ok (.iload_n 1, 1) := by decide +kernel
theorem dX5_nextByKind_60 : decode cX5_nextByKind 60 = .ok (.invokevirtual 93, 3) := by decide +kernel
theorem dX5_nextByKind_63 : decode cX5_nextByKind 63 = .ok (.iconst 2, 1) := by decide +kernel
theorem dX5_nextByKind_64 : decode cX5_nextByKind 64 = .ok (.idiv, 1) := by decide +kernel
theorem dX5_nextByKind_65 : decode cX5_nextByKind 65 = .ok (.goto 8, 3) := by decide +kernel
theorem dX5_nextByKind_68 : decode cX5_nextByKind 68 = .ok (.aload_n 0, 1) := by decide +kernel
theorem dX5_nextByKind_69 : decode cX5_nextByKind 69 = .ok (.iload_n 1, 1) := by decide +kernel
theorem dX5_nextByKind_70 : decode cX5_nextByKind 70 = .ok (.invokevirtual 93, 3) := by decide +kernel
theorem dX5_nextByKind_73 : decode cX5_nextByKind 73 = .ok (.ireturn, 1) := by decide +kernel
theorem dX5_nextByKind_74 : decode cX5_nextByKind 74 = .ok (.aload_n 0, 1) := by decide +kernel
theorem dX5_nextByKind_75 : decode cX5_nextByKind 75 = .ok (.iload_n 1, 1) := by decide +kernel
theorem dX5_nextByKind_76 : decode cX5_nextByKind 76 = .ok (.invokevirtual 100, 3) := by decide +kernel
theorem dX5_nextByKind_79 : decode cX5_nextByKind 79 = .ok (.aload_n 0, 1) := by decide +kernel
theorem dX5_nextByKind_80 : decode cX5_nextByKind 80 = .ok (.getfield 18, 3) := by decide +kernel
theorem dX5_nextByKind_83 : decode cX5_nextByKind 83 = .ok (.iload_n 1, 1) := by decide +kernel
theorem dX5_nextByKind_84 : decode cX5_nextByKind 84 = .ok (.iaload, 1) := by decide +kernel
theorem dX5_nextByKind_85 : decode cX5_nextByKind 85 = .ok (.invokestatic 65, 3) := by decide +kernel
theorem dX5_nextByKind_88 : decode cX5_nextByKind 88 = .ok (.ireturn, 1) := by decide +kernel
theorem dX5_nextByKind_89 : decode cX5_nextByKind 89 = .ok (.aload_n 0, 1) := by decide +kernel
theorem dX5_nextByKind_90 : decode cX5_nextByKind 90 = .ok (.iload_n 1, 1) := by decide +kernel
theorem dX5_nextByKind_91 : decode cX5_nextByKind 91 = .ok (.invokevirtual 103, 3) := by decide +kernel
theorem dX5_nextByKind_94 : decode cX5_nextByKind 94 = .ok (.aload_n 0, 1) := by decide +kernel
theorem dX5_nextByKind_95 : decode cX5_nextByKind 95 = .ok (.getfield 30, 3) := by decide +kernel
theorem dX5_nextByKind_98 : decode cX5_nextByKind 98 = .ok (.aload_n 0, 1) := by decide +kernel
theorem dX5_nextByKind_99 : decode cX5_nextByKind 99 = .ok (.getfield 107, 3) := by decide +kernel
theorem dX5_nextByKind_102 : decode cX5_nextByKind 102 = .ok (.iconst 1, 1) := by decide +kernel
theorem dX5_nextByKind_103 : decode cX5_nextByKind 103 = .ok (.isub, 1) := by decide +kernel
theorem dX5_nextByKind_104 : decode cX5_nextByKind 104 = .ok (.iconst 2, 1) := by decide +kernel
theorem dX5_nextByKind_105 : decode cX5_nextByKind 105 = .ok (.idiv, 1) := by decide +kernel
theorem dX5_nextByKind_106 : decode cX5_nextByKind 106 = .ok (.iaload, 1) := by decide +kernel
theorem dX5_nextByKind_107 : decode cX5_nextByKind 107 = .ok (.ireturn, 1) := by decide +kernel
theorem dX5_nextByKind_108 : decode cX5_nextByKind 108 = .ok (.aload_n 0, 1) := by decide +kernel
theorem dX5_nextByKind_109 : decode cX5_nextByKind 109 = .ok (.iload_n 1, 1) := by decide +kernel
theorem dX5_nextByKind_110 : decode cX5_nextByKind 110 = .ok (.invokevirtual 103, 3) := by decide +kernel
theorem dX5_nextByKind_113 : decode cX5_nextByKind 113 = .ok (.aload_n 0, 1) := by decide +kernel
theorem dX5_nextByKind_114 : decode cX5_nextByKind 114 = .ok (.getfield 30, 3) := by decide +kernel
theorem dX5_nextByKind_117 : decode cX5_nextByKind 117 = .ok (.aload_n 0, 1) := by decide +kernel
theorem dX5_nextByKind_118 : decode cX5_nextByKind 118 = .ok (.getfield 21, 3) := by decide +kernel
theorem dX5_nextByKind_121 : decode cX5_nextByKind 121 = .ok (.iload_n 1, 1) := by decide +kernel
theorem dX5_nextByKind_122 : decode cX5_nextByKind 122 = .ok (.iconst 4, 1) := by decide +kernel
theorem dX5_nextByKind_123 : decode cX5_nextByKind 123 = .ok (.imul, 1) := by decide +kernel
theorem dX5_nextByKind_124 : decode cX5_nextByKind 124 = .ok (.aload_n 0, 1) := by decide +kernel
theorem dX5_nextByKind_125 : decode cX5_nextByKind 125 = .ok (.getfield 48, 3) := by decide +kernel
theorem dX5_nextByKind_128 : decode cX5_nextByKind 128 = .ok (.iconst 4, 1) := by decide +kernel
theorem dX5_nextByKind_129 : decode cX5_nextByKind 129 = .ok (.irem, 1) := by decide +kernel
theorem dX5_nextByKind_130 : decode cX5_nextByKind 130 = .ok (.iadd, 1) := by decide +kernel
theorem dX5_nextByKind_131 : decode cX5_nextByKind 131 = .ok (.iaload, 1) := by decide +kernel
theorem dX5_nextByKind_132 : decode cX5_nextByKind 132 = .ok (.aload_n 0, 1) := by decide +kernel
theorem dX5_nextByKind_133 : decode cX5_nextByKind 133 = .ok (.getfield 107, 3) := by decide +kernel
theorem dX5_nextByKind_136 : decode cX5_nextByKind 136 = .ok (.iconst 1, 1) := by decide +kernel
theorem dX5_nextByKind_137 : decode cX5_nextByKind 137 = .ok (.isub, 1) := by decide +kernel
theorem dX5_nextByKind_138 : decode cX5_nextByKind 138 = .ok (.invokestatic 65, 3) := by decide +kernel
theorem dX5_nextByKind_141 : decode cX5_nextByKind 141 = .ok (.iaload, 1) := by decide +kernel
theorem dX5_nextByKind_142 : decode cX5_nextByKind 142 = .ok (.ireturn, 1) := by decide +kernel
theorem dX5_nextByKind_143 : decode cX5_nextByKind 143 = .ok (.aload_n 0, 1) := by decide +kernel
theorem dX5_nextByKind_144 : decode cX5_nextByKind 144 = .ok (.iload_n 1, 1) := by decide +kernel
theorem dX5_nextByKind_145 : decode cX5_nextByKind 145 = .ok (.invokevirtual 100, 3) := by decide +kernel
theorem dX5_nextByKind_148 : decode cX5_nextByKind 148 = .ok (.ireturn, 1) := by decide +kernel
theorem dX5_proud_0 : decode cX5_proud 0 = .ok (.aload_n 0, 1) := by decide +kernel
theorem dX5_proud_1 : decode cX5_proud 1 = .ok (.iload_n 1, 1) := by decide +kernel
theorem dX5_proud_2 : decode cX5_proud 2 = .ok (.invokevirtual 100, 3) := by decide +kernel
theorem dX5_proud_5 : decode cX5_proud 5 = .ok (.iconst 5, 1) := by decide +kernel
theorem dX5_proud_6 : decode cX5_proud 6 = .ok (.aload_n 0, 1) := by decide +kernel
theorem dX5_proud_7 : decode cX5_proud 7 = .ok (.getfield 15, 3) := by decide +kernel
theorem dX5_proud_10 : decode cX5_proud 10 = .ok (.iload_n 1, 1) := by decide +kernel
theorem dX5_proud_11 : decode cX5_proud 11 = .ok (.iaload, 1) := by decide +kernel
theorem dX5_proud_12 : decode cX5_proud 12 = .ok (.imul, 1) := by decide +kernel
theorem dX5_proud_13 : decode cX5_proud 13 = .ok (.invokestatic 90, 3) := by decide +kernel
theorem dX5_proud_16 : decode cX5_proud 16 = .ok (.ireturn, 1) := by decide +kernel
theorem dX5_takesHalf_0 : decode cX5_takesHalf 0 = .ok (.aload_n 0, 1) := by decide +kernel
theorem dX5_takesHalf_1 : decode cX5_takesHalf 1 = .ok (.getfield 15, 3) := by decide +kernel
theorem dX5_takesHalf_4 : decode cX5_takesHalf 4 = .ok (.iload_n 1, 1) := by decide +kernel
theorem dX5_takesHalf_5 : decode cX5_takesHalf 5 = .ok (.iaload, 1) := by decide +kernel
theorem dX5_takesHalf_6 : decode cX5_takesHalf 6 = .ok (.iconst 2, 1) := by decide +kernel
theorem dX5_takesHalf_7 : decode cX5_takesHalf 7 = .ok (.iadd, 1) := by decide +kernel
theorem dX5_takesHalf_8 : decode cX5_takesHalf 8 = .ok (.istore_n 2, 1) := by decide +kernel
theorem dX5_takesHalf_9 : decode cX5_takesHalf 9 = .ok (.iload_n 2, 1) := by decide +kernel
theorem dX5_takesHalf_10 : decode cX5_takesHalf 10 = .ok (.ifCond .le 16, 3) := by decide +kernel
theorem dX5_takesHalf_13 : decode cX5_takesHalf 13 = .ok (.aload_n 0, 1) := by decide +kernel
theorem dX5_takesHalf_14 : decode cX5_takesHalf 14 = .ok (.getfield 48, 3) := by decide +kernel
theorem dX5_takesHalf_17 : decode cX5_takesHalf 17 = .ok (.iload_n 2, 1) := by decide +kernel
theorem dX5_takesHalf_18 : decode cX5_takesHalf 18 = .ok (.irem, 1) := by decide +kernel
theorem dX5_takesHalf_19 : decode cX5_takesHalf 19 = .ok (.ifCond .ne 7, 3) := by decide +kernel
theorem dX5_takesHalf_22 : decode cX5_takesHalf 22 = .ok (.iconst 1, 1) := by decide +kernel
theorem dX5_takesHalf_23 : decode cX5_takesHalf 23 = .ok (.goto 4, 3) := by decide +kernel
theorem dX5_takesHalf_26 : decode cX5_takesHalf 26 = .ok (.iconst 0, 1) := by decide +kernel
theorem dX5_takesHalf_27 : decode cX5_takesHalf 27 = .ok (.ireturn, 1) := by decide +kernel
theorem dX5_middle_0 : decode cX5_middle 0 = .ok (.iload_n 1, 1) := by decide +kernel
theorem dX5_middle_1 : decode cX5_middle 1 = .ok (.ifCond .eq 13, 3) := by decide +kernel
theorem dX5_middle_4 : decode cX5_middle 4 = .ok (.iload_n 1, 1) := by decide +kernel
theorem dX5_middle_5 : decode cX5_middle 5 = .ok (.aload_n 0, 1) := by decide +kernel
theorem dX5_middle_6 : decode cX5_middle 6 = .ok (.getfield 44, 3) := by decide +kernel
theorem dX5_middle_9 : decode cX5_middle 9 = .ok (.iconst 1, 1) := by decide +kernel
theorem dX5_middle_10 : decode cX5_middle 10 = .ok (.isub, 1) := by decide +kernel
theorem dX5_middle_11 : decode cX5_middle 11 = .ok (.if_icmp .ne 7, 3) := by decide +kernel
theorem dX5_middle_14 : decode cX5_middle 14 = .ok (.iconst 1, 1) := by decide +kernel
theorem dX5_middle_15 : decode cX5_middle 15 = .ok (.goto 4, 3) := by decide +kernel
theorem dX5_middle_18 : decode cX5_middle 18 = .ok (.iconst 0, 1) := by decide +kernel
theorem dX5_middle_19 : decode cX5_middle 19 = .ok (.istore_n 2, 1) := by decide +kernel
theorem dX5_middle_20 : decode cX5_middle 20 = .ok (.aload_n 0, 1) := by decide +kernel
theorem dX5_middle_21 : decode cX5_middle 21 = .ok (.getfield 44, 3) := by decide +kernel
theorem dX5_middle_24 : decode cX5_middle 24 = .ok (.iconst 3, 1) := by decide +kernel
theorem dX5_middle_25 : decode cX5_middle 25 = .ok (.if_icmp .lt 14, 3) := by decide +kernel
theorem dX5_middle_28 : decode cX5_middle 28 = .ok (.iload_n 2, 1) := by decide +kernel
theorem dX5_middle_29 : decode cX5_middle 29 = .ok (.ifCond .eq 17, 3) := by decide +kernel
theorem dX5_middle_32 : decode cX5_middle 32 = .ok (.aload_n 0, 1) := by decide +kernel
theorem dX5_middle_33 : decode cX5_middle 33 = .ok (.invokevirtual 110, 3) := by decide +kernel
theorem dX5_middle_36 : decode cX5_middle 36 = .ok (.ifCond .ne 10, 3) := by decide +kernel
theorem dX5_middle_39 : decode cX5_middle 39 = .ok (.aload_n 0, 1) := by decide +kernel
theorem dX5_middle_40 : decode cX5_middle 40 = .ok (.getfield 18, 3) := by decide +kernel
theorem dX5_middle_43 : decode cX5_middle 43 = .ok (.iload_n 1, 1) := by decide +kernel
theorem dX5_middle_44 : decode cX5_middle 44 = .ok (.iaload, 1) := by decide +kernel
theorem dX5_middle_45 : decode cX5_middle 45 = .ok (.ireturn, 1) := by decide +kernel
theorem dX5_middle_46 : decode cX5_middle 46 = .ok (.aload_n 0, 1) := by decide +kernel
theorem dX5_middle_47 : decode cX5_middle 47 = .ok (.getfield 24, 3) := by decide +kernel
theorem dX5_middle_50 : decode cX5_middle 50 = .ok (.iload_n 1, 1) := by decide +kernel
theorem dX5_middle_51 : decode cX5_middle 51 = .ok (.ifCond .ne 12, 3) := by decide +kernel
theorem dX5_middle_54 : decode cX5_middle 54 = .ok (.aload_n 0, 1) := by decide +kernel
theorem dX5_middle_55 : decode cX5_middle 55 = .ok (.getfield 44, 3) := by decide +kernel
theorem dX5_middle_58 : decode cX5_middle 58 = .ok (.iconst 1, 1) := by decide +kernel
theorem dX5_middle_59 : decode cX5_middle 59 = .ok (.isub, 1) := by decide +kernel
theorem dX5_middle_60 : decode cX5_middle 60 = .ok (.goto 6, 3) := by decide +kernel
theorem dX5_middle_63 : decode cX5_middle 63 = .ok (.iload_n 1, 1) := by decide +kernel
theorem dX5_middle_64 : decode cX5_middle 64 = .ok (.iconst 1, 1) := by decide +kernel
theorem dX5_middle_65 : decode cX5_middle 65 = .ok (.isub, 1) := by decide +kernel
theorem dX5_middle_66 : decode cX5_middle 66 = .ok (.iaload, 1) := by decide +kernel
theorem dX5_middle_67 : decode cX5_middle 67 = .ok (.istore_n 3, 1) := by decide +kernel
theorem dX5_middle_68 : decode cX5_middle 68 = .ok (.aload_n 0, 1) := by decide +kernel
theorem dX5_middle_69 : decode cX5_middle 69 = .ok (.getfield 24, 3) := by decide +kernel
theorem dX5_middle_72 : decode cX5_middle 72 = .ok (.iload_n 1, 1) := by decide +kernel
theorem dX5_middle_73 : decode cX5_middle 73 = .ok (.aload_n 0, 1) := by decide +kernel
theorem dX5_middle_74 : decode cX5_middle 74 = .ok (.getfield 44, 3) := by decide +kernel
theorem dX5_middle_77 : decode cX5_middle 77 = .ok (.iconst 1, 1) := by decide +kernel
theorem dX5_middle_78 : decode cX5_middle 78 = .ok (.isub, 1) := by decide +kernel
theorem dX5_middle_79 : decode cX5_middle 79 = .ok (.if_icmp .ne 7, 3) := by decide +kernel
theorem dX5_middle_82 : decode cX5_middle 82 = .ok (.iconst 0, 1) := by decide +kernel
theorem dX5_middle_83 : decode cX5_middle 83 = .ok (.goto 6, 3) := by decide +kernel
theorem dX5_middle_86 : decode cX5_middle 86 = .ok (.iload_n 1, 1) := by decide +kernel
theorem dX5_middle_87 : decode cX5_middle 87 = .ok (.iconst 1, 1) := by decide +kernel
theorem dX5_middle_88 : decode cX5_middle 88 = .ok (.iadd, 1) := by decide +kernel
theorem dX5_middle_89 : decode cX5_middle 89 = .ok (.iaload, 1) := by decide +kernel
theorem dX5_middle_90 : decode cX5_middle 90 = .ok (.istore 4, 2) := by decide +kernel
theorem dX5_middle_92 : decode cX5_middle 92 = .ok (.iload_n 3, 1) := by decide +kernel
theorem dX5_middle_93 : decode cX5_middle 93 = .ok (.iload 4, 2) := by decide +kernel
theorem dX5_middle_95 : decode cX5_middle 95 = .ok (.invokestatic 65, 3) := by decide +kernel
theorem dX5_middle_98 : decode cX5_middle 98 = .ok (.istore 5, 2) := by decide +kernel
theorem dX5_middle_100 : decode cX5_middle 100 = .ok (.iload_n 3, 1) := by decide +kernel
theorem dX5_middle_101 : decode cX5_middle 101 = .ok (.iload 4, 2) := by decide +kernel
theorem dX5_middle_103 : decode cX5_middle 103 = .ok (.invokestatic 90, 3) := by decide +kernel
theorem dX5_middle_106 : decode cX5_middle 106 = .ok (.istore 6, 2) := by decide +kernel
theorem dX5_middle_108 : decode cX5_middle 108 = .ok (.iload 5, 2) := by decide +kernel
theorem dX5_middle_110 : decode cX5_middle 110 = .ok (.iload 6, 2) := by decide +kernel
theorem dX5_middle_112 : decode cX5_middle 112 = .ok (.aload_n 0, 1) := by decide +kernel
theorem dX5_middle_113 : decode cX5_middle 113 = .ok (.getfield 18, 3) := by decide +kernel
theorem dX5_middle_116 : decode cX5_middle 116 = .ok (.iload_n 1, 1) := by decide +kernel
theorem dX5_middle_117 : decode cX5_middle 117 = .ok (.iaload, 1) := by decide +kernel
theorem dX5_middle_118 : decode cX5_middle 118 = .ok (.invokestatic 65, 3) := by decide +kernel
theorem dX5_middle_121 : decode cX5_middle 121 = .ok (.invokestatic 90, 3) := by decide +kernel
theorem dX5_middle_124 : decode cX5_middle 124 = .ok (.ireturn, 1) := by decide +kernel
theorem dX5_fillWide_0 : decode cX5_fillWide 0 = .ok (.aload_n 0, 1) := by decide +kernel
theorem dX5_fillWide_1 : decode cX5_fillWide 1 = .ok (.invokevirtual 110, 3) := by decide +kernel
theorem dX5_fillWide_4 : decode cX5_fillWide 4 = .ok (.istore_n 2, 1) := by decide +kernel
theorem dX5_fillWide_5 : decode cX5_fillWide 5 = .ok (.aload_n 0, 1) := by decide +kernel
theorem dX5_fillWide_6 : decode cX5_fillWide 6 = .ok (.iconst 0, 1) := by decide +kernel
theorem dX5_fillWide_7 : decode cX5_fillWide 7 = .ok (.putfield 107, 3) := by decide +kernel
theorem dX5_fillWide_10 : decode cX5_fillWide 10 = .ok (.aload_n 0, 1) := by decide +kernel
theorem dX5_fillWide_11 : decode cX5_fillWide 11 = .ok (.aload_n 0, 1) := by decide +kernel
theorem dX5_fillWide_12 : decode cX5_fillWide 12 = .ok (.getfield 18, 3) := by decide +kernel
theorem dX5_fillWide_15 : decode cX5_fillWide 15 = .ok (.iload_n 1, 1) := by decide +kernel
theorem dX5_fillWide_16 : decode cX5_fillWide 16 = .ok (.iaload, 1) := by decide +kernel
theorem dX5_fillWide_17 : decode cX5_fillWide 17 = .ok (.invokevirtual 114, 3) := by decide +kernel
theorem dX5_fillWide_20 : decode cX5_fillWide 20 = .ok (.iconst 0, 1) := by decide +kernel
theorem dX5_fillWide_21 : decode cX5_fillWide 21 = .ok (.istore_n 3, 1) := by decide +kernel
theorem dX5_fillWide_22 : decode cX5_fillWide 22 = .ok (.iload_n 3, 1) := by decide +kernel
theorem dX5_fillWide_23 : decode cX5_fillWide 23 = .ok (.aload_n 0, 1) := by decide +kernel
theorem dX5_fillWide_24 : decode cX5_fillWide 24 = .ok (.getfield 44, 3) := by decide +kernel
theorem dX5_fillWide_27 : decode cX5_fillWide 27 = .ok (.if_icmp .ge 57, 3) := by decide +kernel
theorem dX5_fillWide_30 : decode cX5_fillWide 30 = .ok (.iload_n 3, 1) := by decide +kernel
theorem dX5_fillWide_31 : decode cX5_fillWide 31 = .ok (.iload_n 1, 1) := by decide +kernel
theorem dX5_fillWide_32 : decode cX5_fillWide 32 = .ok (.isub, 1) := by decide +kernel
theorem dX5_fillWide_33 : decode cX5_fillWide 33 = .ok (.invokestatic 117, 3) := by decide +kernel
theorem dX5_fillWide_36 : decode cX5_fillWide 36 = .ok (.istore 4, 2) := by decide +kernel
theorem dX5_fillWide_38 : decode cX5_fillWide 38 = .ok (.iload_n 2, 1) := by decide +kernel
theorem dX5_fillWide_39 : decode cX5_fillWide 39 = .ok (.ifCond .eq 17, 3) := by decide +kernel
theorem dX5_fillWide_42 : decode cX5_fillWide 42 = .ok (.iload 4, 2) := by decide +kernel
theorem dX5_fillWide_44 : decode cX5_fillWide 44 = .ok (.aload_n 0, 1) := by decide +kernel
theorem dX5_fillWide_45 : decode cX5_fillWide 45 = .ok (.getfield 44, 3) := by decide +kernel
theorem dX5_fillWide_48 : decode cX5_fillWide 48 = .ok (.iload 4, 2) := by decide +kernel
theorem dX5_fillWide_50 : decode cX5_fillWide 50 = .ok (.isub, 1) := by decide +kernel
theorem dX5_fillWide_51 : decode cX5_fillWide 51 = .ok (.invokestatic 65, 3) := by decide +kernel
theorem dX5_fillWide_54 : decode cX5_fillWide 54 = .ok (.istore 4, 2) := by decide +kernel
theorem dX5_fillWide_56 : decode cX5_fillWide 56 = .ok (.iload 4, 2) := by decide +kernel
theorem dX5_fillWide_58 : decode cX5_fillWide 58 = .ok (.iconst 1, 1) := by decide +kernel
theorem dX5_fillWide_59 : decode cX5_fillWide 59 = .ok (.if_icmp .eq 9, 3) := by decide +kernel
theorem dX5_fillWide_62 : decode cX5_fillWide 62 = .ok (.iload 4, 2) := by decide +kernel
theorem dX5_fillWide_64 : decode cX5_fillWide 64 = .ok (.iconst 2, 1) := by decide +kernel
theorem dX5_fillWide_65 : decode cX5_fillWide 65 = .ok (.if_icmp .ne 13, 3) := by decide +kernel
theorem dX5_fillWide_68 : decode cX5_fillWide 68 = .ok (.aload_n 0, 1) := by decide +kernel
theorem dX5_fillWide_69 : decode cX5_fillWide 69 = .ok (.aload_n 0, 1) := by decide +kernel
theorem dX5_fillWide_70 : decode cX5_fillWide 70 = .ok (.getfield 24, 3) := by decide +kernel
theorem dX5_fillWide_73 : decode cX5_fillWide 73 = .ok (.iload_n 3, 1) := by decide +kernel
theorem dX5_fillWide_74 : decode cX5_fillWide 74 = .ok (.iaload, 1) := by decide +kernel
theorem dX5_fillWide_75 : decode cX5_fillWide 75 = .ok (.invokevirtual 114, 3) := by decide +kernel
theorem dX5_fillWide_78 : decode cX5_fillWide 78 = .ok (.iinc 3 1, 3) := by decide +kernel
theorem dX5_fillWide_81 : decode cX5_fillWide 81 = .ok (.goto (-59), 3) := by decide +kernel
theorem dX5_fillWide_84 : decode cX5_fillWide 84 = .ok (.return_, 1) := by decide +kernel
theorem dX5_addWide_0 : decode cX5_addWide 0 = .ok (.aload_n 0, 1) := by decide +kernel
theorem dX5_addWide_1 : decode cX5_addWide 1 = .ok (.getfield 107, 3) := by decide +kernel
theorem dX5_addWide_4 : decode cX5_addWide 4 = .ok (.iconst 5, 1) := by decide +kernel
theorem dX5_addWide_5 : decode cX5_addWide 5 = .ok (.if_icmp .lt 4, 3) := by decide +kernel
theorem dX5_addWide_8 : decode cX5_addWide 8 = .ok (.return_, 1) := by decide +kernel
theorem dX5_addWide_9 : decode cX5_addWide 9 = .ok (.aload_n 0, 1) := by decide +kernel
theorem dX5_addWide_10 : decode cX5_addWide 10 = .ok (.getfield 107, 3) := by decide +kernel
theorem dX5_addWide_13 : decode cX5_addWide 13 = .ok (.istore_n 2, 1) := by decide +kernel
theorem dX5_addWide_14 : decode cX5_addWide 14 = .ok (.iload_n 2, 1) := by decide +kernel
theorem dX5_addWide_15 : decode cX5_addWide 15 = .ok (.ifCond .le 35, 3) := by decide +kernel
theorem dX5_addWide_18 : decode cX5_addWide 18 = .ok (.aload_n 0, 1) := by decide +kernel
theorem dX5_addWide_19 : decode cX5_addWide 19 = .ok (.getfield 30, 3) := by decide +kernel
theorem dX5_addWide_22 : decode cX5_addWide 22 = .ok (.iload_n 2, 1) := by decide +kernel
theorem dX5_addWide_23 : decode cX5_addWide 23 = .ok (.iconst 1, 1) := by decide +kernel
theorem dX5_addWide_24 : decode cX5_addWide 24 = .ok (.isub, 1) := by decide +kernel
theorem dX5_addWide_25 : decode cX5_addWide 25 = .ok (.iaload, 1) := by decide +kernel
theorem dX5_addWide_26 : decode cX5_addWide 26 = .ok (.iload_n 1, 1) := by decide +kernel
theorem dX5_addWide_27 : decode cX5_addWide 27 = .ok (.if_icmp .le 23, 3) := by decide +kernel
theorem dX5_addWide_30 : decode cX5_addWide 30 = .ok (.aload_n 0, 1) := by decide +kernel
theorem dX5_addWide_31 : decode cX5_addWide 31 = .ok (.getfield 30, 3) := by decide +kernel
theorem dX5_addWide_34 : decode cX5_addWide 34 = .ok (.iload_n 2, 1) := by decide +kernel
theorem dX5_addWide_35 : decode cX5_addWide 35 = .ok (.aload_n 0, 1) := by decide +kernel
theorem dX5_addWide_36 : decode cX5_addWide 36 = .ok (.getfield 30, 3) := by decide +kernel
theorem dX5_addWide_39 : decode cX5_addWide 39 = .ok (.iload_n 2, 1) := by decide +kernel
theorem dX5_addWide_40 : decode cX5_addWide 40 = .ok (.iconst 1, 1) := by decide +kernel
theorem dX5_addWide_41 : decode cX5_addWide 41 = .ok (.isub, 1) := by decide +kernel
theorem dX5_addWide_42 : decode cX5_addWide 42 = .ok (.iaload, 1) := by decide +kernel
theorem dX5_addWide_43 : decode cX5_addWide 43 = .ok (.iastore, 1) := by decide +kernel
theorem dX5_addWide_44 : decode cX5_addWide 44 = .ok (.iinc 2 (-1), 3) := by decide +kernel
theorem dX5_addWide_47 : decode cX5_addWide 47 = .ok (.goto (-33), 3) := by decide +kernel
theorem dX5_addWide_50 : decode cX5_addWide 50 = .ok (.aload_n 0, 1) := by decide +kernel
theorem dX5_addWide_51 : decode cX5_addWide 51 = .ok (.getfield 30, 3) := by decide +kernel
theorem dX5_addWide_54 : decode cX5_addWide 54 = .ok (.iload_n 2, 1) := by decide +kernel
theorem dX5_addWide_55 : decode cX5_addWide 55 = .ok (.iload_n 1, 1) := by decide +kernel
theorem dX5_addWide_56 : decode cX5_addWide 56 = .ok (.iastore, 1) := by decide +kernel
theorem dX5_addWide_57 : decode cX5_addWide 57 = .ok (.aload_n 0, 1) := by decide +kernel
theorem dX5_addWide_58 : decode cX5_addWide 58 = .ok (.dup, 1) := by decide +kernel
theorem dX5_addWide_59 : decode cX5_addWide 59 = .ok (.getfield 107, 3) := by decide +kernel
theorem dX5_addWide_62 : decode cX5_addWide 62 = .ok (.iconst 1, 1) := by decide +kernel
theorem dX5_addWide_63 : decode cX5_addWide 63 = .ok (.iadd, 1) := by decide +kernel
theorem dX5_addWide_64 : decode cX5_addWide 64 = .ok (.putfield 107, 3) := by decide +kernel
theorem dX5_addWide_67 : decode cX5_addWide 67 = .ok (.return_, 1) := by decide +kernel
theorem dX5_adds_0 : decode cX5_adds 0 = .ok (.aload_n 0, 1) := by decide +kernel
theorem dX5_adds_1 : decode cX5_adds 1 = .ok (.getfield 51, 3) := by decide +kernel
theorem dX5_adds_4 : decode cX5_adds 4 = .ok (.ifnonnull 5, 3) := by decide +kernel
theorem dX5_adds_7 : decode cX5_adds 7 = .ok (.iconst 0, 1) := by decide +kernel
theorem dX5_adds_8 : decode cX5_adds 8 = .ok (.ireturn, 1) := by decide +kernel
theorem dX5_adds_9 : decode cX5_adds 9 = .ok (.iconst 0, 1) := by decide +kernel
theorem dX5_adds_10 : decode cX5_adds 10 = .ok (.istore_n 2, 1) := by decide +kernel
theorem dX5_adds_11 : decode cX5_adds 11 = .ok (.iconst 0, 1) := by decide +kernel
theorem dX5_adds_12 : decode cX5_adds 12 = .ok (.istore_n 3, 1) := by decide +kernel
theorem dX5_adds_13 : decode cX5_adds 13 = .ok (.iload_n 3, 1) := by decide +kernel
theorem dX5_adds_14 : decode cX5_adds 14 = .ok (.aload_n 0, 1) := by decide +kernel
theorem dX5_adds_15 : decode cX5_adds 15 = .ok (.getfield 44, 3) := by decide +kernel
theorem dX5_adds_18 : decode cX5_adds 18 = .ok (.if_icmp .ge 27, 3) := by decide +kernel
theorem dX5_adds_21 : decode cX5_adds 21 = .ok (.aload_n 0, 1) := by decide +kernel
theorem dX5_adds_22 : decode cX5_adds 22 = .ok (.getfield 18, 3) := by decide +kernel
theorem dX5_adds_25 : decode cX5_adds 25 = .ok (.iload_n 3, 1) := by decide +kernel
theorem dX5_adds_26 : decode cX5_adds 26 = .ok (.iaload, 1) := by decide +kernel
theorem dX5_adds_27 : decode cX5_adds 27 = .ok (.aload_n 0, 1) := by decide +kernel
theorem dX5_adds_28 : decode cX5_adds 28 = .ok (.getfield 18, 3) := by decide +kernel
theorem dX5_adds_31 : decode cX5_adds 31 = .ok (.iload_n 1, 1) := by decide +kernel
theorem dX5_adds_32 : decode cX5_adds 32 = .ok (.iaload, 1) := by decide +kernel
theorem dX5_adds_33 : decode cX5_adds 33 = .ok (.if_icmp .le 6, 3) := by decide +kernel
theorem dX5_adds_36 : decode cX5_adds 36 = .ok (.iinc 2 1, 3) := by decide +kernel
theorem dX5_adds_39 : decode cX5_adds 39 = .ok (.iinc 3 1, 3) := by decide +kernel
theorem dX5_adds_42 : decode cX5_adds 42 = .ok (.goto (-29), 3) := by decide +kernel
theorem dX5_adds_45 : decode cX5_adds 45 = .ok (.aload_n 0, 1) := by decide +kernel
theorem dX5_adds_46 : decode cX5_adds 46 = .ok (.getfield 41, 3) := by decide +kernel
theorem dX5_adds_49 : decode cX5_adds 49 = .ok (.iconst 0, 1) := by decide +kernel
theorem dX5_adds_50 : decode cX5_adds 50 = .ok (.iload_n 1, 1) := by decide +kernel
theorem dX5_adds_51 : decode cX5_adds 51 = .ok (.iastore, 1) := by decide +kernel
theorem dX5_adds_52 : decode cX5_adds 52 = .ok (.aload_n 0, 1) := by decide +kernel
theorem dX5_adds_53 : decode cX5_adds 53 = .ok (.getfield 41, 3) := by decide +kernel
theorem dX5_adds_56 : decode cX5_adds 56 = .ok (.iconst 1, 1) := by decide +kernel
theorem dX5_adds_57 : decode cX5_adds 57 = .ok (.aload_n 0, 1) := by decide +kernel
theorem dX5_adds_58 : decode cX5_adds 58 = .ok (.getfield 9, 3) := by decide +kernel
theorem dX5_adds_61 : decode cX5_adds 61 = .ok (.iload_n 1, 1) := by decide +kernel
theorem dX5_adds_62 : decode cX5_adds 62 = .ok (.iaload, 1) := by decide +kernel
theorem dX5_adds_63 : decode cX5_adds 63 = .ok (.iastore, 1) := by decide +kernel
theorem dX5_adds_64 : decode cX5_adds 64 = .ok (.aload_n 0, 1) := by decide +kernel
theorem dX5_adds_65 : decode cX5_adds 65 = .ok (.getfield 41, 3) := by decide +kernel
theorem dX5_adds_68 : decode cX5_adds 68 = .ok (.iconst 2, 1) := by decide +kernel
theorem dX5_adds_69 : decode cX5_adds 69 = .ok (.aload_n 0, 1) := by decide +kernel
theorem dX5_adds_70 : decode cX5_adds 70 = .ok (.getfield 15, 3) := by decide +kernel
theorem dX5_adds_73 : decode cX5_adds 73 = .ok (.iload_n 1, 1) := by decide +kernel
theorem dX5_adds_74 : decode cX5_adds 74 = .ok (.iaload, 1) := by decide +kernel
theorem dX5_adds_75 : decode cX5_adds 75 = .ok (.iastore, 1) := by decide +kernel
theorem dX5_adds_76 : decode cX5_adds 76 = .ok (.aload_n 0, 1) := by decide +kernel
theorem dX5_adds_77 : decode cX5_adds 77 = .ok (.getfield 41, 3) := by decide +kernel
theorem dX5_adds_80 : decode cX5_adds 80 = .ok (.iconst 3, 1) := by decide +kernel
theorem dX5_adds_81 : decode cX5_adds 81 = .ok (.aload_n 0, 1) := by decide +kernel
theorem dX5_adds_82 : decode cX5_adds 82 = .ok (.getfield 18, 3) := by decide +kernel
theorem dX5_adds_85 : decode cX5_adds 85 = .ok (.iload_n 1, 1) := by decide +kernel
theorem dX5_adds_86 : decode cX5_adds 86 = .ok (.iaload, 1) := by decide +kernel
theorem dX5_adds_87 : decode cX5_adds 87 = .ok (.bipush 10, 2) := by decide +kernel
theorem dX5_adds_89 : decode cX5_adds 89 = .ok (.idiv, 1) := by decide +kernel
theorem dX5_adds_90 : decode cX5_adds 90 = .ok (.iastore, 1) := by decide +kernel
theorem dX5_adds_91 : decode cX5_adds 91 = .ok (.aload_n 0, 1) := by decide +kernel
theorem dX5_adds_92 : decode cX5_adds 92 = .ok (.getfield 41, 3) := by decide +kernel
theorem dX5_adds_95 : decode cX5_adds 95 = .ok (.iconst 4, 1) := by decide +kernel
theorem dX5_adds_96 : decode cX5_adds 96 = .ok (.iload_n 2, 1) := by decide +kernel
theorem dX5_adds_97 : decode cX5_adds 97 = .ok (.iastore, 1) := by decide +kernel
theorem dX5_adds_98 : decode cX5_adds 98 = .ok (.aload_n 0, 1) := by decide +kernel
theorem dX5_adds_99 : decode cX5_adds 99 = .ok (.getfield 41, 3) := by decide +kernel
theorem dX5_adds_102 : decode cX5_adds 102 = .ok (.iconst 5, 1) := by decide +kernel
theorem dX5_adds_103 : decode cX5_adds 103 = .ok (.aload_n 0, 1) := by decide +kernel
theorem dX5_adds_104 : decode cX5_adds 104 = .ok (.getfield 48, 3) := by decide +kernel
theorem dX5_adds_107 : decode cX5_adds 107 = .ok (.bipush 10, 2) := by decide +kernel
theorem dX5_adds_109 : decode cX5_adds 109 = .ok (.irem, 1) := by decide +kernel
theorem dX5_adds_110 : decode cX5_adds 110 = .ok (.iastore, 1) := by decide +kernel
theorem dX5_adds_111 : decode cX5_adds 111 = .ok (.aload_n 0, 1) := by decide +kernel
theorem dX5_adds_112 : decode cX5_adds 112 = .ok (.getfield 51, 3) := by decide +kernel
theorem dX5_adds_115 : decode cX5_adds 115 = .ok (.aload_n 0, 1) := by decide +kernel
theorem dX5_adds_116 : decode cX5_adds 116 = .ok (.getfield 41, 3) := by decide +kernel
theorem dX5_adds_119 : decode cX5_adds 119 = .ok (.invokevirtual 120, 3) := by decide +kernel
theorem dX5_adds_122 : decode cX5_adds 122 = .ok (.ireturn, 1) := by decide +kernel
theorem dX6_init_0 : decode cX6_init 0 = .ok (.aload_n 0, 1) := by decide +kernel
theorem dX6_init_1 : decode cX6_init 1 = .ok (.invokespecial 3, 3) := by decide +kernel
theorem dX6_init_4 : decode cX6_init 4 = .ok (.aload_n 0, 1) := by decide +kernel
theorem dX6_init_5 : decode cX6_init 5 = .ok (.new 9, 3) := by decide +kernel
theorem dX6_init_8 : decode cX6_init 8 = .ok (.dup, 1) := by decide +kernel
theorem dX6_init_9 : decode cX6_init 9 = .ok (.invokespecial 11, 3) := by decide +kernel
theorem dX6_init_12 : decode cX6_init 12 = .ok (.putfield 12, 3) := by decide +kernel
theorem dX6_init_15 : decode cX6_init 15 = .ok (.aload_n 0, 1) := by decide +kernel
theorem dX6_init_16 : decode cX6_init 16 = .ok (.new 9, 3) := by decide +kernel
theorem dX6_init_19 : decode cX6_init 19 = .ok (.dup, 1) := by decide +kernel
theorem dX6_init_20 : decode cX6_init 20 = .ok (.invokespecial 11, 3) := by decide +kernel
theorem dX6_init_23 : decode cX6_init 23 = .ok (.putfield 18, 3) := by decide +kernel
theorem dX6_init_26 : decode cX6_init 26 = .ok (.aload_n 0, 1) := by decide +kernel
theorem dX6_init_27 : decode cX6_init 27 = .ok (.new 9, 3) := by decide +kernel
theorem dX6_init_30 : decode cX6_init 30 = .ok (.dup, 1) := by decide +kernel
theorem dX6_init_31 : decode cX6_init 31 = .ok (.invokespecial 11, 3) := by decide +kernel
theorem dX6_init_34 : decode cX6_init 34 = .ok (.putfield 21, 3) := by decide +kernel
theorem dX6_init_37 : decode cX6_init 37 = .ok (.aload_n 0, 1) := by decide +kernel
theorem dX6_init_38 : decode cX6_init 38 = .ok (.new 24, 3) := by decide +kernel
theorem dX6_init_41 : decode cX6_init 41 = .ok (.dup, 1) := by decide +kernel
theorem dX6_init_42 : decode cX6_init 42 = .ok (.invokespecial 26, 3) := by decide +kernel
theorem dX6_init_45 : decode cX6_init 45 = .ok (.putfield 27, 3) := by decide +kernel
theorem dX6_init_48 : decode cX6_init 48 = .ok (.aload_n 0, 1) := by decide +kernel
theorem dX6_init_49 : decode cX6_init 49 = .ok (.new 24, 3) := by decide +kernel
theorem dX6_init_52 : decode cX6_init 52 = .ok (.dup, 1) := by decide +kernel
theorem dX6_init_53 : decode cX6_init 53 = .ok (.invokespecial 26, 3) := by decide +kernel
theorem dX6_init_56 : decode cX6_init 56 = .ok (.putfield 31, 3) := by decide +kernel
theorem dX6_init_59 : decode cX6_init 59 = .ok (.aload_n 0, 1) := by decide +kernel
theorem dX6_init_60 : decode cX6_init 60 = .ok (.new 34, 3) := by decide +kernel
theorem dX6_init_63 : decode cX6_init 63 = .ok (.dup, 1) := by decide +kernel
theorem dX6_init_64 : decode cX6_init 64 = .ok (.invokespecial 36, 3) := by decide +kernel
theorem dX6_init_67 : decode cX6_init 67 = .ok (.putfield 37, 3) := by decide +kernel
theorem dX6_init_70 : decode cX6_init 70 = .ok (.aload_n 0, 1) := by decide +kernel
theorem dX6_init_71 : decode cX6_init 71 = .ok (.bipush 6, 2) := by decide +kernel
theorem dX6_init_73 : decode cX6_init 73 = .ok (.anewarray 41, 3) := by decide +kernel
theorem dX6_init_76 : decode cX6_init 76 = .ok (.putfield 43, 3) := by decide +kernel
theorem dX6_init_79 : decode cX6_init 79 = .ok (.aload_n 0, 1) := by decide +kernel
theorem dX6_init_80 : decode cX6_init 80 = .ok (.new 47, 3) := by decide +kernel
theorem dX6_init_83 : decode cX6_init 83 = .ok (.dup, 1) := by decide +kernel
theorem dX6_init_84 : decode cX6_init 84 = .ok (.invokespecial 49, 3) := by decide +kernel
theorem dX6_init_87 : decode cX6_init 87 = .ok (.putfield 50, 3) := by decide +kernel
theorem dX6_init_90 : decode cX6_init 90 = .ok (.aload_n 0, 1) := by decide +kernel
theorem dX6_init_91 : decode cX6_init 91 = .ok (.bipush 6, 2) := by decide +kernel
theorem dX6_init_93 : decode cX6_init 93 = .ok (.anewarray 54, 3) := by decide +kernel
theorem dX6_init_96 : decode cX6_init 96 = .ok (.putfield 56, 3) := by decide +kernel
theorem dX6_init_99 : decode cX6_init 99 = .ok (.aload_n 0, 1) := by decide +kernel
theorem dX6_init_100 : decode cX6_init 100 = .ok (.bipush 7, 2) := by decide +kernel
theorem dX6_init_102 : decode cX6_init 102 = .ok (.newarray .int, 2) := by decide +kernel
theorem dX6_init_104 : decode cX6_init 104 = .ok (.putfield 60, 3) := by decide +kernel
theorem dX6_init_107 : decode cX6_init 107 = .ok (.aload_n 0, 1) := by decide +kernel
theorem dX6_init_108 : decode cX6_init 108 = .ok (.bipush 7, 2) := by decide +kernel
theorem dX6_init_110 : decode cX6_init 110 = .ok (.newarray .int, 2) := by decide +kernel
theorem dX6_init_112 : decode cX6_init 112 = .ok (.putfield 64, 3) := by decide +kernel
theorem dX6_init_115 : decode cX6_init 115 = .ok (.iconst 0, 1) := by decide +kernel
theorem dX6_init_116 : decode cX6_init 116 = .ok (.istore_n 1, 1) := by decide +kernel
theorem dX6_init_117 : decode cX6_init 117 = .ok (.iload_n 1, 1) := by decide +kernel
theorem dX6_init_118 : decode cX6_init 118 = .ok (.bipush 6, 2) := by decide +kernel
theorem dX6_init_120 : decode cX6_init 120 = .ok (.if_icmp .ge 22, 3) := by decide +kernel
theorem dX6_init_123 : decode cX6_init 123 = .ok (.aload_n 0, 1) := by decide +kernel
theorem dX6_init_124 : decode cX6_init 124 = .ok (.getfield 43, 3) := by decide +kernel
theorem dX6_init_127 : decode cX6_init 127 = .ok (.iload_n 1, 1) := by decide +kernel
theorem dX6_init_128 : decode cX6_init 128 = .ok (.new 41, 3) := by decide +kernel
theorem dX6_init_131 : decode cX6_init 131 = .ok (.dup, 1) := by decide +kernel
theorem dX6_init_132 : decode cX6_init 132 = .ok (.invokespecial 67, 3) := by decide +kernel
theorem dX6_init_135 : decode cX6_init 135 = .ok (.aastore, 1) := by decide +kernel
theorem dX6_init_136 : decode cX6_init 136 = .ok (.iinc 1 1, 3) := by decide +kernel
theorem dX6_init_139 : decode cX6_init 139 = .ok (.goto (-22), 3) := by decide +kernel
theorem dX6_init_142 : decode cX6_init 142 = .ok (.iconst 0, 1) := by decide +kernel
theorem dX6_init_143 : decode cX6_init 143 = .ok (.istore_n 1, 1) := by decide +kernel
theorem dX6_init_144 : decode cX6_init 144 = .ok (.iload_n 1, 1) := by decide +kernel
theorem dX6_init_145 : decode cX6_init 145 = .ok (.bipush 6, 2) := by decide +kernel
theorem dX6_init_147 : decode cX6_init 147 = .ok (.if_icmp .ge 22, 3) := by decide +kernel
theorem dX6_init_150 : decode cX6_init 150 = .ok (.aload_n 0, 1) := by decide +kernel
theorem dX6_init_151 : decode cX6_init 151 = .ok (.getfield 56, 3) := by decide +kernel
theorem dX6_init_154 : decode cX6_init 154 = .ok (.iload_n 1, 1) := by decide +kernel
theorem dX6_init_155 : decode cX6_init 155 = .ok (.new 54, 3) := by decide +kernel
theorem dX6_init_158 : decode cX6_init 158 = .ok (.dup, 1) := by decide +kernel
theorem dX6_init_159 : decode cX6_init 159 = .ok (.invokespecial 68, 3) := by decide +kernel
theorem dX6_init_162 : decode cX6_init 162 = .ok (.aastore, 1) := by decide +kernel
theorem dX6_init_163 : decode cX6_init 163 = .ok (.iinc 1 1, 3) := by decide +kernel
theorem dX6_init_166 : decode cX6_init 166 = .ok (.goto (-22), 3) := by decide +kernel
theorem dX6_init_169 : decode cX6_init 169 = .ok (.return_, 1) := by decide +kernel
theorem dX6_house_0 : decode cX6_house 0 = .ok (.iload_n 1, 1) := by decide +kernel
theorem dX6_house_1 : decode cX6_house 1 = .ok (.invokestatic 69, 3) := by decide +kernel
theorem dX6_house_4 : decode cX6_house 4 = .ok (.ifCond .ne 5, 3) := by decide +kernel
theorem dX6_house_7 : decode cX6_house 7 = .ok (.iconst (-1), 1) := by decide +kernel
theorem dX6_house_8 : decode cX6_house 8 = .ok (.ireturn, 1) := by decide +kernel
theorem dX6_house_9 : decode cX6_house 9 = .ok (.iload_n 2, 1) := by decide +kernel
theorem dX6_house_10 : decode cX6_house 10 = .ok (.invokestatic 73, 3) := by decide +kernel
theorem dX6_house_13 : decode cX6_house 13 = .ok (.ifCond .eq 10, 3) := by decide +kernel
theorem dX6_house_16 : decode cX6_house 16 = .ok (.iload_n 3, 1) := by decide +kernel
theorem dX6_house_17 : decode cX6_house 17 = .ok (.invokestatic 76, 3) := by decide +kernel
theorem dX6_house_20 : decode cX6_house 20 = .ok (.ifCond .ne 6, 3) := by decide +kernel
theorem dX6_house_23 : decode cX6_house 23 = .ok (.bipush (-2), 2) := by decide +kernel
theorem dX6_house_25 : decode cX6_house 25 = .ok (.ireturn, 1) := by decide +kernel
theorem dX6_house_26 : decode cX6_house 26 = .ok (.aload_n 0, 1) := by decide +kernel
theorem dX6_house_27 : decode cX6_house 27 = .ok (.getfield 12, 3) := by decide +kernel
theorem dX6_house_30 : decode cX6_house 30 = .ok (.getfield 79, 3) := by decide +kernel
theorem dX6_house_33 : decode cX6_house 33 = .ok (.bipush 7, 2) := by decide +kernel
theorem dX6_house_35 : decode cX6_house 35 = .ok (.if_icmp .lt 6, 3) := by decide +kernel
theorem dX6_house_38 : decode cX6_house 38 = .ok (.bipush (-4), 2) := by decide +kernel
theorem dX6_house_40 : decode cX6_house 40 = .ok (.ireturn, 1) := by decide +kernel
theorem dX6_house_41 : decode cX6_house 41 = .ok (.aload_n 0, 1) := by decide +kernel
theorem dX6_house_42 : decode cX6_house 42 = .ok (.getfield 12, 3) := by decide +kernel
theorem dX6_house_45 : decode cX6_house 45 = .ok (.aload_n 0, 1) := by decide +kernel
theorem dX6_house_46 : decode cX6_house 46 = .ok (.getfield 12, 3) := by decide +kernel
theorem dX6_house_49 : decode cX6_house 49 = .ok (.getfield 79, 3) := by decide +kernel
theorem dX6_house_52 : decode cX6_house 52 = .ok (.iload_n 1, 1) := by decide +kernel
theorem dX6_house_53 : decode cX6_house 53 = .ok (.iload_n 2, 1) := by decide +kernel
theorem dX6_house_54 : decode cX6_house 54 = .ok (.iload_n 3, 1) := by decide +kernel
theorem dX6_house_55 : decode cX6_house 55 = .ok (.invokevirtual 83, 3) := by decide +kernel
theorem dX6_house_58 : decode cX6_house 58 = .ok (.aload_n 0, 1) := by decide +kernel
theorem dX6_house_59 : decode cX6_house 59 = .ok (.getfield 12, 3) := by decide +kernel
theorem dX6_house_62 : decode cX6_house 62 = .ok (.getfield 79, 3) := by decide +kernel
theorem dX6_house_65 : decode cX6_house 65 = .ok (.iconst 1, 1) := by decide +kernel
theorem dX6_house_66 : decode cX6_house 66 = .ok (.isub, 1) := by decide +kernel
theorem dX6_house_67 : decode cX6_house 67 = .ok (.ireturn, 1) := by decide +kernel
theorem dX6_of_0 : decode cX6_of 0 = .ok (.aload_n 0, 1) := by decide +kernel
theorem dX6_of_1 : decode cX6_of 1 = .ok (.iload_n 1, 1) := by decide +kernel
theorem dX6_of_2 : decode cX6_of 2 = .ok (.invokevirtual 87, 3) := by decide +kernel
theorem dX6_of_5 : decode cX6_of 5 = .ok (.ifCond .ne 5, 3) := by decide +kernel
theorem dX6_of_8 : decode cX6_of 8 = .ok (.iconst (-1), 1) := by decide +kernel
theorem dX6_of_9 : decode cX6_of 9 = .ok (.ireturn, 1) := by decide +kernel
theorem dX6_of_10 : decode cX6_of 10 = .ok (.iload_n 2, 1) := by decide +kernel
theorem dX6_of_11 : decode cX6_of 11 = .ok (.tableswitch 104 0 4 #[33, 43, 53, 63, 80], 33) := by decide +kernel
theorem dX6_of_44 : decode cX6_of 44 = .ok (.aload_n 0, 1) := by decide +kernel
theorem dX6_of_45 : decode cX6_of 45 = .ok (.getfield 12, 3) := by decide +kernel
theorem dX6_of_48 : decode cX6_of 48 = .ok (.getfield 90, 3) := by decide +kernel
theorem dX6_of_51 : decode cX6_of 51 = .ok (.iload_n 1, 1) := by decide +kernel
theorem dX6_of_52 : decode cX6_of 52 = .ok (.iaload, 1) := by decide +kernel
theorem dX6_of_53 : decode cX6_of 53 = .ok (.ireturn, 1) := by decide +kernel
theorem dX6_of_54 : decode cX6_of 54 = .ok (.aload_n 0, 1) := by decide +kernel
theorem dX6_of_55 : decode cX6_of 55 = .ok (.getfield 12, 3) := by decide +kernel
theorem dX6_of_58 : decode cX6_of 58 = .ok (.getfield 93, 3) := by decide +kernel
theorem dX6_of_61 : decode cX6_of 61 = .ok (.iload_n 1, 1) := by decide +kernel
theorem dX6_of_62 : decode cX6_of 62 = .ok (.iaload, 1) := by decide +kernel
theorem dX6_of_63 : decode cX6_of 63 = .ok (.ireturn, 1) := by decide +kernel
theorem dX6_of_64 : decode cX6_of 64 = .ok (.aload_n 0, 1) := by decide +kernel
theorem dX6_of_65 : decode cX6_of 65 = .ok (.getfield 12, 3) := by decide +kernel
theorem dX6_of_68 : decode cX6_of 68 = .ok (.getfield 96, 3) := by decide +kernel
theorem dX6_of_71 : decode cX6_of 71 = .ok (.iload_n 1, 1) := by decide +kernel
theorem dX6_of_72 : decode cX6_of 72 = .ok (.iaload, 1) := by decide +kernel
theorem dX6_of_73 : decode cX6_of 73 = .ok (.ireturn, 1) := by decide +kernel
theorem dX6_of_74 : decode cX6_of 74 = .ok (.aload_n 0, 1) := by decide +kernel
theorem dX6_of_75 : decode cX6_of 75 = .ok (.getfield 12, 3) := by decide +kernel
theorem dX6_of_78 : decode cX6_of 78 = .ok (.invokevirtual 99, 3) := by decide +kernel
theorem dX6_of_81 : decode cX6_of 81 = .ok (.aload_n 0, 1) := by decide +kernel
theorem dX6_of_82 : decode cX6_of 82 = .ok (.getfield 12, 3) := by decide +kernel
theorem dX6_of_85 : decode cX6_of 85 = .ok (.getfield 102, 3) := by decide +kernel
theorem dX6_of_88 : decode cX6_of 88 = .ok (.iload_n 1, 1) := by decide +kernel
theorem dX6_of_89 : decode cX6_of 89 = .ok (.iaload, 1) := by decide +kernel
theorem dX6_of_90 : decode cX6_of 90 = .ok (.ireturn, 1) := by decide +kernel
theorem dX6_of_91 : decode cX6_of 91 = .ok (.aload_n 0, 1) := by decide +kernel
theorem dX6_of_92 : decode cX6_of 92 = .ok (.getfield 12, 3) := by decide +kernel
theorem dX6_of_95 : decode cX6_of 95 = .ok (.invokevirtual 99, 3) := by decide +kernel
theorem dX6_of_98 : decode cX6_of 98 = .ok (.aload_n 0, 1) := by decide +kernel
theorem dX6_of_99 : decode cX6_of 99 = .ok (.getfield 12, 3) := by decide +kernel
theorem dX6_of_102 : decode cX6_of 102 = .ok (.invokevirtual 105, 3) := by decide +kernel
theorem dX6_of_105 : decode cX6_of 105 = .ok (.aload_n 0, 1) := by decide +kernel
theorem dX6_of_106 : decode cX6_of 106 = .ok (.getfield 12, 3) := by decide +kernel
theorem dX6_of_109 : decode cX6_of 109 = .ok (.getfield 108, 3) := by decide +kernel
theorem dX6_of_112 : decode cX6_of 112 = .ok (.iload_n 1, 1) := by decide +kernel
theorem dX6_of_113 : decode cX6_of 113 = .ok (.iaload, 1) := by decide +kernel
theorem dX6_of_114 : decode cX6_of 114 = .ok (.ireturn, 1) := by decide +kernel
theorem dX6_of_115 : decode cX6_of 115 = .ok (.iconst (-1), 1) := by decide +kernel
theorem dX6_of_116 : decode cX6_of 116 = .ok (.ireturn, 1) := by decide +kernel
theorem dX6_earn_0 : decode cX6_earn 0 = .ok (.aload_n 0, 1) := by decide +kernel
theorem dX6_earn_1 : decode cX6_earn 1 = .ok (.iload_n 1, 1) := by decide +kernel
theorem dX6_earn_2 : decode cX6_earn 2 = .ok (.invokevirtual 87, 3) := by decide +kernel
theorem dX6_earn_5 : decode cX6_earn 5 = .ok (.ifCond .ne 5, 3) := by decide +kernel
theorem dX6_earn_8 : decode cX6_earn 8 = .ok (.iconst (-1), 1) := by decide +kernel
theorem dX6_earn_9 : decode cX6_earn 9 = .ok (.ireturn, 1) := by decide +kernel
theorem dX6_earn_10 : decode cX6_earn 10 = .ok (.iload_n 2, 1) := by decide +kernel
theorem dX6_earn_11 : decode cX6_earn 11 = .ok (.invokestatic 76, 3) := by decide +kernel
theorem dX6_earn_14 : decode cX6_earn 14 = .ok (.ifCond .ne 6, 3) := by decide +kernel
theorem dX6_earn_17 : decode cX6_earn 17 = .ok (.bipush (-2), 2) := by decide +kernel
theorem dX6_earn_19 : decode cX6_earn 19 = .ok (.ireturn, 1) := by decide +kernel
theorem dX6_earn_20 : decode cX6_earn 20 = .ok (.aload_n 0, 1) := by decide +kernel
theorem dX6_earn_21 : decode cX6_earn 21 = .ok (.getfield 12, 3) := by decide +kernel
theorem dX6_earn_24 : decode cX6_earn 24 = .ok (.getfield 96, 3) := by decide +kernel
theorem dX6_earn_27 : decode cX6_earn 27 = .ok (.iload_n 1, 1) := by decide +kernel
theorem dX6_earn_28 : decode cX6_earn 28 = .ok (.iaload, 1) := by decide +kernel
theorem dX6_earn_29 : decode cX6_earn 29 = .ok (.istore_n 3, 1) := by decide +kernel
theorem dX6_earn_30 : decode cX6_earn 30 = .ok (.aload_n 0, 1) := by decide +kernel
theorem dX6_earn_31 : decode cX6_earn 31 = .ok (.getfield 12, 3) := by decide +kernel
theorem dX6_earn_34 : decode cX6_earn 34 = .ok (.getfield 96, 3) := by decide +kernel
theorem dX6_earn_37 : decode cX6_earn 37 = .ok (.iload_n 1, 1) := by decide +kernel
theorem dX6_earn_38 : decode cX6_earn 38 = .ok (.iload_n 2, 1) := by decide +kernel
theorem dX6_earn_39 : decode cX6_earn 39 = .ok (.iastore, 1) := by decide +kernel
theorem dX6_earn_40 : decode cX6_earn 40 = .ok (.iload_n 3, 1) := by decide +kernel
theorem dX6_earn_41 : decode cX6_earn 41 = .ok (.ireturn, 1) := by decide +kernel
theorem dX6_row_0 : decode cX6_row 0 = .ok (.aload_n 0, 1) := by decide +kernel
theorem dX6_row_1 : decode cX6_row 1 = .ok (.iload_n 1, 1) := by decide +kernel
theorem dX6_row_2 : decode cX6_row 2 = .ok (.invokevirtual 87, 3) := by decide +kernel
theorem dX6_row_5 : decode cX6_row 5 = .ok (.ifCond .eq 12, 3) := by decide +kernel
theorem dX6_row_8 : decode cX6_row 8 = .ok (.iload_n 2, 1) := by decide +kernel
theorem dX6_row_9 : decode cX6_row 9 = .ok (.ifCond .lt 8, 3) := by decide +kernel
theorem dX6_row_12 : decode cX6_row 12 = .ok (.iload_n 2, 1) := by decide +kernel
theorem dX6_row_13 : decode cX6_row 13 = .ok (.iconst 4, 1) := by decide +kernel
theorem dX6_row_14 : decode cX6_row 14 = .ok (.if_icmp .lt 5, 3) := by decide +kernel
theorem dX6_row_17 : decode cX6_row 17 = .ok (.iconst (-1), 1) := by decide +kernel
theorem dX6_row_18 : decode cX6_row 18 = .ok (.ireturn, 1) := by decide +kernel
theorem dX6_row_19 : decode cX6_row 19 = .ok (.iload_n 3, 1) := by decide +kernel
theorem dX6_row_20 : decode cX6_row 20 = .ok (.ifCond .lt 8, 3) := by decide +kernel
theorem dX6_row_23 : decode cX6_row 23 = .ok (.iload_n 3, 1) := by decide +kernel
theorem dX6_row_24 : decode cX6_row 24 = .ok (.iconst 5, 1) := by decide +kernel
theorem dX6_row_25 : decode cX6_row 25 = .ok (.if_icmp .lt 6, 3) := by decide +kernel
theorem dX6_row_28 : decode cX6_row 28 = .ok (.bipush (-2), 2) := by decide +kernel
theorem dX6_row_30 : decode cX6_row 30 = .ok (.ireturn, 1) := by decide +kernel
theorem dX6_row_31 : decode cX6_row 31 = .ok (.aload_n 0, 1) := by decide +kernel
theorem dX6_row_32 : decode cX6_row 32 = .ok (.getfield 12, 3) := by decide +kernel
theorem dX6_row_35 : decode cX6_row 35 = .ok (.getfield 90, 3) := by decide +kernel
theorem dX6_row_38 : decode cX6_row 38 = .ok (.iload_n 1, 1) := by decide +kernel
theorem dX6_row_39 : decode cX6_row 39 = .ok (.iaload, 1) := by decide +kernel
theorem dX6_row_40 : decode cX6_row 40 = .ok (.bipush 6, 2) := by decide +kernel
theorem dX6_row_42 : decode cX6_row 42 = .ok (.if_icmp .eq 6, 3) := by decide +kernel
theorem dX6_row_45 : decode cX6_row 45 = .ok (.bipush (-3), 2) := by decide +kernel
theorem dX6_row_47 : decode cX6_row 47 = .ok (.ireturn, 1) := by decide +kernel
theorem dX6_row_48 : decode cX6_row 48 = .ok (.aload_n 0, 1) := by decide +kernel
theorem dX6_row_49 : decode cX6_row 49 = .ok (.getfield 12, 3) := by decide +kernel
theorem dX6_row_52 : decode cX6_row 52 = .ok (.getfield 111, 3) := by decide +kernel
theorem dX6_row_55 : decode cX6_row 55 = .ok (.iload_n 1, 1) := by decide +kernel
theorem dX6_row_56 : decode cX6_row 56 = .ok (.iconst 4, 1) := by decide +kernel
theorem dX6_row_57 : decode cX6_row 57 = .ok (.imul, 1) := by decide +kernel
theorem dX6_row_58 : decode cX6_row 58 = .ok (.iload_n 2, 1) := by decide +kernel
theorem dX6_row_59 : decode cX6_row 59 = .ok (.iadd, 1) := by decide +kernel
theorem dX6_row_60 : decode cX6_row 60 = .ok (.iaload, 1) := by decide +kernel
theorem dX6_row_61 : decode cX6_row 61 = .ok (.istore 4, 2) := by decide +kernel
theorem dX6_row_63 : decode cX6_row 63 = .ok (.aload_n 0, 1) := by decide +kernel
theorem dX6_row_64 : decode cX6_row 64 = .ok (.getfield 12, 3) := by decide +kernel
theorem dX6_row_67 : decode cX6_row 67 = .ok (.getfield 111, 3) := by decide +kernel
theorem dX6_row_70 : decode cX6_row 70 = .ok (.iload_n 1, 1) := by decide +kernel
theorem dX6_row_71 : decode cX6_row 71 = .ok (.iconst 4, 1) := by decide +kernel
theorem dX6_row_72 : decode cX6_row 72 = .ok (.imul, 1) := by decide +kernel
theorem dX6_row_73 : decode cX6_row 73 = .ok (.iload_n 2, 1) := by decide +kernel
theorem dX6_row_74 : decode cX6_row 74 = .ok (.iadd, 1) := by decide +kernel
theorem dX6_row_75 : decode cX6_row 75 = .ok (.iload_n 3, 1) := by decide +kernel
theorem dX6_row_76 : decode cX6_row 76 = .ok (.iastore, 1) := by decide +kernel
theorem dX6_row_77 : decode cX6_row 77 = .ok (.iload 4, 2) := by decide +kernel
theorem dX6_row_79 : decode cX6_row 79 = .ok (.ireturn, 1) := by decide +kernel
theorem dX6_feed_0 : decode cX6_feed 0 = .ok (.iload_n 1, 1) := by decide +kernel
theorem dX6_feed_1 : decode cX6_feed 1 = .ok (.ifCond .lt 9, 3) := by decide +kernel
theorem dX6_feed_4 : decode cX6_feed 4 = .ok (.iload_n 1, 1) := by decide +kernel
theorem dX6_feed_5 : decode cX6_feed 5 = .ok (.bipush 127, 2) := by decide +kernel
theorem dX6_feed_7 : decode cX6_feed 7 = .ok (.if_icmp .le 6, 3) := by decide +kernel
theorem dX6_feed_10 : decode cX6_feed 10 = .ok (.bipush (-2), 2) := by decide +kernel
theorem dX6_feed_12 : decode cX6_feed 12 = .ok (.ireturn, 1) := by decide +kernel
theorem dX6_feed_13 : decode cX6_feed 13 = .ok (.aload_n 0, 1) := by decide +kernel
theorem dX6_feed_14 : decode cX6_feed 14 = .ok (.getfield 37, 3) := by decide +kernel
theorem dX6_feed_17 : decode cX6_feed 17 = .ok (.iload_n 1, 1) := by decide +kernel
theorem dX6_feed_18 : decode cX6_feed 18 = .ok (.invokevirtual 114, 3) := by decide +kernel
theorem dX6_feed_21 : decode cX6_feed 21 = .ok (.ireturn, 1) := by decide +kernel
theorem dX6_street_0 : decode cX6_street 0 = .ok (.aload_n 0, 1) := by decide +kernel
theorem dX6_street_1 : decode cX6_street 1 = .ok (.getfield 118, 3) := by decide +kernel
theorem dX6_street_4 : decode cX6_street 4 = .ok (.bipush 6, 2) := by decide +kernel
theorem dX6_street_6 : decode cX6_street 6 = .ok (.if_icmp .lt 6, 3) := by decide +kernel
theorem dX6_street_9 : decode cX6_street 9 = .ok (.bipush (-4), 2) := by decide +kernel
theorem dX6_street_11 : decode cX6_street 11 = .ok (.ireturn, 1) := by decide +kernel
theorem dX6_street_12 : decode cX6_street 12 = .ok (.aload_n 0, 1) := by decide +kernel
theorem dX6_street_13 : decode cX6_street 13 = .ok (.getfield 37, 3) := by decide +kernel
theorem dX6_street_16 : decode cX6_street 16 = .ok (.invokevirtual 121, 3) := by decide +kernel
theorem dX6_street_19 : decode cX6_street 19 = .ok (.istore_n 1, 1) := by decide +kernel
theorem dX6_street_20 : decode cX6_street 20 = .ok (.aload_n 0, 1) := by decide +kernel
theorem dX6_street_21 : decode cX6_street 21 = .ok (.getfield 37, 3) := by decide +kernel
theorem dX6_street_24 : decode cX6_street 24 = .ok (.invokevirtual 125, 3) := by decide +kernel
theorem dX6_street_27 : decode cX6_street 27 = .ok (.iload_n 1, 1) := by decide +kernel
theorem dX6_street_28 : decode cX6_street 28 = .ok (.iconst (-1), 1) := by decide +kernel
theorem dX6_street_29 : decode cX6_street 29 = .ok (.if_icmp .eq 8, 3) := by decide +kernel
theorem dX6_street_32 : decode cX6_street 32 = .ok (.bipush (-10), 2) := by decide +kernel
theorem dX6_street_34 : decode cX6_street 34 = .ok (.iload_n 1, 1) := by decide +kernel
theorem dX6_street_35 : decode cX6_street 35 = .ok (.isub, 1) := by decide +kernel
theorem dX6_street_36 : decode cX6_street 36 = .ok (.ireturn, 1) := by decide +kernel
theorem dX6_street_37 : decode cX6_street 37 = .ok (.aload_n 0, 1) := by decide +kernel
theorem dX6_street_38 : decode cX6_street 38 = .ok (.getfield 43, 3) := by decide +kernel
theorem dX6_street_41 : decode cX6_street 41 = .ok (.aload_n 0, 1) := by decide +kernel
theorem dX6_street_42 : decode cX6_street 42 = .ok (.getfield 118, 3) := by decide +kernel
theorem dX6_street_45 : decode cX6_street 45 = .ok (.aaload, 1) := by decide +kernel
theorem dX6_street_46 : decode cX6_street 46 = .ok (.astore_n 2, 1) := by decide +kernel
theorem dX6_street_47 : decode cX6_street 47 = .ok (.aload_n 2, 1) := by decide +kernel
theorem dX6_street_48 : decode cX6_street 48 = .ok (.aload_n 0, 1) := by decide +kernel
theorem dX6_street_49 : decode cX6_street 49 = .ok (.getfield 37, 3) := by decide +kernel
theorem dX6_street_52 : decode cX6_street 52 = .ok (.getfield 128, 3) := by decide +kernel
theorem dX6_street_55 : decode cX6_street 55 = .ok (.invokevirtual 132, 3) := by decide +kernel
theorem dX6_street_58 : decode cX6_street 58 = .ok (.aload_n 0, 1) := by decide +kernel
theorem dX6_street_59 : decode cX6_street 59 = .ok (.getfield 12, 3) := by decide +kernel
theorem dX6_street_62 : decode cX6_street 62 = .ok (.aload_n 2, 1) := by decide +kernel
theorem dX6_street_63 : decode cX6_street 63 = .ok (.putfield 136, 3) := by decide +kernel
theorem dX6_street_66 : decode cX6_street 66 = .ok (.aload_n 0, 1) := by decide +kernel
theorem dX6_street_67 : decode cX6_street 67 = .ok (.dup, 1) := by decide +kernel
theorem dX6_street_68 : decode cX6_street 68 = .ok (.getfield 118, 3) := by decide +kernel
theorem dX6_street_71 : decode cX6_street 71 = .ok (.iconst 1, 1) := by decide +kernel
theorem dX6_street_72 : decode cX6_street 72 = .ok (.iadd, 1) := by decide +kernel
theorem dX6_street_73 : decode cX6_street 73 = .ok (.putfield 118, 3) := by decide +kernel
theorem dX6_street_76 : decode cX6_street 76 = .ok (.aload_n 0, 1) := by decide +kernel
theorem dX6_street_77 : decode cX6_street 77 = .ok (.getfield 118, 3) := by decide +kernel
theorem dX6_street_80 : decode cX6_street 80 = .ok (.iconst 1, 1) := by decide +kernel
theorem dX6_street_81 : decode cX6_street 81 = .ok (.isub, 1) := by decide +kernel
theorem dX6_street_82 : decode cX6_street 82 = .ok (.ireturn, 1) := by decide +kernel
theorem dX6_told_0 : decode cX6_told 0 = .ok (.iload_n 1, 1) := by decide +kernel
theorem dX6_told_1 : decode cX6_told 1 = .ok (.tableswitch 59 0 2 #[27, 35, 51], 27) := by decide +kernel
theorem dX6_told_28 : decode cX6_told 28 = .ok (.aload_n 0, 1) := by decide +kernel
theorem dX6_told_29 : decode cX6_told 29 = .ok (.getfield 12, 3) := by decide +kernel
theorem dX6_told_32 : decode cX6_told 32 = .ok (.getfield 137, 3) := by decide +kernel
theorem dX6_told_35 : decode cX6_told 35 = .ok (.ireturn, 1) := by decide +kernel
theorem dX6_told_36 : decode cX6_told 36 = .ok (.aload_n 0, 1) := by decide +kernel
theorem dX6_told_37 : decode cX6_told 37 = .ok (.getfield 12, 3) := by decide +kernel
theorem dX6_told_40 : decode cX6_told 40 = .ok (.invokevirtual 140, 3) := by decide +kernel
theorem dX6_told_43 : decode cX6_told 43 = .ok (.ifCond .eq 7, 3) := by decide +kernel
theorem dX6_told_46 : decode cX6_told 46 = .ok (.iconst 1, 1) := by decide +kernel
theorem dX6_told_47 : decode cX6_told 47 = .ok (.goto 4, 3) := by decide +kernel
theorem dX6_told_50 : decode cX6_told 50 = .ok (.iconst 0, 1) := by decide +kernel
theorem dX6_told_51 : decode cX6_told 51 = .ok (.ireturn, 1) := by decide +kernel
theorem dX6_told_52 : decode cX6_told 52 = .ok (.aload_n 0, 1) := by decide +kernel
theorem dX6_told_53 : decode cX6_told 53 = .ok (.getfield 12, 3) := by decide +kernel
theorem dX6_told_56 : decode cX6_told 56 = .ok (.invokevirtual 144, 3) := by decide +kernel
theorem dX6_told_59 : decode cX6_told 59 = .ok (.ireturn, 1) := by decide +kernel
theorem dX6_told_60 : decode cX6_told 60 = .ok (.iconst (-1), 1) := by decide +kernel
theorem dX6_told_61 : decode cX6_told 61 = .ok (.ireturn, 1) := by decide +kernel
theorem dX6_year_0 : decode cX6_year 0 = .ok (.aload_n 0, 1) := by decide +kernel
theorem dX6_year_1 : decode cX6_year 1 = .ok (.getfield 12, 3) := by decide +kernel
theorem dX6_year_4 : decode cX6_year 4 = .ok (.getfield 137, 3) := by decide +kernel
theorem dX6_year_7 : decode cX6_year 7 = .ok (.sipush 999, 3) := by decide +kernel
theorem dX6_year_10 : decode cX6_year 10 = .ok (.if_icmp .lt 6, 3) := by decide +kernel
theorem dX6_year_13 : decode cX6_year 13 = .ok (.bipush (-3), 2) := by decide +kernel
theorem dX6_year_15 : decode cX6_year 15 = .ok (.ireturn, 1) := by decide +kernel
theorem dX6_year_16 : decode cX6_year 16 = .ok (.aload_n 0, 1) := by decide +kernel
theorem dX6_year_17 : decode cX6_year 17 = .ok (.getfield 12, 3) := by decide +kernel
theorem dX6_year_20 : decode cX6_year 20 = .ok (.iconst 1, 1) := by decide +kernel
theorem dX6_year_21 : decode cX6_year 21 = .ok (.invokevirtual 147, 3) := by decide +kernel
theorem dX6_year_24 : decode cX6_year 24 = .ok (.aload_n 0, 1) := by decide +kernel
theorem dX6_year_25 : decode cX6_year 25 = .ok (.getfield 12, 3) := by decide +kernel
theorem dX6_year_28 : decode cX6_year 28 = .ok (.getfield 137, 3) := by decide +kernel
theorem dX6_year_31 : decode cX6_year 31 = .ok (.ireturn, 1) := by decide +kernel
theorem dX6_at_0 : decode cX6_at 0 = .ok (.aload_n 0, 1) := by decide +kernel
theorem dX6_at_1 : decode cX6_at 1 = .ok (.iload_n 2, 1) := by decide +kernel
theorem dX6_at_2 : decode cX6_at 2 = .ok (.invokevirtual 87, 3) := by decide +kernel
theorem dX6_at_5 : decode cX6_at 5 = .ok (.istore_n 3, 1) := by decide +kernel
theorem dX6_at_6 : decode cX6_at 6 = .ok (.iload_n 3, 1) := by decide +kernel
theorem dX6_at_7 : decode cX6_at 7 = .ok (.ifCond .ne 11, 3) := by decide +kernel
theorem dX6_at_10 : decode cX6_at 10 = .ok (.iload_n 2, 1) := by decide +kernel
theorem dX6_at_11 : decode cX6_at 11 = .ok (.bipush 10, 2) := by decide +kernel
theorem dX6_at_13 : decode cX6_at 13 = .ok (.if_icmp .eq 5, 3) := by decide +kernel
theorem dX6_at_16 : decode cX6_at 16 = .ok (.iconst (-1), 1) := by decide +kernel
theorem dX6_at_17 : decode cX6_at 17 = .ok (.ireturn, 1) := by decide +kernel
theorem dX6_at_18 : decode cX6_at 18 = .ok (.iload_n 1, 1) := by decide +kernel
theorem dX6_at_19 : decode cX6_at 19 = .ok (.ifCond .lt 9, 3) := by decide +kernel
theorem dX6_at_22 : decode cX6_at 22 = .ok (.iload_n 1, 1) := by decide +kernel
theorem dX6_at_23 : decode cX6_at 23 = .ok (.bipush 60, 2) := by decide +kernel
theorem dX6_at_25 : decode cX6_at 25 = .ok (.if_icmp .le 6, 3) := by decide +kernel
theorem dX6_at_28 : decode cX6_at 28 = .ok (.bipush (-2), 2) := by decide +kernel
theorem dX6_at_30 : decode cX6_at 30 = .ok (.ireturn, 1) := by decide +kernel
theorem dX6_at_31 : decode cX6_at 31 = .ok (.aload_n 0, 1) := by decide +kernel
theorem dX6_at_32 : decode cX6_at 32 = .ok (.getfield 18, 3) := by decide +kernel
theorem dX6_at_35 : decode cX6_at 35 = .ok (.aload_n 0, 1) := by decide +kernel
theorem dX6_at_36 : decode cX6_at 36 = .ok (.getfield 12, 3) := by decide +kernel
theorem dX6_at_39 : decode cX6_at 39 = .ok (.invokevirtual 151, 3) := by decide +kernel
theorem dX6_at_42 : decode cX6_at 42 = .ok (.aload_n 0, 1) := by decide +kernel
theorem dX6_at_43 : decode cX6_at 43 = .ok (.getfield 18, 3) := by decide +kernel
theorem dX6_at_46 : decode cX6_at 46 = .ok (.iload_n 1, 1) := by decide +kernel
theorem dX6_at_47 : decode cX6_at 47 = .ok (.invokevirtual 147, 3) := by decide +kernel
theorem dX6_at_50 : decode cX6_at 50 = .ok (.iload_n 3, 1) := by decide +kernel
theorem dX6_at_51 : decode cX6_at 51 = .ok (.ifCond .eq 15, 3) := by decide +kernel
theorem dX6_at_54 : decode cX6_at 54 = .ok (.aload_n 0, 1) := by decide +kernel
theorem dX6_at_55 : decode cX6_at 55 = .ok (.getfield 18, 3) := by decide +kernel
theorem dX6_at_58 : decode cX6_at 58 = .ok (.getfield 96, 3) := by decide +kernel
theorem dX6_at_61 : decode cX6_at 61 = .ok (.iload_n 2, 1) := by decide +kernel
theorem dX6_at_62 : decode cX6_at 62 = .ok (.iaload, 1) := by decide +kernel
theorem dX6_at_63 : decode cX6_at 63 = .ok (.goto 10, 3) := by decide +kernel
theorem dX6_at_66 : decode cX6_at 66 = .ok (.aload_n 0, 1) := by decide +kernel
theorem dX6_at_67 : decode cX6_at 67 = .ok (.getfield 18, 3) := by decide +kernel
theorem dX6_at_70 : decode cX6_at 70 = .ok (.invokevirtual 144, 3) := by decide +kernel
theorem dX6_at_73 : decode cX6_at 73 = .ok (.ireturn, 1) := by decide +kernel
theorem dX6_stays_0 : decode cX6_stays 0 = .ok (.aload_n 0, 1) := by decide +kernel
theorem dX6_stays_1 : decode cX6_stays 1 = .ok (.getfield 18, 3) := by decide +kernel
theorem dX6_stays_4 : decode cX6_stays 4 = .ok (.aload_n 0, 1) := by decide +kernel
theorem dX6_stays_5 : decode cX6_stays 5 = .ok (.getfield 12, 3) := by decide +kernel
theorem dX6_stays_8 : decode cX6_stays 8 = .ok (.invokevirtual 151, 3) := by decide +kernel
theorem dX6_stays_11 : decode cX6_stays 11 = .ok (.iconst 0, 1) := by decide +kernel
theorem dX6_stays_12 : decode cX6_stays 12 = .ok (.istore_n 1, 1) := by decide +kernel
theorem dX6_stays_13 : decode cX6_stays 13 = .ok (.iload_n 1, 1) := by decide +kernel
theorem dX6_stays_14 : decode cX6_stays 14 = .ok (.bipush 60, 2) := by decide +kernel
theorem dX6_stays_16 : decode cX6_stays 16 = .ok (.if_icmp .gt 30, 3) := by decide +kernel
theorem dX6_stays_19 : decode cX6_stays 19 = .ok (.aload_n 0, 1) := by decide +kernel
theorem dX6_stays_20 : decode cX6_stays 20 = .ok (.invokevirtual 154, 3) := by decide +kernel
theorem dX6_stays_23 : decode cX6_stays 23 = .ok (.aload_n 0, 1) := by decide +kernel
theorem dX6_stays_24 : decode cX6_stays 24 = .ok (.getfield 18, 3) := by decide +kernel
theorem dX6_stays_27 : decode cX6_stays 27 = .ok (.iconst 1, 1) := by decide +kernel
theorem dX6_stays_28 : decode cX6_stays 28 = .ok (.invokevirtual 147, 3) := by decide +kernel
theorem dX6_stays_31 : decode cX6_stays 31 = .ok (.aload_n 0, 1) := by decide +kernel
theorem dX6_stays_32 : decode cX6_stays 32 = .ok (.invokevirtual 157, 3) := by decide +kernel
theorem dX6_stays_35 : decode cX6_stays 35 = .ok (.ifCond .ne 5, 3) := by decide +kernel
theorem dX6_stays_38 : decode cX6_stays 38 = .ok (.iload_n 1, 1) := by decide +kernel
theorem dX6_stays_39 : decode cX6_stays 39 = .ok (.ireturn, 1) := by decide +kernel
theorem dX6_stays_40 : decode cX6_stays 40 = .ok (.iinc 1 1, 3) := by decide +kernel
theorem dX6_stays_43 : decode cX6_stays 43 = .ok (.goto (-30), 3) := by decide +kernel
theorem dX6_stays_46 : decode cX6_stays 46 = .ok (.bipush (-5), 2) := by decide +kernel
theorem dX6_stays_48 : decode cX6_stays 48 = .ok (.ireturn, 1) := by decide +kernel
theorem dX6_swings_0 : decode cX6_swings 0 = .ok (.aload_n 0, 1) := by decide +kernel
theorem dX6_swings_1 : decode cX6_swings 1 = .ok (.getfield 18, 3) := by decide +kernel
theorem dX6_swings_4 : decode cX6_swings 4 = .ok (.aload_n 0, 1) := by decide +kernel
theorem dX6_swings_5 : decode cX6_swings 5 = .ok (.getfield 12, 3) := by decide +kernel
theorem dX6_swings_8 : decode cX6_swings 8 = .ok (.invokevirtual 151, 3) := by decide +kernel
theorem dX6_swings_11 : decode cX6_swings 11 = .ok (.aload_n 0, 1) := by decide +kernel
theorem dX6_swings_12 : decode cX6_swings 12 = .ok (.getfield 18, 3) := by decide +kernel
theorem dX6_swings_15 : decode cX6_swings 15 = .ok (.bipush 40, 2) := by decide +kernel
theorem dX6_swings_17 : decode cX6_swings 17 = .ok (.invokevirtual 147, 3) := by decide +kernel
theorem dX6_swings_20 : decode cX6_swings 20 = .ok (.aload_n 0, 1) := by decide +kernel
theorem dX6_swings_21 : decode cX6_swings 21 = .ok (.invokevirtual 154, 3) := by decide +kernel
theorem dX6_swings_24 : decode cX6_swings 24 = .ok (.iconst 1, 1) := by decide +kernel
theorem dX6_swings_25 : decode cX6_swings 25 = .ok (.istore_n 1, 1) := by decide +kernel
theorem dX6_swings_26 : decode cX6_swings 26 = .ok (.iload_n 1, 1) := by decide +kernel
theorem dX6_swings_27 : decode cX6_swings 27 = .ok (.bipush 20, 2) := by decide +kernel
theorem dX6_swings_29 : decode cX6_swings 29 = .ok (.if_icmp .gt 26, 3) := by decide +kernel
theorem dX6_swings_32 : decode cX6_swings 32 = .ok (.aload_n 0, 1) := by decide +kernel
theorem dX6_swings_33 : decode cX6_swings 33 = .ok (.getfield 18, 3) := by decide +kernel
theorem dX6_swings_36 : decode cX6_swings 36 = .ok (.iconst 1, 1) := by decide +kernel
theorem dX6_swings_37 : decode cX6_swings 37 = .ok (.invokevirtual 147, 3) := by decide +kernel
theorem dX6_swings_40 : decode cX6_swings 40 = .ok (.aload_n 0, 1) := by decide +kernel
theorem dX6_swings_41 : decode cX6_swings 41 = .ok (.invokevirtual 157, 3) := by decide +kernel
theorem dX6_swings_44 : decode cX6_swings 44 = .ok (.ifCond .ne 5, 3) := by decide +kernel
theorem dX6_swings_47 : decode cX6_swings 47 = .ok (.iload_n 1, 1) := by decide +kernel
theorem dX6_swings_48 : decode cX6_swings 48 = .ok (.ireturn, 1) := by decide +kernel
theorem dX6_swings_49 : decode cX6_swings 49 = .ok (.iinc 1 1, 3) := by decide +kernel
theorem dX6_swings_52 : decode cX6_swings 52 = .ok (.goto (-26), 3) := by decide +kernel
theorem dX6_swings_55 : decode cX6_swings 55 = .ok (.bipush (-5), 2) := by decide +kernel
theorem dX6_swings_57 : decode cX6_swings 57 = .ok (.ireturn, 1) := by decide +kernel
theorem dX6_gift_0 : decode cX6_gift 0 = .ok (.aload_n 0, 1) := by decide +kernel
theorem dX6_gift_1 : decode cX6_gift 1 = .ok (.iload_n 1, 1) := by decide +kernel
theorem dX6_gift_2 : decode cX6_gift 2 = .ok (.invokevirtual 87, 3) := by decide +kernel
theorem dX6_gift_5 : decode cX6_gift 5 = .ok (.ifCond .eq 10, 3) := by decide +kernel
theorem dX6_gift_8 : decode cX6_gift 8 = .ok (.iload_n 3, 1) := by decide +kernel
theorem dX6_gift_9 : decode cX6_gift 9 = .ok (.invokestatic 160, 3) := by decide +kernel
theorem dX6_gift_12 : decode cX6_gift 12 = .ok (.ifCond .ne 7, 3) := by decide +kernel
theorem dX6_gift_15 : decode cX6_gift 15 = .ok (.sipush (-1001), 3) := by decide +kernel
theorem dX6_gift_18 : decode cX6_gift 18 = .ok (.ireturn, 1) := by decide +kernel
theorem dX6_gift_19 : decode cX6_gift 19 = .ok (.iload_n 2, 1) := by decide +kernel
theorem dX6_gift_20 : decode cX6_gift 20 = .ok (.invokestatic 76, 3) := by decide +kernel
theorem dX6_gift_23 : decode cX6_gift 23 = .ok (.ifCond .ne 7, 3) := by decide +kernel
theorem dX6_gift_26 : decode cX6_gift 26 = .ok (.sipush (-1002), 3) := by decide +kernel
theorem dX6_gift_29 : decode cX6_gift 29 = .ok (.ireturn, 1) := by decide +kernel
theorem dX6_gift_30 : decode cX6_gift 30 = .ok (.aload_n 0, 1) := by decide +kernel
theorem dX6_gift_31 : decode cX6_gift 31 = .ok (.getfield 18, 3) := by decide +kernel
theorem dX6_gift_34 : decode cX6_gift 34 = .ok (.aload_n 0, 1) := by decide +kernel
theorem dX6_gift_35 : decode cX6_gift 35 = .ok (.getfield 12, 3) := by decide +kernel
theorem dX6_gift_38 : decode cX6_gift 38 = .ok (.invokevirtual 151, 3) := by decide +kernel
theorem dX6_gift_41 : decode cX6_gift 41 = .ok (.aload_n 0, 1) := by decide +kernel
theorem dX6_gift_42 : decode cX6_gift 42 = .ok (.getfield 18, 3) := by decide +kernel
theorem dX6_gift_45 : decode cX6_gift 45 = .ok (.bipush 40, 2) := by decide +kernel
theorem dX6_gift_47 : decode cX6_gift 47 = .ok (.invokevirtual 147, 3) := by decide +kernel
theorem dX6_gift_50 : decode cX6_gift 50 = .ok (.aload_n 0, 1) := by decide +kernel
theorem dX6_gift_51 : decode cX6_gift 51 = .ok (.getfield 18, 3) := by decide +kernel
theorem dX6_gift_54 : decode cX6_gift 54 = .ok (.invokevirtual 144, 3) := by decide +kernel
theorem dX6_gift_57 : decode cX6_gift 57 = .ok (.istore 4, 2) := by decide +kernel
theorem dX6_gift_59 : decode cX6_gift 59 = .ok (.aload_n 0, 1) := by decide +kernel
theorem dX6_gift_60 : decode cX6_gift 60 = .ok (.getfield 18, 3) := by decide +kernel
theorem dX6_gift_63 : decode cX6_gift 63 = .ok (.getfield 96, 3) := by decide +kernel
theorem dX6_gift_66 : decode cX6_gift 66 = .ok (.iload_n 1, 1) := by decide +kernel
theorem dX6_gift_67 : decode cX6_gift 67 = .ok (.iaload, 1) := by decide +kernel
theorem dX6_gift_68 : decode cX6_gift 68 = .ok (.istore 5, 2) := by decide +kernel
theorem dX6_gift_70 : decode cX6_gift 70 = .ok (.aload_n 0, 1) := by decide +kernel
theorem dX6_gift_71 : decode cX6_gift 71 = .ok (.getfield 18, 3) := by decide +kernel
theorem dX6_gift_74 : decode cX6_gift 74 = .ok (.aload_n 0, 1) := by decide +kernel
theorem dX6_gift_75 : decode cX6_gift 75 = .ok (.getfield 12, 3) := by decide +kernel
theorem dX6_gift_78 : decode cX6_gift 78 = .ok (.invokevirtual 151, 3) := by decide +kernel
theorem dX6_gift_81 : decode cX6_gift 81 = .ok (.aload_n 0, 1) := by decide +kernel
theorem dX6_gift_82 : decode cX6_gift 82 = .ok (.getfield 18, 3) := by decide +kernel
theorem dX6_gift_85 : decode cX6_gift 85 = .ok (.iload_n 1, 1) := by decide +kernel
theorem dX6_gift_86 : decode cX6_gift 86 = .ok (.iload_n 2, 1) := by decide +kernel
theorem dX6_gift_87 : decode cX6_gift 87 = .ok (.invokevirtual 163, 3) := by decide +kernel
theorem dX6_gift_90 : decode cX6_gift 90 = .ok (.aload_n 0, 1) := by decide +kernel
theorem dX6_gift_91 : decode cX6_gift 91 = .ok (.getfield 18, 3) := by decide +kernel
theorem dX6_gift_94 : decode cX6_gift 94 = .ok (.bipush 40, 2) := by decide +kernel
theorem dX6_gift_96 : decode cX6_gift 96 = .ok (.invokevirtual 147, 3) := by decide +kernel
theorem dX6_gift_99 : decode cX6_gift 99 = .ok (.aload_n 0, 1) := by decide +kernel
theorem dX6_gift_100 : decode cX6_gift 100 = .ok (.getfield 18, 3) := by decide +kernel
theorem dX6_gift_103 : decode cX6_gift 103 = .ok (.invokevirtual 144, 3) := by decide +kernel
theorem dX6_gift_106 : decode cX6_gift 106 = .ok (.istore 6, 2) := by decide +kernel
theorem dX6_gift_108 : decode cX6_gift 108 = .ok (.iload_n 3, 1) := by decide +kernel
theorem dX6_gift_109 : decode cX6_gift 109 = .ok (.ifCond .ne 18, 3) := by decide +kernel
theorem dX6_gift_112 : decode cX6_gift 112 = .ok (.aload_n 0, 1) := by decide +kernel
theorem dX6_gift_113 : decode cX6_gift 113 = .ok (.getfield 18, 3) := by decide +kernel
theorem dX6_gift_116 : decode cX6_gift 116 = .ok (.getfield 96, 3) := by decide +kernel
theorem dX6_gift_119 : decode cX6_gift 119 = .ok (.iload_n 1, 1) := by decide +kernel
theorem dX6_gift_120 : decode cX6_gift 120 = .ok (.iaload, 1) := by decide +kernel
theorem dX6_gift_121 : decode cX6_gift 121 = .ok (.iload 5, 2) := by decide +kernel
theorem dX6_gift_123 : decode cX6_gift 123 = .ok (.isub, 1) := by decide +kernel
theorem dX6_gift_124 : decode cX6_gift 124 = .ok (.goto 8, 3) := by decide +kernel
theorem dX6_gift_127 : decode cX6_gift 127 = .ok (.iload 6, 2) := by decide +kernel
theorem dX6_gift_129 : decode cX6_gift 129 = .ok (.iload 4, 2) := by decide +kernel
theorem dX6_gift_131 : decode cX6_gift 131 = .ok (.isub, 1) := by decide +kernel
theorem dX6_gift_132 : decode cX6_gift 132 = .ok (.ireturn, 1) := by decide +kernel
theorem dX6_best_0 : decode cX6_best 0 = .ok (.iload_n 1, 1) := by decide +kernel
theorem dX6_best_1 : decode cX6_best 1 = .ok (.invokestatic 76, 3) := by decide +kernel
theorem dX6_best_4 : decode cX6_best 4 = .ok (.ifCond .ne 6, 3) := by decide +kernel
theorem dX6_best_7 : decode cX6_best 7 = .ok (.bipush (-2), 2) := by decide +kernel
theorem dX6_best_9 : decode cX6_best 9 = .ok (.ireturn, 1) := by decide +kernel
theorem dX6_best_10 : decode cX6_best 10 = .ok (.bipush (-5), 2) := by decide +kernel
theorem dX6_best_12 : decode cX6_best 12 = .ok (.istore_n 2, 1) := by decide +kernel
theorem dX6_best_13 : decode cX6_best 13 = .ok (.iconst (-1), 1) := by decide +kernel
theorem dX6_best_14 : decode cX6_best 14 = .ok (.istore_n 3, 1) := by decide +kernel
theorem dX6_best_15 : decode cX6_best 15 = .ok (.iconst 0, 1) := by decide +kernel
theorem dX6_best_16 : decode cX6_best 16 = .ok (.istore 4, 2) := by decide +kernel
theorem dX6_best_18 : decode cX6_best 18 = .ok (.iload 4, 2) := by decide +kernel
theorem dX6_best_20 : decode cX6_best 20 = .ok (.aload_n 0, 1) := by decide +kernel
theorem dX6_best_21 : decode cX6_best 21 = .ok (.getfield 12, 3) := by decide +kernel
theorem dX6_best_24 : decode cX6_best 24 = .ok (.getfield 79, 3) := by decide +kernel
theorem dX6_best_27 : decode cX6_best 27 = .ok (.if_icmp .ge 60, 3) := by decide +kernel
theorem dX6_best_30 : decode cX6_best 30 = .ok (.aload_n 0, 1) := by decide +kernel
theorem dX6_best_31 : decode cX6_best 31 = .ok (.getfield 18, 3) := by decide +kernel
theorem dX6_best_34 : decode cX6_best 34 = .ok (.aload_n 0, 1) := by decide +kernel
theorem dX6_best_35 : decode cX6_best 35 = .ok (.getfield 12, 3) := by decide +kernel
theorem dX6_best_38 : decode cX6_best 38 = .ok (.invokevirtual 151, 3) := by decide +kernel
theorem dX6_best_41 : decode cX6_best 41 = .ok (.aload_n 0, 1) := by decide +kernel
theorem dX6_best_42 : decode cX6_best 42 = .ok (.getfield 18, 3) := by decide +kernel
theorem dX6_best_45 : decode cX6_best 45 = .ok (.iload 4, 2) := by decide +kernel
theorem dX6_best_47 : decode cX6_best 47 = .ok (.iload_n 1, 1) := by decide +kernel
theorem dX6_best_48 : decode cX6_best 48 = .ok (.invokevirtual 163, 3) := by decide +kernel
theorem dX6_best_51 : decode cX6_best 51 = .ok (.aload_n 0, 1) := by decide +kernel
theorem dX6_best_52 : decode cX6_best 52 = .ok (.getfield 18, 3) := by decide +kernel
theorem dX6_best_55 : decode cX6_best 55 = .ok (.bipush 40, 2) := by decide +kernel
theorem dX6_best_57 : decode cX6_best 57 = .ok (.invokevirtual 147, 3) := by decide +kernel
theorem dX6_best_60 : decode cX6_best 60 = .ok (.aload_n 0, 1) := by decide +kernel
theorem dX6_best_61 : decode cX6_best 61 = .ok (.getfield 18, 3) := by decide +kernel
theorem dX6_best_64 : decode cX6_best 64 = .ok (.invokevirtual 144, 3) := by decide +kernel
theorem dX6_best_67 : decode cX6_best 67 = .ok (.istore 5, 2) := by decide +kernel
theorem dX6_best_69 : decode cX6_best 69 = .ok (.iload 5, 2) := by decide +kernel
theorem dX6_best_71 : decode cX6_best 71 = .ok (.iload_n 3, 1) := by decide +kernel
theorem dX6_best_72 : decode cX6_best 72 = .ok (.if_icmp .le 9, 3) := by decide +kernel
theorem dX6_best_75 : decode cX6_best 75 = .ok (.iload 5, 2) := by decide +kernel
theorem dX6_best_77 : decode cX6_best 77 = .ok (.istore_n 3, 1) := by decide +kernel
theorem dX6_best_78 : decode cX6_best 78 = .ok (.iload 4, 2) := by decide +kernel
theorem dX6_best_80 : decode cX6_best 80 = .ok (.istore_n 2, 1) := by decide +kernel
theorem dX6_best_81 : decode cX6_best 81 = .ok (.iinc 4 1, 3) := by decide +kernel
theorem dX6_best_84 : decode cX6_best 84 = .ok (.goto (-66), 3) := by decide +kernel
theorem dX6_best_87 : decode cX6_best 87 = .ok (.iload_n 2, 1) := by decide +kernel
theorem dX6_best_88 : decode cX6_best 88 = .ok (.ireturn, 1) := by decide +kernel
theorem dX6_lots_0 : decode cX6_lots 0 = .ok (.aload_n 0, 1) := by decide +kernel
theorem dX6_lots_1 : decode cX6_lots 1 = .ok (.getfield 18, 3) := by decide +kernel
theorem dX6_lots_4 : decode cX6_lots 4 = .ok (.aload_n 0, 1) := by decide +kernel
theorem dX6_lots_5 : decode cX6_lots 5 = .ok (.getfield 12, 3) := by decide +kernel
theorem dX6_lots_8 : decode cX6_lots 8 = .ok (.invokevirtual 151, 3) := by decide +kernel
theorem dX6_lots_11 : decode cX6_lots 11 = .ok (.aload_n 0, 1) := by decide +kernel
theorem dX6_lots_12 : decode cX6_lots 12 = .ok (.getfield 18, 3) := by decide +kernel
theorem dX6_lots_15 : decode cX6_lots 15 = .ok (.bipush 20, 2) := by decide +kernel
theorem dX6_lots_17 : decode cX6_lots 17 = .ok (.invokevirtual 147, 3) := by decide +kernel
theorem dX6_lots_20 : decode cX6_lots 20 = .ok (.aload_n 0, 1) := by decide +kernel
theorem dX6_lots_21 : decode cX6_lots 21 = .ok (.getfield 18, 3) := by decide +kernel
theorem dX6_lots_24 : decode cX6_lots 24 = .ok (.invokevirtual 144, 3) := by decide +kernel
theorem dX6_lots_27 : decode cX6_lots 27 = .ok (.istore_n 1, 1) := by decide +kernel
theorem dX6_lots_28 : decode cX6_lots 28 = .ok (.bipush (-5), 2) := by decide +kernel
theorem dX6_lots_30 : decode cX6_lots 30 = .ok (.istore_n 2, 1) := by decide +kernel
theorem dX6_lots_31 : decode cX6_lots 31 = .ok (.iconst 0, 1) := by decide +kernel
theorem dX6_lots_32 : decode cX6_lots 32 = .ok (.istore_n 3, 1) := by decide +kernel
theorem dX6_lots_33 : decode cX6_lots 33 = .ok (.iload_n 3, 1) := by decide +kernel
theorem dX6_lots_34 : decode cX6_lots 34 = .ok (.aload_n 0, 1) := by decide +kernel
theorem dX6_lots_35 : decode cX6_lots 35 = .ok (.getfield 12, 3) := by decide +kernel
theorem dX6_lots_38 : decode cX6_lots 38 = .ok (.getfield 79, 3) := by decide +kernel
theorem dX6_lots_41 : decode cX6_lots 41 = .ok (.if_icmp .ge 116, 3) := by decide +kernel
theorem dX6_lots_44 : decode cX6_lots 44 = .ok (.iload_n 3, 1) := by decide +kernel
theorem dX6_lots_45 : decode cX6_lots 45 = .ok (.iconst 1, 1) := by decide +kernel
theorem dX6_lots_46 : decode cX6_lots 46 = .ok (.iadd, 1) := by decide +kernel
theorem dX6_lots_47 : decode cX6_lots 47 = .ok (.istore 4, 2) := by decide +kernel
theorem dX6_lots_49 : decode cX6_lots 49 = .ok (.iload 4, 2) := by decide +kernel
theorem dX6_lots_51 : decode cX6_lots 51 = .ok (.aload_n 0, 1) := by decide +kernel
theorem dX6_lots_52 : decode cX6_lots 52 = .ok (.getfield 12, 3) := by decide +kernel
theorem dX6_lots_55 : decode cX6_lots 55 = .ok (.getfield 79, 3) := by decide +kernel
theorem dX6_lots_58 : decode cX6_lots 58 = .ok (.if_icmp .ge 93, 3) := by decide +kernel
theorem dX6_lots_61 : decode cX6_lots 61 = .ok (.aload_n 0, 1) := by decide +kernel
theorem dX6_lots_62 : decode cX6_lots 62 = .ok (.getfield 18, 3) := by decide +kernel
theorem dX6_lots_65 : decode cX6_lots 65 = .ok (.aload_n 0, 1) := by decide +kernel
theorem dX6_lots_66 : decode cX6_lots 66 = .ok (.getfield 12, 3) := by decide +kernel
theorem dX6_lots_69 : decode cX6_lots 69 = .ok (.invokevirtual 151, 3) := by decide +kernel
theorem dX6_lots_72 : decode cX6_lots 72 = .ok (.aload_n 0, 1) := by decide +kernel
theorem dX6_lots_73 : decode cX6_lots 73 = .ok (.getfield 18, 3) := by decide +kernel
theorem dX6_lots_76 : decode cX6_lots 76 = .ok (.getfield 96, 3) := by decide +kernel
theorem dX6_lots_79 : decode cX6_lots 79 = .ok (.iload_n 3, 1) := by decide +kernel
theorem dX6_lots_80 : decode cX6_lots 80 = .ok (.aload_n 0, 1) := by decide +kernel
theorem dX6_lots_81 : decode cX6_lots 81 = .ok (.getfield 12, 3) := by decide +kernel
theorem dX6_lots_84 : decode cX6_lots 84 = .ok (.getfield 96, 3) := by decide +kernel
theorem dX6_lots_87 : decode cX6_lots 87 = .ok (.iload 4, 2) := by decide +kernel
theorem dX6_lots_89 : decode cX6_lots 89 = .ok (.iaload, 1) := by decide +kernel
theorem dX6_lots_90 : decode cX6_lots 90 = .ok (.iastore, 1) := by decide +kernel
theorem dX6_lots_91 : decode cX6_lots 91 = .ok (.aload_n 0, 1) := by decide +kernel
theorem dX6_lots_92 : decode cX6_lots 92 = .ok (.getfield 18, 3) := by decide +kernel
theorem dX6_lots_95 : decode cX6_lots 95 = .ok (.getfield 96, 3) := by decide +kernel
theorem dX6_lots_98 : decode cX6_lots 98 = .ok (.iload 4, 2) := by decide +kernel
theorem dX6_lots_100 : decode cX6_lots 100 = .ok (.aload_n 0, 1) := by decide +kernel
theorem dX6_lots_101 : decode cX6_lots 101 = .ok (.getfield 12, 3) := by decide +kernel
theorem dX6_lots_104 : decode cX6_lots 104 = .ok (.getfield 96, 3) := by decide +kernel
theorem dX6_lots_107 : decode cX6_lots 107 = .ok (.iload_n 3, 1) := by decide +kernel
theorem dX6_lots_108 : decode cX6_lots 108 = .ok (.iaload, 1) := by decide +kernel
theorem dX6_lots_109 : decode cX6_lots 109 = .ok (.iastore, 1) := by decide +kernel
theorem dX6_lots_110 : decode cX6_lots 110 = .ok (.aload_n 0, 1) := by decide +kernel
theorem dX6_lots_111 : decode cX6_lots 111 = .ok (.getfield 18, 3) := by decide +kernel
theorem dX6_lots_114 : decode cX6_lots 114 = .ok (.bipush 20, 2) := by decide +kernel
theorem dX6_lots_116 : decode cX6_lots 116 = .ok (.invokevirtual 147, 3) := by decide +kernel
theorem dX6_lots_119 : decode cX6_lots 119 = .ok (.aload_n 0, 1) := by decide +kernel
theorem dX6_lots_120 : decode cX6_lots 120 = .ok (.getfield 18, 3) := by decide +kernel
theorem dX6_lots_123 : decode cX6_lots 123 = .ok (.invokevirtual 144, 3) := by decide +kernel
theorem dX6_lots_126 : decode cX6_lots 126 = .ok (.istore 5, 2) := by decide +kernel
theorem dX6_lots_128 : decode cX6_lots 128 = .ok (.iload 5, 2) := by decide +kernel
theorem dX6_lots_130 : decode cX6_lots 130 = .ok (.iload_n 1, 1) := by decide +kernel
theorem dX6_lots_131 : decode cX6_lots 131 = .ok (.if_icmp .le 14, 3) := by decide +kernel
theorem dX6_lots_134 : decode cX6_lots 134 = .ok (.iload 5, 2) := by decide +kernel
theorem dX6_lots_136 : decode cX6_lots 136 = .ok (.istore_n 1, 1) := by decide +kernel
theorem dX6_lots_137 : decode cX6_lots 137 = .ok (.bipush 10, 2) := by decide +kernel
theorem dX6_lots_139 : decode cX6_lots 139 = .ok (.iload_n 3, 1) := by decide +kernel
theorem dX6_lots_140 : decode cX6_lots 140 = .ok (.imul, 1) := by decide +kernel
theorem dX6_lots_141 : decode cX6_lots 141 = .ok (.iload 4, 2) := by decide +kernel
theorem dX6_lots_143 : decode cX6_lots 143 = .ok (.iadd, 1) := by decide +kernel
theorem dX6_lots_144 : decode cX6_lots 144 = .ok (.istore_n 2, 1) := by decide +kernel
theorem dX6_lots_145 : decode cX6_lots 145 = .ok (.iinc 4 1, 3) := by decide +kernel
theorem dX6_lots_148 : decode cX6_lots 148 = .ok (.goto (-99), 3) := by decide +kernel
theorem dX6_lots_151 : decode cX6_lots 151 = .ok (.iinc 3 1, 3) := by decide +kernel
theorem dX6_lots_154 : decode cX6_lots 154 = .ok (.goto (-121), 3) := by decide +kernel
theorem dX6_lots_157 : decode cX6_lots 157 = .ok (.iload_n 2, 1) := by decide +kernel
theorem dX6_lots_158 : decode cX6_lots 158 = .ok (.ireturn, 1) := by decide +kernel
theorem dX6_build_0 : decode cX6_build 0 = .ok (.iload_n 1, 1) := by decide +kernel
theorem dX6_build_1 : decode cX6_build 1 = .ok (.invokestatic 69, 3) := by decide +kernel
theorem dX6_build_4 : decode cX6_build 4 = .ok (.ifCond .eq 11, 3) := by decide +kernel
theorem dX6_build_7 : decode cX6_build 7 = .ok (.iload 4, 2) := by decide +kernel
theorem dX6_build_9 : decode cX6_build 9 = .ok (.invokestatic 160, 3) := by decide +kernel
theorem dX6_build_12 : decode cX6_build 12 = .ok (.ifCond .ne 5, 3) := by decide +kernel
theorem dX6_build_15 : decode cX6_build 15 = .ok (.iconst (-1), 1) := by decide +kernel
theorem dX6_build_16 : decode cX6_build 16 = .ok (.ireturn, 1) := by decide +kernel
theorem dX6_build_17 : decode cX6_build 17 = .ok (.iload_n 2, 1) := by decide +kernel
theorem dX6_build_18 : decode cX6_build 18 = .ok (.invokestatic 73, 3) := by decide +kernel
theorem dX6_build_21 : decode cX6_build 21 = .ok (.ifCond .eq 10, 3) := by decide +kernel
theorem dX6_build_24 : decode cX6_build 24 = .ok (.iload_n 3, 1) := by decide +kernel
theorem dX6_build_25 : decode cX6_build 25 = .ok (.invokestatic 76, 3) := by decide +kernel
theorem dX6_build_28 : decode cX6_build 28 = .ok (.ifCond .ne 6, 3) := by decide +kernel
theorem dX6_build_31 : decode cX6_build 31 = .ok (.bipush (-2), 2) := by decide +kernel
theorem dX6_build_33 : decode cX6_build 33 = .ok (.ireturn, 1) := by decide +kernel
theorem dX6_build_34 : decode cX6_build 34 = .ok (.aload_n 0, 1) := by decide +kernel
theorem dX6_build_35 : decode cX6_build 35 = .ok (.getfield 12, 3) := by decide +kernel
theorem dX6_build_38 : decode cX6_build 38 = .ok (.getfield 79, 3) := by decide +kernel
theorem dX6_build_41 : decode cX6_build 41 = .ok (.bipush 7, 2) := by decide +kernel
theorem dX6_build_43 : decode cX6_build 43 = .ok (.if_icmp .lt 6, 3) := by decide +kernel
theorem dX6_build_46 : decode cX6_build 46 = .ok (.bipush (-9), 2) := by decide +kernel
theorem dX6_build_48 : decode cX6_build 48 = .ok (.ireturn, 1) := by decide +kernel
theorem dX6_build_49 : decode cX6_build 49 = .ok (.iconst 0, 1) := by decide +kernel
theorem dX6_build_50 : decode cX6_build 50 = .ok (.istore 5, 2) := by decide +kernel
theorem dX6_build_52 : decode cX6_build 52 = .ok (.iconst (-1), 1) := by decide +kernel
theorem dX6_build_53 : decode cX6_build 53 = .ok (.istore 6, 2) := by decide +kernel
theorem dX6_build_55 : decode cX6_build 55 = .ok (.iconst 0, 1) := by decide +kernel
theorem dX6_build_56 : decode cX6_build 56 = .ok (.istore 7, 2) := by decide +kernel
theorem dX6_build_58 : decode cX6_build 58 = .ok (.iload 7, 2) := by decide +kernel
theorem dX6_build_60 : decode cX6_build 60 = .ok (.aload_n 0, 1) := by decide +kernel
theorem dX6_build_61 : decode cX6_build 61 = .ok (.getfield 12, 3) := by decide +kernel
theorem dX6_build_64 : decode cX6_build 64 = .ok (.getfield 79, 3) := by decide +kernel
theorem dX6_build_67 : decode cX6_build 67 = .ok (.if_icmp .gt 65, 3) := by decide +kernel
theorem dX6_build_70 : decode cX6_build 70 = .ok (.aload_n 0, 1) := by decide +kernel
theorem dX6_build_71 : decode cX6_build 71 = .ok (.getfield 18, 3) := by decide +kernel
theorem dX6_build_74 : decode cX6_build 74 = .ok (.aload_n 0, 1) := by decide +kernel
theorem dX6_build_75 : decode cX6_build 75 = .ok (.getfield 12, 3) := by decide +kernel
theorem dX6_build_78 : decode cX6_build 78 = .ok (.invokevirtual 151, 3) := by decide +kernel
theorem dX6_build_81 : decode cX6_build 81 = .ok (.aload_n 0, 1) := by decide +kernel
theorem dX6_build_82 : decode cX6_build 82 = .ok (.getfield 18, 3) := by decide +kernel
theorem dX6_build_85 : decode cX6_build 85 = .ok (.iload 7, 2) := by decide +kernel
theorem dX6_build_87 : decode cX6_build 87 = .ok (.iload_n 1, 1) := by decide +kernel
theorem dX6_build_88 : decode cX6_build 88 = .ok (.iload_n 2, 1) := by decide +kernel
theorem dX6_build_89 : decode cX6_build 89 = .ok (.iload_n 3, 1) := by decide +kernel
theorem dX6_build_90 : decode cX6_build 90 = .ok (.invokevirtual 83, 3) := by decide +kernel
theorem dX6_build_93 : decode cX6_build 93 = .ok (.aload_n 0, 1) := by decide +kernel
theorem dX6_build_94 : decode cX6_build 94 = .ok (.getfield 18, 3) := by decide +kernel
theorem dX6_build_97 : decode cX6_build 97 = .ok (.bipush 20, 2) := by decide +kernel
theorem dX6_build_99 : decode cX6_build 99 = .ok (.invokevirtual 147, 3) := by decide +kernel
theorem dX6_build_102 : decode cX6_build 102 = .ok (.aload_n 0, 1) := by decide +kernel
theorem dX6_build_103 : decode cX6_build 103 = .ok (.getfield 18, 3) := by decide +kernel
theorem dX6_build_106 : decode cX6_build 106 = .ok (.invokevirtual 144, 3) := by decide +kernel
theorem dX6_build_109 : decode cX6_build 109 = .ok (.istore 8, 2) := by decide +kernel
theorem dX6_build_111 : decode cX6_build 111 = .ok (.iload 8, 2) := by decide +kernel
theorem dX6_build_113 : decode cX6_build 113 = .ok (.iload 6, 2) := by decide +kernel
theorem dX6_build_115 : decode cX6_build 115 = .ok (.if_icmp .le 11, 3) := by decide +kernel
theorem dX6_build_118 : decode cX6_build 118 = .ok (.iload 8, 2) := by decide +kernel
theorem dX6_build_120 : decode cX6_build 120 = .ok (.istore 6, 2) := by decide +kernel
theorem dX6_build_122 : decode cX6_build 122 = .ok (.iload 7, 2) := by decide +kernel
theorem dX6_build_124 : decode cX6_build 124 = .ok (.istore 5, 2) := by decide +kernel
theorem dX6_build_126 : decode cX6_build 126 = .ok (.iinc 7 1, 3) := by decide +kernel
theorem dX6_build_129 : decode cX6_build 129 = .ok (.goto (-71), 3) := by decide +kernel
theorem dX6_build_132 : decode cX6_build 132 = .ok (.iload 4, 2) := by decide +kernel
theorem dX6_build_134 : decode cX6_build 134 = .ok (.ifCond .ne 8, 3) := by decide +kernel
theorem dX6_build_137 : decode cX6_build 137 = .ok (.iload 5, 2) := by decide +kernel
theorem dX6_build_139 : decode cX6_build 139 = .ok (.goto 5, 3) := by decide +kernel
theorem dX6_build_142 : decode cX6_build 142 = .ok (.iload 6, 2) := by decide +kernel
theorem dX6_build_144 : decode cX6_build 144 = .ok (.ireturn, 1) := by decide +kernel
theorem dX6_down_0 : decode cX6_down 0 = .ok (.iload_n 1, 1) := by decide +kernel
theorem dX6_down_1 : decode cX6_down 1 = .ok (.invokestatic 160, 3) := by decide +kernel
theorem dX6_down_4 : decode cX6_down 4 = .ok (.ifCond .ne 5, 3) := by decide +kernel
theorem dX6_down_7 : decode cX6_down 7 = .ok (.iconst (-1), 1) := by decide +kernel
theorem dX6_down_8 : decode cX6_down 8 = .ok (.ireturn, 1) := by decide +kernel
theorem dX6_down_9 : decode cX6_down 9 = .ok (.bipush (-5), 2) := by decide +kernel
theorem dX6_down_11 : decode cX6_down 11 = .ok (.istore_n 2, 1) := by decide +kernel
theorem dX6_down_12 : decode cX6_down 12 = .ok (.bipush (-5), 2) := by decide +kernel
theorem dX6_down_14 : decode cX6_down 14 = .ok (.istore_n 3, 1) := by decide +kernel
theorem dX6_down_15 : decode cX6_down 15 = .ok (.iconst 0, 1) := by decide +kernel
theorem dX6_down_16 : decode cX6_down 16 = .ok (.istore 4, 2) := by decide +kernel
theorem dX6_down_18 : decode cX6_down 18 = .ok (.iload 4, 2) := by decide +kernel
theorem dX6_down_20 : decode cX6_down 20 = .ok (.aload_n 0, 1) := by decide +kernel
theorem dX6_down_21 : decode cX6_down 21 = .ok (.getfield 12, 3) := by decide +kernel
theorem dX6_down_24 : decode cX6_down 24 = .ok (.getfield 79, 3) := by decide +kernel
theorem dX6_down_27 : decode cX6_down 27 = .ok (.if_icmp .ge 59, 3) := by decide +kernel
theorem dX6_down_30 : decode cX6_down 30 = .ok (.aload_n 0, 1) := by decide +kernel
theorem dX6_down_31 : decode cX6_down 31 = .ok (.getfield 18, 3) := by decide +kernel
theorem dX6_down_34 : decode cX6_down 34 = .ok (.aload_n 0, 1) := by decide +kernel
theorem dX6_down_35 : decode cX6_down 35 = .ok (.getfield 12, 3) := by decide +kernel
theorem dX6_down_38 : decode cX6_down 38 = .ok (.invokevirtual 151, 3) := by decide +kernel
theorem dX6_down_41 : decode cX6_down 41 = .ok (.aload_n 0, 1) := by decide +kernel
theorem dX6_down_42 : decode cX6_down 42 = .ok (.getfield 18, 3) := by decide +kernel
theorem dX6_down_45 : decode cX6_down 45 = .ok (.iload 4, 2) := by decide +kernel
theorem dX6_down_47 : decode cX6_down 47 = .ok (.invokevirtual 167, 3) := by decide +kernel
theorem dX6_down_50 : decode cX6_down 50 = .ok (.aload_n 0, 1) := by decide +kernel
theorem dX6_down_51 : decode cX6_down 51 = .ok (.getfield 18, 3) := by decide +kernel
theorem dX6_down_54 : decode cX6_down 54 = .ok (.bipush 20, 2) := by decide +kernel
theorem dX6_down_56 : decode cX6_down 56 = .ok (.invokevirtual 147, 3) := by decide +kernel
theorem dX6_down_59 : decode cX6_down 59 = .ok (.aload_n 0, 1) := by decide +kernel
theorem dX6_down_60 : decode cX6_down 60 = .ok (.getfield 18, 3) := by decide +kernel
theorem dX6_down_63 : decode cX6_down 63 = .ok (.invokevirtual 144, 3) := by decide +kernel
theorem dX6_down_66 : decode cX6_down 66 = .ok (.istore 5, 2) := by decide +kernel
theorem dX6_down_68 : decode cX6_down 68 = .ok (.iload 5, 2) := by decide +kernel
theorem dX6_down_70 : decode cX6_down 70 = .ok (.iload_n 3, 1) := by decide +kernel
theorem dX6_down_71 : decode cX6_down 71 = .ok (.if_icmp .le 9, 3) := by decide +kernel
theorem dX6_down_74 : decode cX6_down 74 = .ok (.iload 5, 2) := by decide +kernel
theorem dX6_down_76 : decode cX6_down 76 = .ok (.istore_n 3, 1) := by decide +kernel
theorem dX6_down_77 : decode cX6_down 77 = .ok (.iload 4, 2) := by decide +kernel
theorem dX6_down_79 : decode cX6_down 79 = .ok (.istore_n 2, 1) := by decide +kernel
theorem dX6_down_80 : decode cX6_down 80 = .ok (.iinc 4 1, 3) := by decide +kernel
theorem dX6_down_83 : decode cX6_down 83 = .ok (.goto (-65), 3) := by decide +kernel
theorem dX6_down_86 : decode cX6_down 86 = .ok (.iload_n 1, 1) := by decide +kernel
theorem dX6_down_87 : decode cX6_down 87 = .ok (.ifCond .ne 7, 3) := by decide +kernel
theorem dX6_down_90 : decode cX6_down 90 = .ok (.iload_n 2, 1) := by decide +kernel
theorem dX6_down_91 : decode cX6_down 91 = .ok (.goto 4, 3) := by decide +kernel
theorem dX6_down_94 : decode cX6_down 94 = .ok (.iload_n 3, 1) := by decide +kernel
theorem dX6_down_95 : decode cX6_down 95 = .ok (.ireturn, 1) := by decide +kernel
theorem dX6_before_0 : decode cX6_before 0 = .ok (.iload_n 1, 1) := by decide +kernel
theorem dX6_before_1 : decode cX6_before 1 = .ok (.iconst (-1), 1) := by decide +kernel
theorem dX6_before_2 : decode cX6_before 2 = .ok (.if_icmp .eq 13, 3) := by decide +kernel
theorem dX6_before_5 : decode cX6_before 5 = .ok (.aload_n 0, 1) := by decide +kernel
theorem dX6_before_6 : decode cX6_before 6 = .ok (.iload_n 1, 1) := by decide +kernel
theorem dX6_before_7 : decode cX6_before 7 = .ok (.invokevirtual 87, 3) := by decide +kernel
theorem dX6_before_10 : decode cX6_before 10 = .ok (.ifCond .ne 5, 3) := by decide +kernel
theorem dX6_before_13 : decode cX6_before 13 = .ok (.iconst (-1), 1) := by decide +kernel
theorem dX6_before_14 : decode cX6_before 14 = .ok (.ireturn, 1) := by decide +kernel
theorem dX6_before_15 : decode cX6_before 15 = .ok (.aload_n 0, 1) := by decide +kernel
theorem dX6_before_16 : decode cX6_before 16 = .ok (.getfield 12, 3) := by decide +kernel
theorem dX6_before_19 : decode cX6_before 19 = .ok (.getfield 79, 3) := by decide +kernel
theorem dX6_before_22 : decode cX6_before 22 = .ok (.iconst 4, 1) := by decide +kernel
theorem dX6_before_23 : decode cX6_before 23 = .ok (.if_icmp .le 6, 3) := by decide +kernel
theorem dX6_before_26 : decode cX6_before 26 = .ok (.bipush (-9), 2) := by decide +kernel
theorem dX6_before_28 : decode cX6_before 28 = .ok (.ireturn, 1) := by decide +kernel
theorem dX6_before_29 : decode cX6_before 29 = .ok (.aload_n 0, 1) := by decide +kernel
theorem dX6_before_30 : decode cX6_before 30 = .ok (.getfield 12, 3) := by decide +kernel
theorem dX6_before_33 : decode cX6_before 33 = .ok (.getfield 137, 3) := by decide +kernel
theorem dX6_before_36 : decode cX6_before 36 = .ok (.ifCond .ne 6, 3) := by decide +kernel
theorem dX6_before_39 : decode cX6_before 39 = .ok (.bipush (-8), 2) := by decide +kernel
theorem dX6_before_41 : decode cX6_before 41 = .ok (.ireturn, 1) := by decide +kernel
theorem dX6_before_42 : decode cX6_before 42 = .ok (.aload_n 0, 1) := by decide +kernel
theorem dX6_before_43 : decode cX6_before 43 = .ok (.invokevirtual 170, 3) := by decide +kernel
theorem dX6_before_46 : decode cX6_before 46 = .ok (.istore_n 2, 1) := by decide +kernel
theorem dX6_before_47 : decode cX6_before 47 = .ok (.iconst 1, 1) := by decide +kernel
theorem dX6_before_48 : decode cX6_before 48 = .ok (.istore_n 3, 1) := by decide +kernel
theorem dX6_before_49 : decode cX6_before 49 = .ok (.iconst 0, 1) := by decide +kernel
theorem dX6_before_50 : decode cX6_before 50 = .ok (.istore 4, 2) := by decide +kernel
theorem dX6_before_52 : decode cX6_before 52 = .ok (.iload 4, 2) := by decide +kernel
theorem dX6_before_54 : decode cX6_before 54 = .ok (.aload_n 0, 1) := by decide +kernel
theorem dX6_before_55 : decode cX6_before 55 = .ok (.getfield 12, 3) := by decide +kernel
theorem dX6_before_58 : decode cX6_before 58 = .ok (.getfield 79, 3) := by decide +kernel
theorem dX6_before_61 : decode cX6_before 61 = .ok (.if_icmp .ge 13, 3) := by decide +kernel
theorem dX6_before_64 : decode cX6_before 64 = .ok (.iload_n 3, 1) := by decide +kernel
theorem dX6_before_65 : decode cX6_before 65 = .ok (.iload_n 2, 1) := by decide +kernel
theorem dX6_before_66 : decode cX6_before 66 = .ok (.imul, 1) := by decide +kernel
theorem dX6_before_67 : decode cX6_before 67 = .ok (.istore_n 3, 1) := by decide +kernel
theorem dX6_before_68 : decode cX6_before 68 = .ok (.iinc 4 1, 3) := by decide +kernel
theorem dX6_before_71 : decode cX6_before 71 = .ok (.goto (-19), 3) := by decide +kernel
theorem dX6_before_74 : decode cX6_before 74 = .ok (.aload_n 0, 1) := by decide +kernel
theorem dX6_before_75 : decode cX6_before 75 = .ok (.getfield 18, 3) := by decide +kernel
theorem dX6_before_78 : decode cX6_before 78 = .ok (.aload_n 0, 1) := by decide +kernel
theorem dX6_before_79 : decode cX6_before 79 = .ok (.getfield 12, 3) := by decide +kernel
theorem dX6_before_82 : decode cX6_before 82 = .ok (.invokevirtual 151, 3) := by decide +kernel
theorem dX6_before_85 : decode cX6_before 85 = .ok (.iconst 0, 1) := by decide +kernel
theorem dX6_before_86 : decode cX6_before 86 = .ok (.istore 4, 2) := by decide +kernel
theorem dX6_before_88 : decode cX6_before 88 = .ok (.bipush (-5), 2) := by decide +kernel
theorem dX6_before_90 : decode cX6_before 90 = .ok (.istore 5, 2) := by decide +kernel
theorem dX6_before_92 : decode cX6_before 92 = .ok (.iconst 0, 1) := by decide +kernel
theorem dX6_before_93 : decode cX6_before 93 = .ok (.istore 6, 2) := by decide +kernel
theorem dX6_before_95 : decode cX6_before 95 = .ok (.iload 6, 2) := by decide +kernel
theorem dX6_before_97 : decode cX6_before 97 = .ok (.iload_n 3, 1) := by decide +kernel
theorem dX6_before_98 : decode cX6_before 98 = .ok (.if_icmp .ge 84, 3) := by decide +kernel
theorem dX6_before_101 : decode cX6_before 101 = .ok (.aload_n 0, 1) := by decide +kernel
theorem dX6_before_102 : decode cX6_before 102 = .ok (.iload 6, 2) := by decide +kernel
theorem dX6_before_104 : decode cX6_before 104 = .ok (.iload_n 2, 1) := by decide +kernel
theorem dX6_before_105 : decode cX6_before 105 = .ok (.invokevirtual 173, 3) := by decide +kernel
theorem dX6_before_108 : decode cX6_before 108 = .ok (.iload_n 1, 1) := by decide +kernel
theorem dX6_before_109 : decode cX6_before 109 = .ok (.iconst (-1), 1) := by decide +kernel
theorem dX6_before_110 : decode cX6_before 110 = .ok (.if_icmp .ne 7, 3) := by decide +kernel
theorem dX6_before_113 : decode cX6_before 113 = .ok (.iconst 0, 1) := by decide +kernel
theorem dX6_before_114 : decode cX6_before 114 = .ok (.goto 12, 3) := by decide +kernel
theorem dX6_before_117 : decode cX6_before 117 = .ok (.aload_n 0, 1) := by decide +kernel
theorem dX6_before_118 : decode cX6_before 118 = .ok (.getfield 18, 3) := by decide +kernel
theorem dX6_before_121 : decode cX6_before 121 = .ok (.getfield 96, 3) := by decide +kernel
theorem dX6_before_124 : decode cX6_before 124 = .ok (.iload_n 1, 1) := by decide +kernel
theorem dX6_before_125 : decode cX6_before 125 = .ok (.iaload, 1) := by decide +kernel
theorem dX6_before_126 : decode cX6_before 126 = .ok (.istore 7, 2) := by decide +kernel
theorem dX6_before_128 : decode cX6_before 128 = .ok (.aload_n 0, 1) := by decide +kernel
theorem dX6_before_129 : decode cX6_before 129 = .ok (.getfield 18, 3) := by decide +kernel
theorem dX6_before_132 : decode cX6_before 132 = .ok (.aload_n 0, 1) := by decide +kernel
theorem dX6_before_133 : decode cX6_before 133 = .ok (.getfield 12, 3) := by decide +kernel
theorem dX6_before_136 : decode cX6_before 136 = .ok (.getfield 137, 3) := by decide +kernel
theorem dX6_before_139 : decode cX6_before 139 = .ok (.iconst 1, 1) := by decide +kernel
theorem dX6_before_140 : decode cX6_before 140 = .ok (.isub, 1) := by decide +kernel
theorem dX6_before_141 : decode cX6_before 141 = .ok (.putfield 137, 3) := by decide +kernel
theorem dX6_before_144 : decode cX6_before 144 = .ok (.aload_n 0, 1) := by decide +kernel
theorem dX6_before_145 : decode cX6_before 145 = .ok (.getfield 18, 3) := by decide +kernel
theorem dX6_before_148 : decode cX6_before 148 = .ok (.iconst 1, 1) := by decide +kernel
theorem dX6_before_149 : decode cX6_before 149 = .ok (.invokevirtual 147, 3) := by decide +kernel
theorem dX6_before_152 : decode cX6_before 152 = .ok (.aload_n 0, 1) := by decide +kernel
theorem dX6_before_153 : decode cX6_before 153 = .ok (.invokevirtual 176, 3) := by decide +kernel
theorem dX6_before_156 : decode cX6_before 156 = .ok (.ifCond .eq 20, 3) := by decide +kernel
theorem dX6_before_159 : decode cX6_before 159 = .ok (.iload 4, 2) := by decide +kernel
theorem dX6_before_161 : decode cX6_before 161 = .ok (.ifCond .ne 8, 3) := by decide +kernel
theorem dX6_before_164 : decode cX6_before 164 = .ok (.iload 7, 2) := by decide +kernel
theorem dX6_before_166 : decode cX6_before 166 = .ok (.goto 5, 3) := by decide +kernel
theorem dX6_before_169 : decode cX6_before 169 = .ok (.iload 5, 2) := by decide +kernel
theorem dX6_before_171 : decode cX6_before 171 = .ok (.istore 5, 2) := by decide +kernel
theorem dX6_before_173 : decode cX6_before 173 = .ok (.iinc 4 1, 3) := by decide +kernel
theorem dX6_before_176 : decode cX6_before 176 = .ok (.iinc 6 1, 3) := by decide +kernel
theorem dX6_before_179 : decode cX6_before 179 = .ok (.goto (-84), 3) := by decide +kernel
theorem dX6_before_182 : decode cX6_before 182 = .ok (.iload_n 1, 1) := by decide +kernel
theorem dX6_before_183 : decode cX6_before 183 = .ok (.iconst (-1), 1) := by decide +kernel
theorem dX6_before_184 : decode cX6_before 184 = .ok (.if_icmp .ne 8, 3) := by decide +kernel
theorem dX6_before_187 : decode cX6_before 187 = .ok (.iload 4, 2) := by decide +kernel
theorem dX6_before_189 : decode cX6_before 189 = .ok (.goto 5, 3) := by decide +kernel
theorem dX6_before_192 : decode cX6_before 192 = .ok (.iload 5, 2) := by decide +kernel
theorem dX6_before_194 : decode cX6_before 194 = .ok (.ireturn, 1) := by decide +kernel
theorem dX6_see_0 : decode cX6_see 0 = .ok (.iload_n 1, 1) := by decide +kernel
theorem dX6_see_1 : decode cX6_see 1 = .ok (.iconst (-1), 1) := by decide +kernel
theorem dX6_see_2 : decode cX6_see 2 = .ok (.if_icmp .ne 13, 3) := by decide +kernel
theorem dX6_see_5 : decode cX6_see 5 = .ok (.aload_n 0, 1) := by decide +kernel
theorem dX6_see_6 : decode cX6_see 6 = .ok (.getfield 27, 3) := by decide +kernel
theorem dX6_see_9 : decode cX6_see 9 = .ok (.iconst 0, 1) := by decide +kernel
theorem dX6_see_10 : decode cX6_see 10 = .ok (.putfield 179, 3) := by decide +kernel
theorem dX6_see_13 : decode cX6_see 13 = .ok (.iconst 0, 1) := by decide +kernel
theorem dX6_see_14 : decode cX6_see 14 = .ok (.ireturn, 1) := by decide +kernel
theorem dX6_see_15 : decode cX6_see 15 = .ok (.aload_n 0, 1) := by decide +kernel
theorem dX6_see_16 : decode cX6_see 16 = .ok (.iload_n 1, 1) := by decide +kernel
theorem dX6_see_17 : decode cX6_see 17 = .ok (.invokevirtual 87, 3) := by decide +kernel
theorem dX6_see_20 : decode cX6_see 20 = .ok (.ifCond .ne 5, 3) := by decide +kernel
theorem dX6_see_23 : decode cX6_see 23 = .ok (.iconst (-1), 1) := by decide +kernel
theorem dX6_see_24 : decode cX6_see 24 = .ok (.ireturn, 1) := by decide +kernel
theorem dX6_see_25 : decode cX6_see 25 = .ok (.iload_n 2, 1) := by decide +kernel
theorem dX6_see_26 : decode cX6_see 26 = .ok (.invokestatic 76, 3) := by decide +kernel
theorem dX6_see_29 : decode cX6_see 29 = .ok (.ifCond .ne 6, 3) := by decide +kernel
theorem dX6_see_32 : decode cX6_see 32 = .ok (.bipush (-2), 2) := by decide +kernel
theorem dX6_see_34 : decode cX6_see 34 = .ok (.ireturn, 1) := by decide +kernel
theorem dX6_see_35 : decode cX6_see 35 = .ok (.aload_n 0, 1) := by decide +kernel
theorem dX6_see_36 : decode cX6_see 36 = .ok (.getfield 27, 3) := by decide +kernel
theorem dX6_see_39 : decode cX6_see 39 = .ok (.iload_n 1, 1) := by decide +kernel
theorem dX6_see_40 : decode cX6_see 40 = .ok (.iload_n 2, 1) := by decide +kernel
theorem dX6_see_41 : decode cX6_see 41 = .ok (.invokevirtual 182, 3) := by decide +kernel
theorem dX6_see_44 : decode cX6_see 44 = .ok (.ireturn, 1) := by decide +kernel
theorem dX6_lied_0 : decode cX6_lied 0 = .ok (.iload_n 1, 1) := by decide +kernel
theorem dX6_lied_1 : decode cX6_lied 1 = .ok (.invokestatic 160, 3) := by decide +kernel
theorem dX6_lied_4 : decode cX6_lied 4 = .ok (.ifCond .ne 5, 3) := by decide +kernel
theorem dX6_lied_7 : decode cX6_lied 7 = .ok (.iconst (-1), 1) := by decide +kernel
theorem dX6_lied_8 : decode cX6_lied 8 = .ok (.ireturn, 1) := by decide +kernel
theorem dX6_lied_9 : decode cX6_lied 9 = .ok (.aload_n 0, 1) := by decide +kernel
theorem dX6_lied_10 : decode cX6_lied 10 = .ok (.getfield 18, 3) := by decide +kernel
theorem dX6_lied_13 : decode cX6_lied 13 = .ok (.aload_n 0, 1) := by decide +kernel
theorem dX6_lied_14 : decode cX6_lied 14 = .ok (.getfield 12, 3) := by decide +kernel
theorem dX6_lied_17 : decode cX6_lied 17 = .ok (.invokevirtual 151, 3) := by decide +kernel
theorem dX6_lied_20 : decode cX6_lied 20 = .ok (.iload_n 1, 1) := by decide +kernel
theorem dX6_lied_21 : decode cX6_lied 21 = .ok (.iconst 1, 1) := by decide +kernel
theorem dX6_lied_22 : decode cX6_lied 22 = .ok (.if_icmp .ne 17, 3) := by decide +kernel
theorem dX6_lied_25 : decode cX6_lied 25 = .ok (.aload_n 0, 1) := by decide +kernel
theorem dX6_lied_26 : decode cX6_lied 26 = .ok (.iconst (-1), 1) := by decide +kernel
theorem dX6_lied_27 : decode cX6_lied 27 = .ok (.invokevirtual 186, 3) := by decide +kernel
theorem dX6_lied_30 : decode cX6_lied 30 = .ok (.ifCond .eq 7, 3) := by decide +kernel
theorem dX6_lied_33 : decode cX6_lied 33 = .ok (.iconst 1, 1) := by decide +kernel
theorem dX6_lied_34 : decode cX6_lied 34 = .ok (.goto 4, 3) := by decide +kernel
theorem dX6_lied_37 : decode cX6_lied 37 = .ok (.iconst 0, 1) := by decide +kernel
theorem dX6_lied_38 : decode cX6_lied 38 = .ok (.ireturn, 1) := by decide +kernel
theorem dX6_lied_39 : decode cX6_lied 39 = .ok (.iconst 0, 1) := by decide +kernel
theorem dX6_lied_40 : decode cX6_lied 40 = .ok (.istore_n 2, 1) := by decide +kernel
theorem dX6_lied_41 : decode cX6_lied 41 = .ok (.iconst 0, 1) := by decide +kernel
theorem dX6_lied_42 : decode cX6_lied 42 = .ok (.istore_n 3, 1) := by decide +kernel
theorem dX6_lied_43 : decode cX6_lied 43 = .ok (.iload_n 3, 1) := by decide +kernel
theorem dX6_lied_44 : decode cX6_lied 44 = .ok (.aload_n 0, 1) := by decide +kernel
theorem dX6_lied_45 : decode cX6_lied 45 = .ok (.getfield 12, 3) := by decide +kernel
theorem dX6_lied_48 : decode cX6_lied 48 = .ok (.getfield 79, 3) := by decide +kernel
theorem dX6_lied_51 : decode cX6_lied 51 = .ok (.if_icmp .ge 23, 3) := by decide +kernel
theorem dX6_lied_54 : decode cX6_lied 54 = .ok (.aload_n 0, 1) := by decide +kernel
theorem dX6_lied_55 : decode cX6_lied 55 = .ok (.iload_n 3, 1) := by decide +kernel
theorem dX6_lied_56 : decode cX6_lied 56 = .ok (.invokevirtual 186, 3) := by decide +kernel
theorem dX6_lied_59 : decode cX6_lied 59 = .ok (.ifCond .eq 9, 3) := by decide +kernel
theorem dX6_lied_62 : decode cX6_lied 62 = .ok (.iload_n 2, 1) := by decide +kernel
theorem dX6_lied_63 : decode cX6_lied 63 = .ok (.iconst 1, 1) := by decide +kernel
theorem dX6_lied_64 : decode cX6_lied 64 = .ok (.iload_n 3, 1) := by decide +kernel
theorem dX6_lied_65 : decode cX6_lied 65 = .ok (.ishl, 1) := by decide +kernel
theorem dX6_lied_66 : decode cX6_lied 66 = .ok (.ior, 1) := by decide +kernel
theorem dX6_lied_67 : decode cX6_lied 67 = .ok (.istore_n 2, 1) := by decide +kernel
theorem dX6_lied_68 : decode cX6_lied 68 = .ok (.iinc 3 1, 3) := by decide +kernel
theorem dX6_lied_71 : decode cX6_lied 71 = .ok (.goto (-28), 3) := by decide +kernel
theorem dX6_lied_74 : decode cX6_lied 74 = .ok (.iload_n 2, 1) := by decide +kernel
theorem dX6_lied_75 : decode cX6_lied 75 = .ok (.ireturn, 1) := by decide +kernel
theorem dX6_wed_0 : decode cX6_wed 0 = .ok (.aload_n 0, 1) := by decide +kernel
theorem dX6_wed_1 : decode cX6_wed 1 = .ok (.iload_n 1, 1) := by decide +kernel
theorem dX6_wed_2 : decode cX6_wed 2 = .ok (.invokevirtual 87, 3) := by decide +kernel
theorem dX6_wed_5 : decode cX6_wed 5 = .ok (.ifCond .eq 11, 3) := by decide +kernel
theorem dX6_wed_8 : decode cX6_wed 8 = .ok (.aload_n 0, 1) := by decide +kernel
theorem dX6_wed_9 : decode cX6_wed 9 = .ok (.iload_n 2, 1) := by decide +kernel
theorem dX6_wed_10 : decode cX6_wed 10 = .ok (.invokevirtual 87, 3) := by decide +kernel
theorem dX6_wed_13 : decode cX6_wed 13 = .ok (.ifCond .ne 5, 3) := by decide +kernel
theorem dX6_wed_16 : decode cX6_wed 16 = .ok (.iconst (-1), 1) := by decide +kernel
theorem dX6_wed_17 : decode cX6_wed 17 = .ok (.ireturn, 1) := by decide +kernel
theorem dX6_wed_18 : decode cX6_wed 18 = .ok (.iload_n 1, 1) := by decide +kernel
theorem dX6_wed_19 : decode cX6_wed 19 = .ok (.iload_n 2, 1) := by decide +kernel
theorem dX6_wed_20 : decode cX6_wed 20 = .ok (.if_icmp .ne 6, 3) := by decide +kernel
theorem dX6_wed_23 : decode cX6_wed 23 = .ok (.bipush (-2), 2) := by decide +kernel
theorem dX6_wed_25 : decode cX6_wed 25 = .ok (.ireturn, 1) := by decide +kernel
theorem dX6_wed_26 : decode cX6_wed 26 = .ok (.aload_n 0, 1) := by decide +kernel
theorem dX6_wed_27 : decode cX6_wed 27 = .ok (.getfield 18, 3) := by decide +kernel
theorem dX6_wed_30 : decode cX6_wed 30 = .ok (.aload_n 0, 1) := by decide +kernel
theorem dX6_wed_31 : decode cX6_wed 31 = .ok (.getfield 12, 3) := by decide +kernel
theorem dX6_wed_34 : decode cX6_wed 34 = .ok (.invokevirtual 151, 3) := by decide +kernel
theorem dX6_wed_37 : decode cX6_wed 37 = .ok (.aload_n 0, 1) := by decide +kernel
theorem dX6_wed_38 : decode cX6_wed 38 = .ok (.getfield 18, 3) := by decide +kernel
theorem dX6_wed_41 : decode cX6_wed 41 = .ok (.bipush 10, 2) := by decide +kernel
theorem dX6_wed_43 : decode cX6_wed 43 = .ok (.invokevirtual 147, 3) := by decide +kernel
theorem dX6_wed_46 : decode cX6_wed 46 = .ok (.aload_n 0, 1) := by decide +kernel
theorem dX6_wed_47 : decode cX6_wed 47 = .ok (.invokevirtual 154, 3) := by decide +kernel
theorem dX6_wed_50 : decode cX6_wed 50 = .ok (.aload_n 0, 1) := by decide +kernel
theorem dX6_wed_51 : decode cX6_wed 51 = .ok (.getfield 18, 3) := by decide +kernel
theorem dX6_wed_54 : decode cX6_wed 54 = .ok (.aload_n 0, 1) := by decide +kernel
theorem dX6_wed_55 : decode cX6_wed 55 = .ok (.getfield 12, 3) := by decide +kernel
theorem dX6_wed_58 : decode cX6_wed 58 = .ok (.invokevirtual 151, 3) := by decide +kernel
theorem dX6_wed_61 : decode cX6_wed 61 = .ok (.aload_n 0, 1) := by decide +kernel
theorem dX6_wed_62 : decode cX6_wed 62 = .ok (.getfield 12, 3) := by decide +kernel
theorem dX6_wed_65 : decode cX6_wed 65 = .ok (.getfield 96, 3) := by decide +kernel
theorem dX6_wed_68 : decode cX6_wed 68 = .ok (.iload_n 1, 1) := by decide +kernel
theorem dX6_wed_69 : decode cX6_wed 69 = .ok (.iaload, 1) := by decide +kernel
theorem dX6_wed_70 : decode cX6_wed 70 = .ok (.aload_n 0, 1) := by decide +kernel
theorem dX6_wed_71 : decode cX6_wed 71 = .ok (.getfield 12, 3) := by decide +kernel
theorem dX6_wed_74 : decode cX6_wed 74 = .ok (.getfield 96, 3) := by decide +kernel
theorem dX6_wed_77 : decode cX6_wed 77 = .ok (.iload_n 2, 1) := by decide +kernel
theorem dX6_wed_78 : decode cX6_wed 78 = .ok (.iaload, 1) := by decide +kernel
theorem dX6_wed_79 : decode cX6_wed 79 = .ok (.iadd, 1) := by decide +kernel
theorem dX6_wed_80 : decode cX6_wed 80 = .ok (.iconst 2, 1) := by decide +kernel
theorem dX6_wed_81 : decode cX6_wed 81 = .ok (.idiv, 1) := by decide +kernel
theorem dX6_wed_82 : decode cX6_wed 82 = .ok (.istore_n 3, 1) := by decide +kernel
theorem dX6_wed_83 : decode cX6_wed 83 = .ok (.aload_n 0, 1) := by decide +kernel
theorem dX6_wed_84 : decode cX6_wed 84 = .ok (.getfield 18, 3) := by decide +kernel
theorem dX6_wed_87 : decode cX6_wed 87 = .ok (.getfield 96, 3) := by decide +kernel
theorem dX6_wed_90 : decode cX6_wed 90 = .ok (.iload_n 1, 1) := by decide +kernel
theorem dX6_wed_91 : decode cX6_wed 91 = .ok (.iload_n 3, 1) := by decide +kernel
theorem dX6_wed_92 : decode cX6_wed 92 = .ok (.iastore, 1) := by decide +kernel
theorem dX6_wed_93 : decode cX6_wed 93 = .ok (.aload_n 0, 1) := by decide +kernel
theorem dX6_wed_94 : decode cX6_wed 94 = .ok (.getfield 18, 3) := by decide +kernel
theorem dX6_wed_97 : decode cX6_wed 97 = .ok (.getfield 96, 3) := by decide +kernel
theorem dX6_wed_100 : decode cX6_wed 100 = .ok (.iload_n 2, 1) := by decide +kernel
theorem dX6_wed_101 : decode cX6_wed 101 = .ok (.iload_n 3, 1) := by decide +kernel
theorem dX6_wed_102 : decode cX6_wed 102 = .ok (.iastore, 1) := by decide +kernel
theorem dX6_wed_103 : decode cX6_wed 103 = .ok (.aload_n 0, 1) := by decide +kernel
theorem dX6_wed_104 : decode cX6_wed 104 = .ok (.getfield 18, 3) := by decide +kernel
theorem dX6_wed_107 : decode cX6_wed 107 = .ok (.bipush 10, 2) := by decide +kernel
theorem dX6_wed_109 : decode cX6_wed 109 = .ok (.invokevirtual 147, 3) := by decide +kernel
theorem dX6_wed_112 : decode cX6_wed 112 = .ok (.aload_n 0, 1) := by decide +kernel
theorem dX6_wed_113 : decode cX6_wed 113 = .ok (.invokevirtual 157, 3) := by decide +kernel
theorem dX6_wed_116 : decode cX6_wed 116 = .ok (.ireturn, 1) := by decide +kernel
theorem dX6_odds_0 : decode cX6_odds 0 = .ok (.aload_n 0, 1) := by decide +kernel
theorem dX6_odds_1 : decode cX6_odds 1 = .ok (.iload_n 1, 1) := by decide +kernel
theorem dX6_odds_2 : decode cX6_odds 2 = .ok (.invokevirtual 87, 3) := by decide +kernel
theorem dX6_odds_5 : decode cX6_odds 5 = .ok (.ifCond .eq 17, 3) := by decide +kernel
theorem dX6_odds_8 : decode cX6_odds 8 = .ok (.iload_n 2, 1) := by decide +kernel
theorem dX6_odds_9 : decode cX6_odds 9 = .ok (.invokestatic 76, 3) := by decide +kernel
theorem dX6_odds_12 : decode cX6_odds 12 = .ok (.ifCond .eq 10, 3) := by decide +kernel
theorem dX6_odds_15 : decode cX6_odds 15 = .ok (.iload_n 3, 1) := by decide +kernel
theorem dX6_odds_16 : decode cX6_odds 16 = .ok (.invokestatic 160, 3) := by decide +kernel
theorem dX6_odds_19 : decode cX6_odds 19 = .ok (.ifCond .ne 7, 3) := by decide +kernel
theorem dX6_odds_22 : decode cX6_odds 22 = .ok (.ldc2_w 189, 3) := by decide +kernel
theorem dX6_odds_25 : decode cX6_odds 25 = .ok (.lreturn, 1) := by decide +kernel
theorem dX6_odds_26 : decode cX6_odds 26 = .ok (.iconst 0, 1) := by decide +kernel
theorem dX6_odds_27 : decode cX6_odds 27 = .ok (.istore 4, 2) := by decide +kernel
theorem dX6_odds_29 : decode cX6_odds 29 = .ok (.iconst 0, 1) := by decide +kernel
theorem dX6_odds_30 : decode cX6_odds 30 = .ok (.istore 5, 2) := by decide +kernel
theorem dX6_odds_32 : decode cX6_odds 32 = .ok (.iload 5, 2) := by decide +kernel
theorem dX6_odds_34 : decode cX6_odds 34 = .ok (.aload_n 0, 1) := by decide +kernel
theorem dX6_odds_35 : decode cX6_odds 35 = .ok (.getfield 12, 3) := by decide +kernel
theorem dX6_odds_38 : decode cX6_odds 38 = .ok (.getfield 79, 3) := by decide +kernel
theorem dX6_odds_41 : decode cX6_odds 41 = .ok (.if_icmp .ge 56, 3) := by decide +kernel
theorem dX6_odds_44 : decode cX6_odds 44 = .ok (.aload_n 0, 1) := by decide +kernel
theorem dX6_odds_45 : decode cX6_odds 45 = .ok (.getfield 18, 3) := by decide +kernel
theorem dX6_odds_48 : decode cX6_odds 48 = .ok (.aload_n 0, 1) := by decide +kernel
theorem dX6_odds_49 : decode cX6_odds 49 = .ok (.getfield 12, 3) := by decide +kernel
theorem dX6_odds_52 : decode cX6_odds 52 = .ok (.invokevirtual 151, 3) := by decide +kernel
theorem dX6_odds_55 : decode cX6_odds 55 = .ok (.aload_n 0, 1) := by decide +kernel
theorem dX6_odds_56 : decode cX6_odds 56 = .ok (.getfield 18, 3) := by decide +kernel
theorem dX6_odds_59 : decode cX6_odds 59 = .ok (.iload 5, 2) := by decide +kernel
theorem dX6_odds_61 : decode cX6_odds 61 = .ok (.bipush 9, 2) := by decide +kernel
theorem dX6_odds_63 : decode cX6_odds 63 = .ok (.invokevirtual 163, 3) := by decide +kernel
theorem dX6_odds_66 : decode cX6_odds 66 = .ok (.aload_n 0, 1) := by decide +kernel
theorem dX6_odds_67 : decode cX6_odds 67 = .ok (.getfield 18, 3) := by decide +kernel
theorem dX6_odds_70 : decode cX6_odds 70 = .ok (.bipush 40, 2) := by decide +kernel
theorem dX6_odds_72 : decode cX6_odds 72 = .ok (.invokevirtual 147, 3) := by decide +kernel
theorem dX6_odds_75 : decode cX6_odds 75 = .ok (.aload_n 0, 1) := by decide +kernel
theorem dX6_odds_76 : decode cX6_odds 76 = .ok (.getfield 18, 3) := by decide +kernel
theorem dX6_odds_79 : decode cX6_odds 79 = .ok (.getfield 96, 3) := by decide +kernel
theorem dX6_odds_82 : decode cX6_odds 82 = .ok (.iload_n 1, 1) := by decide +kernel
theorem dX6_odds_83 : decode cX6_odds 83 = .ok (.iaload, 1) := by decide +kernel
theorem dX6_odds_84 : decode cX6_odds 84 = .ok (.iload_n 2, 1) := by decide +kernel
theorem dX6_odds_85 : decode cX6_odds 85 = .ok (.if_icmp .lt 6, 3) := by decide +kernel
theorem dX6_odds_88 : decode cX6_odds 88 = .ok (.iinc 4 1, 3) := by decide +kernel
theorem dX6_odds_91 : decode cX6_odds 91 = .ok (.iinc 5 1, 3) := by decide +kernel
theorem dX6_odds_94 : decode cX6_odds 94 = .ok (.goto (-62), 3) := by decide +kernel
theorem dX6_odds_97 : decode cX6_odds 97 = .ok (.iload 4, 2) := by decide +kernel
theorem dX6_odds_99 : decode cX6_odds 99 = .ok (.aload_n 0, 1) := by decide +kernel
theorem dX6_odds_100 : decode cX6_odds 100 = .ok (.getfield 12, 3) := by decide +kernel
theorem dX6_odds_103 : decode cX6_odds 103 = .ok (.getfield 79, 3) := by decide +kernel
theorem dX6_odds_106 : decode cX6_odds 106 = .ok (.iload_n 3, 1) := by decide +kernel
theorem dX6_odds_107 : decode cX6_odds 107 = .ok (.invokestatic 191, 3) := by decide +kernel
theorem dX6_odds_110 : decode cX6_odds 110 = .ok (.lreturn, 1) := by decide +kernel
theorem dX6_mean_0 : decode cX6_mean 0 = .ok (.iload_n 1, 1) := by decide +kernel
theorem dX6_mean_1 : decode cX6_mean 1 = .ok (.iconst 1, 1) := by decide +kernel
theorem dX6_mean_2 : decode cX6_mean 2 = .ok (.if_icmp .lt 26, 3) := by decide +kernel
theorem dX6_mean_5 : decode cX6_mean 5 = .ok (.iload_n 1, 1) := by decide +kernel
theorem dX6_mean_6 : decode cX6_mean 6 = .ok (.bipush 60, 2) := by decide +kernel
theorem dX6_mean_8 : decode cX6_mean 8 = .ok (.if_icmp .gt 20, 3) := by decide +kernel
theorem dX6_mean_11 : decode cX6_mean 11 = .ok (.iload_n 2, 1) := by decide +kernel
theorem dX6_mean_12 : decode cX6_mean 12 = .ok (.invokestatic 160, 3) := by decide +kernel
theorem dX6_mean_15 : decode cX6_mean 15 = .ok (.ifCond .eq 13, 3) := by decide +kernel
theorem dX6_mean_18 : decode cX6_mean 18 = .ok (.aload_n 0, 1) := by decide +kernel
theorem dX6_mean_19 : decode cX6_mean 19 = .ok (.getfield 12, 3) := by decide +kernel
theorem dX6_mean_22 : decode cX6_mean 22 = .ok (.getfield 79, 3) := by decide +kernel
theorem dX6_mean_25 : decode cX6_mean 25 = .ok (.ifCond .ne 7, 3) := by decide +kernel
theorem dX6_mean_28 : decode cX6_mean 28 = .ok (.ldc2_w 189, 3) := by decide +kernel
theorem dX6_mean_31 : decode cX6_mean 31 = .ok (.lreturn, 1) := by decide +kernel
theorem dX6_mean_32 : decode cX6_mean 32 = .ok (.aload_n 0, 1) := by decide +kernel
theorem dX6_mean_33 : decode cX6_mean 33 = .ok (.getfield 18, 3) := by decide +kernel
theorem dX6_mean_36 : decode cX6_mean 36 = .ok (.aload_n 0, 1) := by decide +kernel
theorem dX6_mean_37 : decode cX6_mean 37 = .ok (.getfield 12, 3) := by decide +kernel
theorem dX6_mean_40 : decode cX6_mean 40 = .ok (.invokevirtual 151, 3) := by decide +kernel
theorem dX6_mean_43 : decode cX6_mean 43 = .ok (.iconst 0, 1) := by decide +kernel
theorem dX6_mean_44 : decode cX6_mean 44 = .ok (.istore_n 3, 1) := by decide +kernel
theorem dX6_mean_45 : decode cX6_mean 45 = .ok (.iconst 1, 1) := by decide +kernel
theorem dX6_mean_46 : decode cX6_mean 46 = .ok (.istore 4, 2) := by decide +kernel
theorem dX6_mean_48 : decode cX6_mean 48 = .ok (.iload 4, 2) := by decide +kernel
theorem dX6_mean_50 : decode cX6_mean 50 = .ok (.iload_n 1, 1) := by decide +kernel
theorem dX6_mean_51 : decode cX6_mean 51 = .ok (.if_icmp .gt 27, 3) := by decide +kernel
theorem dX6_mean_54 : decode cX6_mean 54 = .ok (.aload_n 0, 1) := by decide +kernel
theorem dX6_mean_55 : decode cX6_mean 55 = .ok (.getfield 18, 3) := by decide +kernel
theorem dX6_mean_58 : decode cX6_mean 58 = .ok (.iconst 1, 1) := by decide +kernel
theorem dX6_mean_59 : decode cX6_mean 59 = .ok (.invokevirtual 147, 3) := by decide +kernel
theorem dX6_mean_62 : decode cX6_mean 62 = .ok (.iload_n 3, 1) := by decide +kernel
theorem dX6_mean_63 : decode cX6_mean 63 = .ok (.aload_n 0, 1) := by decide +kernel
theorem dX6_mean_64 : decode cX6_mean 64 = .ok (.getfield 18, 3) := by decide +kernel
theorem dX6_mean_67 : decode cX6_mean 67 = .ok (.invokevirtual 144, 3) := by decide +kernel
theorem dX6_mean_70 : decode cX6_mean 70 = .ok (.iadd, 1) := by decide +kernel
theorem dX6_mean_71 : decode cX6_mean 71 = .ok (.istore_n 3, 1) := by decide +kernel
theorem dX6_mean_72 : decode cX6_mean 72 = .ok (.iinc 4 1, 3) := by decide +kernel
theorem dX6_mean_75 : decode cX6_mean 75 = .ok (.goto (-27), 3) := by decide +kernel
theorem dX6_mean_78 : decode cX6_mean 78 = .ok (.iload_n 3, 1) := by decide +kernel
theorem dX6_mean_79 : decode cX6_mean 79 = .ok (.iload_n 1, 1) := by decide +kernel
theorem dX6_mean_80 : decode cX6_mean 80 = .ok (.aload_n 0, 1) := by decide +kernel
theorem dX6_mean_81 : decode cX6_mean 81 = .ok (.getfield 12, 3) := by decide +kernel
theorem dX6_mean_84 : decode cX6_mean 84 = .ok (.getfield 79, 3) := by decide +kernel
theorem dX6_mean_87 : decode cX6_mean 87 = .ok (.imul, 1) := by decide +kernel
theorem dX6_mean_88 : decode cX6_mean 88 = .ok (.iload_n 2, 1) := by decide +kernel
theorem dX6_mean_89 : decode cX6_mean 89 = .ok (.invokestatic 191, 3) := by decide +kernel
theorem dX6_mean_92 : decode cX6_mean 92 = .ok (.lreturn, 1) := by decide +kernel
theorem dX6_book_0 : decode cX6_book 0 = .ok (.iload_n 1, 1) := by decide +kernel
theorem dX6_book_1 : decode cX6_book 1 = .ok (.iconst (-1), 1) := by decide +kernel
theorem dX6_book_2 : decode cX6_book 2 = .ok (.if_icmp .ne 13, 3) := by decide +kernel
theorem dX6_book_5 : decode cX6_book 5 = .ok (.aload_n 0, 1) := by decide +kernel
theorem dX6_book_6 : decode cX6_book 6 = .ok (.getfield 27, 3) := by decide +kernel
theorem dX6_book_9 : decode cX6_book 9 = .ok (.iconst 0, 1) := by decide +kernel
theorem dX6_book_10 : decode cX6_book 10 = .ok (.putfield 195, 3) := by decide +kernel
theorem dX6_book_13 : decode cX6_book 13 = .ok (.iconst 0, 1) := by decide +kernel
theorem dX6_book_14 : decode cX6_book 14 = .ok (.ireturn, 1) := by decide +kernel
theorem dX6_book_15 : decode cX6_book 15 = .ok (.iload_n 1, 1) := by decide +kernel
theorem dX6_book_16 : decode cX6_book 16 = .ok (.bipush (-2), 2) := by decide +kernel
theorem dX6_book_18 : decode cX6_book 18 = .ok (.if_icmp .eq 13, 3) := by decide +kernel
theorem dX6_book_21 : decode cX6_book 21 = .ok (.iload_n 1, 1) := by decide +kernel
theorem dX6_book_22 : decode cX6_book 22 = .ok (.invokestatic 76, 3) := by decide +kernel
theorem dX6_book_25 : decode cX6_book 25 = .ok (.ifCond .ne 6, 3) := by decide +kernel
theorem dX6_book_28 : decode cX6_book 28 = .ok (.bipush (-2), 2) := by decide +kernel
theorem dX6_book_30 : decode cX6_book 30 = .ok (.ireturn, 1) := by decide +kernel
theorem dX6_book_31 : decode cX6_book 31 = .ok (.aload_n 0, 1) := by decide +kernel
theorem dX6_book_32 : decode cX6_book 32 = .ok (.getfield 27, 3) := by decide +kernel
theorem dX6_book_35 : decode cX6_book 35 = .ok (.iload_n 1, 1) := by decide +kernel
theorem dX6_book_36 : decode cX6_book 36 = .ok (.invokevirtual 198, 3) := by decide +kernel
theorem dX6_book_39 : decode cX6_book 39 = .ok (.ireturn, 1) := by decide +kernel
theorem dX6_looked_0 : decode cX6_looked 0 = .ok (.aload_n 0, 1) := by decide +kernel
theorem dX6_looked_1 : decode cX6_looked 1 = .ok (.getfield 12, 3) := by decide +kernel
theorem dX6_looked_4 : decode cX6_looked 4 = .ok (.getfield 79, 3) := by decide +kernel
theorem dX6_looked_7 : decode cX6_looked 7 = .ok (.ifCond .ne 6, 3) := by decide +kernel
theorem dX6_looked_10 : decode cX6_looked 10 = .ok (.bipush (-3), 2) := by decide +kernel
theorem dX6_looked_12 : decode cX6_looked 12 = .ok (.ireturn, 1) := by decide +kernel
theorem dX6_looked_13 : decode cX6_looked 13 = .ok (.aload_n 0, 1) := by decide +kernel
theorem dX6_looked_14 : decode cX6_looked 14 = .ok (.getfield 18, 3) := by decide +kernel
theorem dX6_looked_17 : decode cX6_looked 17 = .ok (.aload_n 0, 1) := by decide +kernel
theorem dX6_looked_18 : decode cX6_looked 18 = .ok (.getfield 12, 3) := by decide +kernel
theorem dX6_looked_21 : decode cX6_looked 21 = .ok (.invokevirtual 151, 3) := by decide +kernel
theorem dX6_looked_24 : decode cX6_looked 24 = .ok (.iconst 0, 1) := by decide +kernel
theorem dX6_looked_25 : decode cX6_looked 25 = .ok (.istore_n 1, 1) := by decide +kernel
theorem dX6_looked_26 : decode cX6_looked 26 = .ok (.iload_n 1, 1) := by decide +kernel
theorem dX6_looked_27 : decode cX6_looked 27 = .ok (.aload_n 0, 1) := by decide +kernel
theorem dX6_looked_28 : decode cX6_looked 28 = .ok (.getfield 27, 3) := by decide +kernel
theorem dX6_looked_31 : decode cX6_looked 31 = .ok (.getfield 195, 3) := by decide +kernel
theorem dX6_looked_34 : decode cX6_looked 34 = .ok (.if_icmp .ge 54, 3) := by decide +kernel
theorem dX6_looked_37 : decode cX6_looked 37 = .ok (.aload_n 0, 1) := by decide +kernel
theorem dX6_looked_38 : decode cX6_looked 38 = .ok (.getfield 18, 3) := by decide +kernel
theorem dX6_looked_41 : decode cX6_looked 41 = .ok (.iconst 1, 1) := by decide +kernel
theorem dX6_looked_42 : decode cX6_looked 42 = .ok (.invokevirtual 147, 3) := by decide +kernel
theorem dX6_looked_45 : decode cX6_looked 45 = .ok (.aload_n 0, 1) := by decide +kernel
theorem dX6_looked_46 : decode cX6_looked 46 = .ok (.getfield 27, 3) := by decide +kernel
theorem dX6_looked_49 : decode cX6_looked 49 = .ok (.getfield 201, 3) := by decide +kernel
theorem dX6_looked_52 : decode cX6_looked 52 = .ok (.iload_n 1, 1) := by decide +kernel
theorem dX6_looked_53 : decode cX6_looked 53 = .ok (.iaload, 1) := by decide +kernel
theorem dX6_looked_54 : decode cX6_looked 54 = .ok (.bipush (-2), 2) := by decide +kernel
theorem dX6_looked_56 : decode cX6_looked 56 = .ok (.if_icmp .eq 26, 3) := by decide +kernel
theorem dX6_looked_59 : decode cX6_looked 59 = .ok (.aload_n 0, 1) := by decide +kernel
theorem dX6_looked_60 : decode cX6_looked 60 = .ok (.getfield 27, 3) := by decide +kernel
theorem dX6_looked_63 : decode cX6_looked 63 = .ok (.getfield 201, 3) := by decide +kernel
theorem dX6_looked_66 : decode cX6_looked 66 = .ok (.iload_n 1, 1) := by decide +kernel
theorem dX6_looked_67 : decode cX6_looked 67 = .ok (.iaload, 1) := by decide +kernel
theorem dX6_looked_68 : decode cX6_looked 68 = .ok (.aload_n 0, 1) := by decide +kernel
theorem dX6_looked_69 : decode cX6_looked 69 = .ok (.getfield 18, 3) := by decide +kernel
theorem dX6_looked_72 : decode cX6_looked 72 = .ok (.getfield 96, 3) := by decide +kernel
theorem dX6_looked_75 : decode cX6_looked 75 = .ok (.iconst 0, 1) := by decide +kernel
theorem dX6_looked_76 : decode cX6_looked 76 = .ok (.iaload, 1) := by decide +kernel
theorem dX6_looked_77 : decode cX6_looked 77 = .ok (.if_icmp .eq 5, 3) := by decide +kernel
theorem dX6_looked_80 : decode cX6_looked 80 = .ok (.iload_n 1, 1) := by decide +kernel
theorem dX6_looked_81 : decode cX6_looked 81 = .ok (.ireturn, 1) := by decide +kernel
theorem dX6_looked_82 : decode cX6_looked 82 = .ok (.iinc 1 1, 3) := by decide +kernel
theorem dX6_looked_85 : decode cX6_looked 85 = .ok (.goto (-59), 3) := by decide +kernel
theorem dX6_looked_88 : decode cX6_looked 88 = .ok (.bipush (-5), 2) := by decide +kernel
theorem dX6_looked_90 : decode cX6_looked 90 = .ok (.ireturn, 1) := by decide +kernel
theorem dX6_judge_0 : decode cX6_judge 0 = .ok (.iload_n 1, 1) := by decide +kernel
theorem dX6_judge_1 : decode cX6_judge 1 = .ok (.invokestatic 204, 3) := by decide +kernel
theorem dX6_judge_4 : decode cX6_judge 4 = .ok (.ifCond .ne 5, 3) := by decide +kernel
theorem dX6_judge_7 : decode cX6_judge 7 = .ok (.iconst (-1), 1) := by decide +kernel
theorem dX6_judge_8 : decode cX6_judge 8 = .ok (.ireturn, 1) := by decide +kernel
theorem dX6_judge_9 : decode cX6_judge 9 = .ok (.aload_n 0, 1) := by decide +kernel
theorem dX6_judge_10 : decode cX6_judge 10 = .ok (.getfield 56, 3) := by decide +kernel
theorem dX6_judge_13 : decode cX6_judge 13 = .ok (.iload_n 1, 1) := by decide +kernel
theorem dX6_judge_14 : decode cX6_judge 14 = .ok (.aaload, 1) := by decide +kernel
theorem dX6_judge_15 : decode cX6_judge 15 = .ok (.astore_n 3, 1) := by decide +kernel
theorem dX6_judge_16 : decode cX6_judge 16 = .ok (.aload_n 3, 1) := by decide +kernel
theorem dX6_judge_17 : decode cX6_judge 17 = .ok (.getfield 207, 3) := by decide +kernel
theorem dX6_judge_20 : decode cX6_judge 20 = .ok (.iconst (-1), 1) := by decide +kernel
theorem dX6_judge_21 : decode cX6_judge 21 = .ok (.if_icmp .eq 14, 3) := by decide +kernel
theorem dX6_judge_24 : decode cX6_judge 24 = .ok (.aload_n 3, 1) := by decide +kernel
theorem dX6_judge_25 : decode cX6_judge 25 = .ok (.getfield 207, 3) := by decide +kernel
theorem dX6_judge_28 : decode cX6_judge 28 = .ok (.iconst 1, 1) := by decide +kernel
theorem dX6_judge_29 : decode cX6_judge 29 = .ok (.if_icmp .eq 6, 3) := by decide +kernel
theorem dX6_judge_32 : decode cX6_judge 32 = .ok (.bipush (-12), 2) := by decide +kernel
theorem dX6_judge_34 : decode cX6_judge 34 = .ok (.ireturn, 1) := by decide +kernel
theorem dX6_judge_35 : decode cX6_judge 35 = .ok (.iconst 0, 1) := by decide +kernel
theorem dX6_judge_36 : decode cX6_judge 36 = .ok (.istore 4, 2) := by decide +kernel
theorem dX6_judge_38 : decode cX6_judge 38 = .ok (.iload 4, 2) := by decide +kernel
theorem dX6_judge_40 : decode cX6_judge 40 = .ok (.aload_n 0, 1) := by decide +kernel
theorem dX6_judge_41 : decode cX6_judge 41 = .ok (.getfield 12, 3) := by decide +kernel
theorem dX6_judge_44 : decode cX6_judge 44 = .ok (.getfield 79, 3) := by decide +kernel
theorem dX6_judge_47 : decode cX6_judge 47 = .ok (.if_icmp .ge 57, 3) := by decide +kernel
theorem dX6_judge_50 : decode cX6_judge 50 = .ok (.iload_n 2, 1) := by decide +kernel
theorem dX6_judge_51 : decode cX6_judge 51 = .ok (.ifCond .lt 14, 3) := by decide +kernel
theorem dX6_judge_54 : decode cX6_judge 54 = .ok (.iload_n 2, 1) := by decide +kernel
theorem dX6_judge_55 : decode cX6_judge 55 = .ok (.aload_n 3, 1) := by decide +kernel
theorem dX6_judge_56 : decode cX6_judge 56 = .ok (.getfield 210, 3) := by decide +kernel
theorem dX6_judge_59 : decode cX6_judge 59 = .ok (.iload 4, 2) := by decide +kernel
theorem dX6_judge_61 : decode cX6_judge 61 = .ok (.isub, 1) := by decide +kernel
theorem dX6_judge_62 : decode cX6_judge 62 = .ok (.if_icmp .lt 9, 3) := by decide +kernel
theorem dX6_judge_65 : decode cX6_judge 65 = .ok (.bipush 100, 2) := by decide +kernel
theorem dX6_judge_67 : decode cX6_judge 67 = .ok (.iload 4, 2) := by decide +kernel
theorem dX6_judge_69 : decode cX6_judge 69 = .ok (.iadd, 1) := by decide +kernel
theorem dX6_judge_70 : decode cX6_judge 70 = .ok (.ireturn, 1) := by decide +kernel
theorem dX6_judge_71 : decode cX6_judge 71 = .ok (.aload_n 3, 1) := by decide +kernel
theorem dX6_judge_72 : decode cX6_judge 72 = .ok (.getfield 213, 3) := by decide +kernel
theorem dX6_judge_75 : decode cX6_judge 75 = .ok (.iload_n 2, 1) := by decide +kernel
theorem dX6_judge_76 : decode cX6_judge 76 = .ok (.iload 4, 2) := by decide +kernel
theorem dX6_judge_78 : decode cX6_judge 78 = .ok (.iadd, 1) := by decide +kernel
theorem dX6_judge_79 : decode cX6_judge 79 = .ok (.laload, 1) := by decide +kernel
theorem dX6_judge_80 : decode cX6_judge 80 = .ok (.aload_n 0, 1) := by decide +kernel
theorem dX6_judge_81 : decode cX6_judge 81 = .ok (.getfield 12, 3) := by decide +kernel
theorem dX6_judge_84 : decode cX6_judge 84 = .ok (.getfield 96, 3) := by decide +kernel
theorem dX6_judge_87 : decode cX6_judge 87 = .ok (.iload 4, 2) := by decide +kernel
theorem dX6_judge_89 : decode cX6_judge 89 = .ok (.iaload, 1) := by decide +kernel
theorem dX6_judge_90 : decode cX6_judge 90 = .ok (.i2l, 1) := by decide +kernel
theorem dX6_judge_91 : decode cX6_judge 91 = .ok (.lcmp, 1) := by decide +kernel
theorem dX6_judge_92 : decode cX6_judge 92 = .ok (.ifCond .eq 6, 3) := by decide +kernel
theorem dX6_judge_95 : decode cX6_judge 95 = .ok (.iload 4, 2) := by decide +kernel
theorem dX6_judge_97 : decode cX6_judge 97 = .ok (.ireturn, 1) := by decide +kernel
theorem dX6_judge_98 : decode cX6_judge 98 = .ok (.iinc 4 1, 3) := by decide +kernel
theorem dX6_judge_101 : decode cX6_judge 101 = .ok (.goto (-63), 3) := by decide +kernel
theorem dX6_judge_104 : decode cX6_judge 104 = .ok (.bipush (-5), 2) := by decide +kernel
theorem dX6_judge_106 : decode cX6_judge 106 = .ok (.ireturn, 1) := by decide +kernel
theorem dX6_image_0 : decode cX6_image 0 = .ok (.aload_n 0, 1) := by decide +kernel
theorem dX6_image_1 : decode cX6_image 1 = .ok (.getfield 21, 3) := by decide +kernel
theorem dX6_image_4 : decode cX6_image 4 = .ok (.aload_n 0, 1) := by decide +kernel
theorem dX6_image_5 : decode cX6_image 5 = .ok (.getfield 12, 3) := by decide +kernel
theorem dX6_image_8 : decode cX6_image 8 = .ok (.invokevirtual 151, 3) := by decide +kernel
theorem dX6_image_11 : decode cX6_image 11 = .ok (.aload_n 0, 1) := by decide +kernel
theorem dX6_image_12 : decode cX6_image 12 = .ok (.getfield 31, 3) := by decide +kernel
theorem dX6_image_15 : decode cX6_image 15 = .ok (.aload_n 0, 1) := by decide +kernel
theorem dX6_image_16 : decode cX6_image 16 = .ok (.getfield 27, 3) := by decide +kernel
theorem dX6_image_19 : decode cX6_image 19 = .ok (.invokevirtual 217, 3) := by decide +kernel
theorem dX6_image_22 : decode cX6_image 22 = .ok (.aload_n 0, 1) := by decide +kernel
theorem dX6_image_23 : decode cX6_image 23 = .ok (.iconst 1, 1) := by decide +kernel
theorem dX6_image_24 : decode cX6_image 24 = .ok (.putfield 220, 3) := by decide +kernel
theorem dX6_image_27 : decode cX6_image 27 = .ok (.aload_n 0, 1) := by decide +kernel
theorem dX6_image_28 : decode cX6_image 28 = .ok (.getfield 12, 3) := by decide +kernel
theorem dX6_image_31 : decode cX6_image 31 = .ok (.getfield 79, 3) := by decide +kernel
theorem dX6_image_34 : decode cX6_image 34 = .ok (.ireturn, 1) := by decide +kernel
theorem dX6_undo_0 : decode cX6_undo 0 = .ok (.aload_n 0, 1) := by decide +kernel
theorem dX6_undo_1 : decode cX6_undo 1 = .ok (.getfield 220, 3) := by decide +kernel
theorem dX6_undo_4 : decode cX6_undo 4 = .ok (.ifCond .ne 6, 3) := by decide +kernel
theorem dX6_undo_7 : decode cX6_undo 7 = .ok (.bipush (-3), 2) := by decide +kernel
theorem dX6_undo_9 : decode cX6_undo 9 = .ok (.ireturn, 1) := by decide +kernel
theorem dX6_undo_10 : decode cX6_undo 10 = .ok (.aload_n 0, 1) := by decide +kernel
theorem dX6_undo_11 : decode cX6_undo 11 = .ok (.getfield 12, 3) := by decide +kernel
theorem dX6_undo_14 : decode cX6_undo 14 = .ok (.aload_n 0, 1) := by decide +kernel
theorem dX6_undo_15 : decode cX6_undo 15 = .ok (.getfield 21, 3) := by decide +kernel
theorem dX6_undo_18 : decode cX6_undo 18 = .ok (.invokevirtual 151, 3) := by decide +kernel
theorem dX6_undo_21 : decode cX6_undo 21 = .ok (.aload_n 0, 1) := by decide +kernel
theorem dX6_undo_22 : decode cX6_undo 22 = .ok (.getfield 27, 3) := by decide +kernel
theorem dX6_undo_25 : decode cX6_undo 25 = .ok (.aload_n 0, 1) := by decide +kernel
theorem dX6_undo_26 : decode cX6_undo 26 = .ok (.getfield 31, 3) := by decide +kernel
theorem dX6_undo_29 : decode cX6_undo 29 = .ok (.invokevirtual 217, 3) := by decide +kernel
theorem dX6_undo_32 : decode cX6_undo 32 = .ok (.aload_n 0, 1) := by decide +kernel
theorem dX6_undo_33 : decode cX6_undo 33 = .ok (.getfield 12, 3) := by decide +kernel
theorem dX6_undo_36 : decode cX6_undo 36 = .ok (.getfield 79, 3) := by decide +kernel
theorem dX6_undo_39 : decode cX6_undo 39 = .ok (.ireturn, 1) := by decide +kernel
theorem dX6_act_0 : decode cX6_act 0 = .ok (.aload_n 0, 1) := by decide +kernel
theorem dX6_act_1 : decode cX6_act 1 = .ok (.getfield 50, 3) := by decide +kernel
theorem dX6_act_4 : decode cX6_act 4 = .ok (.invokevirtual 224, 3) := by decide +kernel
theorem dX6_act_7 : decode cX6_act 7 = .ok (.aload_n 0, 1) := by decide +kernel
theorem dX6_act_8 : decode cX6_act 8 = .ok (.iload_n 1, 1) := by decide +kernel
theorem dX6_act_9 : decode cX6_act 9 = .ok (.invokevirtual 87, 3) := by decide +kernel
theorem dX6_act_12 : decode cX6_act 12 = .ok (.ifCond .ne 5, 3) := by decide +kernel
theorem dX6_act_15 : decode cX6_act 15 = .ok (.iconst 0, 1) := by decide +kernel
theorem dX6_act_16 : decode cX6_act 16 = .ok (.ireturn, 1) := by decide +kernel
theorem dX6_act_17 : decode cX6_act 17 = .ok (.aload_n 0, 1) := by decide +kernel
theorem dX6_act_18 : decode cX6_act 18 = .ok (.getfield 50, 3) := by decide +kernel
theorem dX6_act_21 : decode cX6_act 21 = .ok (.aload_n 0, 1) := by decide +kernel
theorem dX6_act_22 : decode cX6_act 22 = .ok (.getfield 12, 3) := by decide +kernel
theorem dX6_act_25 : decode cX6_act 25 = .ok (.getfield 90, 3) := by decide +kernel
theorem dX6_act_28 : decode cX6_act 28 = .ok (.iload_n 1, 1) := by decide +kernel
theorem dX6_act_29 : decode cX6_act 29 = .ok (.iaload, 1) := by decide +kernel
theorem dX6_act_30 : decode cX6_act 30 = .ok (.aload_n 0, 1) := by decide +kernel
theorem dX6_act_31 : decode cX6_act 31 = .ok (.getfield 12, 3) := by decide +kernel
theorem dX6_act_34 : decode cX6_act 34 = .ok (.getfield 93, 3) := by decide +kernel
theorem dX6_act_37 : decode cX6_act 37 = .ok (.iload_n 1, 1) := by decide +kernel
theorem dX6_act_38 : decode cX6_act 38 = .ok (.iaload, 1) := by decide +kernel
theorem dX6_act_39 : decode cX6_act 39 = .ok (.iload_n 1, 1) := by decide +kernel
theorem dX6_act_40 : decode cX6_act 40 = .ok (.invokevirtual 225, 3) := by decide +kernel
theorem dX6_act_43 : decode cX6_act 43 = .ok (.aload_n 0, 1) := by decide +kernel
theorem dX6_act_44 : decode cX6_act 44 = .ok (.getfield 50, 3) := by decide +kernel
theorem dX6_act_47 : decode cX6_act 47 = .ok (.iload_n 2, 1) := by decide +kernel
theorem dX6_act_48 : decode cX6_act 48 = .ok (.iload_n 3, 1) := by decide +kernel
theorem dX6_act_49 : decode cX6_act 49 = .ok (.invokevirtual 229, 3) := by decide +kernel
theorem dX6_act_52 : decode cX6_act 52 = .ok (.ireturn, 1) := by decide +kernel
theorem dX6_trace_0 : decode cX6_trace 0 = .ok (.iload_n 1, 1) := by decide +kernel
theorem dX6_trace_1 : decode cX6_trace 1 = .ok (.ifCond .lt 20, 3) := by decide +kernel
theorem dX6_trace_4 : decode cX6_trace 4 = .ok (.iload_n 1, 1) := by decide +kernel
theorem dX6_trace_5 : decode cX6_trace 5 = .ok (.aload_n 0, 1) := by decide +kernel
theorem dX6_trace_6 : decode cX6_trace 6 = .ok (.getfield 50, 3) := by decide +kernel
theorem dX6_trace_9 : decode cX6_trace 9 = .ok (.getfield 232, 3) := by decide +kernel
theorem dX6_trace_12 : decode cX6_trace 12 = .ok (.if_icmp .ge 9, 3) := by decide +kernel
theorem dX6_trace_15 : decode cX6_trace 15 = .ok (.iload_n 1, 1) := by decide +kernel
theorem dX6_trace_16 : decode cX6_trace 16 = .ok (.bipush 20, 2) := by decide +kernel
theorem dX6_trace_18 : decode cX6_trace 18 = .ok (.if_icmp .lt 5, 3) := by decide +kernel
theorem dX6_trace_21 : decode cX6_trace 21 = .ok (.iconst (-1), 1) := by decide +kernel
theorem dX6_trace_22 : decode cX6_trace 22 = .ok (.ireturn, 1) := by decide +kernel
theorem dX6_trace_23 : decode cX6_trace 23 = .ok (.aload_n 0, 1) := by decide +kernel
theorem dX6_trace_24 : decode cX6_trace 24 = .ok (.getfield 50, 3) := by decide +kernel
theorem dX6_trace_27 : decode cX6_trace 27 = .ok (.getfield 235, 3) := by decide +kernel
theorem dX6_trace_30 : decode cX6_trace 30 = .ok (.iload_n 1, 1) := by decide +kernel
theorem dX6_trace_31 : decode cX6_trace 31 = .ok (.iaload, 1) := by decide +kernel
theorem dX6_trace_32 : decode cX6_trace 32 = .ok (.ireturn, 1) := by decide +kernel
theorem dX6_taken_0 : decode cX6_taken 0 = .ok (.iload_n 2, 1) := by decide +kernel
theorem dX6_taken_1 : decode cX6_taken 1 = .ok (.invokestatic 69, 3) := by decide +kernel
theorem dX6_taken_4 : decode cX6_taken 4 = .ok (.ifCond .ne 6, 3) := by decide +kernel
theorem dX6_taken_7 : decode cX6_taken 7 = .ok (.bipush (-2), 2) := by decide +kernel
theorem dX6_taken_9 : decode cX6_taken 9 = .ok (.ireturn, 1) := by decide +kernel
theorem dX6_taken_10 : decode cX6_taken 10 = .ok (.aload_n 0, 1) := by decide +kernel
theorem dX6_taken_11 : decode cX6_taken 11 = .ok (.iload_n 1, 1) := by decide +kernel
theorem dX6_taken_12 : decode cX6_taken 12 = .ok (.invokevirtual 87, 3) := by decide +kernel
theorem dX6_taken_15 : decode cX6_taken 15 = .ok (.ifCond .ne 6, 3) := by decide +kernel
theorem dX6_taken_18 : decode cX6_taken 18 = .ok (.bipush (-11), 2) := by decide +kernel
theorem dX6_taken_20 : decode cX6_taken 20 = .ok (.ireturn, 1) := by decide +kernel
theorem dX6_taken_21 : decode cX6_taken 21 = .ok (.aload_n 0, 1) := by decide +kernel
theorem dX6_taken_22 : decode cX6_taken 22 = .ok (.getfield 12, 3) := by decide +kernel
theorem dX6_taken_25 : decode cX6_taken 25 = .ok (.getfield 90, 3) := by decide +kernel
theorem dX6_taken_28 : decode cX6_taken 28 = .ok (.iload_n 1, 1) := by decide +kernel
theorem dX6_taken_29 : decode cX6_taken 29 = .ok (.iaload, 1) := by decide +kernel
theorem dX6_taken_30 : decode cX6_taken 30 = .ok (.istore_n 3, 1) := by decide +kernel
theorem dX6_taken_31 : decode cX6_taken 31 = .ok (.iload_n 3, 1) := by decide +kernel
theorem dX6_taken_32 : decode cX6_taken 32 = .ok (.iload_n 2, 1) := by decide +kernel
theorem dX6_taken_33 : decode cX6_taken 33 = .ok (.invokestatic 238, 3) := by decide +kernel
theorem dX6_taken_36 : decode cX6_taken 36 = .ok (.ifCond .eq 7, 3) := by decide +kernel
theorem dX6_taken_39 : decode cX6_taken 39 = .ok (.iload_n 3, 1) := by decide +kernel
theorem dX6_taken_40 : decode cX6_taken 40 = .ok (.goto 5, 3) := by decide +kernel
theorem dX6_taken_43 : decode cX6_taken 43 = .ok (.bipush (-12), 2) := by decide +kernel
theorem dX6_taken_45 : decode cX6_taken 45 = .ok (.ireturn, 1) := by decide +kernel
theorem dX6_count_0 : decode cX6_count 0 = .ok (.iload_n 1, 1) := by decide +kernel
theorem dX6_count_1 : decode cX6_count 1 = .ok (.tableswitch 84 0 5 #[39, 47, 52, 60, 68, 76], 39) := by decide +kernel
theorem dX6_count_40 : decode cX6_count 40 = .ok (.aload_n 0, 1) := by decide +kernel
theorem dX6_count_41 : decode cX6_count 41 = .ok (.getfield 12, 3) := by decide +kernel
theorem dX6_count_44 : decode cX6_count 44 = .ok (.getfield 79, 3) := by decide +kernel
theorem dX6_count_47 : decode cX6_count 47 = .ok (.ireturn, 1) := by decide +kernel
theorem dX6_count_48 : decode cX6_count 48 = .ok (.aload_n 0, 1) := by decide +kernel
theorem dX6_count_49 : decode cX6_count 49 = .ok (.getfield 118, 3) := by decide +kernel
theorem dX6_count_52 : decode cX6_count 52 = .ok (.ireturn, 1) := by decide +kernel
theorem dX6_count_53 : decode cX6_count 53 = .ok (.aload_n 0, 1) := by decide +kernel
theorem dX6_count_54 : decode cX6_count 54 = .ok (.getfield 27, 3) := by decide +kernel
theorem dX6_count_57 : decode cX6_count 57 = .ok (.getfield 179, 3) := by decide +kernel
theorem dX6_count_60 : decode cX6_count 60 = .ok (.ireturn, 1) := by decide +kernel
theorem dX6_count_61 : decode cX6_count 61 = .ok (.aload_n 0, 1) := by decide +kernel
theorem dX6_count_62 : decode cX6_count 62 = .ok (.getfield 27, 3) := by decide +kernel
theorem dX6_count_65 : decode cX6_count 65 = .ok (.getfield 195, 3) := by decide +kernel
theorem dX6_count_68 : decode cX6_count 68 = .ok (.ireturn, 1) := by decide +kernel
theorem dX6_count_69 : decode cX6_count 69 = .ok (.aload_n 0, 1) := by decide +kernel
theorem dX6_count_70 : decode cX6_count 70 = .ok (.getfield 37, 3) := by decide +kernel
theorem dX6_count_73 : decode cX6_count 73 = .ok (.getfield 242, 3) := by decide +kernel
theorem dX6_count_76 : decode cX6_count 76 = .ok (.ireturn, 1) := by decide +kernel
theorem dX6_count_77 : decode cX6_count 77 = .ok (.aload_n 0, 1) := by decide +kernel
theorem dX6_count_78 : decode cX6_count 78 = .ok (.getfield 50, 3) := by decide +kernel
theorem dX6_count_81 : decode cX6_count 81 = .ok (.getfield 232, 3) := by decide +kernel
theorem dX6_count_84 : decode cX6_count 84 = .ok (.ireturn, 1) := by decide +kernel
theorem dX6_count_85 : decode cX6_count 85 = .ok (.bipush (-2), 2) := by decide +kernel
theorem dX6_count_87 : decode cX6_count 87 = .ok (.ireturn, 1) := by decide +kernel
theorem dX6_tape_0 : decode cX6_tape 0 = .ok (.iload_n 1, 1) := by decide +kernel
theorem dX6_tape_1 : decode cX6_tape 1 = .ok (.invokestatic 204, 3) := by decide +kernel
theorem dX6_tape_4 : decode cX6_tape 4 = .ok (.ifCond .ne 5, 3) := by decide +kernel
theorem dX6_tape_7 : decode cX6_tape 7 = .ok (.iconst (-1), 1) := by decide +kernel
theorem dX6_tape_8 : decode cX6_tape 8 = .ok (.ireturn, 1) := by decide +kernel
theorem dX6_tape_9 : decode cX6_tape 9 = .ok (.iload_n 2, 1) := by decide +kernel
theorem dX6_tape_10 : decode cX6_tape 10 = .ok (.iconst (-1), 1) := by decide +kernel
theorem dX6_tape_11 : decode cX6_tape 11 = .ok (.if_icmp .lt 8, 3) := by decide +kernel
theorem dX6_tape_14 : decode cX6_tape 14 = .ok (.iload_n 2, 1) := by decide +kernel
theorem dX6_tape_15 : decode cX6_tape 15 = .ok (.iconst 4, 1) := by decide +kernel
theorem dX6_tape_16 : decode cX6_tape 16 = .ok (.if_icmp .le 6, 3) := by decide +kernel
theorem dX6_tape_19 : decode cX6_tape 19 = .ok (.bipush (-2), 2) := by decide +kernel
theorem dX6_tape_21 : decode cX6_tape 21 = .ok (.ireturn, 1) := by decide +kernel
theorem dX6_tape_22 : decode cX6_tape 22 = .ok (.iload_n 2, 1) := by decide +kernel
theorem dX6_tape_23 : decode cX6_tape 23 = .ok (.iconst (-1), 1) := by decide +kernel
theorem dX6_tape_24 : decode cX6_tape 24 = .ok (.if_icmp .ne 16, 3) := by decide +kernel
theorem dX6_tape_27 : decode cX6_tape 27 = .ok (.aload_n 0, 1) := by decide +kernel
theorem dX6_tape_28 : decode cX6_tape 28 = .ok (.getfield 56, 3) := by decide +kernel
theorem dX6_tape_31 : decode cX6_tape 31 = .ok (.iload_n 1, 1) := by decide +kernel
theorem dX6_tape_32 : decode cX6_tape 32 = .ok (.aaload, 1) := by decide +kernel
theorem dX6_tape_33 : decode cX6_tape 33 = .ok (.iconst (-1), 1) := by decide +kernel
theorem dX6_tape_34 : decode cX6_tape 34 = .ok (.iconst 0, 1) := by decide +kernel
theorem dX6_tape_35 : decode cX6_tape 35 = .ok (.invokevirtual 243, 3) := by decide +kernel
theorem dX6_tape_38 : decode cX6_tape 38 = .ok (.iconst 1, 1) := by decide +kernel
theorem dX6_tape_39 : decode cX6_tape 39 = .ok (.ireturn, 1) := by decide +kernel
theorem dX6_tape_40 : decode cX6_tape 40 = .ok (.iload_n 3, 1) := by decide +kernel
theorem dX6_tape_41 : decode cX6_tape 41 = .ok (.bipush 60, 2) := by decide +kernel
theorem dX6_tape_43 : decode cX6_tape 43 = .ok (.if_icmp .le 6, 3) := by decide +kernel
theorem dX6_tape_46 : decode cX6_tape 46 = .ok (.bipush (-2), 2) := by decide +kernel
theorem dX6_tape_48 : decode cX6_tape 48 = .ok (.ireturn, 1) := by decide +kernel
theorem dX6_tape_49 : decode cX6_tape 49 = .ok (.iload_n 3, 1) := by decide +kernel
theorem dX6_tape_50 : decode cX6_tape 50 = .ok (.ifCond .ge 6, 3) := by decide +kernel
theorem dX6_tape_53 : decode cX6_tape 53 = .ok (.bipush (-14), 2) := by decide +kernel
theorem dX6_tape_55 : decode cX6_tape 55 = .ok (.ireturn, 1) := by decide +kernel
theorem dX6_tape_56 : decode cX6_tape 56 = .ok (.aload_n 0, 1) := by decide +kernel
theorem dX6_tape_57 : decode cX6_tape 57 = .ok (.getfield 56, 3) := by decide +kernel
theorem dX6_tape_60 : decode cX6_tape 60 = .ok (.iload_n 1, 1) := by decide +kernel
theorem dX6_tape_61 : decode cX6_tape 61 = .ok (.aaload, 1) := by decide +kernel
theorem dX6_tape_62 : decode cX6_tape 62 = .ok (.iload_n 2, 1) := by decide +kernel
theorem dX6_tape_63 : decode cX6_tape 63 = .ok (.iload_n 3, 1) := by decide +kernel
theorem dX6_tape_64 : decode cX6_tape 64 = .ok (.invokevirtual 243, 3) := by decide +kernel
theorem dX6_tape_67 : decode cX6_tape 67 = .ok (.iconst 1, 1) := by decide +kernel
theorem dX6_tape_68 : decode cX6_tape 68 = .ok (.ireturn, 1) := by decide +kernel
theorem dX6_item_0 : decode cX6_item 0 = .ok (.iload_n 1, 1) := by decide +kernel
theorem dX6_item_1 : decode cX6_item 1 = .ok (.invokestatic 204, 3) := by decide +kernel
theorem dX6_item_4 : decode cX6_item 4 = .ok (.ifCond .ne 5, 3) := by decide +kernel
theorem dX6_item_7 : decode cX6_item 7 = .ok (.iconst (-1), 1) := by decide +kernel
theorem dX6_item_8 : decode cX6_item 8 = .ok (.ireturn, 1) := by decide +kernel
theorem dX6_item_9 : decode cX6_item 9 = .ok (.aload_n 0, 1) := by decide +kernel
theorem dX6_item_10 : decode cX6_item 10 = .ok (.getfield 56, 3) := by decide +kernel
theorem dX6_item_13 : decode cX6_item 13 = .ok (.iload_n 1, 1) := by decide +kernel
theorem dX6_item_14 : decode cX6_item 14 = .ok (.aaload, 1) := by decide +kernel
theorem dX6_item_15 : decode cX6_item 15 = .ok (.astore 5, 2) := by decide +kernel
theorem dX6_item_17 : decode cX6_item 17 = .ok (.aload 5, 2) := by decide +kernel
theorem dX6_item_19 : decode cX6_item 19 = .ok (.getfield 207, 3) := by decide +kernel
theorem dX6_item_22 : decode cX6_item 22 = .ok (.iconst (-1), 1) := by decide +kernel
theorem dX6_item_23 : decode cX6_item 23 = .ok (.if_icmp .ne 6, 3) := by decide +kernel
theorem dX6_item_26 : decode cX6_item 26 = .ok (.bipush (-11), 2) := by decide +kernel
theorem dX6_item_28 : decode cX6_item 28 = .ok (.ireturn, 1) := by decide +kernel
theorem dX6_item_29 : decode cX6_item 29 = .ok (.iload_n 2, 1) := by decide +kernel
theorem dX6_item_30 : decode cX6_item 30 = .ok (.ifCond .lt 12, 3) := by decide +kernel
theorem dX6_item_33 : decode cX6_item 33 = .ok (.iload_n 2, 1) := by decide +kernel
theorem dX6_item_34 : decode cX6_item 34 = .ok (.aload 5, 2) := by decide +kernel
theorem dX6_item_36 : decode cX6_item 36 = .ok (.getfield 210, 3) := by decide +kernel
theorem dX6_item_39 : decode cX6_item 39 = .ok (.if_icmp .lt 6, 3) := by decide +kernel
theorem dX6_item_42 : decode cX6_item 42 = .ok (.bipush (-13), 2) := by decide +kernel
theorem dX6_item_44 : decode cX6_item 44 = .ok (.ireturn, 1) := by decide +kernel
theorem dX6_item_45 : decode cX6_item 45 = .ok (.aload 5, 2) := by decide +kernel
theorem dX6_item_47 : decode cX6_item 47 = .ok (.getfield 213, 3) := by decide +kernel
theorem dX6_item_50 : decode cX6_item 50 = .ok (.iload_n 2, 1) := by decide +kernel
theorem dX6_item_51 : decode cX6_item 51 = .ok (.aload 5, 2) := by decide +kernel
theorem dX6_item_53 : decode cX6_item 53 = .ok (.lload_n 3, 1) := by decide +kernel
theorem dX6_item_54 : decode cX6_item 54 = .ok (.invokevirtual 246, 3) := by decide +kernel
theorem dX6_item_57 : decode cX6_item 57 = .ok (.lastore, 1) := by decide +kernel
theorem dX6_item_58 : decode cX6_item 58 = .ok (.iconst 1, 1) := by decide +kernel
theorem dX6_item_59 : decode cX6_item 59 = .ok (.ireturn, 1) := by decide +kernel
theorem dX6_read_0 : decode cX6_read 0 = .ok (.iload_n 1, 1) := by decide +kernel
theorem dX6_read_1 : decode cX6_read 1 = .ok (.invokestatic 204, 3) := by decide +kernel
theorem dX6_read_4 : decode cX6_read 4 = .ok (.ifCond .eq 20, 3) := by decide +kernel
theorem dX6_read_7 : decode cX6_read 7 = .ok (.iload_n 2, 1) := by decide +kernel
theorem dX6_read_8 : decode cX6_read 8 = .ok (.ifCond .lt 16, 3) := by decide +kernel
theorem dX6_read_11 : decode cX6_read 11 = .ok (.iload_n 2, 1) := by decide +kernel
theorem dX6_read_12 : decode cX6_read 12 = .ok (.aload_n 0, 1) := by decide +kernel
theorem dX6_read_13 : decode cX6_read 13 = .ok (.getfield 56, 3) := by decide +kernel
theorem dX6_read_16 : decode cX6_read 16 = .ok (.iload_n 1, 1) := by decide +kernel
theorem dX6_read_17 : decode cX6_read 17 = .ok (.aaload, 1) := by decide +kernel
theorem dX6_read_18 : decode cX6_read 18 = .ok (.getfield 210, 3) := by decide +kernel
theorem dX6_read_21 : decode cX6_read 21 = .ok (.if_icmp .lt 7, 3) := by decide +kernel
theorem dX6_read_24 : decode cX6_read 24 = .ok (.ldc2_w 189, 3) := by decide +kernel
theorem dX6_read_27 : decode cX6_read 27 = .ok (.lreturn, 1) := by decide +kernel
theorem dX6_read_28 : decode cX6_read 28 = .ok (.aload_n 0, 1) := by decide +kernel
theorem dX6_read_29 : decode cX6_read 29 = .ok (.getfield 56, 3) := by decide +kernel
theorem dX6_read_32 : decode cX6_read 32 = .ok (.iload_n 1, 1) := by decide +kernel
theorem dX6_read_33 : decode cX6_read 33 = .ok (.aaload, 1) := by decide +kernel
theorem dX6_read_34 : decode cX6_read 34 = .ok (.getfield 213, 3) := by decide +kernel
theorem dX6_read_37 : decode cX6_read 37 = .ok (.iload_n 2, 1) := by decide +kernel
theorem dX6_read_38 : decode cX6_read 38 = .ok (.laload, 1) := by decide +kernel
theorem dX6_read_39 : decode cX6_read 39 = .ok (.lreturn, 1) := by decide +kernel
theorem dX6_shift_0 : decode cX6_shift 0 = .ok (.iload_n 1, 1) := by decide +kernel
theorem dX6_shift_1 : decode cX6_shift 1 = .ok (.invokestatic 204, 3) := by decide +kernel
theorem dX6_shift_4 : decode cX6_shift 4 = .ok (.ifCond .eq 10, 3) := by decide +kernel
theorem dX6_shift_7 : decode cX6_shift 7 = .ok (.iload_n 3, 1) := by decide +kernel
theorem dX6_shift_8 : decode cX6_shift 8 = .ok (.invokestatic 204, 3) := by decide +kernel
theorem dX6_shift_11 : decode cX6_shift 11 = .ok (.ifCond .ne 5, 3) := by decide +kernel
theorem dX6_shift_14 : decode cX6_shift 14 = .ok (.iconst (-1), 1) := by decide +kernel
theorem dX6_shift_15 : decode cX6_shift 15 = .ok (.ireturn, 1) := by decide +kernel
theorem dX6_shift_16 : decode cX6_shift 16 = .ok (.aload_n 0, 1) := by decide +kernel
theorem dX6_shift_17 : decode cX6_shift 17 = .ok (.getfield 56, 3) := by decide +kernel
theorem dX6_shift_20 : decode cX6_shift 20 = .ok (.iload_n 1, 1) := by decide +kernel
theorem dX6_shift_21 : decode cX6_shift 21 = .ok (.aaload, 1) := by decide +kernel
theorem dX6_shift_22 : decode cX6_shift 22 = .ok (.astore 6, 2) := by decide +kernel
theorem dX6_shift_24 : decode cX6_shift 24 = .ok (.aload_n 0, 1) := by decide +kernel
theorem dX6_shift_25 : decode cX6_shift 25 = .ok (.getfield 56, 3) := by decide +kernel
theorem dX6_shift_28 : decode cX6_shift 28 = .ok (.iload_n 3, 1) := by decide +kernel
theorem dX6_shift_29 : decode cX6_shift 29 = .ok (.aaload, 1) := by decide +kernel
theorem dX6_shift_30 : decode cX6_shift 30 = .ok (.astore 7, 2) := by decide +kernel
theorem dX6_shift_32 : decode cX6_shift 32 = .ok (.aload 6, 2) := by decide +kernel
theorem dX6_shift_34 : decode cX6_shift 34 = .ok (.getfield 207, 3) := by decide +kernel
theorem dX6_shift_37 : decode cX6_shift 37 = .ok (.iconst (-1), 1) := by decide +kernel
theorem dX6_shift_38 : decode cX6_shift 38 = .ok (.if_icmp .eq 12, 3) := by decide +kernel
theorem dX6_shift_41 : decode cX6_shift 41 = .ok (.aload 7, 2) := by decide +kernel
theorem dX6_shift_43 : decode cX6_shift 43 = .ok (.getfield 207, 3) := by decide +kernel
theorem dX6_shift_46 : decode cX6_shift 46 = .ok (.iconst (-1), 1) := by decide +kernel
theorem dX6_shift_47 : decode cX6_shift 47 = .ok (.if_icmp .ne 6, 3) := by decide +kernel
theorem dX6_shift_50 : decode cX6_shift 50 = .ok (.bipush (-11), 2) := by decide +kernel
theorem dX6_shift_52 : decode cX6_shift 52 = .ok (.ireturn, 1) := by decide +kernel
theorem dX6_shift_53 : decode cX6_shift 53 = .ok (.aload 6, 2) := by decide +kernel
theorem dX6_shift_55 : decode cX6_shift 55 = .ok (.getfield 207, 3) := by decide +kernel
theorem dX6_shift_58 : decode cX6_shift 58 = .ok (.aload 7, 2) := by decide +kernel
theorem dX6_shift_60 : decode cX6_shift 60 = .ok (.getfield 207, 3) := by decide +kernel
theorem dX6_shift_63 : decode cX6_shift 63 = .ok (.if_icmp .eq 6, 3) := by decide +kernel
theorem dX6_shift_66 : decode cX6_shift 66 = .ok (.bipush (-12), 2) := by decide +kernel
theorem dX6_shift_68 : decode cX6_shift 68 = .ok (.ireturn, 1) := by decide +kernel
theorem dX6_shift_69 : decode cX6_shift 69 = .ok (.aload 6, 2) := by decide +kernel
theorem dX6_shift_71 : decode cX6_shift 71 = .ok (.iload_n 2, 1) := by decide +kernel
theorem dX6_shift_72 : decode cX6_shift 72 = .ok (.iload 5, 2) := by decide +kernel
theorem dX6_shift_74 : decode cX6_shift 74 = .ok (.invokevirtual 250, 3) := by decide +kernel
theorem dX6_shift_77 : decode cX6_shift 77 = .ok (.ifCond .eq 15, 3) := by decide +kernel
theorem dX6_shift_80 : decode cX6_shift 80 = .ok (.aload 7, 2) := by decide +kernel
theorem dX6_shift_82 : decode cX6_shift 82 = .ok (.iload 4, 2) := by decide +kernel
theorem dX6_shift_84 : decode cX6_shift 84 = .ok (.iload 5, 2) := by decide +kernel
theorem dX6_shift_86 : decode cX6_shift 86 = .ok (.invokevirtual 250, 3) := by decide +kernel
theorem dX6_shift_89 : decode cX6_shift 89 = .ok (.ifCond .ne 6, 3) := by decide +kernel
theorem dX6_shift_92 : decode cX6_shift 92 = .ok (.bipush (-13), 2) := by decide +kernel
theorem dX6_shift_94 : decode cX6_shift 94 = .ok (.ireturn, 1) := by decide +kernel
theorem dX6_shift_95 : decode cX6_shift 95 = .ok (.aload 6, 2) := by decide +kernel
theorem dX6_shift_97 : decode cX6_shift 97 = .ok (.getfield 213, 3) := by decide +kernel
theorem dX6_shift_100 : decode cX6_shift 100 = .ok (.iload_n 2, 1) := by decide +kernel
theorem dX6_shift_101 : decode cX6_shift 101 = .ok (.aload 7, 2) := by decide +kernel
theorem dX6_shift_103 : decode cX6_shift 103 = .ok (.getfield 213, 3) := by decide +kernel
theorem dX6_shift_106 : decode cX6_shift 106 = .ok (.iload 4, 2) := by decide +kernel
theorem dX6_shift_108 : decode cX6_shift 108 = .ok (.iload 5, 2) := by decide +kernel
theorem dX6_shift_110 : decode cX6_shift 110 = .ok (.invokestatic 253, 3) := by decide +kernel
theorem dX6_shift_113 : decode cX6_shift 113 = .ok (.iload 5, 2) := by decide +kernel
theorem dX6_shift_115 : decode cX6_shift 115 = .ok (.ireturn, 1) := by decide +kernel
theorem dX6_isHouse_0 : decode cX6_isHouse 0 = .ok (.iload_n 1, 1) := by decide +kernel
theorem dX6_isHouse_1 : decode cX6_isHouse 1 = .ok (.ifCond .lt 18, 3) := by decide +kernel
theorem dX6_isHouse_4 : decode cX6_isHouse 4 = .ok (.iload_n 1, 1) := by decide +kernel
theorem dX6_isHouse_5 : decode cX6_isHouse 5 = .ok (.aload_n 0, 1) := by decide +kernel
theorem dX6_isHouse_6 : decode cX6_isHouse 6 = .ok (.getfield 12, 3) := by decide +kernel
theorem dX6_isHouse_9 : decode cX6_isHouse 9 = .ok (.getfield 79, 3) := by decide +kernel
theorem dX6_isHouse_12 : decode cX6_isHouse 12 = .ok (.if_icmp .ge 7, 3) := by decide +kernel
theorem dX6_isHouse_15 : decode cX6_isHouse 15 = .ok (.iconst 1, 1) := by decide +kernel
theorem dX6_isHouse_16 : decode cX6_isHouse 16 = .ok (.goto 4, 3) := by decide +kernel
theorem dX6_isHouse_19 : decode cX6_isHouse 19 = .ok (.iconst 0, 1) := by decide +kernel
theorem dX6_isHouse_20 : decode cX6_isHouse 20 = .ok (.ireturn, 1) := by decide +kernel
theorem dX6_isKind_0 : decode cX6_isKind 0 = .ok (.iload_n 0, 1) := by decide +kernel
theorem dX6_isKind_1 : decode cX6_isKind 1 = .ok (.ifCond .lt 13, 3) := by decide +kernel
theorem dX6_isKind_4 : decode cX6_isKind 4 = .ok (.iload_n 0, 1) := by decide +kernel
theorem dX6_isKind_5 : decode cX6_isKind 5 = .ok (.bipush 6, 2) := by decide +kernel
theorem dX6_isKind_7 : decode cX6_isKind 7 = .ok (.if_icmp .gt 7, 3) := by decide +kernel
theorem dX6_isKind_10 : decode cX6_isKind 10 = .ok (.iconst 1, 1) := by decide +kernel
theorem dX6_isKind_11 : decode cX6_isKind 11 = .ok (.goto 4, 3) := by decide +kernel
theorem dX6_isKind_14 : decode cX6_isKind 14 = .ok (.iconst 0, 1) := by decide +kernel
theorem dX6_isKind_15 : decode cX6_isKind 15 = .ok (.ireturn, 1) := by decide +kernel
theorem dX6_isV_0 : decode cX6_isV 0 = .ok (.iload_n 0, 1) := by decide +kernel
theorem dX6_isV_1 : decode cX6_isV 1 = .ok (.ifCond .lt 13, 3) := by decide +kernel
theorem dX6_isV_4 : decode cX6_isV 4 = .ok (.iload_n 0, 1) := by decide +kernel
theorem dX6_isV_5 : decode cX6_isV 5 = .ok (.bipush 9, 2) := by decide +kernel
theorem dX6_isV_7 : decode cX6_isV 7 = .ok (.if_icmp .gt 7, 3) := by decide +kernel
theorem dX6_isV_10 : decode cX6_isV 10 = .ok (.iconst 1, 1) := by decide +kernel
theorem dX6_isV_11 : decode cX6_isV 11 = .ok (.goto 4, 3) := by decide +kernel
theorem dX6_isV_14 : decode cX6_isV 14 = .ok (.iconst 0, 1) := by decide +kernel
theorem dX6_isV_15 : decode cX6_isV 15 = .ok (.ireturn, 1) := by decide +kernel
theorem dX6_isEarned_0 : decode cX6_isEarned 0 = .ok (.iload_n 0, 1) := by decide +kernel
theorem dX6_isEarned_1 : decode cX6_isEarned 1 = .ok (.ifCond .lt 13, 3) := by decide +kernel
theorem dX6_isEarned_4 : decode cX6_isEarned 4 = .ok (.iload_n 0, 1) := by decide +kernel
theorem dX6_isEarned_5 : decode cX6_isEarned 5 = .ok (.bipush 99, 2) := by decide +kernel
theorem dX6_isEarned_7 : decode cX6_isEarned 7 = .ok (.if_icmp .gt 7, 3) := by decide +kernel
theorem dX6_isEarned_10 : decode cX6_isEarned 10 = .ok (.iconst 1, 1) := by decide +kernel
theorem dX6_isEarned_11 : decode cX6_isEarned 11 = .ok (.goto 4, 3) := by decide +kernel
theorem dX6_isEarned_14 : decode cX6_isEarned 14 = .ok (.iconst 0, 1) := by decide +kernel
theorem dX6_isEarned_15 : decode cX6_isEarned 15 = .ok (.ireturn, 1) := by decide +kernel
theorem dX6_isWhich_0 : decode cX6_isWhich 0 = .ok (.iload_n 0, 1) := by decide +kernel
theorem dX6_isWhich_1 : decode cX6_isWhich 1 = .ok (.ifCond .eq 8, 3) := by decide +kernel
theorem dX6_isWhich_4 : decode cX6_isWhich 4 = .ok (.iload_n 0, 1) := by decide +kernel
theorem dX6_isWhich_5 : decode cX6_isWhich 5 = .ok (.iconst 1, 1) := by decide +kernel
theorem dX6_isWhich_6 : decode cX6_isWhich 6 = .ok (.if_icmp .ne 7, 3) := by decide +kernel
theorem dX6_isWhich_9 : decode cX6_isWhich 9 = .ok (.iconst 1, 1) := by decide +kernel
theorem dX6_isWhich_10 : decode cX6_isWhich 10 = .ok (.goto 4, 3) := by decide +kernel
theorem dX6_isWhich_13 : decode cX6_isWhich 13 = .ok (.iconst 0, 1) := by decide +kernel
theorem dX6_isWhich_14 : decode cX6_isWhich 14 = .ok (.ireturn, 1) := by decide +kernel
theorem dX6_isTape_0 : decode cX6_isTape 0 = .ok (.iload_n 0, 1) := by decide +kernel
theorem dX6_isTape_1 : decode cX6_isTape 1 = .ok (.ifCond .lt 13, 3) := by decide +kernel
theorem dX6_isTape_4 : decode cX6_isTape 4 = .ok (.iload_n 0, 1) := by decide +kernel
theorem dX6_isTape_5 : decode cX6_isTape 5 = .ok (.bipush 6, 2) := by decide +kernel
theorem dX6_isTape_7 : decode cX6_isTape 7 = .ok (.if_icmp .ge 7, 3) := by decide +kernel
theorem dX6_isTape_10 : decode cX6_isTape 10 = .ok (.iconst 1, 1) := by decide +kernel
theorem dX6_isTape_11 : decode cX6_isTape 11 = .ok (.goto 4, 3) := by decide +kernel
theorem dX6_isTape_14 : decode cX6_isTape 14 = .ok (.iconst 0, 1) := by decide +kernel
theorem dX6_isTape_15 : decode cX6_isTape 15 = .ok (.ireturn, 1) := by decide +kernel
theorem dX6_isUnder_0 : decode cX6_isUnder 0 = .ok (.iload_n 0, 1) := by decide +kernel
theorem dX6_isUnder_1 : decode cX6_isUnder 1 = .ok (.istore_n 2, 1) := by decide +kernel
theorem dX6_isUnder_2 : decode cX6_isUnder 2 = .ok (.iconst 0, 1) := by decide +kernel
theorem dX6_isUnder_3 : decode cX6_isUnder 3 = .ok (.istore_n 3, 1) := by decide +kernel
theorem dX6_isUnder_4 : decode cX6_isUnder 4 = .ok (.iload_n 3, 1) := by decide +kernel
theorem dX6_isUnder_5 : decode cX6_isUnder 5 = .ok (.getstatic 259, 3) := by decide +kernel
theorem dX6_isUnder_8 : decode cX6_isUnder 8 = .ok (.arraylength, 1) := by decide +kernel
theorem dX6_isUnder_9 : decode cX6_isUnder 9 = .ok (.if_icmp .ge 29, 3) := by decide +kernel
theorem dX6_isUnder_12 : decode cX6_isUnder 12 = .ok (.iload_n 2, 1) := by decide +kernel
theorem dX6_isUnder_13 : decode cX6_isUnder 13 = .ok (.invokestatic 69, 3) := by decide +kernel
theorem dX6_isUnder_16 : decode cX6_isUnder 16 = .ok (.ifCond .eq 22, 3) := by decide +kernel
theorem dX6_isUnder_19 : decode cX6_isUnder 19 = .ok (.iload_n 2, 1) := by decide +kernel
theorem dX6_isUnder_20 : decode cX6_isUnder 20 = .ok (.iload_n 1, 1) := by decide +kernel
theorem dX6_isUnder_21 : decode cX6_isUnder 21 = .ok (.if_icmp .ne 5, 3) := by decide +kernel
theorem dX6_isUnder_24 : decode cX6_isUnder 24 = .ok (.iconst 1, 1) := by decide +kernel
theorem dX6_isUnder_25 : decode cX6_isUnder 25 = .ok (.ireturn, 1) := by decide +kernel
theorem dX6_isUnder_26 : decode cX6_isUnder 26 = .ok (.getstatic 259, 3) := by decide +kernel
theorem dX6_isUnder_29 : decode cX6_isUnder 29 = .ok (.iload_n 2, 1) := by decide +kernel
theorem dX6_isUnder_30 : decode cX6_isUnder 30 = .ok (.iaload, 1) := by decide +kernel
theorem dX6_isUnder_31 : decode cX6_isUnder 31 = .ok (.istore_n 2, 1) := by decide +kernel
theorem dX6_isUnder_32 : decode cX6_isUnder 32 = .ok (.iinc 3 1, 3) := by decide +kernel
theorem dX6_isUnder_35 : decode cX6_isUnder 35 = .ok (.goto (-31), 3) := by decide +kernel
theorem dX6_isUnder_38 : decode cX6_isUnder 38 = .ok (.iconst 0, 1) := by decide +kernel
theorem dX6_isUnder_39 : decode cX6_isUnder 39 = .ok (.ireturn, 1) := by decide +kernel
theorem dX6_keepLater_0 : decode cX6_keepLater 0 = .ok (.aload_n 0, 1) := by decide +kernel
theorem dX6_keepLater_1 : decode cX6_keepLater 1 = .ok (.getfield 18, 3) := by decide +kernel
theorem dX6_keepLater_4 : decode cX6_keepLater 4 = .ok (.getfield 96, 3) := by decide +kernel
theorem dX6_keepLater_7 : decode cX6_keepLater 7 = .ok (.iconst 0, 1) := by decide +kernel
theorem dX6_keepLater_8 : decode cX6_keepLater 8 = .ok (.aload_n 0, 1) := by decide +kernel
theorem dX6_keepLater_9 : decode cX6_keepLater 9 = .ok (.getfield 60, 3) := by decide +kernel
theorem dX6_keepLater_12 : decode cX6_keepLater 12 = .ok (.iconst 0, 1) := by decide +kernel
theorem dX6_keepLater_13 : decode cX6_keepLater 13 = .ok (.bipush 7, 2) := by decide +kernel
theorem dX6_keepLater_15 : decode cX6_keepLater 15 = .ok (.invokestatic 253, 3) := by decide +kernel
theorem dX6_keepLater_18 : decode cX6_keepLater 18 = .ok (.return_, 1) := by decide +kernel
theorem dX6_laterOtherwise_0 : decode cX6_laterOtherwise 0 = .ok (.iconst 0, 1) := by decide +kernel
theorem dX6_laterOtherwise_1 : decode cX6_laterOtherwise 1 = .ok (.istore_n 1, 1) := by decide +kernel
theorem dX6_laterOtherwise_2 : decode cX6_laterOtherwise 2 = .ok (.iconst 0, 1) := by decide +kernel
theorem dX6_laterOtherwise_3 : decode cX6_laterOtherwise 3 = .ok (.istore_n 2, 1) := by decide +kernel
theorem dX6_laterOtherwise_4 : decode cX6_laterOtherwise 4 = .ok (.iload_n 2, 1) := by decide +kernel
theorem dX6_laterOtherwise_5 : decode cX6_laterOtherwise 5 = .ok (.aload_n 0, 1) := by decide +kernel
theorem dX6_laterOtherwise_6 : decode cX6_laterOtherwise 6 = .ok (.getfield 18, 3) := by decide +kernel
theorem dX6_laterOtherwise_9 : decode cX6_laterOtherwise 9 = .ok (.getfield 79, 3) := by decide +kernel
theorem dX6_laterOtherwise_12 : decode cX6_laterOtherwise 12 = .ok (.if_icmp .ge 30, 3) := by decide +kernel
theorem dX6_laterOtherwise_15 : decode cX6_laterOtherwise 15 = .ok (.aload_n 0, 1) := by decide +kernel
theorem dX6_laterOtherwise_16 : decode cX6_laterOtherwise 16 = .ok (.getfield 18, 3) := by decide +kernel
theorem dX6_laterOtherwise_19 : decode cX6_laterOtherwise 19 = .ok (.getfield 96, 3) := by decide +kernel
theorem dX6_laterOtherwise_22 : decode cX6_laterOtherwise 22 = .ok (.iload_n 2, 1) := by decide +kernel
theorem dX6_laterOtherwise_23 : decode cX6_laterOtherwise 23 = .ok (.iaload, 1) := by decide +kernel
theorem dX6_laterOtherwise_24 : decode cX6_laterOtherwise 24 = .ok (.aload_n 0, 1) := by decide +kernel
theorem dX6_laterOtherwise_25 : decode cX6_laterOtherwise 25 = .ok (.getfield 60, 3) := by decide +kernel
theorem dX6_laterOtherwise_28 : decode cX6_laterOtherwise 28 = .ok (.iload_n 2, 1) := by decide +kernel
theorem dX6_laterOtherwise_29 : decode cX6_laterOtherwise 29 = .ok (.iaload, 1) := by decide +kernel
theorem dX6_laterOtherwise_30 : decode cX6_laterOtherwise 30 = .ok (.if_icmp .eq 6, 3) := by decide +kernel
theorem dX6_laterOtherwise_33 : decode cX6_laterOtherwise 33 = .ok (.iinc 1 1, 3) := by decide +kernel
theorem dX6_laterOtherwise_36 : decode cX6_laterOtherwise 36 = .ok (.iinc 2 1, 3) := by decide +kernel
theorem dX6_laterOtherwise_39 : decode cX6_laterOtherwise 39 = .ok (.goto (-35), 3) := by decide +kernel
theorem dX6_laterOtherwise_42 : decode cX6_laterOtherwise 42 = .ok (.iload_n 1, 1) := by decide +kernel
theorem dX6_laterOtherwise_43 : decode cX6_laterOtherwise 43 = .ok (.ireturn, 1) := by decide +kernel
theorem dX6_laterAsNow_0 : decode cX6_laterAsNow 0 = .ok (.iconst 0, 1) := by decide +kernel
theorem dX6_laterAsNow_1 : decode cX6_laterAsNow 1 = .ok (.istore_n 1, 1) := by decide +kernel
theorem dX6_laterAsNow_2 : decode cX6_laterAsNow 2 = .ok (.iload_n 1, 1) := by decide +kernel
theorem dX6_laterAsNow_3 : decode cX6_laterAsNow 3 = .ok (.aload_n 0, 1) := by decide +kernel
theorem dX6_laterAsNow_4 : decode cX6_laterAsNow 4 = .ok (.getfield 12, 3) := by decide +kernel
theorem dX6_laterAsNow_7 : decode cX6_laterAsNow 7 = .ok (.getfield 79, 3) := by decide +kernel
theorem dX6_laterAsNow_10 : decode cX6_laterAsNow 10 = .ok (.if_icmp .ge 32, 3) := by decide +kernel
theorem dX6_laterAsNow_13 : decode cX6_laterAsNow 13 = .ok (.aload_n 0, 1) := by decide +kernel
theorem dX6_laterAsNow_14 : decode cX6_laterAsNow 14 = .ok (.getfield 18, 3) := by decide +kernel
theorem dX6_laterAsNow_17 : decode cX6_laterAsNow 17 = .ok (.getfield 96, 3) := by decide +kernel
theorem dX6_laterAsNow_20 : decode cX6_laterAsNow 20 = .ok (.iload_n 1, 1) := by decide +kernel
theorem dX6_laterAsNow_21 : decode cX6_laterAsNow 21 = .ok (.iaload, 1) := by decide +kernel
theorem dX6_laterAsNow_22 : decode cX6_laterAsNow 22 = .ok (.aload_n 0, 1) := by decide +kernel
theorem dX6_laterAsNow_23 : decode cX6_laterAsNow 23 = .ok (.getfield 12, 3) := by decide +kernel
theorem dX6_laterAsNow_26 : decode cX6_laterAsNow 26 = .ok (.getfield 96, 3) := by decide +kernel
theorem dX6_laterAsNow_29 : decode cX6_laterAsNow 29 = .ok (.iload_n 1, 1) := by decide +kernel
theorem dX6_laterAsNow_30 : decode cX6_laterAsNow 30 = .ok (.iaload, 1) := by decide +kernel
theorem dX6_laterAsNow_31 : decode cX6_laterAsNow 31 = .ok (.if_icmp .eq 5, 3) := by decide +kernel
theorem dX6_laterAsNow_34 : decode cX6_laterAsNow 34 = .ok (.iconst 0, 1) := by decide +kernel
theorem dX6_laterAsNow_35 : decode cX6_laterAsNow 35 = .ok (.ireturn, 1) := by decide +kernel
theorem dX6_laterAsNow_36 : decode cX6_laterAsNow 36 = .ok (.iinc 1 1, 3) := by decide +kernel
theorem dX6_laterAsNow_39 : decode cX6_laterAsNow 39 = .ok (.goto (-37), 3) := by decide +kernel
theorem dX6_laterAsNow_42 : decode cX6_laterAsNow 42 = .ok (.iconst 1, 1) := by decide +kernel
theorem dX6_laterAsNow_43 : decode cX6_laterAsNow 43 = .ok (.ireturn, 1) := by decide +kernel
theorem dX6_listValues_0 : decode cX6_listValues 0 = .ok (.iconst 0, 1) := by decide +kernel
theorem dX6_listValues_1 : decode cX6_listValues 1 = .ok (.istore_n 1, 1) := by decide +kernel
theorem dX6_listValues_2 : decode cX6_listValues 2 = .ok (.iconst 0, 1) := by decide +kernel
theorem dX6_listValues_3 : decode cX6_listValues 3 = .ok (.istore_n 2, 1) := by decide +kernel
theorem dX6_listValues_4 : decode cX6_listValues 4 = .ok (.iload_n 2, 1) := by decide +kernel
theorem dX6_listValues_5 : decode cX6_listValues 5 = .ok (.bipush 99, 2) := by decide +kernel
theorem dX6_listValues_7 : decode cX6_listValues 7 = .ok (.if_icmp .gt 36, 3) := by decide +kernel
theorem dX6_listValues_10 : decode cX6_listValues 10 = .ok (.aload_n 0, 1) := by decide +kernel
theorem dX6_listValues_11 : decode cX6_listValues 11 = .ok (.getfield 12, 3) := by decide +kernel
theorem dX6_listValues_14 : decode cX6_listValues 14 = .ok (.iload_n 2, 1) := by decide +kernel
theorem dX6_listValues_15 : decode cX6_listValues 15 = .ok (.invokevirtual 262, 3) := by decide +kernel
theorem dX6_listValues_18 : decode cX6_listValues 18 = .ok (.ifCond .eq 19, 3) := by decide +kernel
theorem dX6_listValues_21 : decode cX6_listValues 21 = .ok (.iload_n 1, 1) := by decide +kernel
theorem dX6_listValues_22 : decode cX6_listValues 22 = .ok (.bipush 7, 2) := by decide +kernel
theorem dX6_listValues_24 : decode cX6_listValues 24 = .ok (.if_icmp .ge 13, 3) := by decide +kernel
theorem dX6_listValues_27 : decode cX6_listValues 27 = .ok (.aload_n 0, 1) := by decide +kernel
theorem dX6_listValues_28 : decode cX6_listValues 28 = .ok (.getfield 64, 3) := by decide +kernel
theorem dX6_listValues_31 : decode cX6_listValues 31 = .ok (.iload_n 1, 1) := by decide +kernel
theorem dX6_listValues_32 : decode cX6_listValues 32 = .ok (.iload_n 2, 1) := by decide +kernel
theorem dX6_listValues_33 : decode cX6_listValues 33 = .ok (.iastore, 1) := by decide +kernel
theorem dX6_listValues_34 : decode cX6_listValues 34 = .ok (.iinc 1 1, 3) := by decide +kernel
theorem dX6_listValues_37 : decode cX6_listValues 37 = .ok (.iinc 2 1, 3) := by decide +kernel
theorem dX6_listValues_40 : decode cX6_listValues 40 = .ok (.goto (-36), 3) := by decide +kernel
theorem dX6_listValues_43 : decode cX6_listValues 43 = .ok (.iload_n 1, 1) := by decide +kernel
theorem dX6_listValues_44 : decode cX6_listValues 44 = .ok (.ireturn, 1) := by decide +kernel
theorem dX6_setLaterRow_0 : decode cX6_setLaterRow 0 = .ok (.iload_n 1, 1) := by decide +kernel
theorem dX6_setLaterRow_1 : decode cX6_setLaterRow 1 = .ok (.istore_n 3, 1) := by decide +kernel
theorem dX6_setLaterRow_2 : decode cX6_setLaterRow 2 = .ok (.aload_n 0, 1) := by decide +kernel
theorem dX6_setLaterRow_3 : decode cX6_setLaterRow 3 = .ok (.getfield 12, 3) := by decide +kernel
theorem dX6_setLaterRow_6 : decode cX6_setLaterRow 6 = .ok (.getfield 79, 3) := by decide +kernel
theorem dX6_setLaterRow_9 : decode cX6_setLaterRow 9 = .ok (.iconst 1, 1) := by decide +kernel
theorem dX6_setLaterRow_10 : decode cX6_setLaterRow 10 = .ok (.isub, 1) := by decide +kernel
theorem dX6_setLaterRow_11 : decode cX6_setLaterRow 11 = .ok (.istore 4, 2) := by decide +kernel
theorem dX6_setLaterRow_13 : decode cX6_setLaterRow 13 = .ok (.iload 4, 2) := by decide +kernel
theorem dX6_setLaterRow_15 : decode cX6_setLaterRow 15 = .ok (.ifCond .lt 35, 3) := by decide +kernel
theorem dX6_setLaterRow_18 : decode cX6_setLaterRow 18 = .ok (.iload_n 2, 1) := by decide +kernel
theorem dX6_setLaterRow_19 : decode cX6_setLaterRow 19 = .ok (.ifCond .le 31, 3) := by decide +kernel
theorem dX6_setLaterRow_22 : decode cX6_setLaterRow 22 = .ok (.aload_n 0, 1) := by decide +kernel
theorem dX6_setLaterRow_23 : decode cX6_setLaterRow 23 = .ok (.getfield 18, 3) := by decide +kernel
theorem dX6_setLaterRow_26 : decode cX6_setLaterRow 26 = .ok (.getfield 96, 3) := by decide +kernel
theorem dX6_setLaterRow_29 : decode cX6_setLaterRow 29 = .ok (.iload 4, 2) := by decide +kernel
theorem dX6_setLaterRow_31 : decode cX6_setLaterRow 31 = .ok (.aload_n 0, 1) := by decide +kernel
theorem dX6_setLaterRow_32 : decode cX6_setLaterRow 32 = .ok (.getfield 64, 3) := by decide +kernel
theorem dX6_setLaterRow_35 : decode cX6_setLaterRow 35 = .ok (.iload_n 3, 1) := by decide +kernel
theorem dX6_setLaterRow_36 : decode cX6_setLaterRow 36 = .ok (.iload_n 2, 1) := by decide +kernel
theorem dX6_setLaterRow_37 : decode cX6_setLaterRow 37 = .ok (.irem, 1) := by decide +kernel
theorem dX6_setLaterRow_38 : decode cX6_setLaterRow 38 = .ok (.iaload, 1) := by decide +kernel
theorem dX6_setLaterRow_39 : decode cX6_setLaterRow 39 = .ok (.iastore, 1) := by decide +kernel
theorem dX6_setLaterRow_40 : decode cX6_setLaterRow 40 = .ok (.iload_n 3, 1) := by decide +kernel
theorem dX6_setLaterRow_41 : decode cX6_setLaterRow 41 = .ok (.iload_n 2, 1) := by decide +kernel
theorem dX6_setLaterRow_42 : decode cX6_setLaterRow 42 = .ok (.idiv, 1) := by decide +kernel
theorem dX6_setLaterRow_43 : decode cX6_setLaterRow 43 = .ok (.istore_n 3, 1) := by decide +kernel
theorem dX6_setLaterRow_44 : decode cX6_setLaterRow 44 = .ok (.iinc 4 (-1), 3) := by decide +kernel
theorem dX6_setLaterRow_47 : decode cX6_setLaterRow 47 = .ok (.goto (-34), 3) := by decide +kernel
theorem dX6_setLaterRow_50 : decode cX6_setLaterRow 50 = .ok (.return_, 1) := by decide +kernel
theorem dX6_allSeenIfLies_0 : decode cX6_allSeenIfLies 0 = .ok (.aload_n 0, 1) := by decide +kernel
theorem dX6_allSeenIfLies_1 : decode cX6_allSeenIfLies 1 = .ok (.getfield 18, 3) := by decide +kernel
theorem dX6_allSeenIfLies_4 : decode cX6_allSeenIfLies 4 = .ok (.iload_n 1, 1) := by decide +kernel
theorem dX6_allSeenIfLies_5 : decode cX6_allSeenIfLies 5 = .ok (.invokevirtual 265, 3) := by decide +kernel
theorem dX6_allSeenIfLies_8 : decode cX6_allSeenIfLies 8 = .ok (.aload_n 0, 1) := by decide +kernel
theorem dX6_allSeenIfLies_9 : decode cX6_allSeenIfLies 9 = .ok (.getfield 18, 3) := by decide +kernel
theorem dX6_allSeenIfLies_12 : decode cX6_allSeenIfLies 12 = .ok (.invokevirtual 105, 3) := by decide +kernel
theorem dX6_allSeenIfLies_15 : decode cX6_allSeenIfLies 15 = .ok (.iconst 0, 1) := by decide +kernel
theorem dX6_allSeenIfLies_16 : decode cX6_allSeenIfLies 16 = .ok (.istore_n 2, 1) := by decide +kernel
theorem dX6_allSeenIfLies_17 : decode cX6_allSeenIfLies 17 = .ok (.iload_n 2, 1) := by decide +kernel
theorem dX6_allSeenIfLies_18 : decode cX6_allSeenIfLies 18 = .ok (.aload_n 0, 1) := by decide +kernel
theorem dX6_allSeenIfLies_19 : decode cX6_allSeenIfLies 19 = .ok (.getfield 27, 3) := by decide +kernel
theorem dX6_allSeenIfLies_22 : decode cX6_allSeenIfLies 22 = .ok (.getfield 179, 3) := by decide +kernel
theorem dX6_allSeenIfLies_25 : decode cX6_allSeenIfLies 25 = .ok (.if_icmp .ge 50, 3) := by decide +kernel
theorem dX6_allSeenIfLies_28 : decode cX6_allSeenIfLies 28 = .ok (.aload_n 0, 1) := by decide +kernel
theorem dX6_allSeenIfLies_29 : decode cX6_allSeenIfLies 29 = .ok (.getfield 27, 3) := by decide +kernel
theorem dX6_allSeenIfLies_32 : decode cX6_allSeenIfLies 32 = .ok (.getfield 268, 3) := by decide +kernel
theorem dX6_allSeenIfLies_35 : decode cX6_allSeenIfLies 35 = .ok (.iload_n 2, 1) := by decide +kernel
theorem dX6_allSeenIfLies_36 : decode cX6_allSeenIfLies 36 = .ok (.iaload, 1) := by decide +kernel
theorem dX6_allSeenIfLies_37 : decode cX6_allSeenIfLies 37 = .ok (.istore_n 3, 1) := by decide +kernel
theorem dX6_allSeenIfLies_38 : decode cX6_allSeenIfLies 38 = .ok (.aload_n 0, 1) := by decide +kernel
theorem dX6_allSeenIfLies_39 : decode cX6_allSeenIfLies 39 = .ok (.iload_n 3, 1) := by decide +kernel
theorem dX6_allSeenIfLies_40 : decode cX6_allSeenIfLies 40 = .ok (.invokevirtual 87, 3) := by decide +kernel
theorem dX6_allSeenIfLies_43 : decode cX6_allSeenIfLies 43 = .ok (.ifCond .eq 24, 3) := by decide +kernel
theorem dX6_allSeenIfLies_46 : decode cX6_allSeenIfLies 46 = .ok (.aload_n 0, 1) := by decide +kernel
theorem dX6_allSeenIfLies_47 : decode cX6_allSeenIfLies 47 = .ok (.getfield 18, 3) := by decide +kernel
theorem dX6_allSeenIfLies_50 : decode cX6_allSeenIfLies 50 = .ok (.getfield 108, 3) := by decide +kernel
theorem dX6_allSeenIfLies_53 : decode cX6_allSeenIfLies 53 = .ok (.iload_n 3, 1) := by decide +kernel
theorem dX6_allSeenIfLies_54 : decode cX6_allSeenIfLies 54 = .ok (.iaload, 1) := by decide +kernel
theorem dX6_allSeenIfLies_55 : decode cX6_allSeenIfLies 55 = .ok (.aload_n 0, 1) := by decide +kernel
theorem dX6_allSeenIfLies_56 : decode cX6_allSeenIfLies 56 = .ok (.getfield 27, 3) := by decide +kernel
theorem dX6_allSeenIfLies_59 : decode cX6_allSeenIfLies 59 = .ok (.getfield 271, 3) := by decide +kernel
theorem dX6_allSeenIfLies_62 : decode cX6_allSeenIfLies 62 = .ok (.iload_n 2, 1) := by decide +kernel
theorem dX6_allSeenIfLies_63 : decode cX6_allSeenIfLies 63 = .ok (.iaload, 1) := by decide +kernel
theorem dX6_allSeenIfLies_64 : decode cX6_allSeenIfLies 64 = .ok (.if_icmp .eq 5, 3) := by decide +kernel
theorem dX6_allSeenIfLies_67 : decode cX6_allSeenIfLies 67 = .ok (.iconst 0, 1) := by decide +kernel
theorem dX6_allSeenIfLies_68 : decode cX6_allSeenIfLies 68 = .ok (.ireturn, 1) := by decide +kernel
theorem dX6_allSeenIfLies_69 : decode cX6_allSeenIfLies 69 = .ok (.iinc 2 1, 3) := by decide +kernel
theorem dX6_allSeenIfLies_72 : decode cX6_allSeenIfLies 72 = .ok (.goto (-55), 3) := by decide +kernel
theorem dX6_allSeenIfLies_75 : decode cX6_allSeenIfLies 75 = .ok (.iconst 1, 1) := by decide +kernel
theorem dX6_allSeenIfLies_76 : decode cX6_allSeenIfLies 76 = .ok (.ireturn, 1) := by decide +kernel
theorem dX6_lowest_0 : decode cX6_lowest 0 = .ok (.iload_n 0, 1) := by decide +kernel
theorem dX6_lowest_1 : decode cX6_lowest 1 = .ok (.istore_n 3, 1) := by decide +kernel
theorem dX6_lowest_2 : decode cX6_lowest 2 = .ok (.iload_n 1, 1) := by decide +kernel
theorem dX6_lowest_3 : decode cX6_lowest 3 = .ok (.istore 4, 2) := by decide +kernel
theorem dX6_lowest_5 : decode cX6_lowest 5 = .ok (.iconst 0, 1) := by decide +kernel
theorem dX6_lowest_6 : decode cX6_lowest 6 = .ok (.istore 5, 2) := by decide +kernel
theorem dX6_lowest_8 : decode cX6_lowest 8 = .ok (.iload 5, 2) := by decide +kernel
theorem dX6_lowest_10 : decode cX6_lowest 10 = .ok (.bipush 100, 2) := by decide +kernel
theorem dX6_lowest_12 : decode cX6_lowest 12 = .ok (.if_icmp .ge 27, 3) := by decide +kernel
theorem dX6_lowest_15 : decode cX6_lowest 15 = .ok (.iload 4, 2) := by decide +kernel
theorem dX6_lowest_17 : decode cX6_lowest 17 = .ok (.ifCond .eq 22, 3) := by decide +kernel
theorem dX6_lowest_20 : decode cX6_lowest 20 = .ok (.iload_n 3, 1) := by decide +kernel
theorem dX6_lowest_21 : decode cX6_lowest 21 = .ok (.iload 4, 2) := by decide +kernel
theorem dX6_lowest_23 : decode cX6_lowest 23 = .ok (.irem, 1) := by decide +kernel
theorem dX6_lowest_24 : decode cX6_lowest 24 = .ok (.istore 6, 2) := by decide +kernel
theorem dX6_lowest_26 : decode cX6_lowest 26 = .ok (.iload 4, 2) := by decide +kernel
theorem dX6_lowest_28 : decode cX6_lowest 28 = .ok (.istore_n 3, 1) := by decide +kernel
theorem dX6_lowest_29 : decode cX6_lowest 29 = .ok (.iload 6, 2) := by decide +kernel
theorem dX6_lowest_31 : decode cX6_lowest 31 = .ok (.istore 4, 2) := by decide +kernel
theorem dX6_lowest_33 : decode cX6_lowest 33 = .ok (.iinc 5 1, 3) := by decide +kernel
theorem dX6_lowest_36 : decode cX6_lowest 36 = .ok (.goto (-28), 3) := by decide +kernel
theorem dX6_lowest_39 : decode cX6_lowest 39 = .ok (.iload_n 3, 1) := by decide +kernel
theorem dX6_lowest_40 : decode cX6_lowest 40 = .ok (.ifCond .ne 7, 3) := by decide +kernel
theorem dX6_lowest_43 : decode cX6_lowest 43 = .ok (.ldc2_w 189, 3) := by decide +kernel
theorem dX6_lowest_46 : decode cX6_lowest 46 = .ok (.lreturn, 1) := by decide +kernel
theorem dX6_lowest_47 : decode cX6_lowest 47 = .ok (.iload_n 2, 1) := by decide +kernel
theorem dX6_lowest_48 : decode cX6_lowest 48 = .ok (.ifCond .ne 10, 3) := by decide +kernel
theorem dX6_lowest_51 : decode cX6_lowest 51 = .ok (.iload_n 0, 1) := by decide +kernel
theorem dX6_lowest_52 : decode cX6_lowest 52 = .ok (.iload_n 3, 1) := by decide +kernel
theorem dX6_lowest_53 : decode cX6_lowest 53 = .ok (.idiv, 1) := by decide +kernel
theorem dX6_lowest_54 : decode cX6_lowest 54 = .ok (.i2l, 1) := by decide +kernel
theorem dX6_lowest_55 : decode cX6_lowest 55 = .ok (.goto 7, 3) := by decide +kernel
theorem dX6_lowest_58 : decode cX6_lowest 58 = .ok (.iload_n 1, 1) := by decide +kernel
theorem dX6_lowest_59 : decode cX6_lowest 59 = .ok (.iload_n 3, 1) := by decide +kernel
theorem dX6_lowest_60 : decode cX6_lowest 60 = .ok (.idiv, 1) := by decide +kernel
theorem dX6_lowest_61 : decode cX6_lowest 61 = .ok (.i2l, 1) := by decide +kernel
theorem dX6_lowest_62 : decode cX6_lowest 62 = .ok (.lreturn, 1) := by decide +kernel
