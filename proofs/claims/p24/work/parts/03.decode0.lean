theorem dX0_init_0 : decode cX0_init 0 = .ok (.aload_n 0, 1) := by decide +kernel
theorem dX0_init_1 : decode cX0_init 1 = .ok (.invokespecial 3, 3) := by decide +kernel
theorem dX0_init_4 : decode cX0_init 4 = .ok (.aload_n 0, 1) := by decide +kernel
theorem dX0_init_5 : decode cX0_init 5 = .ok (.new 9, 3) := by decide +kernel
theorem dX0_init_8 : decode cX0_init 8 = .ok (.dup, 1) := by decide +kernel
theorem dX0_init_9 : decode cX0_init 9 = .ok (.invokespecial 11, 3) := by decide +kernel
theorem dX0_init_12 : decode cX0_init 12 = .ok (.putfield 12, 3) := by decide +kernel
theorem dX0_init_15 : decode cX0_init 15 = .ok (.aload_n 0, 1) := by decide +kernel
theorem dX0_init_16 : decode cX0_init 16 = .ok (.bipush 18, 2) := by decide +kernel
theorem dX0_init_18 : decode cX0_init 18 = .ok (.newarray .int, 2) := by decide +kernel
theorem dX0_init_20 : decode cX0_init 20 = .ok (.putfield 18, 3) := by decide +kernel
theorem dX0_init_23 : decode cX0_init 23 = .ok (.aload_n 0, 1) := by decide +kernel
theorem dX0_init_24 : decode cX0_init 24 = .ok (.iconst 2, 1) := by decide +kernel
theorem dX0_init_25 : decode cX0_init 25 = .ok (.putfield 22, 3) := by decide +kernel
theorem dX0_init_28 : decode cX0_init 28 = .ok (.return_, 1) := by decide +kernel
theorem dX0_copyFrom_0 : decode cX0_copyFrom 0 = .ok (.aload_n 0, 1) := by decide +kernel
theorem dX0_copyFrom_1 : decode cX0_copyFrom 1 = .ok (.getfield 12, 3) := by decide +kernel
theorem dX0_copyFrom_4 : decode cX0_copyFrom 4 = .ok (.aload_n 1, 1) := by decide +kernel
theorem dX0_copyFrom_5 : decode cX0_copyFrom 5 = .ok (.getfield 12, 3) := by decide +kernel
theorem dX0_copyFrom_8 : decode cX0_copyFrom 8 = .ok (.invokevirtual 26, 3) := by decide +kernel
theorem dX0_copyFrom_11 : decode cX0_copyFrom 11 = .ok (.iconst 0, 1) := by decide +kernel
theorem dX0_copyFrom_12 : decode cX0_copyFrom 12 = .ok (.istore_n 2, 1) := by decide +kernel
theorem dX0_copyFrom_13 : decode cX0_copyFrom 13 = .ok (.iload_n 2, 1) := by decide +kernel
theorem dX0_copyFrom_14 : decode cX0_copyFrom 14 = .ok (.aload_n 0, 1) := by decide +kernel
theorem dX0_copyFrom_15 : decode cX0_copyFrom 15 = .ok (.getfield 18, 3) := by decide +kernel
theorem dX0_copyFrom_18 : decode cX0_copyFrom 18 = .ok (.arraylength, 1) := by decide +kernel
theorem dX0_copyFrom_19 : decode cX0_copyFrom 19 = .ok (.if_icmp .ge 30, 3) := by decide +kernel
theorem dX0_copyFrom_22 : decode cX0_copyFrom 22 = .ok (.iload_n 2, 1) := by decide +kernel
theorem dX0_copyFrom_23 : decode cX0_copyFrom 23 = .ok (.aload_n 1, 1) := by decide +kernel
theorem dX0_copyFrom_24 : decode cX0_copyFrom 24 = .ok (.getfield 18, 3) := by decide +kernel
theorem dX0_copyFrom_27 : decode cX0_copyFrom 27 = .ok (.arraylength, 1) := by decide +kernel
theorem dX0_copyFrom_28 : decode cX0_copyFrom 28 = .ok (.if_icmp .ge 21, 3) := by decide +kernel
theorem dX0_copyFrom_31 : decode cX0_copyFrom 31 = .ok (.aload_n 0, 1) := by decide +kernel
theorem dX0_copyFrom_32 : decode cX0_copyFrom 32 = .ok (.getfield 18, 3) := by decide +kernel
theorem dX0_copyFrom_35 : decode cX0_copyFrom 35 = .ok (.iload_n 2, 1) := by decide +kernel
theorem dX0_copyFrom_36 : decode cX0_copyFrom 36 = .ok (.aload_n 1, 1) := by decide +kernel
theorem dX0_copyFrom_37 : decode cX0_copyFrom 37 = .ok (.getfield 18, 3) := by decide +kernel
theorem dX0_copyFrom_40 : decode cX0_copyFrom 40 = .ok (.iload_n 2, 1) := by decide +kernel
theorem dX0_copyFrom_41 : decode cX0_copyFrom 41 = .ok (.iaload, 1) := by decide +kernel
theorem dX0_copyFrom_42 : decode cX0_copyFrom 42 = .ok (.iastore, 1) := by decide +kernel
theorem dX0_copyFrom_43 : decode cX0_copyFrom 43 = .ok (.iinc 2 1, 3) := by decide +kernel
theorem dX0_copyFrom_46 : decode cX0_copyFrom 46 = .ok (.goto (-33), 3) := by decide +kernel
theorem dX0_copyFrom_49 : decode cX0_copyFrom 49 = .ok (.aload_n 0, 1) := by decide +kernel
theorem dX0_copyFrom_50 : decode cX0_copyFrom 50 = .ok (.aload_n 1, 1) := by decide +kernel
theorem dX0_copyFrom_51 : decode cX0_copyFrom 51 = .ok (.getfield 22, 3) := by decide +kernel
theorem dX0_copyFrom_54 : decode cX0_copyFrom 54 = .ok (.putfield 22, 3) := by decide +kernel
theorem dX0_copyFrom_57 : decode cX0_copyFrom 57 = .ok (.aload_n 0, 1) := by decide +kernel
theorem dX0_copyFrom_58 : decode cX0_copyFrom 58 = .ok (.aload_n 1, 1) := by decide +kernel
theorem dX0_copyFrom_59 : decode cX0_copyFrom 59 = .ok (.getfield 30, 3) := by decide +kernel
theorem dX0_copyFrom_62 : decode cX0_copyFrom 62 = .ok (.putfield 30, 3) := by decide +kernel
theorem dX0_copyFrom_65 : decode cX0_copyFrom 65 = .ok (.aload_n 0, 1) := by decide +kernel
theorem dX0_copyFrom_66 : decode cX0_copyFrom 66 = .ok (.aload_n 1, 1) := by decide +kernel
theorem dX0_copyFrom_67 : decode cX0_copyFrom 67 = .ok (.getfield 33, 3) := by decide +kernel
theorem dX0_copyFrom_70 : decode cX0_copyFrom 70 = .ok (.putfield 33, 3) := by decide +kernel
theorem dX0_copyFrom_73 : decode cX0_copyFrom 73 = .ok (.aload_n 0, 1) := by decide +kernel
theorem dX0_copyFrom_74 : decode cX0_copyFrom 74 = .ok (.aload_n 1, 1) := by decide +kernel
theorem dX0_copyFrom_75 : decode cX0_copyFrom 75 = .ok (.getfield 36, 3) := by decide +kernel
theorem dX0_copyFrom_78 : decode cX0_copyFrom 78 = .ok (.putfield 36, 3) := by decide +kernel
theorem dX0_copyFrom_81 : decode cX0_copyFrom 81 = .ok (.aload_n 0, 1) := by decide +kernel
theorem dX0_copyFrom_82 : decode cX0_copyFrom 82 = .ok (.aload_n 1, 1) := by decide +kernel
theorem dX0_copyFrom_83 : decode cX0_copyFrom 83 = .ok (.getfield 39, 3) := by decide +kernel
theorem dX0_copyFrom_86 : decode cX0_copyFrom 86 = .ok (.putfield 39, 3) := by decide +kernel
theorem dX0_copyFrom_89 : decode cX0_copyFrom 89 = .ok (.aload_n 0, 1) := by decide +kernel
theorem dX0_copyFrom_90 : decode cX0_copyFrom 90 = .ok (.aload_n 1, 1) := by decide +kernel
theorem dX0_copyFrom_91 : decode cX0_copyFrom 91 = .ok (.getfield 42, 3) := by decide +kernel
theorem dX0_copyFrom_94 : decode cX0_copyFrom 94 = .ok (.putfield 42, 3) := by decide +kernel
theorem dX0_copyFrom_97 : decode cX0_copyFrom 97 = .ok (.aload_n 0, 1) := by decide +kernel
theorem dX0_copyFrom_98 : decode cX0_copyFrom 98 = .ok (.aload_n 1, 1) := by decide +kernel
theorem dX0_copyFrom_99 : decode cX0_copyFrom 99 = .ok (.getfield 45, 3) := by decide +kernel
theorem dX0_copyFrom_102 : decode cX0_copyFrom 102 = .ok (.putfield 45, 3) := by decide +kernel
theorem dX0_copyFrom_105 : decode cX0_copyFrom 105 = .ok (.aload_n 0, 1) := by decide +kernel
theorem dX0_copyFrom_106 : decode cX0_copyFrom 106 = .ok (.aload_n 1, 1) := by decide +kernel
theorem dX0_copyFrom_107 : decode cX0_copyFrom 107 = .ok (.getfield 48, 3) := by decide +kernel
theorem dX0_copyFrom_110 : decode cX0_copyFrom 110 = .ok (.putfield 48, 3) := by decide +kernel
theorem dX0_copyFrom_113 : decode cX0_copyFrom 113 = .ok (.aload_n 0, 1) := by decide +kernel
theorem dX0_copyFrom_114 : decode cX0_copyFrom 114 = .ok (.aload_n 1, 1) := by decide +kernel
theorem dX0_copyFrom_115 : decode cX0_copyFrom 115 = .ok (.getfield 51, 3) := by decide +kernel
theorem dX0_copyFrom_118 : decode cX0_copyFrom 118 = .ok (.putfield 51, 3) := by decide +kernel
theorem dX0_copyFrom_121 : decode cX0_copyFrom 121 = .ok (.return_, 1) := by decide +kernel
theorem dX0_isOver_0 : decode cX0_isOver 0 = .ok (.aload_n 0, 1) := by decide +kernel
theorem dX0_isOver_1 : decode cX0_isOver 1 = .ok (.getfield 36, 3) := by decide +kernel
theorem dX0_isOver_4 : decode cX0_isOver 4 = .ok (.ifCond .eq 7, 3) := by decide +kernel
theorem dX0_isOver_7 : decode cX0_isOver 7 = .ok (.iconst 1, 1) := by decide +kernel
theorem dX0_isOver_8 : decode cX0_isOver 8 = .ok (.goto 4, 3) := by decide +kernel
theorem dX0_isOver_11 : decode cX0_isOver 11 = .ok (.iconst 0, 1) := by decide +kernel
theorem dX0_isOver_12 : decode cX0_isOver 12 = .ok (.ireturn, 1) := by decide +kernel
theorem dX0_refuse_0 : decode cX0_refuse 0 = .ok (.aload_n 0, 1) := by decide +kernel
theorem dX0_refuse_1 : decode cX0_refuse 1 = .ok (.dup, 1) := by decide +kernel
theorem dX0_refuse_2 : decode cX0_refuse 2 = .ok (.getfield 51, 3) := by decide +kernel
theorem dX0_refuse_5 : decode cX0_refuse 5 = .ok (.iconst 1, 1) := by decide +kernel
theorem dX0_refuse_6 : decode cX0_refuse 6 = .ok (.iadd, 1) := by decide +kernel
theorem dX0_refuse_7 : decode cX0_refuse 7 = .ok (.putfield 51, 3) := by decide +kernel
theorem dX0_refuse_10 : decode cX0_refuse 10 = .ok (.iconst (-1), 1) := by decide +kernel
theorem dX0_refuse_11 : decode cX0_refuse 11 = .ok (.ireturn, 1) := by decide +kernel
theorem dX0_restart_0 : decode cX0_restart 0 = .ok (.aload_n 0, 1) := by decide +kernel
theorem dX0_restart_1 : decode cX0_restart 1 = .ok (.getfield 12, 3) := by decide +kernel
theorem dX0_restart_4 : decode cX0_restart 4 = .ok (.invokevirtual 54, 3) := by decide +kernel
theorem dX0_restart_7 : decode cX0_restart 7 = .ok (.iconst 0, 1) := by decide +kernel
theorem dX0_restart_8 : decode cX0_restart 8 = .ok (.istore_n 1, 1) := by decide +kernel
theorem dX0_restart_9 : decode cX0_restart 9 = .ok (.iload_n 1, 1) := by decide +kernel
theorem dX0_restart_10 : decode cX0_restart 10 = .ok (.aload_n 0, 1) := by decide +kernel
theorem dX0_restart_11 : decode cX0_restart 11 = .ok (.getfield 18, 3) := by decide +kernel
theorem dX0_restart_14 : decode cX0_restart 14 = .ok (.arraylength, 1) := by decide +kernel
theorem dX0_restart_15 : decode cX0_restart 15 = .ok (.if_icmp .ge 16, 3) := by decide +kernel
theorem dX0_restart_18 : decode cX0_restart 18 = .ok (.aload_n 0, 1) := by decide +kernel
theorem dX0_restart_19 : decode cX0_restart 19 = .ok (.getfield 18, 3) := by decide +kernel
theorem dX0_restart_22 : decode cX0_restart 22 = .ok (.iload_n 1, 1) := by decide +kernel
theorem dX0_restart_23 : decode cX0_restart 23 = .ok (.iconst 0, 1) := by decide +kernel
theorem dX0_restart_24 : decode cX0_restart 24 = .ok (.iastore, 1) := by decide +kernel
theorem dX0_restart_25 : decode cX0_restart 25 = .ok (.iinc 1 1, 3) := by decide +kernel
theorem dX0_restart_28 : decode cX0_restart 28 = .ok (.goto (-19), 3) := by decide +kernel
theorem dX0_restart_31 : decode cX0_restart 31 = .ok (.aload_n 0, 1) := by decide +kernel
theorem dX0_restart_32 : decode cX0_restart 32 = .ok (.iconst 0, 1) := by decide +kernel
theorem dX0_restart_33 : decode cX0_restart 33 = .ok (.putfield 30, 3) := by decide +kernel
theorem dX0_restart_36 : decode cX0_restart 36 = .ok (.aload_n 0, 1) := by decide +kernel
theorem dX0_restart_37 : decode cX0_restart 37 = .ok (.iconst 0, 1) := by decide +kernel
theorem dX0_restart_38 : decode cX0_restart 38 = .ok (.putfield 33, 3) := by decide +kernel
theorem dX0_restart_41 : decode cX0_restart 41 = .ok (.aload_n 0, 1) := by decide +kernel
theorem dX0_restart_42 : decode cX0_restart 42 = .ok (.iconst 0, 1) := by decide +kernel
theorem dX0_restart_43 : decode cX0_restart 43 = .ok (.putfield 36, 3) := by decide +kernel
theorem dX0_restart_46 : decode cX0_restart 46 = .ok (.aload_n 0, 1) := by decide +kernel
theorem dX0_restart_47 : decode cX0_restart 47 = .ok (.iconst 0, 1) := by decide +kernel
theorem dX0_restart_48 : decode cX0_restart 48 = .ok (.putfield 39, 3) := by decide +kernel
theorem dX0_restart_51 : decode cX0_restart 51 = .ok (.return_, 1) := by decide +kernel
theorem dX0_takeOver_0 : decode cX0_takeOver 0 = .ok (.aload_n 0, 1) := by decide +kernel
theorem dX0_takeOver_1 : decode cX0_takeOver 1 = .ok (.getfield 12, 3) := by decide +kernel
theorem dX0_takeOver_4 : decode cX0_takeOver 4 = .ok (.iload_n 1, 1) := by decide +kernel
theorem dX0_takeOver_5 : decode cX0_takeOver 5 = .ok (.invokevirtual 57, 3) := by decide +kernel
theorem dX0_takeOver_8 : decode cX0_takeOver 8 = .ok (.aload_n 2, 1) := by decide +kernel
theorem dX0_takeOver_9 : decode cX0_takeOver 9 = .ok (.getfield 61, 3) := by decide +kernel
theorem dX0_takeOver_12 : decode cX0_takeOver 12 = .ok (.invokevirtual 66, 3) := by decide +kernel
theorem dX0_takeOver_15 : decode cX0_takeOver 15 = .ok (.aload_n 0, 1) := by decide +kernel
theorem dX0_takeOver_16 : decode cX0_takeOver 16 = .ok (.dup, 1) := by decide +kernel
theorem dX0_takeOver_17 : decode cX0_takeOver 17 = .ok (.getfield 33, 3) := by decide +kernel
theorem dX0_takeOver_20 : decode cX0_takeOver 20 = .ok (.iconst 1, 1) := by decide +kernel
theorem dX0_takeOver_21 : decode cX0_takeOver 21 = .ok (.iadd, 1) := by decide +kernel
theorem dX0_takeOver_22 : decode cX0_takeOver 22 = .ok (.putfield 33, 3) := by decide +kernel
theorem dX0_takeOver_25 : decode cX0_takeOver 25 = .ok (.aload_n 0, 1) := by decide +kernel
theorem dX0_takeOver_26 : decode cX0_takeOver 26 = .ok (.dup, 1) := by decide +kernel
theorem dX0_takeOver_27 : decode cX0_takeOver 27 = .ok (.getfield 48, 3) := by decide +kernel
theorem dX0_takeOver_30 : decode cX0_takeOver 30 = .ok (.aload_n 2, 1) := by decide +kernel
theorem dX0_takeOver_31 : decode cX0_takeOver 31 = .ok (.getfield 71, 3) := by decide +kernel
theorem dX0_takeOver_34 : decode cX0_takeOver 34 = .ok (.iadd, 1) := by decide +kernel
theorem dX0_takeOver_35 : decode cX0_takeOver 35 = .ok (.putfield 48, 3) := by decide +kernel
theorem dX0_takeOver_38 : decode cX0_takeOver 38 = .ok (.aload_n 0, 1) := by decide +kernel
theorem dX0_takeOver_39 : decode cX0_takeOver 39 = .ok (.dup, 1) := by decide +kernel
theorem dX0_takeOver_40 : decode cX0_takeOver 40 = .ok (.getfield 42, 3) := by decide +kernel
theorem dX0_takeOver_43 : decode cX0_takeOver 43 = .ok (.aload_n 2, 1) := by decide +kernel
theorem dX0_takeOver_44 : decode cX0_takeOver 44 = .ok (.getfield 72, 3) := by decide +kernel
theorem dX0_takeOver_47 : decode cX0_takeOver 47 = .ok (.ifCond .eq 7, 3) := by decide +kernel
theorem dX0_takeOver_50 : decode cX0_takeOver 50 = .ok (.iconst 1, 1) := by decide +kernel
theorem dX0_takeOver_51 : decode cX0_takeOver 51 = .ok (.goto 4, 3) := by decide +kernel
theorem dX0_takeOver_54 : decode cX0_takeOver 54 = .ok (.iconst 0, 1) := by decide +kernel
theorem dX0_takeOver_55 : decode cX0_takeOver 55 = .ok (.iadd, 1) := by decide +kernel
theorem dX0_takeOver_56 : decode cX0_takeOver 56 = .ok (.putfield 42, 3) := by decide +kernel
theorem dX0_takeOver_59 : decode cX0_takeOver 59 = .ok (.aload_n 0, 1) := by decide +kernel
theorem dX0_takeOver_60 : decode cX0_takeOver 60 = .ok (.dup, 1) := by decide +kernel
theorem dX0_takeOver_61 : decode cX0_takeOver 61 = .ok (.getfield 45, 3) := by decide +kernel
theorem dX0_takeOver_64 : decode cX0_takeOver 64 = .ok (.aload_n 2, 1) := by decide +kernel
theorem dX0_takeOver_65 : decode cX0_takeOver 65 = .ok (.getfield 75, 3) := by decide +kernel
theorem dX0_takeOver_68 : decode cX0_takeOver 68 = .ok (.ifCond .eq 7, 3) := by decide +kernel
theorem dX0_takeOver_71 : decode cX0_takeOver 71 = .ok (.iconst 1, 1) := by decide +kernel
theorem dX0_takeOver_72 : decode cX0_takeOver 72 = .ok (.goto 4, 3) := by decide +kernel
theorem dX0_takeOver_75 : decode cX0_takeOver 75 = .ok (.iconst 0, 1) := by decide +kernel
theorem dX0_takeOver_76 : decode cX0_takeOver 76 = .ok (.iadd, 1) := by decide +kernel
theorem dX0_takeOver_77 : decode cX0_takeOver 77 = .ok (.putfield 45, 3) := by decide +kernel
theorem dX0_takeOver_80 : decode cX0_takeOver 80 = .ok (.return_, 1) := by decide +kernel
theorem dX0_closeTurn_0 : decode cX0_closeTurn 0 = .ok (.iconst 0, 1) := by decide +kernel
theorem dX0_closeTurn_1 : decode cX0_closeTurn 1 = .ok (.istore_n 1, 1) := by decide +kernel
theorem dX0_closeTurn_2 : decode cX0_closeTurn 2 = .ok (.iconst 0, 1) := by decide +kernel
theorem dX0_closeTurn_3 : decode cX0_closeTurn 3 = .ok (.istore_n 2, 1) := by decide +kernel
theorem dX0_closeTurn_4 : decode cX0_closeTurn 4 = .ok (.iload_n 2, 1) := by decide +kernel
theorem dX0_closeTurn_5 : decode cX0_closeTurn 5 = .ok (.bipush 9, 2) := by decide +kernel
theorem dX0_closeTurn_7 : decode cX0_closeTurn 7 = .ok (.if_icmp .ge 66, 3) := by decide +kernel
theorem dX0_closeTurn_10 : decode cX0_closeTurn 10 = .ok (.aload_n 0, 1) := by decide +kernel
theorem dX0_closeTurn_11 : decode cX0_closeTurn 11 = .ok (.getfield 12, 3) := by decide +kernel
theorem dX0_closeTurn_14 : decode cX0_closeTurn 14 = .ok (.iload_n 2, 1) := by decide +kernel
theorem dX0_closeTurn_15 : decode cX0_closeTurn 15 = .ok (.invokevirtual 77, 3) := by decide +kernel
theorem dX0_closeTurn_18 : decode cX0_closeTurn 18 = .ok (.istore_n 3, 1) := by decide +kernel
theorem dX0_closeTurn_19 : decode cX0_closeTurn 19 = .ok (.aload_n 0, 1) := by decide +kernel
theorem dX0_closeTurn_20 : decode cX0_closeTurn 20 = .ok (.iload_n 2, 1) := by decide +kernel
theorem dX0_closeTurn_21 : decode cX0_closeTurn 21 = .ok (.iload_n 3, 1) := by decide +kernel
theorem dX0_closeTurn_22 : decode cX0_closeTurn 22 = .ok (.invokevirtual 81, 3) := by decide +kernel
theorem dX0_closeTurn_25 : decode cX0_closeTurn 25 = .ok (.istore 4, 2) := by decide +kernel
theorem dX0_closeTurn_27 : decode cX0_closeTurn 27 = .ok (.aload_n 0, 1) := by decide +kernel
theorem dX0_closeTurn_28 : decode cX0_closeTurn 28 = .ok (.iload_n 2, 1) := by decide +kernel
theorem dX0_closeTurn_29 : decode cX0_closeTurn 29 = .ok (.iload_n 3, 1) := by decide +kernel
theorem dX0_closeTurn_30 : decode cX0_closeTurn 30 = .ok (.invokevirtual 85, 3) := by decide +kernel
theorem dX0_closeTurn_33 : decode cX0_closeTurn 33 = .ok (.istore 5, 2) := by decide +kernel
theorem dX0_closeTurn_35 : decode cX0_closeTurn 35 = .ok (.aload_n 0, 1) := by decide +kernel
theorem dX0_closeTurn_36 : decode cX0_closeTurn 36 = .ok (.iload_n 2, 1) := by decide +kernel
theorem dX0_closeTurn_37 : decode cX0_closeTurn 37 = .ok (.aload_n 0, 1) := by decide +kernel
theorem dX0_closeTurn_38 : decode cX0_closeTurn 38 = .ok (.getfield 30, 3) := by decide +kernel
theorem dX0_closeTurn_41 : decode cX0_closeTurn 41 = .ok (.iload 4, 2) := by decide +kernel
theorem dX0_closeTurn_43 : decode cX0_closeTurn 43 = .ok (.invokevirtual 88, 3) := by decide +kernel
theorem dX0_closeTurn_46 : decode cX0_closeTurn 46 = .ok (.aload_n 0, 1) := by decide +kernel
theorem dX0_closeTurn_47 : decode cX0_closeTurn 47 = .ok (.iload_n 2, 1) := by decide +kernel
theorem dX0_closeTurn_48 : decode cX0_closeTurn 48 = .ok (.iconst 1, 1) := by decide +kernel
theorem dX0_closeTurn_49 : decode cX0_closeTurn 49 = .ok (.aload_n 0, 1) := by decide +kernel
theorem dX0_closeTurn_50 : decode cX0_closeTurn 50 = .ok (.getfield 30, 3) := by decide +kernel
theorem dX0_closeTurn_53 : decode cX0_closeTurn 53 = .ok (.isub, 1) := by decide +kernel
theorem dX0_closeTurn_54 : decode cX0_closeTurn 54 = .ok (.iload 5, 2) := by decide +kernel
theorem dX0_closeTurn_56 : decode cX0_closeTurn 56 = .ok (.invokevirtual 88, 3) := by decide +kernel
theorem dX0_closeTurn_59 : decode cX0_closeTurn 59 = .ok (.iload_n 1, 1) := by decide +kernel
theorem dX0_closeTurn_60 : decode cX0_closeTurn 60 = .ok (.iload 4, 2) := by decide +kernel
theorem dX0_closeTurn_62 : decode cX0_closeTurn 62 = .ok (.iload 5, 2) := by decide +kernel
theorem dX0_closeTurn_64 : decode cX0_closeTurn 64 = .ok (.iadd, 1) := by decide +kernel
theorem dX0_closeTurn_65 : decode cX0_closeTurn 65 = .ok (.iadd, 1) := by decide +kernel
theorem dX0_closeTurn_66 : decode cX0_closeTurn 66 = .ok (.istore_n 1, 1) := by decide +kernel
theorem dX0_closeTurn_67 : decode cX0_closeTurn 67 = .ok (.iinc 2 1, 3) := by decide +kernel
theorem dX0_closeTurn_70 : decode cX0_closeTurn 70 = .ok (.goto (-66), 3) := by decide +kernel
theorem dX0_closeTurn_73 : decode cX0_closeTurn 73 = .ok (.aload_n 0, 1) := by decide +kernel
theorem dX0_closeTurn_74 : decode cX0_closeTurn 74 = .ok (.getfield 12, 3) := by decide +kernel
theorem dX0_closeTurn_77 : decode cX0_closeTurn 77 = .ok (.invokevirtual 54, 3) := by decide +kernel
theorem dX0_closeTurn_80 : decode cX0_closeTurn 80 = .ok (.aload_n 0, 1) := by decide +kernel
theorem dX0_closeTurn_81 : decode cX0_closeTurn 81 = .ok (.iconst 0, 1) := by decide +kernel
theorem dX0_closeTurn_82 : decode cX0_closeTurn 82 = .ok (.putfield 33, 3) := by decide +kernel
theorem dX0_closeTurn_85 : decode cX0_closeTurn 85 = .ok (.aload_n 0, 1) := by decide +kernel
theorem dX0_closeTurn_86 : decode cX0_closeTurn 86 = .ok (.dup, 1) := by decide +kernel
theorem dX0_closeTurn_87 : decode cX0_closeTurn 87 = .ok (.getfield 39, 3) := by decide +kernel
theorem dX0_closeTurn_90 : decode cX0_closeTurn 90 = .ok (.iconst 1, 1) := by decide +kernel
theorem dX0_closeTurn_91 : decode cX0_closeTurn 91 = .ok (.iadd, 1) := by decide +kernel
theorem dX0_closeTurn_92 : decode cX0_closeTurn 92 = .ok (.putfield 39, 3) := by decide +kernel
theorem dX0_closeTurn_95 : decode cX0_closeTurn 95 = .ok (.aload_n 0, 1) := by decide +kernel
theorem dX0_closeTurn_96 : decode cX0_closeTurn 96 = .ok (.aload_n 0, 1) := by decide +kernel
theorem dX0_closeTurn_97 : decode cX0_closeTurn 97 = .ok (.getfield 30, 3) := by decide +kernel
theorem dX0_closeTurn_100 : decode cX0_closeTurn 100 = .ok (.invokevirtual 92, 3) := by decide +kernel
theorem dX0_closeTurn_103 : decode cX0_closeTurn 103 = .ok (.ifCond .eq 16, 3) := by decide +kernel
theorem dX0_closeTurn_106 : decode cX0_closeTurn 106 = .ok (.aload_n 0, 1) := by decide +kernel
theorem dX0_closeTurn_107 : decode cX0_closeTurn 107 = .ok (.aload_n 0, 1) := by decide +kernel
theorem dX0_closeTurn_108 : decode cX0_closeTurn 108 = .ok (.getfield 30, 3) := by decide +kernel
theorem dX0_closeTurn_111 : decode cX0_closeTurn 111 = .ok (.iconst 1, 1) := by decide +kernel
theorem dX0_closeTurn_112 : decode cX0_closeTurn 112 = .ok (.iadd, 1) := by decide +kernel
theorem dX0_closeTurn_113 : decode cX0_closeTurn 113 = .ok (.putfield 36, 3) := by decide +kernel
theorem dX0_closeTurn_116 : decode cX0_closeTurn 116 = .ok (.goto 39, 3) := by decide +kernel
theorem dX0_closeTurn_119 : decode cX0_closeTurn 119 = .ok (.aload_n 0, 1) := by decide +kernel
theorem dX0_closeTurn_120 : decode cX0_closeTurn 120 = .ok (.iconst 1, 1) := by decide +kernel
theorem dX0_closeTurn_121 : decode cX0_closeTurn 121 = .ok (.aload_n 0, 1) := by decide +kernel
theorem dX0_closeTurn_122 : decode cX0_closeTurn 122 = .ok (.getfield 30, 3) := by decide +kernel
theorem dX0_closeTurn_125 : decode cX0_closeTurn 125 = .ok (.isub, 1) := by decide +kernel
theorem dX0_closeTurn_126 : decode cX0_closeTurn 126 = .ok (.invokevirtual 92, 3) := by decide +kernel
theorem dX0_closeTurn_129 : decode cX0_closeTurn 129 = .ok (.ifCond .eq 16, 3) := by decide +kernel
theorem dX0_closeTurn_132 : decode cX0_closeTurn 132 = .ok (.aload_n 0, 1) := by decide +kernel
theorem dX0_closeTurn_133 : decode cX0_closeTurn 133 = .ok (.iconst 2, 1) := by decide +kernel
theorem dX0_closeTurn_134 : decode cX0_closeTurn 134 = .ok (.aload_n 0, 1) := by decide +kernel
theorem dX0_closeTurn_135 : decode cX0_closeTurn 135 = .ok (.getfield 30, 3) := by decide +kernel
theorem dX0_closeTurn_138 : decode cX0_closeTurn 138 = .ok (.isub, 1) := by decide +kernel
theorem dX0_closeTurn_139 : decode cX0_closeTurn 139 = .ok (.putfield 36, 3) := by decide +kernel
theorem dX0_closeTurn_142 : decode cX0_closeTurn 142 = .ok (.goto 13, 3) := by decide +kernel
theorem dX0_closeTurn_145 : decode cX0_closeTurn 145 = .ok (.aload_n 0, 1) := by decide +kernel
theorem dX0_closeTurn_146 : decode cX0_closeTurn 146 = .ok (.iconst 1, 1) := by decide +kernel
theorem dX0_closeTurn_147 : decode cX0_closeTurn 147 = .ok (.aload_n 0, 1) := by decide +kernel
theorem dX0_closeTurn_148 : decode cX0_closeTurn 148 = .ok (.getfield 30, 3) := by decide +kernel
theorem dX0_closeTurn_151 : decode cX0_closeTurn 151 = .ok (.isub, 1) := by decide +kernel
theorem dX0_closeTurn_152 : decode cX0_closeTurn 152 = .ok (.putfield 30, 3) := by decide +kernel
theorem dX0_closeTurn_155 : decode cX0_closeTurn 155 = .ok (.iload_n 1, 1) := by decide +kernel
theorem dX0_closeTurn_156 : decode cX0_closeTurn 156 = .ok (.ireturn, 1) := by decide +kernel
theorem dX0_ownGain_0 : decode cX0_ownGain 0 = .ok (.iload_n 2, 1) := by decide +kernel
theorem dX0_ownGain_1 : decode cX0_ownGain 1 = .ok (.iconst 3, 1) := by decide +kernel
theorem dX0_ownGain_2 : decode cX0_ownGain 2 = .ok (.aload_n 0, 1) := by decide +kernel
theorem dX0_ownGain_3 : decode cX0_ownGain 3 = .ok (.iload_n 1, 1) := by decide +kernel
theorem dX0_ownGain_4 : decode cX0_ownGain 4 = .ok (.aload_n 0, 1) := by decide +kernel
theorem dX0_ownGain_5 : decode cX0_ownGain 5 = .ok (.getfield 30, 3) := by decide +kernel
theorem dX0_ownGain_8 : decode cX0_ownGain 8 = .ok (.invokevirtual 96, 3) := by decide +kernel
theorem dX0_ownGain_11 : decode cX0_ownGain 11 = .ok (.isub, 1) := by decide +kernel
theorem dX0_ownGain_12 : decode cX0_ownGain 12 = .ok (.invokestatic 99, 3) := by decide +kernel
theorem dX0_ownGain_15 : decode cX0_ownGain 15 = .ok (.ireturn, 1) := by decide +kernel
theorem dX0_otherGain_0 : decode cX0_otherGain 0 = .ok (.iload_n 2, 1) := by decide +kernel
theorem dX0_otherGain_1 : decode cX0_otherGain 1 = .ok (.aload_n 0, 1) := by decide +kernel
theorem dX0_otherGain_2 : decode cX0_otherGain 2 = .ok (.iload_n 1, 1) := by decide +kernel
theorem dX0_otherGain_3 : decode cX0_otherGain 3 = .ok (.iload_n 2, 1) := by decide +kernel
theorem dX0_otherGain_4 : decode cX0_otherGain 4 = .ok (.invokevirtual 81, 3) := by decide +kernel
theorem dX0_otherGain_7 : decode cX0_otherGain 7 = .ok (.isub, 1) := by decide +kernel
theorem dX0_otherGain_8 : decode cX0_otherGain 8 = .ok (.iconst 3, 1) := by decide +kernel
theorem dX0_otherGain_9 : decode cX0_otherGain 9 = .ok (.aload_n 0, 1) := by decide +kernel
theorem dX0_otherGain_10 : decode cX0_otherGain 10 = .ok (.iload_n 1, 1) := by decide +kernel
theorem dX0_otherGain_11 : decode cX0_otherGain 11 = .ok (.iconst 1, 1) := by decide +kernel
theorem dX0_otherGain_12 : decode cX0_otherGain 12 = .ok (.aload_n 0, 1) := by decide +kernel
theorem dX0_otherGain_13 : decode cX0_otherGain 13 = .ok (.getfield 30, 3) := by decide +kernel
theorem dX0_otherGain_16 : decode cX0_otherGain 16 = .ok (.isub, 1) := by decide +kernel
theorem dX0_otherGain_17 : decode cX0_otherGain 17 = .ok (.invokevirtual 96, 3) := by decide +kernel
theorem dX0_otherGain_20 : decode cX0_otherGain 20 = .ok (.isub, 1) := by decide +kernel
theorem dX0_otherGain_21 : decode cX0_otherGain 21 = .ok (.invokestatic 99, 3) := by decide +kernel
theorem dX0_otherGain_24 : decode cX0_otherGain 24 = .ok (.ireturn, 1) := by decide +kernel
theorem dX0_leadFor_0 : decode cX0_leadFor 0 = .ok (.iconst 0, 1) := by decide +kernel
theorem dX0_leadFor_1 : decode cX0_leadFor 1 = .ok (.istore_n 2, 1) := by decide +kernel
theorem dX0_leadFor_2 : decode cX0_leadFor 2 = .ok (.iconst 0, 1) := by decide +kernel
theorem dX0_leadFor_3 : decode cX0_leadFor 3 = .ok (.istore_n 3, 1) := by decide +kernel
theorem dX0_leadFor_4 : decode cX0_leadFor 4 = .ok (.iload_n 3, 1) := by decide +kernel
theorem dX0_leadFor_5 : decode cX0_leadFor 5 = .ok (.bipush 9, 2) := by decide +kernel
theorem dX0_leadFor_7 : decode cX0_leadFor 7 = .ok (.if_icmp .ge 35, 3) := by decide +kernel
theorem dX0_leadFor_10 : decode cX0_leadFor 10 = .ok (.iload_n 3, 1) := by decide +kernel
theorem dX0_leadFor_11 : decode cX0_leadFor 11 = .ok (.aload_n 1, 1) := by decide +kernel
theorem dX0_leadFor_12 : decode cX0_leadFor 12 = .ok (.arraylength, 1) := by decide +kernel
theorem dX0_leadFor_13 : decode cX0_leadFor 13 = .ok (.if_icmp .ge 29, 3) := by decide +kernel
theorem dX0_leadFor_16 : decode cX0_leadFor 16 = .ok (.iload_n 2, 1) := by decide +kernel
theorem dX0_leadFor_17 : decode cX0_leadFor 17 = .ok (.aload_n 0, 1) := by decide +kernel
theorem dX0_leadFor_18 : decode cX0_leadFor 18 = .ok (.iload_n 3, 1) := by decide +kernel
theorem dX0_leadFor_19 : decode cX0_leadFor 19 = .ok (.aload_n 1, 1) := by decide +kernel
theorem dX0_leadFor_20 : decode cX0_leadFor 20 = .ok (.iload_n 3, 1) := by decide +kernel
theorem dX0_leadFor_21 : decode cX0_leadFor 21 = .ok (.iaload, 1) := by decide +kernel
theorem dX0_leadFor_22 : decode cX0_leadFor 22 = .ok (.invokevirtual 81, 3) := by decide +kernel
theorem dX0_leadFor_25 : decode cX0_leadFor 25 = .ok (.aload_n 0, 1) := by decide +kernel
theorem dX0_leadFor_26 : decode cX0_leadFor 26 = .ok (.iload_n 3, 1) := by decide +kernel
theorem dX0_leadFor_27 : decode cX0_leadFor 27 = .ok (.aload_n 1, 1) := by decide +kernel
theorem dX0_leadFor_28 : decode cX0_leadFor 28 = .ok (.iload_n 3, 1) := by decide +kernel
theorem dX0_leadFor_29 : decode cX0_leadFor 29 = .ok (.iaload, 1) := by decide +kernel
theorem dX0_leadFor_30 : decode cX0_leadFor 30 = .ok (.invokevirtual 85, 3) := by decide +kernel
theorem dX0_leadFor_33 : decode cX0_leadFor 33 = .ok (.isub, 1) := by decide +kernel
theorem dX0_leadFor_34 : decode cX0_leadFor 34 = .ok (.iadd, 1) := by decide +kernel
theorem dX0_leadFor_35 : decode cX0_leadFor 35 = .ok (.istore_n 2, 1) := by decide +kernel
theorem dX0_leadFor_36 : decode cX0_leadFor 36 = .ok (.iinc 3 1, 3) := by decide +kernel
theorem dX0_leadFor_39 : decode cX0_leadFor 39 = .ok (.goto (-35), 3) := by decide +kernel
theorem dX0_leadFor_42 : decode cX0_leadFor 42 = .ok (.iload_n 2, 1) := by decide +kernel
theorem dX0_leadFor_43 : decode cX0_leadFor 43 = .ok (.ireturn, 1) := by decide +kernel
theorem dX0_chalksIn_0 : decode cX0_chalksIn 0 = .ok (.iload_n 2, 1) := by decide +kernel
theorem dX0_chalksIn_1 : decode cX0_chalksIn 1 = .ok (.bipush 9, 2) := by decide +kernel
theorem dX0_chalksIn_3 : decode cX0_chalksIn 3 = .ok (.imul, 1) := by decide +kernel
theorem dX0_chalksIn_4 : decode cX0_chalksIn 4 = .ok (.iload_n 1, 1) := by decide +kernel
theorem dX0_chalksIn_5 : decode cX0_chalksIn 5 = .ok (.iadd, 1) := by decide +kernel
theorem dX0_chalksIn_6 : decode cX0_chalksIn 6 = .ok (.istore_n 3, 1) := by decide +kernel
theorem dX0_chalksIn_7 : decode cX0_chalksIn 7 = .ok (.iload_n 3, 1) := by decide +kernel
theorem dX0_chalksIn_8 : decode cX0_chalksIn 8 = .ok (.ifCond .lt 21, 3) := by decide +kernel
theorem dX0_chalksIn_11 : decode cX0_chalksIn 11 = .ok (.iload_n 3, 1) := by decide +kernel
theorem dX0_chalksIn_12 : decode cX0_chalksIn 12 = .ok (.aload_n 0, 1) := by decide +kernel
theorem dX0_chalksIn_13 : decode cX0_chalksIn 13 = .ok (.getfield 18, 3) := by decide +kernel
theorem dX0_chalksIn_16 : decode cX0_chalksIn 16 = .ok (.arraylength, 1) := by decide +kernel
theorem dX0_chalksIn_17 : decode cX0_chalksIn 17 = .ok (.if_icmp .ge 12, 3) := by decide +kernel
theorem dX0_chalksIn_20 : decode cX0_chalksIn 20 = .ok (.aload_n 0, 1) := by decide +kernel
theorem dX0_chalksIn_21 : decode cX0_chalksIn 21 = .ok (.getfield 18, 3) := by decide +kernel
theorem dX0_chalksIn_24 : decode cX0_chalksIn 24 = .ok (.iload_n 3, 1) := by decide +kernel
theorem dX0_chalksIn_25 : decode cX0_chalksIn 25 = .ok (.iaload, 1) := by decide +kernel
theorem dX0_chalksIn_26 : decode cX0_chalksIn 26 = .ok (.goto 4, 3) := by decide +kernel
theorem dX0_chalksIn_29 : decode cX0_chalksIn 29 = .ok (.iconst 0, 1) := by decide +kernel
theorem dX0_chalksIn_30 : decode cX0_chalksIn 30 = .ok (.ireturn, 1) := by decide +kernel
theorem dX0_addChalks_0 : decode cX0_addChalks 0 = .ok (.iload_n 2, 1) := by decide +kernel
theorem dX0_addChalks_1 : decode cX0_addChalks 1 = .ok (.bipush 9, 2) := by decide +kernel
theorem dX0_addChalks_3 : decode cX0_addChalks 3 = .ok (.imul, 1) := by decide +kernel
theorem dX0_addChalks_4 : decode cX0_addChalks 4 = .ok (.iload_n 1, 1) := by decide +kernel
theorem dX0_addChalks_5 : decode cX0_addChalks 5 = .ok (.iadd, 1) := by decide +kernel
theorem dX0_addChalks_6 : decode cX0_addChalks 6 = .ok (.istore 4, 2) := by decide +kernel
theorem dX0_addChalks_8 : decode cX0_addChalks 8 = .ok (.iload 4, 2) := by decide +kernel
theorem dX0_addChalks_10 : decode cX0_addChalks 10 = .ok (.ifCond .lt 24, 3) := by decide +kernel
theorem dX0_addChalks_13 : decode cX0_addChalks 13 = .ok (.iload 4, 2) := by decide +kernel
theorem dX0_addChalks_15 : decode cX0_addChalks 15 = .ok (.aload_n 0, 1) := by decide +kernel
theorem dX0_addChalks_16 : decode cX0_addChalks 16 = .ok (.getfield 18, 3) := by decide +kernel
theorem dX0_addChalks_19 : decode cX0_addChalks 19 = .ok (.arraylength, 1) := by decide +kernel
theorem dX0_addChalks_20 : decode cX0_addChalks 20 = .ok (.if_icmp .ge 14, 3) := by decide +kernel
theorem dX0_addChalks_23 : decode cX0_addChalks 23 = .ok (.aload_n 0, 1) := by decide +kernel
theorem dX0_addChalks_24 : decode cX0_addChalks 24 = .ok (.getfield 18, 3) := by decide +kernel
theorem dX0_addChalks_27 : decode cX0_addChalks 27 = .ok (.iload 4, 2) := by decide +kernel
theorem dX0_addChalks_29 : decode cX0_addChalks 29 = .ok (.dup2, 1) := by decide +kernel
theorem dX0_addChalks_30 : decode cX0_addChalks 30 = .ok (.iaload, 1) := by decide +kernel
theorem dX0_addChalks_31 : decode cX0_addChalks 31 = .ok (.iload_n 3, 1) := by decide +kernel
theorem dX0_addChalks_32 : decode cX0_addChalks 32 = .ok (.iadd, 1) := by decide +kernel
theorem dX0_addChalks_33 : decode cX0_addChalks 33 = .ok (.iastore, 1) := by decide +kernel
theorem dX0_addChalks_34 : decode cX0_addChalks 34 = .ok (.return_, 1) := by decide +kernel
theorem dX0_chalksOf_0 : decode cX0_chalksOf 0 = .ok (.iconst 0, 1) := by decide +kernel
theorem dX0_chalksOf_1 : decode cX0_chalksOf 1 = .ok (.istore_n 2, 1) := by decide +kernel
theorem dX0_chalksOf_2 : decode cX0_chalksOf 2 = .ok (.iconst 0, 1) := by decide +kernel
theorem dX0_chalksOf_3 : decode cX0_chalksOf 3 = .ok (.istore_n 3, 1) := by decide +kernel
theorem dX0_chalksOf_4 : decode cX0_chalksOf 4 = .ok (.iload_n 3, 1) := by decide +kernel
theorem dX0_chalksOf_5 : decode cX0_chalksOf 5 = .ok (.bipush 9, 2) := by decide +kernel
theorem dX0_chalksOf_7 : decode cX0_chalksOf 7 = .ok (.if_icmp .ge 18, 3) := by decide +kernel
theorem dX0_chalksOf_10 : decode cX0_chalksOf 10 = .ok (.iload_n 2, 1) := by decide +kernel
theorem dX0_chalksOf_11 : decode cX0_chalksOf 11 = .ok (.aload_n 0, 1) := by decide +kernel
theorem dX0_chalksOf_12 : decode cX0_chalksOf 12 = .ok (.iload_n 3, 1) := by decide +kernel
theorem dX0_chalksOf_13 : decode cX0_chalksOf 13 = .ok (.iload_n 1, 1) := by decide +kernel
theorem dX0_chalksOf_14 : decode cX0_chalksOf 14 = .ok (.invokevirtual 96, 3) := by decide +kernel
theorem dX0_chalksOf_17 : decode cX0_chalksOf 17 = .ok (.iadd, 1) := by decide +kernel
theorem dX0_chalksOf_18 : decode cX0_chalksOf 18 = .ok (.istore_n 2, 1) := by decide +kernel
theorem dX0_chalksOf_19 : decode cX0_chalksOf 19 = .ok (.iinc 3 1, 3) := by decide +kernel
theorem dX0_chalksOf_22 : decode cX0_chalksOf 22 = .ok (.goto (-18), 3) := by decide +kernel
theorem dX0_chalksOf_25 : decode cX0_chalksOf 25 = .ok (.iload_n 2, 1) := by decide +kernel
theorem dX0_chalksOf_26 : decode cX0_chalksOf 26 = .ok (.ireturn, 1) := by decide +kernel
theorem dX0_allChalks_0 : decode cX0_allChalks 0 = .ok (.aload_n 0, 1) := by decide +kernel
theorem dX0_allChalks_1 : decode cX0_allChalks 1 = .ok (.iconst 0, 1) := by decide +kernel
theorem dX0_allChalks_2 : decode cX0_allChalks 2 = .ok (.invokevirtual 104, 3) := by decide +kernel
theorem dX0_allChalks_5 : decode cX0_allChalks 5 = .ok (.aload_n 0, 1) := by decide +kernel
theorem dX0_allChalks_6 : decode cX0_allChalks 6 = .ok (.iconst 1, 1) := by decide +kernel
theorem dX0_allChalks_7 : decode cX0_allChalks 7 = .ok (.invokevirtual 104, 3) := by decide +kernel
theorem dX0_allChalks_10 : decode cX0_allChalks 10 = .ok (.iadd, 1) := by decide +kernel
theorem dX0_allChalks_11 : decode cX0_allChalks 11 = .ok (.ireturn, 1) := by decide +kernel
theorem dX0_hasAllBeds_0 : decode cX0_hasAllBeds 0 = .ok (.aload_n 0, 1) := by decide +kernel
theorem dX0_hasAllBeds_1 : decode cX0_hasAllBeds 1 = .ok (.iload_n 1, 1) := by decide +kernel
theorem dX0_hasAllBeds_2 : decode cX0_hasAllBeds 2 = .ok (.invokevirtual 104, 3) := by decide +kernel
theorem dX0_hasAllBeds_5 : decode cX0_hasAllBeds 5 = .ok (.bipush 27, 2) := by decide +kernel
theorem dX0_hasAllBeds_7 : decode cX0_hasAllBeds 7 = .ok (.if_icmp .ne 7, 3) := by decide +kernel
theorem dX0_hasAllBeds_10 : decode cX0_hasAllBeds 10 = .ok (.iconst 1, 1) := by decide +kernel
theorem dX0_hasAllBeds_11 : decode cX0_hasAllBeds 11 = .ok (.goto 4, 3) := by decide +kernel
theorem dX0_hasAllBeds_14 : decode cX0_hasAllBeds 14 = .ok (.iconst 0, 1) := by decide +kernel
theorem dX0_hasAllBeds_15 : decode cX0_hasAllBeds 15 = .ok (.ireturn, 1) := by decide +kernel
theorem dX1_init_0 : decode cX1_init 0 = .ok (.aload_n 0, 1) := by decide +kernel
theorem dX1_init_1 : decode cX1_init 1 = .ok (.invokespecial 3, 3) := by decide +kernel
theorem dX1_init_4 : decode cX1_init 4 = .ok (.aload_n 0, 1) := by decide +kernel
theorem dX1_init_5 : decode cX1_init 5 = .ok (.bipush 60, 2) := by decide +kernel
theorem dX1_init_7 : decode cX1_init 7 = .ok (.newarray .int, 2) := by decide +kernel
theorem dX1_init_9 : decode cX1_init 9 = .ok (.putfield 9, 3) := by decide +kernel
theorem dX1_init_12 : decode cX1_init 12 = .ok (.return_, 1) := by decide +kernel
theorem dX1_isFull_0 : decode cX1_isFull 0 = .ok (.aload_n 0, 1) := by decide +kernel
theorem dX1_isFull_1 : decode cX1_isFull 1 = .ok (.getfield 15, 3) := by decide +kernel
theorem dX1_isFull_4 : decode cX1_isFull 4 = .ok (.bipush 60, 2) := by decide +kernel
theorem dX1_isFull_6 : decode cX1_isFull 6 = .ok (.if_icmp .lt 7, 3) := by decide +kernel
theorem dX1_isFull_9 : decode cX1_isFull 9 = .ok (.iconst 1, 1) := by decide +kernel
theorem dX1_isFull_10 : decode cX1_isFull 10 = .ok (.goto 4, 3) := by decide +kernel
theorem dX1_isFull_13 : decode cX1_isFull 13 = .ok (.iconst 0, 1) := by decide +kernel
theorem dX1_isFull_14 : decode cX1_isFull 14 = .ok (.ireturn, 1) := by decide +kernel
theorem dX1_add_0 : decode cX1_add 0 = .ok (.aload_n 0, 1) := by decide +kernel
theorem dX1_add_1 : decode cX1_add 1 = .ok (.getfield 15, 3) := by decide +kernel
theorem dX1_add_4 : decode cX1_add 4 = .ok (.ifCond .lt 35, 3) := by decide +kernel
theorem dX1_add_7 : decode cX1_add 7 = .ok (.aload_n 0, 1) := by decide +kernel
theorem dX1_add_8 : decode cX1_add 8 = .ok (.getfield 15, 3) := by decide +kernel
theorem dX1_add_11 : decode cX1_add 11 = .ok (.aload_n 0, 1) := by decide +kernel
theorem dX1_add_12 : decode cX1_add 12 = .ok (.getfield 9, 3) := by decide +kernel
theorem dX1_add_15 : decode cX1_add 15 = .ok (.arraylength, 1) := by decide +kernel
theorem dX1_add_16 : decode cX1_add 16 = .ok (.if_icmp .ge 23, 3) := by decide +kernel
theorem dX1_add_19 : decode cX1_add 19 = .ok (.aload_n 0, 1) := by decide +kernel
theorem dX1_add_20 : decode cX1_add 20 = .ok (.getfield 9, 3) := by decide +kernel
theorem dX1_add_23 : decode cX1_add 23 = .ok (.aload_n 0, 1) := by decide +kernel
theorem dX1_add_24 : decode cX1_add 24 = .ok (.getfield 15, 3) := by decide +kernel
theorem dX1_add_27 : decode cX1_add 27 = .ok (.iload_n 1, 1) := by decide +kernel
theorem dX1_add_28 : decode cX1_add 28 = .ok (.iastore, 1) := by decide +kernel
theorem dX1_add_29 : decode cX1_add 29 = .ok (.aload_n 0, 1) := by decide +kernel
theorem dX1_add_30 : decode cX1_add 30 = .ok (.dup, 1) := by decide +kernel
theorem dX1_add_31 : decode cX1_add 31 = .ok (.getfield 15, 3) := by decide +kernel
theorem dX1_add_34 : decode cX1_add 34 = .ok (.iconst 1, 1) := by decide +kernel
theorem dX1_add_35 : decode cX1_add 35 = .ok (.iadd, 1) := by decide +kernel
theorem dX1_add_36 : decode cX1_add 36 = .ok (.putfield 15, 3) := by decide +kernel
theorem dX1_add_39 : decode cX1_add 39 = .ok (.return_, 1) := by decide +kernel
theorem dX1_clear_0 : decode cX1_clear 0 = .ok (.aload_n 0, 1) := by decide +kernel
theorem dX1_clear_1 : decode cX1_clear 1 = .ok (.iconst 0, 1) := by decide +kernel
theorem dX1_clear_2 : decode cX1_clear 2 = .ok (.putfield 15, 3) := by decide +kernel
theorem dX1_clear_5 : decode cX1_clear 5 = .ok (.return_, 1) := by decide +kernel
theorem dX1_codeAt_0 : decode cX1_codeAt 0 = .ok (.iload_n 1, 1) := by decide +kernel
theorem dX1_codeAt_1 : decode cX1_codeAt 1 = .ok (.ifCond .lt 29, 3) := by decide +kernel
theorem dX1_codeAt_4 : decode cX1_codeAt 4 = .ok (.iload_n 1, 1) := by decide +kernel
theorem dX1_codeAt_5 : decode cX1_codeAt 5 = .ok (.aload_n 0, 1) := by decide +kernel
theorem dX1_codeAt_6 : decode cX1_codeAt 6 = .ok (.getfield 15, 3) := by decide +kernel
theorem dX1_codeAt_9 : decode cX1_codeAt 9 = .ok (.if_icmp .ge 21, 3) := by decide +kernel
theorem dX1_codeAt_12 : decode cX1_codeAt 12 = .ok (.iload_n 1, 1) := by decide +kernel
theorem dX1_codeAt_13 : decode cX1_codeAt 13 = .ok (.aload_n 0, 1) := by decide +kernel
theorem dX1_codeAt_14 : decode cX1_codeAt 14 = .ok (.getfield 9, 3) := by decide +kernel
theorem dX1_codeAt_17 : decode cX1_codeAt 17 = .ok (.arraylength, 1) := by decide +kernel
theorem dX1_codeAt_18 : decode cX1_codeAt 18 = .ok (.if_icmp .ge 12, 3) := by decide +kernel
theorem dX1_codeAt_21 : decode cX1_codeAt 21 = .ok (.aload_n 0, 1) := by decide +kernel
theorem dX1_codeAt_22 : decode cX1_codeAt 22 = .ok (.getfield 9, 3) := by decide +kernel
theorem dX1_codeAt_25 : decode cX1_codeAt 25 = .ok (.iload_n 1, 1) := by decide +kernel
theorem dX1_codeAt_26 : decode cX1_codeAt 26 = .ok (.iaload, 1) := by decide +kernel
theorem dX1_codeAt_27 : decode cX1_codeAt 27 = .ok (.goto 4, 3) := by decide +kernel
theorem dX1_codeAt_30 : decode cX1_codeAt 30 = .ok (.iconst (-1), 1) := by decide +kernel
theorem dX1_codeAt_31 : decode cX1_codeAt 31 = .ok (.ireturn, 1) := by decide +kernel
theorem dX1_isWhole_0 : decode cX1_isWhole 0 = .ok (.iconst 0, 1) := by decide +kernel
theorem dX1_isWhole_1 : decode cX1_isWhole 1 = .ok (.istore_n 1, 1) := by decide +kernel
theorem dX1_isWhole_2 : decode cX1_isWhole 2 = .ok (.iconst 0, 1) := by decide +kernel
theorem dX1_isWhole_3 : decode cX1_isWhole 3 = .ok (.istore_n 2, 1) := by decide +kernel
theorem dX1_isWhole_4 : decode cX1_isWhole 4 = .ok (.iload_n 2, 1) := by decide +kernel
theorem dX1_isWhole_5 : decode cX1_isWhole 5 = .ok (.aload_n 0, 1) := by decide +kernel
theorem dX1_isWhole_6 : decode cX1_isWhole 6 = .ok (.getfield 15, 3) := by decide +kernel
theorem dX1_isWhole_9 : decode cX1_isWhole 9 = .ok (.if_icmp .ge 19, 3) := by decide +kernel
theorem dX1_isWhole_12 : decode cX1_isWhole 12 = .ok (.iload_n 1, 1) := by decide +kernel
theorem dX1_isWhole_13 : decode cX1_isWhole 13 = .ok (.aload_n 0, 1) := by decide +kernel
theorem dX1_isWhole_14 : decode cX1_isWhole 14 = .ok (.iload_n 2, 1) := by decide +kernel
theorem dX1_isWhole_15 : decode cX1_isWhole 15 = .ok (.invokevirtual 19, 3) := by decide +kernel
theorem dX1_isWhole_18 : decode cX1_isWhole 18 = .ok (.invokestatic 23, 3) := by decide +kernel
theorem dX1_isWhole_21 : decode cX1_isWhole 21 = .ok (.istore_n 1, 1) := by decide +kernel
theorem dX1_isWhole_22 : decode cX1_isWhole 22 = .ok (.iinc 2 1, 3) := by decide +kernel
theorem dX1_isWhole_25 : decode cX1_isWhole 25 = .ok (.goto (-21), 3) := by decide +kernel
theorem dX1_isWhole_28 : decode cX1_isWhole 28 = .ok (.iload_n 1, 1) := by decide +kernel
theorem dX1_isWhole_29 : decode cX1_isWhole 29 = .ok (.iconst 3, 1) := by decide +kernel
theorem dX1_isWhole_30 : decode cX1_isWhole 30 = .ok (.if_icmp .eq 8, 3) := by decide +kernel
theorem dX1_isWhole_33 : decode cX1_isWhole 33 = .ok (.iload_n 1, 1) := by decide +kernel
theorem dX1_isWhole_34 : decode cX1_isWhole 34 = .ok (.iconst 4, 1) := by decide +kernel
theorem dX1_isWhole_35 : decode cX1_isWhole 35 = .ok (.if_icmp .ne 7, 3) := by decide +kernel
theorem dX1_isWhole_38 : decode cX1_isWhole 38 = .ok (.iconst 1, 1) := by decide +kernel
theorem dX1_isWhole_39 : decode cX1_isWhole 39 = .ok (.goto 4, 3) := by decide +kernel
theorem dX1_isWhole_42 : decode cX1_isWhole 42 = .ok (.iconst 0, 1) := by decide +kernel
theorem dX1_isWhole_43 : decode cX1_isWhole 43 = .ok (.ireturn, 1) := by decide +kernel
theorem dX1_next_0 : decode cX1_next 0 = .ok (.iload_n 0, 1) := by decide +kernel
theorem dX1_next_1 : decode cX1_next 1 = .ok (.tableswitch 119 0 4 #[35, 53, 65, 86, 107], 35) := by decide +kernel
theorem dX1_next_36 : decode cX1_next 36 = .ok (.iload_n 1, 1) := by decide +kernel
theorem dX1_next_37 : decode cX1_next 37 = .ok (.bipush 48, 2) := by decide +kernel
theorem dX1_next_39 : decode cX1_next 39 = .ok (.if_icmp .lt 13, 3) := by decide +kernel
theorem dX1_next_42 : decode cX1_next 42 = .ok (.iload_n 1, 1) := by decide +kernel
theorem dX1_next_43 : decode cX1_next 43 = .ok (.bipush 51, 2) := by decide +kernel
theorem dX1_next_45 : decode cX1_next 45 = .ok (.if_icmp .ge 7, 3) := by decide +kernel
theorem dX1_next_48 : decode cX1_next 48 = .ok (.iconst 1, 1) := by decide +kernel
theorem dX1_next_49 : decode cX1_next 49 = .ok (.goto 4, 3) := by decide +kernel
theorem dX1_next_52 : decode cX1_next 52 = .ok (.iconst (-1), 1) := by decide +kernel
theorem dX1_next_53 : decode cX1_next 53 = .ok (.ireturn, 1) := by decide +kernel
theorem dX1_next_54 : decode cX1_next 54 = .ok (.iload_n 1, 1) := by decide +kernel
theorem dX1_next_55 : decode cX1_next 55 = .ok (.bipush 58, 2) := by decide +kernel
theorem dX1_next_57 : decode cX1_next 57 = .ok (.if_icmp .ne 7, 3) := by decide +kernel
theorem dX1_next_60 : decode cX1_next 60 = .ok (.iconst 2, 1) := by decide +kernel
theorem dX1_next_61 : decode cX1_next 61 = .ok (.goto 4, 3) := by decide +kernel
theorem dX1_next_64 : decode cX1_next 64 = .ok (.iconst (-1), 1) := by decide +kernel
theorem dX1_next_65 : decode cX1_next 65 = .ok (.ireturn, 1) := by decide +kernel
theorem dX1_next_66 : decode cX1_next 66 = .ok (.iload_n 1, 1) := by decide +kernel
theorem dX1_next_67 : decode cX1_next 67 = .ok (.bipush 48, 2) := by decide +kernel
theorem dX1_next_69 : decode cX1_next 69 = .ok (.if_icmp .ne 5, 3) := by decide +kernel
theorem dX1_next_72 : decode cX1_next 72 = .ok (.iconst 4, 1) := by decide +kernel
theorem dX1_next_73 : decode cX1_next 73 = .ok (.ireturn, 1) := by decide +kernel
theorem dX1_next_74 : decode cX1_next 74 = .ok (.iload_n 1, 1) := by decide +kernel
theorem dX1_next_75 : decode cX1_next 75 = .ok (.invokestatic 27, 3) := by decide +kernel
theorem dX1_next_78 : decode cX1_next 78 = .ok (.ifCond .eq 7, 3) := by decide +kernel
theorem dX1_next_81 : decode cX1_next 81 = .ok (.iconst 3, 1) := by decide +kernel
theorem dX1_next_82 : decode cX1_next 82 = .ok (.goto 4, 3) := by decide +kernel
theorem dX1_next_85 : decode cX1_next 85 = .ok (.iconst (-1), 1) := by decide +kernel
theorem dX1_next_86 : decode cX1_next 86 = .ok (.ireturn, 1) := by decide +kernel
theorem dX1_next_87 : decode cX1_next 87 = .ok (.iload_n 1, 1) := by decide +kernel
theorem dX1_next_88 : decode cX1_next 88 = .ok (.invokestatic 27, 3) := by decide +kernel
theorem dX1_next_91 : decode cX1_next 91 = .ok (.ifCond .eq 5, 3) := by decide +kernel
theorem dX1_next_94 : decode cX1_next 94 = .ok (.iconst 4, 1) := by decide +kernel
theorem dX1_next_95 : decode cX1_next 95 = .ok (.ireturn, 1) := by decide +kernel
theorem dX1_next_96 : decode cX1_next 96 = .ok (.iload_n 1, 1) := by decide +kernel
theorem dX1_next_97 : decode cX1_next 97 = .ok (.bipush 59, 2) := by decide +kernel
theorem dX1_next_99 : decode cX1_next 99 = .ok (.if_icmp .ne 7, 3) := by decide +kernel
theorem dX1_next_102 : decode cX1_next 102 = .ok (.iconst 0, 1) := by decide +kernel
theorem dX1_next_103 : decode cX1_next 103 = .ok (.goto 4, 3) := by decide +kernel
theorem dX1_next_106 : decode cX1_next 106 = .ok (.iconst (-1), 1) := by decide +kernel
theorem dX1_next_107 : decode cX1_next 107 = .ok (.ireturn, 1) := by decide +kernel
theorem dX1_next_108 : decode cX1_next 108 = .ok (.iload_n 1, 1) := by decide +kernel
theorem dX1_next_109 : decode cX1_next 109 = .ok (.bipush 59, 2) := by decide +kernel
theorem dX1_next_111 : decode cX1_next 111 = .ok (.if_icmp .ne 7, 3) := by decide +kernel
theorem dX1_next_114 : decode cX1_next 114 = .ok (.iconst 0, 1) := by decide +kernel
theorem dX1_next_115 : decode cX1_next 115 = .ok (.goto 4, 3) := by decide +kernel
theorem dX1_next_118 : decode cX1_next 118 = .ok (.iconst (-1), 1) := by decide +kernel
theorem dX1_next_119 : decode cX1_next 119 = .ok (.ireturn, 1) := by decide +kernel
theorem dX1_next_120 : decode cX1_next 120 = .ok (.iconst (-1), 1) := by decide +kernel
theorem dX1_next_121 : decode cX1_next 121 = .ok (.ireturn, 1) := by decide +kernel
theorem dX1_isDigit_0 : decode cX1_isDigit 0 = .ok (.iload_n 0, 1) := by decide +kernel
theorem dX1_isDigit_1 : decode cX1_isDigit 1 = .ok (.bipush 48, 2) := by decide +kernel
theorem dX1_isDigit_3 : decode cX1_isDigit 3 = .ok (.if_icmp .lt 13, 3) := by decide +kernel
theorem dX1_isDigit_6 : decode cX1_isDigit 6 = .ok (.iload_n 0, 1) := by decide +kernel
theorem dX1_isDigit_7 : decode cX1_isDigit 7 = .ok (.bipush 57, 2) := by decide +kernel
theorem dX1_isDigit_9 : decode cX1_isDigit 9 = .ok (.if_icmp .gt 7, 3) := by decide +kernel
theorem dX1_isDigit_12 : decode cX1_isDigit 12 = .ok (.iconst 1, 1) := by decide +kernel
theorem dX1_isDigit_13 : decode cX1_isDigit 13 = .ok (.goto 4, 3) := by decide +kernel
theorem dX1_isDigit_16 : decode cX1_isDigit 16 = .ok (.iconst 0, 1) := by decide +kernel
theorem dX1_isDigit_17 : decode cX1_isDigit 17 = .ok (.ireturn, 1) := by decide +kernel
theorem dX1_putOn_0 : decode cX1_putOn 0 = .ok (.aload_n 1, 1) := by decide +kernel
theorem dX1_putOn_1 : decode cX1_putOn 1 = .ok (.invokevirtual 31, 3) := by decide +kernel
theorem dX1_putOn_4 : decode cX1_putOn 4 = .ok (.iconst 0, 1) := by decide +kernel
theorem dX1_putOn_5 : decode cX1_putOn 5 = .ok (.istore_n 2, 1) := by decide +kernel
theorem dX1_putOn_6 : decode cX1_putOn 6 = .ok (.iconst 0, 1) := by decide +kernel
theorem dX1_putOn_7 : decode cX1_putOn 7 = .ok (.istore_n 3, 1) := by decide +kernel
theorem dX1_putOn_8 : decode cX1_putOn 8 = .ok (.iconst 0, 1) := by decide +kernel
theorem dX1_putOn_9 : decode cX1_putOn 9 = .ok (.istore 4, 2) := by decide +kernel
theorem dX1_putOn_11 : decode cX1_putOn 11 = .ok (.iconst 0, 1) := by decide +kernel
theorem dX1_putOn_12 : decode cX1_putOn 12 = .ok (.istore 5, 2) := by decide +kernel
theorem dX1_putOn_14 : decode cX1_putOn 14 = .ok (.iload 5, 2) := by decide +kernel
theorem dX1_putOn_16 : decode cX1_putOn 16 = .ok (.aload_n 0, 1) := by decide +kernel
theorem dX1_putOn_17 : decode cX1_putOn 17 = .ok (.getfield 15, 3) := by decide +kernel
theorem dX1_putOn_20 : decode cX1_putOn 20 = .ok (.if_icmp .ge 86, 3) := by decide +kernel
theorem dX1_putOn_23 : decode cX1_putOn 23 = .ok (.aload_n 0, 1) := by decide +kernel
theorem dX1_putOn_24 : decode cX1_putOn 24 = .ok (.iload 5, 2) := by decide +kernel
theorem dX1_putOn_26 : decode cX1_putOn 26 = .ok (.invokevirtual 19, 3) := by decide +kernel
theorem dX1_putOn_29 : decode cX1_putOn 29 = .ok (.istore 6, 2) := by decide +kernel
theorem dX1_putOn_31 : decode cX1_putOn 31 = .ok (.iload_n 2, 1) := by decide +kernel
theorem dX1_putOn_32 : decode cX1_putOn 32 = .ok (.ifCond .ne 15, 3) := by decide +kernel
theorem dX1_putOn_35 : decode cX1_putOn 35 = .ok (.iload 6, 2) := by decide +kernel
theorem dX1_putOn_37 : decode cX1_putOn 37 = .ok (.bipush 48, 2) := by decide +kernel
theorem dX1_putOn_39 : decode cX1_putOn 39 = .ok (.isub, 1) := by decide +kernel
theorem dX1_putOn_40 : decode cX1_putOn 40 = .ok (.istore_n 3, 1) := by decide +kernel
theorem dX1_putOn_41 : decode cX1_putOn 41 = .ok (.iconst 0, 1) := by decide +kernel
theorem dX1_putOn_42 : decode cX1_putOn 42 = .ok (.istore 4, 2) := by decide +kernel
theorem dX1_putOn_44 : decode cX1_putOn 44 = .ok (.goto 49, 3) := by decide +kernel
theorem dX1_putOn_47 : decode cX1_putOn 47 = .ok (.iload 6, 2) := by decide +kernel
theorem dX1_putOn_49 : decode cX1_putOn 49 = .ok (.invokestatic 27, 3) := by decide +kernel
theorem dX1_putOn_52 : decode cX1_putOn 52 = .ok (.ifCond .eq 19, 3) := by decide +kernel
theorem dX1_putOn_55 : decode cX1_putOn 55 = .ok (.bipush 10, 2) := by decide +kernel
theorem dX1_putOn_57 : decode cX1_putOn 57 = .ok (.iload 4, 2) := by decide +kernel
theorem dX1_putOn_59 : decode cX1_putOn 59 = .ok (.imul, 1) := by decide +kernel
theorem dX1_putOn_60 : decode cX1_putOn 60 = .ok (.iload 6, 2) := by decide +kernel
theorem dX1_putOn_62 : decode cX1_putOn 62 = .ok (.iadd, 1) := by decide +kernel
theorem dX1_putOn_63 : decode cX1_putOn 63 = .ok (.bipush 48, 2) := by decide +kernel
theorem dX1_putOn_65 : decode cX1_putOn 65 = .ok (.isub, 1) := by decide +kernel
theorem dX1_putOn_66 : decode cX1_putOn 66 = .ok (.istore 4, 2) := by decide +kernel
theorem dX1_putOn_68 : decode cX1_putOn 68 = .ok (.goto 25, 3) := by decide +kernel
theorem dX1_putOn_71 : decode cX1_putOn 71 = .ok (.iload 6, 2) := by decide +kernel
theorem dX1_putOn_73 : decode cX1_putOn 73 = .ok (.bipush 59, 2) := by decide +kernel
theorem dX1_putOn_75 : decode cX1_putOn 75 = .ok (.if_icmp .ne 18, 3) := by decide +kernel
theorem dX1_putOn_78 : decode cX1_putOn 78 = .ok (.aload_n 1, 1) := by decide +kernel
theorem dX1_putOn_79 : decode cX1_putOn 79 = .ok (.iload_n 3, 1) := by decide +kernel
theorem dX1_putOn_80 : decode cX1_putOn 80 = .ok (.invokevirtual 36, 3) := by decide +kernel
theorem dX1_putOn_83 : decode cX1_putOn 83 = .ok (.iload 4, 2) := by decide +kernel
theorem dX1_putOn_85 : decode cX1_putOn 85 = .ok (.invokevirtual 40, 3) := by decide +kernel
theorem dX1_putOn_88 : decode cX1_putOn 88 = .ok (.ifCond .ne 5, 3) := by decide +kernel
theorem dX1_putOn_91 : decode cX1_putOn 91 = .ok (.iconst 0, 1) := by decide +kernel
theorem dX1_putOn_92 : decode cX1_putOn 92 = .ok (.ireturn, 1) := by decide +kernel
theorem dX1_putOn_93 : decode cX1_putOn 93 = .ok (.iload_n 2, 1) := by decide +kernel
theorem dX1_putOn_94 : decode cX1_putOn 94 = .ok (.iload 6, 2) := by decide +kernel
theorem dX1_putOn_96 : decode cX1_putOn 96 = .ok (.invokestatic 23, 3) := by decide +kernel
theorem dX1_putOn_99 : decode cX1_putOn 99 = .ok (.istore_n 2, 1) := by decide +kernel
theorem dX1_putOn_100 : decode cX1_putOn 100 = .ok (.iinc 5 1, 3) := by decide +kernel
theorem dX1_putOn_103 : decode cX1_putOn 103 = .ok (.goto (-89), 3) := by decide +kernel
theorem dX1_putOn_106 : decode cX1_putOn 106 = .ok (.aload_n 1, 1) := by decide +kernel
theorem dX1_putOn_107 : decode cX1_putOn 107 = .ok (.iload_n 3, 1) := by decide +kernel
theorem dX1_putOn_108 : decode cX1_putOn 108 = .ok (.invokevirtual 36, 3) := by decide +kernel
theorem dX1_putOn_111 : decode cX1_putOn 111 = .ok (.iload 4, 2) := by decide +kernel
theorem dX1_putOn_113 : decode cX1_putOn 113 = .ok (.invokevirtual 40, 3) := by decide +kernel
theorem dX1_putOn_116 : decode cX1_putOn 116 = .ok (.ireturn, 1) := by decide +kernel
theorem dX2_init_0 : decode cX2_init 0 = .ok (.aload_n 0, 1) := by decide +kernel
theorem dX2_init_1 : decode cX2_init 1 = .ok (.invokespecial 3, 3) := by decide +kernel
theorem dX2_init_4 : decode cX2_init 4 = .ok (.aload_n 0, 1) := by decide +kernel
theorem dX2_init_5 : decode cX2_init 5 = .ok (.bipush 21, 2) := by decide +kernel
theorem dX2_init_7 : decode cX2_init 7 = .ok (.newarray .int, 2) := by decide +kernel
theorem dX2_init_9 : decode cX2_init 9 = .ok (.putfield 9, 3) := by decide +kernel
theorem dX2_init_12 : decode cX2_init 12 = .ok (.return_, 1) := by decide +kernel
theorem dX2_placeAt_0 : decode cX2_placeAt 0 = .ok (.iload_n 1, 1) := by decide +kernel
theorem dX2_placeAt_1 : decode cX2_placeAt 1 = .ok (.ifCond .lt 29, 3) := by decide +kernel
theorem dX2_placeAt_4 : decode cX2_placeAt 4 = .ok (.iload_n 1, 1) := by decide +kernel
theorem dX2_placeAt_5 : decode cX2_placeAt 5 = .ok (.aload_n 0, 1) := by decide +kernel
theorem dX2_placeAt_6 : decode cX2_placeAt 6 = .ok (.getfield 15, 3) := by decide +kernel
theorem dX2_placeAt_9 : decode cX2_placeAt 9 = .ok (.if_icmp .ge 21, 3) := by decide +kernel
theorem dX2_placeAt_12 : decode cX2_placeAt 12 = .ok (.iload_n 1, 1) := by decide +kernel
theorem dX2_placeAt_13 : decode cX2_placeAt 13 = .ok (.aload_n 0, 1) := by decide +kernel
theorem dX2_placeAt_14 : decode cX2_placeAt 14 = .ok (.getfield 9, 3) := by decide +kernel
theorem dX2_placeAt_17 : decode cX2_placeAt 17 = .ok (.arraylength, 1) := by decide +kernel
theorem dX2_placeAt_18 : decode cX2_placeAt 18 = .ok (.if_icmp .ge 12, 3) := by decide +kernel
theorem dX2_placeAt_21 : decode cX2_placeAt 21 = .ok (.aload_n 0, 1) := by decide +kernel
theorem dX2_placeAt_22 : decode cX2_placeAt 22 = .ok (.getfield 9, 3) := by decide +kernel
theorem dX2_placeAt_25 : decode cX2_placeAt 25 = .ok (.iload_n 1, 1) := by decide +kernel
theorem dX2_placeAt_26 : decode cX2_placeAt 26 = .ok (.iaload, 1) := by decide +kernel
theorem dX2_placeAt_27 : decode cX2_placeAt 27 = .ok (.goto 4, 3) := by decide +kernel
theorem dX2_placeAt_30 : decode cX2_placeAt 30 = .ok (.iconst (-1), 1) := by decide +kernel
theorem dX2_placeAt_31 : decode cX2_placeAt 31 = .ok (.ireturn, 1) := by decide +kernel
theorem dX2_move_0 : decode cX2_move 0 = .ok (.iload_n 1, 1) := by decide +kernel
theorem dX2_move_1 : decode cX2_move 1 = .ok (.ifCond .lt 27, 3) := by decide +kernel
theorem dX2_move_4 : decode cX2_move 4 = .ok (.iload_n 1, 1) := by decide +kernel
theorem dX2_move_5 : decode cX2_move 5 = .ok (.aload_n 0, 1) := by decide +kernel
theorem dX2_move_6 : decode cX2_move 6 = .ok (.getfield 15, 3) := by decide +kernel
theorem dX2_move_9 : decode cX2_move 9 = .ok (.if_icmp .ge 19, 3) := by decide +kernel
theorem dX2_move_12 : decode cX2_move 12 = .ok (.iload_n 1, 1) := by decide +kernel
theorem dX2_move_13 : decode cX2_move 13 = .ok (.aload_n 0, 1) := by decide +kernel
theorem dX2_move_14 : decode cX2_move 14 = .ok (.getfield 9, 3) := by decide +kernel
theorem dX2_move_17 : decode cX2_move 17 = .ok (.arraylength, 1) := by decide +kernel
theorem dX2_move_18 : decode cX2_move 18 = .ok (.if_icmp .ge 10, 3) := by decide +kernel
theorem dX2_move_21 : decode cX2_move 21 = .ok (.aload_n 0, 1) := by decide +kernel
theorem dX2_move_22 : decode cX2_move 22 = .ok (.getfield 9, 3) := by decide +kernel
theorem dX2_move_25 : decode cX2_move 25 = .ok (.iload_n 1, 1) := by decide +kernel
theorem dX2_move_26 : decode cX2_move 26 = .ok (.iload_n 2, 1) := by decide +kernel
theorem dX2_move_27 : decode cX2_move 27 = .ok (.iastore, 1) := by decide +kernel
theorem dX2_move_28 : decode cX2_move 28 = .ok (.return_, 1) := by decide +kernel
theorem dX2_clear_0 : decode cX2_clear 0 = .ok (.aload_n 0, 1) := by decide +kernel
theorem dX2_clear_1 : decode cX2_clear 1 = .ok (.iconst 0, 1) := by decide +kernel
theorem dX2_clear_2 : decode cX2_clear 2 = .ok (.putfield 15, 3) := by decide +kernel
theorem dX2_clear_5 : decode cX2_clear 5 = .ok (.return_, 1) := by decide +kernel
theorem dX2_copyFrom_0 : decode cX2_copyFrom 0 = .ok (.aload_n 0, 1) := by decide +kernel
theorem dX2_copyFrom_1 : decode cX2_copyFrom 1 = .ok (.aload_n 1, 1) := by decide +kernel
theorem dX2_copyFrom_2 : decode cX2_copyFrom 2 = .ok (.getfield 15, 3) := by decide +kernel
theorem dX2_copyFrom_5 : decode cX2_copyFrom 5 = .ok (.putfield 15, 3) := by decide +kernel
theorem dX2_copyFrom_8 : decode cX2_copyFrom 8 = .ok (.iconst 0, 1) := by decide +kernel
theorem dX2_copyFrom_9 : decode cX2_copyFrom 9 = .ok (.istore_n 2, 1) := by decide +kernel
theorem dX2_copyFrom_10 : decode cX2_copyFrom 10 = .ok (.iload_n 2, 1) := by decide +kernel
theorem dX2_copyFrom_11 : decode cX2_copyFrom 11 = .ok (.aload_n 0, 1) := by decide +kernel
theorem dX2_copyFrom_12 : decode cX2_copyFrom 12 = .ok (.getfield 15, 3) := by decide +kernel
theorem dX2_copyFrom_15 : decode cX2_copyFrom 15 = .ok (.if_icmp .ge 39, 3) := by decide +kernel
theorem dX2_copyFrom_18 : decode cX2_copyFrom 18 = .ok (.iload_n 2, 1) := by decide +kernel
theorem dX2_copyFrom_19 : decode cX2_copyFrom 19 = .ok (.aload_n 0, 1) := by decide +kernel
theorem dX2_copyFrom_20 : decode cX2_copyFrom 20 = .ok (.getfield 9, 3) := by decide +kernel
theorem dX2_copyFrom_23 : decode cX2_copyFrom 23 = .ok (.arraylength, 1) := by decide +kernel
theorem dX2_copyFrom_24 : decode cX2_copyFrom 24 = .ok (.if_icmp .ge 30, 3) := by decide +kernel
theorem dX2_copyFrom_27 : decode cX2_copyFrom 27 = .ok (.iload_n 2, 1) := by decide +kernel
theorem dX2_copyFrom_28 : decode cX2_copyFrom 28 = .ok (.aload_n 1, 1) := by decide +kernel
theorem dX2_copyFrom_29 : decode cX2_copyFrom 29 = .ok (.getfield 9, 3) := by decide +kernel
theorem dX2_copyFrom_32 : decode cX2_copyFrom 32 = .ok (.arraylength, 1) := by decide +kernel
theorem dX2_copyFrom_33 : decode cX2_copyFrom 33 = .ok (.if_icmp .ge 21, 3) := by decide +kernel
theorem dX2_copyFrom_36 : decode cX2_copyFrom 36 = .ok (.aload_n 0, 1) := by decide +kernel
theorem dX2_copyFrom_37 : decode cX2_copyFrom 37 = .ok (.getfield 9, 3) := by decide +kernel
theorem dX2_copyFrom_40 : decode cX2_copyFrom 40 = .ok (.iload_n 2, 1) := by decide +kernel
theorem dX2_copyFrom_41 : decode cX2_copyFrom 41 = .ok (.aload_n 1, 1) := by decide +kernel
theorem dX2_copyFrom_42 : decode cX2_copyFrom 42 = .ok (.getfield 9, 3) := by decide +kernel
theorem dX2_copyFrom_45 : decode cX2_copyFrom 45 = .ok (.iload_n 2, 1) := by decide +kernel
theorem dX2_copyFrom_46 : decode cX2_copyFrom 46 = .ok (.iaload, 1) := by decide +kernel
theorem dX2_copyFrom_47 : decode cX2_copyFrom 47 = .ok (.iastore, 1) := by decide +kernel
theorem dX2_copyFrom_48 : decode cX2_copyFrom 48 = .ok (.iinc 2 1, 3) := by decide +kernel
theorem dX2_copyFrom_51 : decode cX2_copyFrom 51 = .ok (.goto (-41), 3) := by decide +kernel
theorem dX2_copyFrom_54 : decode cX2_copyFrom 54 = .ok (.return_, 1) := by decide +kernel
theorem dX2_insert_0 : decode cX2_insert 0 = .ok (.iconst 0, 1) := by decide +kernel
theorem dX2_insert_1 : decode cX2_insert 1 = .ok (.istore_n 2, 1) := by decide +kernel
theorem dX2_insert_2 : decode cX2_insert 2 = .ok (.iconst 0, 1) := by decide +kernel
theorem dX2_insert_3 : decode cX2_insert 3 = .ok (.istore_n 3, 1) := by decide +kernel
theorem dX2_insert_4 : decode cX2_insert 4 = .ok (.iload_n 3, 1) := by decide +kernel
theorem dX2_insert_5 : decode cX2_insert 5 = .ok (.aload_n 0, 1) := by decide +kernel
theorem dX2_insert_6 : decode cX2_insert 6 = .ok (.getfield 15, 3) := by decide +kernel
theorem dX2_insert_9 : decode cX2_insert 9 = .ok (.if_icmp .ge 49, 3) := by decide +kernel
theorem dX2_insert_12 : decode cX2_insert 12 = .ok (.iload_n 3, 1) := by decide +kernel
theorem dX2_insert_13 : decode cX2_insert 13 = .ok (.aload_n 0, 1) := by decide +kernel
theorem dX2_insert_14 : decode cX2_insert 14 = .ok (.getfield 9, 3) := by decide +kernel
theorem dX2_insert_17 : decode cX2_insert 17 = .ok (.arraylength, 1) := by decide +kernel
theorem dX2_insert_18 : decode cX2_insert 18 = .ok (.if_icmp .ge 40, 3) := by decide +kernel
theorem dX2_insert_21 : decode cX2_insert 21 = .ok (.iload_n 1, 1) := by decide +kernel
theorem dX2_insert_22 : decode cX2_insert 22 = .ok (.aload_n 0, 1) := by decide +kernel
theorem dX2_insert_23 : decode cX2_insert 23 = .ok (.getfield 9, 3) := by decide +kernel
theorem dX2_insert_26 : decode cX2_insert 26 = .ok (.iload_n 3, 1) := by decide +kernel
theorem dX2_insert_27 : decode cX2_insert 27 = .ok (.iaload, 1) := by decide +kernel
theorem dX2_insert_28 : decode cX2_insert 28 = .ok (.isub, 1) := by decide +kernel
theorem dX2_insert_29 : decode cX2_insert 29 = .ok (.invokestatic 19, 3) := by decide +kernel
theorem dX2_insert_32 : decode cX2_insert 32 = .ok (.iconst 5, 1) := by decide +kernel
theorem dX2_insert_33 : decode cX2_insert 33 = .ok (.if_icmp .ge 5, 3) := by decide +kernel
theorem dX2_insert_36 : decode cX2_insert 36 = .ok (.iconst 0, 1) := by decide +kernel
theorem dX2_insert_37 : decode cX2_insert 37 = .ok (.ireturn, 1) := by decide +kernel
theorem dX2_insert_38 : decode cX2_insert 38 = .ok (.aload_n 0, 1) := by decide +kernel
theorem dX2_insert_39 : decode cX2_insert 39 = .ok (.getfield 9, 3) := by decide +kernel
theorem dX2_insert_42 : decode cX2_insert 42 = .ok (.iload_n 3, 1) := by decide +kernel
theorem dX2_insert_43 : decode cX2_insert 43 = .ok (.iaload, 1) := by decide +kernel
theorem dX2_insert_44 : decode cX2_insert 44 = .ok (.iload_n 1, 1) := by decide +kernel
theorem dX2_insert_45 : decode cX2_insert 45 = .ok (.if_icmp .ge 7, 3) := by decide +kernel
theorem dX2_insert_48 : decode cX2_insert 48 = .ok (.iload_n 3, 1) := by decide +kernel
theorem dX2_insert_49 : decode cX2_insert 49 = .ok (.iconst 1, 1) := by decide +kernel
theorem dX2_insert_50 : decode cX2_insert 50 = .ok (.iadd, 1) := by decide +kernel
theorem dX2_insert_51 : decode cX2_insert 51 = .ok (.istore_n 2, 1) := by decide +kernel
theorem dX2_insert_52 : decode cX2_insert 52 = .ok (.iinc 3 1, 3) := by decide +kernel
theorem dX2_insert_55 : decode cX2_insert 55 = .ok (.goto (-51), 3) := by decide +kernel
theorem dX2_insert_58 : decode cX2_insert 58 = .ok (.aload_n 0, 1) := by decide +kernel
theorem dX2_insert_59 : decode cX2_insert 59 = .ok (.iload_n 2, 1) := by decide +kernel
theorem dX2_insert_60 : decode cX2_insert 60 = .ok (.iload_n 1, 1) := by decide +kernel
theorem dX2_insert_61 : decode cX2_insert 61 = .ok (.invokevirtual 25, 3) := by decide +kernel
theorem dX2_insert_64 : decode cX2_insert 64 = .ok (.iconst 1, 1) := by decide +kernel
theorem dX2_insert_65 : decode cX2_insert 65 = .ok (.ireturn, 1) := by decide +kernel
theorem dX2_insertAt_0 : decode cX2_insertAt 0 = .ok (.iload_n 1, 1) := by decide +kernel
theorem dX2_insertAt_1 : decode cX2_insertAt 1 = .ok (.ifCond .lt 23, 3) := by decide +kernel
theorem dX2_insertAt_4 : decode cX2_insertAt 4 = .ok (.iload_n 1, 1) := by decide +kernel
theorem dX2_insertAt_5 : decode cX2_insertAt 5 = .ok (.aload_n 0, 1) := by decide +kernel
theorem dX2_insertAt_6 : decode cX2_insertAt 6 = .ok (.getfield 15, 3) := by decide +kernel
theorem dX2_insertAt_9 : decode cX2_insertAt 9 = .ok (.if_icmp .gt 15, 3) := by decide +kernel
theorem dX2_insertAt_12 : decode cX2_insertAt 12 = .ok (.aload_n 0, 1) := by decide +kernel
theorem dX2_insertAt_13 : decode cX2_insertAt 13 = .ok (.getfield 15, 3) := by decide +kernel
theorem dX2_insertAt_16 : decode cX2_insertAt 16 = .ok (.aload_n 0, 1) := by decide +kernel
theorem dX2_insertAt_17 : decode cX2_insertAt 17 = .ok (.getfield 9, 3) := by decide +kernel
theorem dX2_insertAt_20 : decode cX2_insertAt 20 = .ok (.arraylength, 1) := by decide +kernel
theorem dX2_insertAt_21 : decode cX2_insertAt 21 = .ok (.if_icmp .lt 4, 3) := by decide +kernel
theorem dX2_insertAt_24 : decode cX2_insertAt 24 = .ok (.return_, 1) := by decide +kernel
theorem dX2_insertAt_25 : decode cX2_insertAt 25 = .ok (.aload_n 0, 1) := by decide +kernel
theorem dX2_insertAt_26 : decode cX2_insertAt 26 = .ok (.getfield 15, 3) := by decide +kernel
theorem dX2_insertAt_29 : decode cX2_insertAt 29 = .ok (.istore_n 3, 1) := by decide +kernel
theorem dX2_insertAt_30 : decode cX2_insertAt 30 = .ok (.iload_n 3, 1) := by decide +kernel
theorem dX2_insertAt_31 : decode cX2_insertAt 31 = .ok (.iload_n 1, 1) := by decide +kernel
theorem dX2_insertAt_32 : decode cX2_insertAt 32 = .ok (.if_icmp .le 23, 3) := by decide +kernel
theorem dX2_insertAt_35 : decode cX2_insertAt 35 = .ok (.aload_n 0, 1) := by decide +kernel
theorem dX2_insertAt_36 : decode cX2_insertAt 36 = .ok (.getfield 9, 3) := by decide +kernel
theorem dX2_insertAt_39 : decode cX2_insertAt 39 = .ok (.iload_n 3, 1) := by decide +kernel
theorem dX2_insertAt_40 : decode cX2_insertAt 40 = .ok (.aload_n 0, 1) := by decide +kernel
theorem dX2_insertAt_41 : decode cX2_insertAt 41 = .ok (.getfield 9, 3) := by decide +kernel
theorem dX2_insertAt_44 : decode cX2_insertAt 44 = .ok (.iload_n 3, 1) := by decide +kernel
theorem dX2_insertAt_45 : decode cX2_insertAt 45 = .ok (.iconst 1, 1) := by decide +kernel
theorem dX2_insertAt_46 : decode cX2_insertAt 46 = .ok (.isub, 1) := by decide +kernel
theorem dX2_insertAt_47 : decode cX2_insertAt 47 = .ok (.iaload, 1) := by decide +kernel
theorem dX2_insertAt_48 : decode cX2_insertAt 48 = .ok (.iastore, 1) := by decide +kernel
theorem dX2_insertAt_49 : decode cX2_insertAt 49 = .ok (.iinc 3 (-1), 3) := by decide +kernel
theorem dX2_insertAt_52 : decode cX2_insertAt 52 = .ok (.goto (-22), 3) := by decide +kernel
theorem dX2_insertAt_55 : decode cX2_insertAt 55 = .ok (.aload_n 0, 1) := by decide +kernel
theorem dX2_insertAt_56 : decode cX2_insertAt 56 = .ok (.getfield 9, 3) := by decide +kernel
theorem dX2_insertAt_59 : decode cX2_insertAt 59 = .ok (.iload_n 1, 1) := by decide +kernel
theorem dX2_insertAt_60 : decode cX2_insertAt 60 = .ok (.iload_n 2, 1) := by decide +kernel
theorem dX2_insertAt_61 : decode cX2_insertAt 61 = .ok (.iastore, 1) := by decide +kernel
theorem dX2_insertAt_62 : decode cX2_insertAt 62 = .ok (.aload_n 0, 1) := by decide +kernel
theorem dX2_insertAt_63 : decode cX2_insertAt 63 = .ok (.dup, 1) := by decide +kernel
theorem dX2_insertAt_64 : decode cX2_insertAt 64 = .ok (.getfield 15, 3) := by decide +kernel
theorem dX2_insertAt_67 : decode cX2_insertAt 67 = .ok (.iconst 1, 1) := by decide +kernel
theorem dX2_insertAt_68 : decode cX2_insertAt 68 = .ok (.iadd, 1) := by decide +kernel
theorem dX2_insertAt_69 : decode cX2_insertAt 69 = .ok (.putfield 15, 3) := by decide +kernel
theorem dX2_insertAt_72 : decode cX2_insertAt 72 = .ok (.return_, 1) := by decide +kernel
theorem dX2_removeFirst_0 : decode cX2_removeFirst 0 = .ok (.iconst 1, 1) := by decide +kernel
theorem dX2_removeFirst_1 : decode cX2_removeFirst 1 = .ok (.istore_n 1, 1) := by decide +kernel
theorem dX2_removeFirst_2 : decode cX2_removeFirst 2 = .ok (.iload_n 1, 1) := by decide +kernel
theorem dX2_removeFirst_3 : decode cX2_removeFirst 3 = .ok (.aload_n 0, 1) := by decide +kernel
theorem dX2_removeFirst_4 : decode cX2_removeFirst 4 = .ok (.getfield 15, 3) := by decide +kernel
theorem dX2_removeFirst_7 : decode cX2_removeFirst 7 = .ok (.if_icmp .ge 32, 3) := by decide +kernel
theorem dX2_removeFirst_10 : decode cX2_removeFirst 10 = .ok (.iload_n 1, 1) := by decide +kernel
theorem dX2_removeFirst_11 : decode cX2_removeFirst 11 = .ok (.aload_n 0, 1) := by decide +kernel
theorem dX2_removeFirst_12 : decode cX2_removeFirst 12 = .ok (.getfield 9, 3) := by decide +kernel
theorem dX2_removeFirst_15 : decode cX2_removeFirst 15 = .ok (.arraylength, 1) := by decide +kernel
theorem dX2_removeFirst_16 : decode cX2_removeFirst 16 = .ok (.if_icmp .ge 23, 3) := by decide +kernel
theorem dX2_removeFirst_19 : decode cX2_removeFirst 19 = .ok (.aload_n 0, 1) := by decide +kernel
theorem dX2_removeFirst_20 : decode cX2_removeFirst 20 = .ok (.getfield 9, 3) := by decide +kernel
theorem dX2_removeFirst_23 : decode cX2_removeFirst 23 = .ok (.iload_n 1, 1) := by decide +kernel
theorem dX2_removeFirst_24 : decode cX2_removeFirst 24 = .ok (.iconst 1, 1) := by decide +kernel
theorem dX2_removeFirst_25 : decode cX2_removeFirst 25 = .ok (.isub, 1) := by decide +kernel
theorem dX2_removeFirst_26 : decode cX2_removeFirst 26 = .ok (.aload_n 0, 1) := by decide +kernel
theorem dX2_removeFirst_27 : decode cX2_removeFirst 27 = .ok (.getfield 9, 3) := by decide +kernel
theorem dX2_removeFirst_30 : decode cX2_removeFirst 30 = .ok (.iload_n 1, 1) := by decide +kernel
theorem dX2_removeFirst_31 : decode cX2_removeFirst 31 = .ok (.iaload, 1) := by decide +kernel
theorem dX2_removeFirst_32 : decode cX2_removeFirst 32 = .ok (.iastore, 1) := by decide +kernel
theorem dX2_removeFirst_33 : decode cX2_removeFirst 33 = .ok (.iinc 1 1, 3) := by decide +kernel
theorem dX2_removeFirst_36 : decode cX2_removeFirst 36 = .ok (.goto (-34), 3) := by decide +kernel
theorem dX2_removeFirst_39 : decode cX2_removeFirst 39 = .ok (.aload_n 0, 1) := by decide +kernel
theorem dX2_removeFirst_40 : decode cX2_removeFirst 40 = .ok (.getfield 15, 3) := by decide +kernel
theorem dX2_removeFirst_43 : decode cX2_removeFirst 43 = .ok (.ifCond .le 13, 3) := by decide +kernel
theorem dX2_removeFirst_46 : decode cX2_removeFirst 46 = .ok (.aload_n 0, 1) := by decide +kernel
theorem dX2_removeFirst_47 : decode cX2_removeFirst 47 = .ok (.dup, 1) := by decide +kernel
theorem dX2_removeFirst_48 : decode cX2_removeFirst 48 = .ok (.getfield 15, 3) := by decide +kernel
theorem dX2_removeFirst_51 : decode cX2_removeFirst 51 = .ok (.iconst 1, 1) := by decide +kernel
theorem dX2_removeFirst_52 : decode cX2_removeFirst 52 = .ok (.isub, 1) := by decide +kernel
theorem dX2_removeFirst_53 : decode cX2_removeFirst 53 = .ok (.putfield 15, 3) := by decide +kernel
theorem dX2_removeFirst_56 : decode cX2_removeFirst 56 = .ok (.return_, 1) := by decide +kernel
theorem dX2_removeLast_0 : decode cX2_removeLast 0 = .ok (.aload_n 0, 1) := by decide +kernel
theorem dX2_removeLast_1 : decode cX2_removeLast 1 = .ok (.getfield 15, 3) := by decide +kernel
theorem dX2_removeLast_4 : decode cX2_removeLast 4 = .ok (.ifCond .le 13, 3) := by decide +kernel
theorem dX2_removeLast_7 : decode cX2_removeLast 7 = .ok (.aload_n 0, 1) := by decide +kernel
theorem dX2_removeLast_8 : decode cX2_removeLast 8 = .ok (.dup, 1) := by decide +kernel
theorem dX2_removeLast_9 : decode cX2_removeLast 9 = .ok (.getfield 15, 3) := by decide +kernel
theorem dX2_removeLast_12 : decode cX2_removeLast 12 = .ok (.iconst 1, 1) := by decide +kernel
theorem dX2_removeLast_13 : decode cX2_removeLast 13 = .ok (.isub, 1) := by decide +kernel
theorem dX2_removeLast_14 : decode cX2_removeLast 14 = .ok (.putfield 15, 3) := by decide +kernel
theorem dX2_removeLast_17 : decode cX2_removeLast 17 = .ok (.return_, 1) := by decide +kernel
theorem dX2_cleanIn_0 : decode cX2_cleanIn 0 = .ok (.iconst 0, 1) := by decide +kernel
theorem dX2_cleanIn_1 : decode cX2_cleanIn 1 = .ok (.istore_n 2, 1) := by decide +kernel
theorem dX2_cleanIn_2 : decode cX2_cleanIn 2 = .ok (.iconst 0, 1) := by decide +kernel
theorem dX2_cleanIn_3 : decode cX2_cleanIn 3 = .ok (.istore_n 3, 1) := by decide +kernel
theorem dX2_cleanIn_4 : decode cX2_cleanIn 4 = .ok (.iload_n 3, 1) := by decide +kernel
theorem dX2_cleanIn_5 : decode cX2_cleanIn 5 = .ok (.aload_n 0, 1) := by decide +kernel
theorem dX2_cleanIn_6 : decode cX2_cleanIn 6 = .ok (.getfield 15, 3) := by decide +kernel
theorem dX2_cleanIn_9 : decode cX2_cleanIn 9 = .ok (.if_icmp .ge 34, 3) := by decide +kernel
theorem dX2_cleanIn_12 : decode cX2_cleanIn 12 = .ok (.iload_n 3, 1) := by decide +kernel
theorem dX2_cleanIn_13 : decode cX2_cleanIn 13 = .ok (.aload_n 0, 1) := by decide +kernel
theorem dX2_cleanIn_14 : decode cX2_cleanIn 14 = .ok (.getfield 9, 3) := by decide +kernel
theorem dX2_cleanIn_17 : decode cX2_cleanIn 17 = .ok (.arraylength, 1) := by decide +kernel
theorem dX2_cleanIn_18 : decode cX2_cleanIn 18 = .ok (.if_icmp .ge 25, 3) := by decide +kernel
theorem dX2_cleanIn_21 : decode cX2_cleanIn 21 = .ok (.aload_n 0, 1) := by decide +kernel
theorem dX2_cleanIn_22 : decode cX2_cleanIn 22 = .ok (.getfield 9, 3) := by decide +kernel
theorem dX2_cleanIn_25 : decode cX2_cleanIn 25 = .ok (.iload_n 3, 1) := by decide +kernel
theorem dX2_cleanIn_26 : decode cX2_cleanIn 26 = .ok (.iaload, 1) := by decide +kernel
theorem dX2_cleanIn_27 : decode cX2_cleanIn 27 = .ok (.invokestatic 29, 3) := by decide +kernel
theorem dX2_cleanIn_30 : decode cX2_cleanIn 30 = .ok (.iload_n 1, 1) := by decide +kernel
theorem dX2_cleanIn_31 : decode cX2_cleanIn 31 = .ok (.if_icmp .ne 6, 3) := by decide +kernel
theorem dX2_cleanIn_34 : decode cX2_cleanIn 34 = .ok (.iinc 2 1, 3) := by decide +kernel
theorem dX2_cleanIn_37 : decode cX2_cleanIn 37 = .ok (.iinc 3 1, 3) := by decide +kernel
theorem dX2_cleanIn_40 : decode cX2_cleanIn 40 = .ok (.goto (-36), 3) := by decide +kernel
theorem dX2_cleanIn_43 : decode cX2_cleanIn 43 = .ok (.iload_n 2, 1) := by decide +kernel
theorem dX2_cleanIn_44 : decode cX2_cleanIn 44 = .ok (.ireturn, 1) := by decide +kernel
theorem dX2_cleanCoins_0 : decode cX2_cleanCoins 0 = .ok (.iconst 0, 1) := by decide +kernel
theorem dX2_cleanCoins_1 : decode cX2_cleanCoins 1 = .ok (.istore_n 1, 1) := by decide +kernel
theorem dX2_cleanCoins_2 : decode cX2_cleanCoins 2 = .ok (.iconst 0, 1) := by decide +kernel
theorem dX2_cleanCoins_3 : decode cX2_cleanCoins 3 = .ok (.istore_n 2, 1) := by decide +kernel
theorem dX2_cleanCoins_4 : decode cX2_cleanCoins 4 = .ok (.iload_n 2, 1) := by decide +kernel
theorem dX2_cleanCoins_5 : decode cX2_cleanCoins 5 = .ok (.aload_n 0, 1) := by decide +kernel
theorem dX2_cleanCoins_6 : decode cX2_cleanCoins 6 = .ok (.getfield 15, 3) := by decide +kernel
theorem dX2_cleanCoins_9 : decode cX2_cleanCoins 9 = .ok (.if_icmp .ge 34, 3) := by decide +kernel
theorem dX2_cleanCoins_12 : decode cX2_cleanCoins 12 = .ok (.iload_n 2, 1) := by decide +kernel
theorem dX2_cleanCoins_13 : decode cX2_cleanCoins 13 = .ok (.aload_n 0, 1) := by decide +kernel
theorem dX2_cleanCoins_14 : decode cX2_cleanCoins 14 = .ok (.getfield 9, 3) := by decide +kernel
theorem dX2_cleanCoins_17 : decode cX2_cleanCoins 17 = .ok (.arraylength, 1) := by decide +kernel
theorem dX2_cleanCoins_18 : decode cX2_cleanCoins 18 = .ok (.if_icmp .ge 25, 3) := by decide +kernel
theorem dX2_cleanCoins_21 : decode cX2_cleanCoins 21 = .ok (.aload_n 0, 1) := by decide +kernel
theorem dX2_cleanCoins_22 : decode cX2_cleanCoins 22 = .ok (.getfield 9, 3) := by decide +kernel
theorem dX2_cleanCoins_25 : decode cX2_cleanCoins 25 = .ok (.iload_n 2, 1) := by decide +kernel
theorem dX2_cleanCoins_26 : decode cX2_cleanCoins 26 = .ok (.iaload, 1) := by decide +kernel
theorem dX2_cleanCoins_27 : decode cX2_cleanCoins 27 = .ok (.invokestatic 29, 3) := by decide +kernel
theorem dX2_cleanCoins_30 : decode cX2_cleanCoins 30 = .ok (.iconst (-1), 1) := by decide +kernel
theorem dX2_cleanCoins_31 : decode cX2_cleanCoins 31 = .ok (.if_icmp .eq 6, 3) := by decide +kernel
theorem dX2_cleanCoins_34 : decode cX2_cleanCoins 34 = .ok (.iinc 1 1, 3) := by decide +kernel
theorem dX2_cleanCoins_37 : decode cX2_cleanCoins 37 = .ok (.iinc 2 1, 3) := by decide +kernel
theorem dX2_cleanCoins_40 : decode cX2_cleanCoins 40 = .ok (.goto (-36), 3) := by decide +kernel
theorem dX2_cleanCoins_43 : decode cX2_cleanCoins 43 = .ok (.iload_n 1, 1) := by decide +kernel
theorem dX2_cleanCoins_44 : decode cX2_cleanCoins 44 = .ok (.ireturn, 1) := by decide +kernel
theorem dX2_addClean_0 : decode cX2_addClean 0 = .ok (.iconst 0, 1) := by decide +kernel
theorem dX2_addClean_1 : decode cX2_addClean 1 = .ok (.istore_n 2, 1) := by decide +kernel
theorem dX2_addClean_2 : decode cX2_addClean 2 = .ok (.iload_n 2, 1) := by decide +kernel
theorem dX2_addClean_3 : decode cX2_addClean 3 = .ok (.aload_n 0, 1) := by decide +kernel
theorem dX2_addClean_4 : decode cX2_addClean 4 = .ok (.getfield 15, 3) := by decide +kernel
theorem dX2_addClean_7 : decode cX2_addClean 7 = .ok (.if_icmp .ge 45, 3) := by decide +kernel
theorem dX2_addClean_10 : decode cX2_addClean 10 = .ok (.iload_n 2, 1) := by decide +kernel
theorem dX2_addClean_11 : decode cX2_addClean 11 = .ok (.aload_n 0, 1) := by decide +kernel
theorem dX2_addClean_12 : decode cX2_addClean 12 = .ok (.getfield 9, 3) := by decide +kernel
theorem dX2_addClean_15 : decode cX2_addClean 15 = .ok (.arraylength, 1) := by decide +kernel
theorem dX2_addClean_16 : decode cX2_addClean 16 = .ok (.if_icmp .ge 36, 3) := by decide +kernel
theorem dX2_addClean_19 : decode cX2_addClean 19 = .ok (.aload_n 0, 1) := by decide +kernel
theorem dX2_addClean_20 : decode cX2_addClean 20 = .ok (.getfield 9, 3) := by decide +kernel
theorem dX2_addClean_23 : decode cX2_addClean 23 = .ok (.iload_n 2, 1) := by decide +kernel
theorem dX2_addClean_24 : decode cX2_addClean 24 = .ok (.iaload, 1) := by decide +kernel
theorem dX2_addClean_25 : decode cX2_addClean 25 = .ok (.invokestatic 29, 3) := by decide +kernel
theorem dX2_addClean_28 : decode cX2_addClean 28 = .ok (.istore_n 3, 1) := by decide +kernel
theorem dX2_addClean_29 : decode cX2_addClean 29 = .ok (.iload_n 3, 1) := by decide +kernel
theorem dX2_addClean_30 : decode cX2_addClean 30 = .ok (.ifCond .lt 16, 3) := by decide +kernel
theorem dX2_addClean_33 : decode cX2_addClean 33 = .ok (.iload_n 3, 1) := by decide +kernel
theorem dX2_addClean_34 : decode cX2_addClean 34 = .ok (.aload_n 1, 1) := by decide +kernel
theorem dX2_addClean_35 : decode cX2_addClean 35 = .ok (.arraylength, 1) := by decide +kernel
theorem dX2_addClean_36 : decode cX2_addClean 36 = .ok (.if_icmp .ge 10, 3) := by decide +kernel
theorem dX2_addClean_39 : decode cX2_addClean 39 = .ok (.aload_n 1, 1) := by decide +kernel
theorem dX2_addClean_40 : decode cX2_addClean 40 = .ok (.iload_n 3, 1) := by decide +kernel
theorem dX2_addClean_41 : decode cX2_addClean 41 = .ok (.dup2, 1) := by decide +kernel
theorem dX2_addClean_42 : decode cX2_addClean 42 = .ok (.iaload, 1) := by decide +kernel
theorem dX2_addClean_43 : decode cX2_addClean 43 = .ok (.iconst 1, 1) := by decide +kernel
theorem dX2_addClean_44 : decode cX2_addClean 44 = .ok (.iadd, 1) := by decide +kernel
theorem dX2_addClean_45 : decode cX2_addClean 45 = .ok (.iastore, 1) := by decide +kernel
theorem dX2_addClean_46 : decode cX2_addClean 46 = .ok (.iinc 2 1, 3) := by decide +kernel
theorem dX2_addClean_49 : decode cX2_addClean 49 = .ok (.goto (-47), 3) := by decide +kernel
theorem dX2_addClean_52 : decode cX2_addClean 52 = .ok (.return_, 1) := by decide +kernel
theorem dX3_init_0 : decode cX3_init 0 = .ok (.aload_n 0, 1) := by decide +kernel
theorem dX3_init_1 : decode cX3_init 1 = .ok (.invokespecial 1, 3) := by decide +kernel
theorem dX3_init_4 : decode cX3_init 4 = .ok (.aload_n 0, 1) := by decide +kernel
theorem dX3_init_5 : decode cX3_init 5 = .ok (.new 7, 3) := by decide +kernel
theorem dX3_init_8 : decode cX3_init 8 = .ok (.dup, 1) := by decide +kernel
theorem dX3_init_9 : decode cX3_init 9 = .ok (.invokespecial 9, 3) := by decide +kernel
theorem dX3_init_12 : decode cX3_init 12 = .ok (.putfield 10, 3) := by decide +kernel
theorem dX3_init_15 : decode cX3_init 15 = .ok (.aload_n 0, 1) := by decide +kernel
theorem dX3_init_16 : decode cX3_init 16 = .ok (.new 7, 3) := by decide +kernel
theorem dX3_init_19 : decode cX3_init 19 = .ok (.dup, 1) := by decide +kernel
theorem dX3_init_20 : decode cX3_init 20 = .ok (.invokespecial 9, 3) := by decide +kernel
theorem dX3_init_23 : decode cX3_init 23 = .ok (.putfield 16, 3) := by decide +kernel
theorem dX3_init_26 : decode cX3_init 26 = .ok (.aload_n 0, 1) := by decide +kernel
theorem dX3_init_27 : decode cX3_init 27 = .ok (.new 7, 3) := by decide +kernel
theorem dX3_init_30 : decode cX3_init 30 = .ok (.dup, 1) := by decide +kernel
theorem dX3_init_31 : decode cX3_init 31 = .ok (.invokespecial 9, 3) := by decide +kernel
theorem dX3_init_34 : decode cX3_init 34 = .ok (.putfield 19, 3) := by decide +kernel
theorem dX3_init_37 : decode cX3_init 37 = .ok (.return_, 1) := by decide +kernel
theorem dX3_lane_0 : decode cX3_lane 0 = .ok (.iload_n 1, 1) := by decide +kernel
theorem dX3_lane_1 : decode cX3_lane 1 = .ok (.ifCond .ne 8, 3) := by decide +kernel
theorem dX3_lane_4 : decode cX3_lane 4 = .ok (.aload_n 0, 1) := by decide +kernel
theorem dX3_lane_5 : decode cX3_lane 5 = .ok (.getfield 10, 3) := by decide +kernel
theorem dX3_lane_8 : decode cX3_lane 8 = .ok (.areturn, 1) := by decide +kernel
theorem dX3_lane_9 : decode cX3_lane 9 = .ok (.iload_n 1, 1) := by decide +kernel
theorem dX3_lane_10 : decode cX3_lane 10 = .ok (.iconst 1, 1) := by decide +kernel
theorem dX3_lane_11 : decode cX3_lane 11 = .ok (.if_icmp .ne 10, 3) := by decide +kernel
theorem dX3_lane_14 : decode cX3_lane 14 = .ok (.aload_n 0, 1) := by decide +kernel
theorem dX3_lane_15 : decode cX3_lane 15 = .ok (.getfield 16, 3) := by decide +kernel
theorem dX3_lane_18 : decode cX3_lane 18 = .ok (.goto 7, 3) := by decide +kernel
theorem dX3_lane_21 : decode cX3_lane 21 = .ok (.aload_n 0, 1) := by decide +kernel
theorem dX3_lane_22 : decode cX3_lane 22 = .ok (.getfield 19, 3) := by decide +kernel
theorem dX3_lane_25 : decode cX3_lane 25 = .ok (.areturn, 1) := by decide +kernel
theorem dX3_clear_0 : decode cX3_clear 0 = .ok (.aload_n 0, 1) := by decide +kernel
theorem dX3_clear_1 : decode cX3_clear 1 = .ok (.getfield 10, 3) := by decide +kernel
theorem dX3_clear_4 : decode cX3_clear 4 = .ok (.invokevirtual 22, 3) := by decide +kernel
theorem dX3_clear_7 : decode cX3_clear 7 = .ok (.aload_n 0, 1) := by decide +kernel
theorem dX3_clear_8 : decode cX3_clear 8 = .ok (.getfield 16, 3) := by decide +kernel
theorem dX3_clear_11 : decode cX3_clear 11 = .ok (.invokevirtual 22, 3) := by decide +kernel
theorem dX3_clear_14 : decode cX3_clear 14 = .ok (.aload_n 0, 1) := by decide +kernel
theorem dX3_clear_15 : decode cX3_clear 15 = .ok (.getfield 19, 3) := by decide +kernel
theorem dX3_clear_18 : decode cX3_clear 18 = .ok (.invokevirtual 22, 3) := by decide +kernel
theorem dX3_clear_21 : decode cX3_clear 21 = .ok (.return_, 1) := by decide +kernel
theorem dX3_copyFrom_0 : decode cX3_copyFrom 0 = .ok (.aload_n 0, 1) := by decide +kernel
theorem dX3_copyFrom_1 : decode cX3_copyFrom 1 = .ok (.getfield 10, 3) := by decide +kernel
theorem dX3_copyFrom_4 : decode cX3_copyFrom 4 = .ok (.aload_n 1, 1) := by decide +kernel
theorem dX3_copyFrom_5 : decode cX3_copyFrom 5 = .ok (.getfield 10, 3) := by decide +kernel
theorem dX3_copyFrom_8 : decode cX3_copyFrom 8 = .ok (.invokevirtual 25, 3) := by decide +kernel
theorem dX3_copyFrom_11 : decode cX3_copyFrom 11 = .ok (.aload_n 0, 1) := by decide +kernel
theorem dX3_copyFrom_12 : decode cX3_copyFrom 12 = .ok (.getfield 16, 3) := by decide +kernel
theorem dX3_copyFrom_15 : decode cX3_copyFrom 15 = .ok (.aload_n 1, 1) := by decide +kernel
theorem dX3_copyFrom_16 : decode cX3_copyFrom 16 = .ok (.getfield 16, 3) := by decide +kernel
theorem dX3_copyFrom_19 : decode cX3_copyFrom 19 = .ok (.invokevirtual 25, 3) := by decide +kernel
theorem dX3_copyFrom_22 : decode cX3_copyFrom 22 = .ok (.aload_n 0, 1) := by decide +kernel
theorem dX3_copyFrom_23 : decode cX3_copyFrom 23 = .ok (.getfield 19, 3) := by decide +kernel
theorem dX3_copyFrom_26 : decode cX3_copyFrom 26 = .ok (.aload_n 1, 1) := by decide +kernel
theorem dX3_copyFrom_27 : decode cX3_copyFrom 27 = .ok (.getfield 19, 3) := by decide +kernel
theorem dX3_copyFrom_30 : decode cX3_copyFrom 30 = .ok (.invokevirtual 25, 3) := by decide +kernel
theorem dX3_copyFrom_33 : decode cX3_copyFrom 33 = .ok (.return_, 1) := by decide +kernel
theorem dX3_coins_0 : decode cX3_coins 0 = .ok (.aload_n 0, 1) := by decide +kernel
theorem dX3_coins_1 : decode cX3_coins 1 = .ok (.getfield 10, 3) := by decide +kernel
theorem dX3_coins_4 : decode cX3_coins 4 = .ok (.getfield 29, 3) := by decide +kernel
theorem dX3_coins_7 : decode cX3_coins 7 = .ok (.aload_n 0, 1) := by decide +kernel
theorem dX3_coins_8 : decode cX3_coins 8 = .ok (.getfield 16, 3) := by decide +kernel
theorem dX3_coins_11 : decode cX3_coins 11 = .ok (.getfield 29, 3) := by decide +kernel
theorem dX3_coins_14 : decode cX3_coins 14 = .ok (.iadd, 1) := by decide +kernel
theorem dX3_coins_15 : decode cX3_coins 15 = .ok (.aload_n 0, 1) := by decide +kernel
theorem dX3_coins_16 : decode cX3_coins 16 = .ok (.getfield 19, 3) := by decide +kernel
theorem dX3_coins_19 : decode cX3_coins 19 = .ok (.getfield 29, 3) := by decide +kernel
theorem dX3_coins_22 : decode cX3_coins 22 = .ok (.iadd, 1) := by decide +kernel
theorem dX3_coins_23 : decode cX3_coins 23 = .ok (.ireturn, 1) := by decide +kernel
theorem dX3_cleanCoins_0 : decode cX3_cleanCoins 0 = .ok (.aload_n 0, 1) := by decide +kernel
theorem dX3_cleanCoins_1 : decode cX3_cleanCoins 1 = .ok (.getfield 10, 3) := by decide +kernel
theorem dX3_cleanCoins_4 : decode cX3_cleanCoins 4 = .ok (.invokevirtual 33, 3) := by decide +kernel
theorem dX3_cleanCoins_7 : decode cX3_cleanCoins 7 = .ok (.aload_n 0, 1) := by decide +kernel
theorem dX3_cleanCoins_8 : decode cX3_cleanCoins 8 = .ok (.getfield 16, 3) := by decide +kernel
theorem dX3_cleanCoins_11 : decode cX3_cleanCoins 11 = .ok (.invokevirtual 33, 3) := by decide +kernel
theorem dX3_cleanCoins_14 : decode cX3_cleanCoins 14 = .ok (.iadd, 1) := by decide +kernel
theorem dX3_cleanCoins_15 : decode cX3_cleanCoins 15 = .ok (.aload_n 0, 1) := by decide +kernel
theorem dX3_cleanCoins_16 : decode cX3_cleanCoins 16 = .ok (.getfield 19, 3) := by decide +kernel
theorem dX3_cleanCoins_19 : decode cX3_cleanCoins 19 = .ok (.invokevirtual 33, 3) := by decide +kernel
theorem dX3_cleanCoins_22 : decode cX3_cleanCoins 22 = .ok (.iadd, 1) := by decide +kernel
theorem dX3_cleanCoins_23 : decode cX3_cleanCoins 23 = .ok (.ireturn, 1) := by decide +kernel
theorem dX3_cleanIn_0 : decode cX3_cleanIn 0 = .ok (.aload_n 0, 1) := by decide +kernel
theorem dX3_cleanIn_1 : decode cX3_cleanIn 1 = .ok (.getfield 10, 3) := by decide +kernel
theorem dX3_cleanIn_4 : decode cX3_cleanIn 4 = .ok (.iload_n 1, 1) := by decide +kernel
theorem dX3_cleanIn_5 : decode cX3_cleanIn 5 = .ok (.invokevirtual 37, 3) := by decide +kernel
theorem dX3_cleanIn_8 : decode cX3_cleanIn 8 = .ok (.aload_n 0, 1) := by decide +kernel
theorem dX3_cleanIn_9 : decode cX3_cleanIn 9 = .ok (.getfield 16, 3) := by decide +kernel
theorem dX3_cleanIn_12 : decode cX3_cleanIn 12 = .ok (.iload_n 1, 1) := by decide +kernel
theorem dX3_cleanIn_13 : decode cX3_cleanIn 13 = .ok (.invokevirtual 37, 3) := by decide +kernel
theorem dX3_cleanIn_16 : decode cX3_cleanIn 16 = .ok (.iadd, 1) := by decide +kernel
theorem dX3_cleanIn_17 : decode cX3_cleanIn 17 = .ok (.aload_n 0, 1) := by decide +kernel
theorem dX3_cleanIn_18 : decode cX3_cleanIn 18 = .ok (.getfield 19, 3) := by decide +kernel
theorem dX3_cleanIn_21 : decode cX3_cleanIn 21 = .ok (.iload_n 1, 1) := by decide +kernel
theorem dX3_cleanIn_22 : decode cX3_cleanIn 22 = .ok (.invokevirtual 37, 3) := by decide +kernel
theorem dX3_cleanIn_25 : decode cX3_cleanIn 25 = .ok (.iadd, 1) := by decide +kernel
theorem dX3_cleanIn_26 : decode cX3_cleanIn 26 = .ok (.ireturn, 1) := by decide +kernel
theorem dX4_init_0 : decode cX4_init 0 = .ok (.aload_n 0, 1) := by decide +kernel
theorem dX4_init_1 : decode cX4_init 1 = .ok (.invokespecial 3, 3) := by decide +kernel
theorem dX4_init_4 : decode cX4_init 4 = .ok (.aload_n 0, 1) := by decide +kernel
theorem dX4_init_5 : decode cX4_init 5 = .ok (.bipush 6, 2) := by decide +kernel
theorem dX4_init_7 : decode cX4_init 7 = .ok (.anewarray 9, 3) := by decide +kernel
theorem dX4_init_10 : decode cX4_init 10 = .ok (.putfield 11, 3) := by decide +kernel
theorem dX4_init_13 : decode cX4_init 13 = .ok (.return_, 1) := by decide +kernel
theorem dX4_add_0 : decode cX4_add 0 = .ok (.aload_n 0, 1) := by decide +kernel
theorem dX4_add_1 : decode cX4_add 1 = .ok (.aload_n 0, 1) := by decide +kernel
theorem dX4_add_2 : decode cX4_add 2 = .ok (.getfield 17, 3) := by decide +kernel
theorem dX4_add_5 : decode cX4_add 5 = .ok (.aload_n 0, 1) := by decide +kernel
theorem dX4_add_6 : decode cX4_add 6 = .ok (.getfield 21, 3) := by decide +kernel
theorem dX4_add_9 : decode cX4_add 9 = .ok (.iadd, 1) := by decide +kernel
theorem dX4_add_10 : decode cX4_add 10 = .ok (.invokevirtual 24, 3) := by decide +kernel
theorem dX4_add_13 : decode cX4_add 13 = .ok (.astore_n 2, 1) := by decide +kernel
theorem dX4_add_14 : decode cX4_add 14 = .ok (.aload_n 2, 1) := by decide +kernel
theorem dX4_add_15 : decode cX4_add 15 = .ok (.aload_n 1, 1) := by decide +kernel
theorem dX4_add_16 : decode cX4_add 16 = .ok (.invokevirtual 28, 3) := by decide +kernel
theorem dX4_add_19 : decode cX4_add 19 = .ok (.aload_n 0, 1) := by decide +kernel
theorem dX4_add_20 : decode cX4_add 20 = .ok (.getfield 21, 3) := by decide +kernel
theorem dX4_add_23 : decode cX4_add 23 = .ok (.bipush 6, 2) := by decide +kernel
theorem dX4_add_25 : decode cX4_add 25 = .ok (.if_icmp .ge 16, 3) := by decide +kernel
theorem dX4_add_28 : decode cX4_add 28 = .ok (.aload_n 0, 1) := by decide +kernel
theorem dX4_add_29 : decode cX4_add 29 = .ok (.dup, 1) := by decide +kernel
theorem dX4_add_30 : decode cX4_add 30 = .ok (.getfield 21, 3) := by decide +kernel
theorem dX4_add_33 : decode cX4_add 33 = .ok (.iconst 1, 1) := by decide +kernel
theorem dX4_add_34 : decode cX4_add 34 = .ok (.iadd, 1) := by decide +kernel
theorem dX4_add_35 : decode cX4_add 35 = .ok (.putfield 21, 3) := by decide +kernel
theorem dX4_add_38 : decode cX4_add 38 = .ok (.goto 16, 3) := by decide +kernel
theorem dX4_add_41 : decode cX4_add 41 = .ok (.aload_n 0, 1) := by decide +kernel
theorem dX4_add_42 : decode cX4_add 42 = .ok (.aload_n 0, 1) := by decide +kernel
theorem dX4_add_43 : decode cX4_add 43 = .ok (.getfield 17, 3) := by decide +kernel
theorem dX4_add_46 : decode cX4_add 46 = .ok (.iconst 1, 1) := by decide +kernel
theorem dX4_add_47 : decode cX4_add 47 = .ok (.iadd, 1) := by decide +kernel
theorem dX4_add_48 : decode cX4_add 48 = .ok (.bipush 6, 2) := by decide +kernel
theorem dX4_add_50 : decode cX4_add 50 = .ok (.irem, 1) := by decide +kernel
theorem dX4_add_51 : decode cX4_add 51 = .ok (.putfield 17, 3) := by decide +kernel
theorem dX4_add_54 : decode cX4_add 54 = .ok (.return_, 1) := by decide +kernel
theorem dX4_takeLatest_0 : decode cX4_takeLatest 0 = .ok (.aload_n 0, 1) := by decide +kernel
theorem dX4_takeLatest_1 : decode cX4_takeLatest 1 = .ok (.getfield 21, 3) := by decide +kernel
theorem dX4_takeLatest_4 : decode cX4_takeLatest 4 = .ok (.ifCond .le 30, 3) := by decide +kernel
theorem dX4_takeLatest_7 : decode cX4_takeLatest 7 = .ok (.aload_n 0, 1) := by decide +kernel
theorem dX4_takeLatest_8 : decode cX4_takeLatest 8 = .ok (.dup, 1) := by decide +kernel
theorem dX4_takeLatest_9 : decode cX4_takeLatest 9 = .ok (.getfield 21, 3) := by decide +kernel
theorem dX4_takeLatest_12 : decode cX4_takeLatest 12 = .ok (.iconst 1, 1) := by decide +kernel
theorem dX4_takeLatest_13 : decode cX4_takeLatest 13 = .ok (.isub, 1) := by decide +kernel
theorem dX4_takeLatest_14 : decode cX4_takeLatest 14 = .ok (.putfield 21, 3) := by decide +kernel
theorem dX4_takeLatest_17 : decode cX4_takeLatest 17 = .ok (.aload_n 1, 1) := by decide +kernel
theorem dX4_takeLatest_18 : decode cX4_takeLatest 18 = .ok (.aload_n 0, 1) := by decide +kernel
theorem dX4_takeLatest_19 : decode cX4_takeLatest 19 = .ok (.aload_n 0, 1) := by decide +kernel
theorem dX4_takeLatest_20 : decode cX4_takeLatest 20 = .ok (.getfield 17, 3) := by decide +kernel
theorem dX4_takeLatest_23 : decode cX4_takeLatest 23 = .ok (.aload_n 0, 1) := by decide +kernel
theorem dX4_takeLatest_24 : decode cX4_takeLatest 24 = .ok (.getfield 21, 3) := by decide +kernel
theorem dX4_takeLatest_27 : decode cX4_takeLatest 27 = .ok (.iadd, 1) := by decide +kernel
theorem dX4_takeLatest_28 : decode cX4_takeLatest 28 = .ok (.invokevirtual 24, 3) := by decide +kernel
theorem dX4_takeLatest_31 : decode cX4_takeLatest 31 = .ok (.invokevirtual 28, 3) := by decide +kernel
theorem dX4_takeLatest_34 : decode cX4_takeLatest 34 = .ok (.return_, 1) := by decide +kernel
theorem dX4_stateAt_0 : decode cX4_stateAt 0 = .ok (.iload_n 1, 1) := by decide +kernel
theorem dX4_stateAt_1 : decode cX4_stateAt 1 = .ok (.bipush 6, 2) := by decide +kernel
theorem dX4_stateAt_3 : decode cX4_stateAt 3 = .ok (.invokestatic 32, 3) := by decide +kernel
theorem dX4_stateAt_6 : decode cX4_stateAt 6 = .ok (.istore_n 2, 1) := by decide +kernel
theorem dX4_stateAt_7 : decode cX4_stateAt 7 = .ok (.iload_n 2, 1) := by decide +kernel
theorem dX4_stateAt_8 : decode cX4_stateAt 8 = .ok (.aload_n 0, 1) := by decide +kernel
theorem dX4_stateAt_9 : decode cX4_stateAt 9 = .ok (.getfield 11, 3) := by decide +kernel
theorem dX4_stateAt_12 : decode cX4_stateAt 12 = .ok (.arraylength, 1) := by decide +kernel
theorem dX4_stateAt_13 : decode cX4_stateAt 13 = .ok (.if_icmp .lt 11, 3) := by decide +kernel
theorem dX4_stateAt_16 : decode cX4_stateAt 16 = .ok (.new 9, 3) := by decide +kernel
theorem dX4_stateAt_19 : decode cX4_stateAt 19 = .ok (.dup, 1) := by decide +kernel
theorem dX4_stateAt_20 : decode cX4_stateAt 20 = .ok (.invokespecial 38, 3) := by decide +kernel
theorem dX4_stateAt_23 : decode cX4_stateAt 23 = .ok (.areturn, 1) := by decide +kernel
theorem dX4_stateAt_24 : decode cX4_stateAt 24 = .ok (.aload_n 0, 1) := by decide +kernel
theorem dX4_stateAt_25 : decode cX4_stateAt 25 = .ok (.getfield 11, 3) := by decide +kernel
theorem dX4_stateAt_28 : decode cX4_stateAt 28 = .ok (.iload_n 2, 1) := by decide +kernel
theorem dX4_stateAt_29 : decode cX4_stateAt 29 = .ok (.aaload, 1) := by decide +kernel
theorem dX4_stateAt_30 : decode cX4_stateAt 30 = .ok (.astore_n 3, 1) := by decide +kernel
theorem dX4_stateAt_31 : decode cX4_stateAt 31 = .ok (.aload_n 3, 1) := by decide +kernel
theorem dX4_stateAt_32 : decode cX4_stateAt 32 = .ok (.ifnonnull 18, 3) := by decide +kernel
theorem dX4_stateAt_35 : decode cX4_stateAt 35 = .ok (.new 9, 3) := by decide +kernel
theorem dX4_stateAt_38 : decode cX4_stateAt 38 = .ok (.dup, 1) := by decide +kernel
theorem dX4_stateAt_39 : decode cX4_stateAt 39 = .ok (.invokespecial 38, 3) := by decide +kernel
theorem dX4_stateAt_42 : decode cX4_stateAt 42 = .ok (.astore_n 3, 1) := by decide +kernel
theorem dX4_stateAt_43 : decode cX4_stateAt 43 = .ok (.aload_n 0, 1) := by decide +kernel
theorem dX4_stateAt_44 : decode cX4_stateAt 44 = .ok (.getfield 11, 3) := by decide +kernel
theorem dX4_stateAt_47 : decode cX4_stateAt 47 = .ok (.iload_n 2, 1) := by decide +kernel
theorem dX4_stateAt_48 : decode cX4_stateAt 48 = .ok (.aload_n 3, 1) := by decide +kernel
theorem dX4_stateAt_49 : decode cX4_stateAt 49 = .ok (.aastore, 1) := by decide +kernel
theorem dX4_stateAt_50 : decode cX4_stateAt 50 = .ok (.aload_n 3, 1) := by decide +kernel
theorem dX4_stateAt_51 : decode cX4_stateAt 51 = .ok (.areturn, 1) := by decide +kernel
theorem dX5_init_0 : decode cX5_init 0 = .ok (.aload_n 0, 1) := by decide +kernel
theorem dX5_init_1 : decode cX5_init 1 = .ok (.invokespecial 3, 3) := by decide +kernel
theorem dX5_init_4 : decode cX5_init 4 = .ok (.aload_n 0, 1) := by decide +kernel
theorem dX5_init_5 : decode cX5_init 5 = .ok (.new 9, 3) := by decide +kernel
theorem dX5_init_8 : decode cX5_init 8 = .ok (.dup, 1) := by decide +kernel
theorem dX5_init_9 : decode cX5_init 9 = .ok (.invokespecial 11, 3) := by decide +kernel
theorem dX5_init_12 : decode cX5_init 12 = .ok (.putfield 12, 3) := by decide +kernel
theorem dX5_init_15 : decode cX5_init 15 = .ok (.return_, 1) := by decide +kernel
theorem dX5_placeByPlace_0 : decode cX5_placeByPlace 0 = .ok (.aload_n 0, 1) := by decide +kernel
theorem dX5_placeByPlace_1 : decode cX5_placeByPlace 1 = .ok (.aload_n 1, 1) := by decide +kernel
theorem dX5_placeByPlace_2 : decode cX5_placeByPlace 2 = .ok (.iload_n 2, 1) := by decide +kernel
theorem dX5_placeByPlace_3 : decode cX5_placeByPlace 3 = .ok (.iload_n 3, 1) := by decide +kernel
theorem dX5_placeByPlace_4 : decode cX5_placeByPlace 4 = .ok (.invokevirtual 18, 3) := by decide +kernel
theorem dX5_placeByPlace_7 : decode cX5_placeByPlace 7 = .ok (.iload_n 2, 1) := by decide +kernel
theorem dX5_placeByPlace_8 : decode cX5_placeByPlace 8 = .ok (.bipush 21, 2) := by decide +kernel
