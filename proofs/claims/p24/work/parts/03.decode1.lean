theorem dX5_placeByPlace_10 : decode cX5_placeByPlace 10 = .ok (.iadd, 1) := by decide +kernel
theorem dX5_placeByPlace_11 : decode cX5_placeByPlace 11 = .ok (.istore 4, 2) := by decide +kernel
theorem dX5_placeByPlace_13 : decode cX5_placeByPlace 13 = .ok (.iconst 0, 1) := by decide +kernel
theorem dX5_placeByPlace_14 : decode cX5_placeByPlace 14 = .ok (.istore 5, 2) := by decide +kernel
theorem dX5_placeByPlace_16 : decode cX5_placeByPlace 16 = .ok (.iload 5, 2) := by decide +kernel
theorem dX5_placeByPlace_18 : decode cX5_placeByPlace 18 = .ok (.iload 4, 2) := by decide +kernel
theorem dX5_placeByPlace_20 : decode cX5_placeByPlace 20 = .ok (.if_icmp .ge 35, 3) := by decide +kernel
theorem dX5_placeByPlace_23 : decode cX5_placeByPlace 23 = .ok (.aload_n 0, 1) := by decide +kernel
theorem dX5_placeByPlace_24 : decode cX5_placeByPlace 24 = .ok (.getfield 22, 3) := by decide +kernel
theorem dX5_placeByPlace_27 : decode cX5_placeByPlace 27 = .ok (.ifCond .le 28, 3) := by decide +kernel
theorem dX5_placeByPlace_30 : decode cX5_placeByPlace 30 = .ok (.aload_n 0, 1) := by decide +kernel
theorem dX5_placeByPlace_31 : decode cX5_placeByPlace 31 = .ok (.invokevirtual 26, 3) := by decide +kernel
theorem dX5_placeByPlace_34 : decode cX5_placeByPlace 34 = .ok (.ifCond .le 11, 3) := by decide +kernel
theorem dX5_placeByPlace_37 : decode cX5_placeByPlace 37 = .ok (.aload_n 0, 1) := by decide +kernel
theorem dX5_placeByPlace_38 : decode cX5_placeByPlace 38 = .ok (.iconst 1, 1) := by decide +kernel
theorem dX5_placeByPlace_39 : decode cX5_placeByPlace 39 = .ok (.invokevirtual 30, 3) := by decide +kernel
theorem dX5_placeByPlace_42 : decode cX5_placeByPlace 42 = .ok (.goto 7, 3) := by decide +kernel
theorem dX5_placeByPlace_45 : decode cX5_placeByPlace 45 = .ok (.aload_n 0, 1) := by decide +kernel
theorem dX5_placeByPlace_46 : decode cX5_placeByPlace 46 = .ok (.invokevirtual 34, 3) := by decide +kernel
theorem dX5_placeByPlace_49 : decode cX5_placeByPlace 49 = .ok (.iinc 5 1, 3) := by decide +kernel
theorem dX5_placeByPlace_52 : decode cX5_placeByPlace 52 = .ok (.goto (-36), 3) := by decide +kernel
theorem dX5_placeByPlace_55 : decode cX5_placeByPlace 55 = .ok (.aload_n 0, 1) := by decide +kernel
theorem dX5_placeByPlace_56 : decode cX5_placeByPlace 56 = .ok (.invokevirtual 37, 3) := by decide +kernel
theorem dX5_placeByPlace_59 : decode cX5_placeByPlace 59 = .ok (.return_, 1) := by decide +kernel
theorem dX5_coinByCoin_0 : decode cX5_coinByCoin 0 = .ok (.aload_n 0, 1) := by decide +kernel
theorem dX5_coinByCoin_1 : decode cX5_coinByCoin 1 = .ok (.aload_n 1, 1) := by decide +kernel
theorem dX5_coinByCoin_2 : decode cX5_coinByCoin 2 = .ok (.iload_n 2, 1) := by decide +kernel
theorem dX5_coinByCoin_3 : decode cX5_coinByCoin 3 = .ok (.iload_n 3, 1) := by decide +kernel
theorem dX5_coinByCoin_4 : decode cX5_coinByCoin 4 = .ok (.invokevirtual 18, 3) := by decide +kernel
theorem dX5_coinByCoin_7 : decode cX5_coinByCoin 7 = .ok (.iconst 0, 1) := by decide +kernel
theorem dX5_coinByCoin_8 : decode cX5_coinByCoin 8 = .ok (.istore 4, 2) := by decide +kernel
theorem dX5_coinByCoin_10 : decode cX5_coinByCoin 10 = .ok (.iload 4, 2) := by decide +kernel
theorem dX5_coinByCoin_12 : decode cX5_coinByCoin 12 = .ok (.bipush 21, 2) := by decide +kernel
theorem dX5_coinByCoin_14 : decode cX5_coinByCoin 14 = .ok (.if_icmp .ge 42, 3) := by decide +kernel
theorem dX5_coinByCoin_17 : decode cX5_coinByCoin 17 = .ok (.aload_n 0, 1) := by decide +kernel
theorem dX5_coinByCoin_18 : decode cX5_coinByCoin 18 = .ok (.getfield 22, 3) := by decide +kernel
theorem dX5_coinByCoin_21 : decode cX5_coinByCoin 21 = .ok (.ifCond .le 35, 3) := by decide +kernel
theorem dX5_coinByCoin_24 : decode cX5_coinByCoin 24 = .ok (.aload_n 0, 1) := by decide +kernel
theorem dX5_coinByCoin_25 : decode cX5_coinByCoin 25 = .ok (.aload_n 0, 1) := by decide +kernel
theorem dX5_coinByCoin_26 : decode cX5_coinByCoin 26 = .ok (.getfield 22, 3) := by decide +kernel
theorem dX5_coinByCoin_29 : decode cX5_coinByCoin 29 = .ok (.aload_n 0, 1) := by decide +kernel
theorem dX5_coinByCoin_30 : decode cX5_coinByCoin 30 = .ok (.invokevirtual 26, 3) := by decide +kernel
theorem dX5_coinByCoin_33 : decode cX5_coinByCoin 33 = .ok (.invokestatic 40, 3) := by decide +kernel
theorem dX5_coinByCoin_36 : decode cX5_coinByCoin 36 = .ok (.invokevirtual 30, 3) := by decide +kernel
theorem dX5_coinByCoin_39 : decode cX5_coinByCoin 39 = .ok (.aload_n 0, 1) := by decide +kernel
theorem dX5_coinByCoin_40 : decode cX5_coinByCoin 40 = .ok (.getfield 22, 3) := by decide +kernel
theorem dX5_coinByCoin_43 : decode cX5_coinByCoin 43 = .ok (.ifCond .le 7, 3) := by decide +kernel
theorem dX5_coinByCoin_46 : decode cX5_coinByCoin 46 = .ok (.aload_n 0, 1) := by decide +kernel
theorem dX5_coinByCoin_47 : decode cX5_coinByCoin 47 = .ok (.invokevirtual 34, 3) := by decide +kernel
theorem dX5_coinByCoin_50 : decode cX5_coinByCoin 50 = .ok (.iinc 4 1, 3) := by decide +kernel
theorem dX5_coinByCoin_53 : decode cX5_coinByCoin 53 = .ok (.goto (-43), 3) := by decide +kernel
theorem dX5_coinByCoin_56 : decode cX5_coinByCoin 56 = .ok (.aload_n 0, 1) := by decide +kernel
theorem dX5_coinByCoin_57 : decode cX5_coinByCoin 57 = .ok (.invokevirtual 37, 3) := by decide +kernel
theorem dX5_coinByCoin_60 : decode cX5_coinByCoin 60 = .ok (.return_, 1) := by decide +kernel
theorem dX5_start_0 : decode cX5_start 0 = .ok (.aload_n 0, 1) := by decide +kernel
theorem dX5_start_1 : decode cX5_start 1 = .ok (.getfield 12, 3) := by decide +kernel
theorem dX5_start_4 : decode cX5_start 4 = .ok (.aload_n 1, 1) := by decide +kernel
theorem dX5_start_5 : decode cX5_start 5 = .ok (.invokevirtual 46, 3) := by decide +kernel
theorem dX5_start_8 : decode cX5_start 8 = .ok (.aload_n 0, 1) := by decide +kernel
theorem dX5_start_9 : decode cX5_start 9 = .ok (.getfield 12, 3) := by decide +kernel
theorem dX5_start_12 : decode cX5_start 12 = .ok (.iconst 0, 1) := by decide +kernel
theorem dX5_start_13 : decode cX5_start 13 = .ok (.bipush (-5), 2) := by decide +kernel
theorem dX5_start_15 : decode cX5_start 15 = .ok (.invokevirtual 50, 3) := by decide +kernel
theorem dX5_start_18 : decode cX5_start 18 = .ok (.aload_n 0, 1) := by decide +kernel
theorem dX5_start_19 : decode cX5_start 19 = .ok (.iload_n 3, 1) := by decide +kernel
theorem dX5_start_20 : decode cX5_start 20 = .ok (.putfield 54, 3) := by decide +kernel
theorem dX5_start_23 : decode cX5_start 23 = .ok (.aload_n 0, 1) := by decide +kernel
theorem dX5_start_24 : decode cX5_start 24 = .ok (.iconst 0, 1) := by decide +kernel
theorem dX5_start_25 : decode cX5_start 25 = .ok (.putfield 57, 3) := by decide +kernel
theorem dX5_start_28 : decode cX5_start 28 = .ok (.aload_n 0, 1) := by decide +kernel
theorem dX5_start_29 : decode cX5_start 29 = .ok (.bipush (-5), 2) := by decide +kernel
theorem dX5_start_31 : decode cX5_start 31 = .ok (.putfield 60, 3) := by decide +kernel
theorem dX5_start_34 : decode cX5_start 34 = .ok (.aload_n 0, 1) := by decide +kernel
theorem dX5_start_35 : decode cX5_start 35 = .ok (.iload_n 2, 1) := by decide +kernel
theorem dX5_start_36 : decode cX5_start 36 = .ok (.putfield 22, 3) := by decide +kernel
theorem dX5_start_39 : decode cX5_start 39 = .ok (.aload_n 0, 1) := by decide +kernel
theorem dX5_start_40 : decode cX5_start 40 = .ok (.iconst 0, 1) := by decide +kernel
theorem dX5_start_41 : decode cX5_start 41 = .ok (.putfield 63, 3) := by decide +kernel
theorem dX5_start_44 : decode cX5_start 44 = .ok (.return_, 1) := by decide +kernel
theorem dX5_roomAhead_0 : decode cX5_roomAhead 0 = .ok (.aload_n 0, 1) := by decide +kernel
theorem dX5_roomAhead_1 : decode cX5_roomAhead 1 = .ok (.getfield 57, 3) := by decide +kernel
theorem dX5_roomAhead_4 : decode cX5_roomAhead 4 = .ok (.iconst 1, 1) := by decide +kernel
theorem dX5_roomAhead_5 : decode cX5_roomAhead 5 = .ok (.iadd, 1) := by decide +kernel
theorem dX5_roomAhead_6 : decode cX5_roomAhead 6 = .ok (.aload_n 0, 1) := by decide +kernel
theorem dX5_roomAhead_7 : decode cX5_roomAhead 7 = .ok (.getfield 12, 3) := by decide +kernel
theorem dX5_roomAhead_10 : decode cX5_roomAhead 10 = .ok (.getfield 66, 3) := by decide +kernel
theorem dX5_roomAhead_13 : decode cX5_roomAhead 13 = .ok (.if_icmp .ge 21, 3) := by decide +kernel
theorem dX5_roomAhead_16 : decode cX5_roomAhead 16 = .ok (.aload_n 0, 1) := by decide +kernel
theorem dX5_roomAhead_17 : decode cX5_roomAhead 17 = .ok (.getfield 12, 3) := by decide +kernel
theorem dX5_roomAhead_20 : decode cX5_roomAhead 20 = .ok (.aload_n 0, 1) := by decide +kernel
theorem dX5_roomAhead_21 : decode cX5_roomAhead 21 = .ok (.getfield 57, 3) := by decide +kernel
theorem dX5_roomAhead_24 : decode cX5_roomAhead 24 = .ok (.iconst 1, 1) := by decide +kernel
theorem dX5_roomAhead_25 : decode cX5_roomAhead 25 = .ok (.iadd, 1) := by decide +kernel
theorem dX5_roomAhead_26 : decode cX5_roomAhead 26 = .ok (.invokevirtual 69, 3) := by decide +kernel
theorem dX5_roomAhead_29 : decode cX5_roomAhead 29 = .ok (.iconst 5, 1) := by decide +kernel
theorem dX5_roomAhead_30 : decode cX5_roomAhead 30 = .ok (.isub, 1) := by decide +kernel
theorem dX5_roomAhead_31 : decode cX5_roomAhead 31 = .ok (.goto 5, 3) := by decide +kernel
theorem dX5_roomAhead_34 : decode cX5_roomAhead 34 = .ok (.bipush 100, 2) := by decide +kernel
theorem dX5_roomAhead_36 : decode cX5_roomAhead 36 = .ok (.istore_n 1, 1) := by decide +kernel
theorem dX5_roomAhead_37 : decode cX5_roomAhead 37 = .ok (.iload_n 1, 1) := by decide +kernel
theorem dX5_roomAhead_38 : decode cX5_roomAhead 38 = .ok (.aload_n 0, 1) := by decide +kernel
theorem dX5_roomAhead_39 : decode cX5_roomAhead 39 = .ok (.getfield 60, 3) := by decide +kernel
theorem dX5_roomAhead_42 : decode cX5_roomAhead 42 = .ok (.isub, 1) := by decide +kernel
theorem dX5_roomAhead_43 : decode cX5_roomAhead 43 = .ok (.ireturn, 1) := by decide +kernel
theorem dX5_goOn_0 : decode cX5_goOn 0 = .ok (.aload_n 0, 1) := by decide +kernel
theorem dX5_goOn_1 : decode cX5_goOn 1 = .ok (.dup, 1) := by decide +kernel
theorem dX5_goOn_2 : decode cX5_goOn 2 = .ok (.getfield 60, 3) := by decide +kernel
theorem dX5_goOn_5 : decode cX5_goOn 5 = .ok (.iload_n 1, 1) := by decide +kernel
theorem dX5_goOn_6 : decode cX5_goOn 6 = .ok (.iadd, 1) := by decide +kernel
theorem dX5_goOn_7 : decode cX5_goOn 7 = .ok (.putfield 60, 3) := by decide +kernel
theorem dX5_goOn_10 : decode cX5_goOn 10 = .ok (.aload_n 0, 1) := by decide +kernel
theorem dX5_goOn_11 : decode cX5_goOn 11 = .ok (.dup, 1) := by decide +kernel
theorem dX5_goOn_12 : decode cX5_goOn 12 = .ok (.getfield 22, 3) := by decide +kernel
theorem dX5_goOn_15 : decode cX5_goOn 15 = .ok (.iload_n 1, 1) := by decide +kernel
theorem dX5_goOn_16 : decode cX5_goOn 16 = .ok (.isub, 1) := by decide +kernel
theorem dX5_goOn_17 : decode cX5_goOn 17 = .ok (.putfield 22, 3) := by decide +kernel
theorem dX5_goOn_20 : decode cX5_goOn 20 = .ok (.aload_n 0, 1) := by decide +kernel
theorem dX5_goOn_21 : decode cX5_goOn 21 = .ok (.getfield 60, 3) := by decide +kernel
theorem dX5_goOn_24 : decode cX5_goOn 24 = .ok (.bipush 100, 2) := by decide +kernel
theorem dX5_goOn_26 : decode cX5_goOn 26 = .ok (.if_icmp .lt 8, 3) := by decide +kernel
theorem dX5_goOn_29 : decode cX5_goOn 29 = .ok (.aload_n 0, 1) := by decide +kernel
theorem dX5_goOn_30 : decode cX5_goOn 30 = .ok (.iconst 0, 1) := by decide +kernel
theorem dX5_goOn_31 : decode cX5_goOn 31 = .ok (.putfield 22, 3) := by decide +kernel
theorem dX5_goOn_34 : decode cX5_goOn 34 = .ok (.return_, 1) := by decide +kernel
theorem dX5_nudgeNext_0 : decode cX5_nudgeNext 0 = .ok (.aload_n 0, 1) := by decide +kernel
theorem dX5_nudgeNext_1 : decode cX5_nudgeNext 1 = .ok (.getfield 12, 3) := by decide +kernel
theorem dX5_nudgeNext_4 : decode cX5_nudgeNext 4 = .ok (.aload_n 0, 1) := by decide +kernel
theorem dX5_nudgeNext_5 : decode cX5_nudgeNext 5 = .ok (.getfield 57, 3) := by decide +kernel
theorem dX5_nudgeNext_8 : decode cX5_nudgeNext 8 = .ok (.aload_n 0, 1) := by decide +kernel
theorem dX5_nudgeNext_9 : decode cX5_nudgeNext 9 = .ok (.getfield 60, 3) := by decide +kernel
theorem dX5_nudgeNext_12 : decode cX5_nudgeNext 12 = .ok (.invokevirtual 73, 3) := by decide +kernel
theorem dX5_nudgeNext_15 : decode cX5_nudgeNext 15 = .ok (.aload_n 0, 1) := by decide +kernel
theorem dX5_nudgeNext_16 : decode cX5_nudgeNext 16 = .ok (.dup, 1) := by decide +kernel
theorem dX5_nudgeNext_17 : decode cX5_nudgeNext 17 = .ok (.getfield 57, 3) := by decide +kernel
theorem dX5_nudgeNext_20 : decode cX5_nudgeNext 20 = .ok (.iconst 1, 1) := by decide +kernel
theorem dX5_nudgeNext_21 : decode cX5_nudgeNext 21 = .ok (.iadd, 1) := by decide +kernel
theorem dX5_nudgeNext_22 : decode cX5_nudgeNext 22 = .ok (.putfield 57, 3) := by decide +kernel
theorem dX5_nudgeNext_25 : decode cX5_nudgeNext 25 = .ok (.aload_n 0, 1) := by decide +kernel
theorem dX5_nudgeNext_26 : decode cX5_nudgeNext 26 = .ok (.aload_n 0, 1) := by decide +kernel
theorem dX5_nudgeNext_27 : decode cX5_nudgeNext 27 = .ok (.getfield 12, 3) := by decide +kernel
theorem dX5_nudgeNext_30 : decode cX5_nudgeNext 30 = .ok (.aload_n 0, 1) := by decide +kernel
theorem dX5_nudgeNext_31 : decode cX5_nudgeNext 31 = .ok (.getfield 57, 3) := by decide +kernel
theorem dX5_nudgeNext_34 : decode cX5_nudgeNext 34 = .ok (.invokevirtual 69, 3) := by decide +kernel
theorem dX5_nudgeNext_37 : decode cX5_nudgeNext 37 = .ok (.putfield 60, 3) := by decide +kernel
theorem dX5_nudgeNext_40 : decode cX5_nudgeNext 40 = .ok (.aload_n 0, 1) := by decide +kernel
theorem dX5_nudgeNext_41 : decode cX5_nudgeNext 41 = .ok (.dup, 1) := by decide +kernel
theorem dX5_nudgeNext_42 : decode cX5_nudgeNext 42 = .ok (.getfield 22, 3) := by decide +kernel
theorem dX5_nudgeNext_45 : decode cX5_nudgeNext 45 = .ok (.aload_n 0, 1) := by decide +kernel
theorem dX5_nudgeNext_46 : decode cX5_nudgeNext 46 = .ok (.getfield 54, 3) := by decide +kernel
theorem dX5_nudgeNext_49 : decode cX5_nudgeNext 49 = .ok (.isub, 1) := by decide +kernel
theorem dX5_nudgeNext_50 : decode cX5_nudgeNext 50 = .ok (.putfield 22, 3) := by decide +kernel
theorem dX5_nudgeNext_53 : decode cX5_nudgeNext 53 = .ok (.aload_n 0, 1) := by decide +kernel
theorem dX5_nudgeNext_54 : decode cX5_nudgeNext 54 = .ok (.dup, 1) := by decide +kernel
theorem dX5_nudgeNext_55 : decode cX5_nudgeNext 55 = .ok (.getfield 63, 3) := by decide +kernel
theorem dX5_nudgeNext_58 : decode cX5_nudgeNext 58 = .ok (.iconst 1, 1) := by decide +kernel
theorem dX5_nudgeNext_59 : decode cX5_nudgeNext 59 = .ok (.iadd, 1) := by decide +kernel
theorem dX5_nudgeNext_60 : decode cX5_nudgeNext 60 = .ok (.putfield 63, 3) := by decide +kernel
theorem dX5_nudgeNext_63 : decode cX5_nudgeNext 63 = .ok (.return_, 1) := by decide +kernel
theorem dX5_finish_0 : decode cX5_finish 0 = .ok (.aload_n 0, 1) := by decide +kernel
theorem dX5_finish_1 : decode cX5_finish 1 = .ok (.getfield 12, 3) := by decide +kernel
theorem dX5_finish_4 : decode cX5_finish 4 = .ok (.aload_n 0, 1) := by decide +kernel
theorem dX5_finish_5 : decode cX5_finish 5 = .ok (.getfield 57, 3) := by decide +kernel
theorem dX5_finish_8 : decode cX5_finish 8 = .ok (.aload_n 0, 1) := by decide +kernel
theorem dX5_finish_9 : decode cX5_finish 9 = .ok (.getfield 60, 3) := by decide +kernel
theorem dX5_finish_12 : decode cX5_finish 12 = .ok (.invokevirtual 73, 3) := by decide +kernel
theorem dX5_finish_15 : decode cX5_finish 15 = .ok (.aload_n 0, 1) := by decide +kernel
theorem dX5_finish_16 : decode cX5_finish 16 = .ok (.aload_n 0, 1) := by decide +kernel
theorem dX5_finish_17 : decode cX5_finish 17 = .ok (.getfield 60, 3) := by decide +kernel
theorem dX5_finish_20 : decode cX5_finish 20 = .ok (.bipush 100, 2) := by decide +kernel
theorem dX5_finish_22 : decode cX5_finish 22 = .ok (.if_icmp .lt 7, 3) := by decide +kernel
theorem dX5_finish_25 : decode cX5_finish 25 = .ok (.iconst 1, 1) := by decide +kernel
theorem dX5_finish_26 : decode cX5_finish 26 = .ok (.goto 4, 3) := by decide +kernel
theorem dX5_finish_29 : decode cX5_finish 29 = .ok (.iconst 0, 1) := by decide +kernel
theorem dX5_finish_30 : decode cX5_finish 30 = .ok (.putfield 76, 3) := by decide +kernel
theorem dX5_finish_33 : decode cX5_finish 33 = .ok (.aload_n 0, 1) := by decide +kernel
theorem dX5_finish_34 : decode cX5_finish 34 = .ok (.getfield 76, 3) := by decide +kernel
theorem dX5_finish_37 : decode cX5_finish 37 = .ok (.ifCond .eq 10, 3) := by decide +kernel
theorem dX5_finish_40 : decode cX5_finish 40 = .ok (.aload_n 0, 1) := by decide +kernel
theorem dX5_finish_41 : decode cX5_finish 41 = .ok (.getfield 12, 3) := by decide +kernel
theorem dX5_finish_44 : decode cX5_finish 44 = .ok (.invokevirtual 80, 3) := by decide +kernel
theorem dX5_finish_47 : decode cX5_finish 47 = .ok (.aload_n 0, 1) := by decide +kernel
theorem dX5_finish_48 : decode cX5_finish 48 = .ok (.aload_n 0, 1) := by decide +kernel
theorem dX5_finish_49 : decode cX5_finish 49 = .ok (.getfield 12, 3) := by decide +kernel
theorem dX5_finish_52 : decode cX5_finish 52 = .ok (.getfield 66, 3) := by decide +kernel
theorem dX5_finish_55 : decode cX5_finish 55 = .ok (.ifCond .le 18, 3) := by decide +kernel
theorem dX5_finish_58 : decode cX5_finish 58 = .ok (.aload_n 0, 1) := by decide +kernel
theorem dX5_finish_59 : decode cX5_finish 59 = .ok (.getfield 12, 3) := by decide +kernel
theorem dX5_finish_62 : decode cX5_finish 62 = .ok (.iconst 0, 1) := by decide +kernel
theorem dX5_finish_63 : decode cX5_finish 63 = .ok (.invokevirtual 69, 3) := by decide +kernel
theorem dX5_finish_66 : decode cX5_finish 66 = .ok (.ifCond .ge 7, 3) := by decide +kernel
theorem dX5_finish_69 : decode cX5_finish 69 = .ok (.iconst 1, 1) := by decide +kernel
theorem dX5_finish_70 : decode cX5_finish 70 = .ok (.goto 4, 3) := by decide +kernel
theorem dX5_finish_73 : decode cX5_finish 73 = .ok (.iconst 0, 1) := by decide +kernel
theorem dX5_finish_74 : decode cX5_finish 74 = .ok (.putfield 83, 3) := by decide +kernel
theorem dX5_finish_77 : decode cX5_finish 77 = .ok (.aload_n 0, 1) := by decide +kernel
theorem dX5_finish_78 : decode cX5_finish 78 = .ok (.getfield 83, 3) := by decide +kernel
theorem dX5_finish_81 : decode cX5_finish 81 = .ok (.ifCond .eq 10, 3) := by decide +kernel
theorem dX5_finish_84 : decode cX5_finish 84 = .ok (.aload_n 0, 1) := by decide +kernel
theorem dX5_finish_85 : decode cX5_finish 85 = .ok (.getfield 12, 3) := by decide +kernel
theorem dX5_finish_88 : decode cX5_finish 88 = .ok (.invokevirtual 86, 3) := by decide +kernel
theorem dX5_finish_91 : decode cX5_finish 91 = .ok (.return_, 1) := by decide +kernel
theorem dX6_init_0 : decode cX6_init 0 = .ok (.aload_n 0, 1) := by decide +kernel
theorem dX6_init_1 : decode cX6_init 1 = .ok (.invokespecial 3, 3) := by decide +kernel
theorem dX6_init_4 : decode cX6_init 4 = .ok (.aload_n 0, 1) := by decide +kernel
theorem dX6_init_5 : decode cX6_init 5 = .ok (.new 9, 3) := by decide +kernel
theorem dX6_init_8 : decode cX6_init 8 = .ok (.dup, 1) := by decide +kernel
theorem dX6_init_9 : decode cX6_init 9 = .ok (.invokespecial 11, 3) := by decide +kernel
theorem dX6_init_12 : decode cX6_init 12 = .ok (.putfield 12, 3) := by decide +kernel
theorem dX6_init_15 : decode cX6_init 15 = .ok (.aload_n 0, 1) := by decide +kernel
theorem dX6_init_16 : decode cX6_init 16 = .ok (.iconst 2, 1) := by decide +kernel
theorem dX6_init_17 : decode cX6_init 17 = .ok (.anewarray 9, 3) := by decide +kernel
theorem dX6_init_20 : decode cX6_init 20 = .ok (.putfield 16, 3) := by decide +kernel
theorem dX6_init_23 : decode cX6_init 23 = .ok (.aload_n 0, 1) := by decide +kernel
theorem dX6_init_24 : decode cX6_init 24 = .ok (.new 20, 3) := by decide +kernel
theorem dX6_init_27 : decode cX6_init 27 = .ok (.dup, 1) := by decide +kernel
theorem dX6_init_28 : decode cX6_init 28 = .ok (.invokespecial 22, 3) := by decide +kernel
theorem dX6_init_31 : decode cX6_init 31 = .ok (.putfield 23, 3) := by decide +kernel
theorem dX6_init_34 : decode cX6_init 34 = .ok (.aload_n 0, 1) := by decide +kernel
theorem dX6_init_35 : decode cX6_init 35 = .ok (.new 27, 3) := by decide +kernel
theorem dX6_init_38 : decode cX6_init 38 = .ok (.dup, 1) := by decide +kernel
theorem dX6_init_39 : decode cX6_init 39 = .ok (.invokespecial 29, 3) := by decide +kernel
theorem dX6_init_42 : decode cX6_init 42 = .ok (.putfield 30, 3) := by decide +kernel
theorem dX6_init_45 : decode cX6_init 45 = .ok (.aload_n 0, 1) := by decide +kernel
theorem dX6_init_46 : decode cX6_init 46 = .ok (.new 34, 3) := by decide +kernel
theorem dX6_init_49 : decode cX6_init 49 = .ok (.dup, 1) := by decide +kernel
theorem dX6_init_50 : decode cX6_init 50 = .ok (.invokespecial 36, 3) := by decide +kernel
theorem dX6_init_53 : decode cX6_init 53 = .ok (.putfield 37, 3) := by decide +kernel
theorem dX6_init_56 : decode cX6_init 56 = .ok (.aload_n 0, 1) := by decide +kernel
theorem dX6_init_57 : decode cX6_init 57 = .ok (.new 41, 3) := by decide +kernel
theorem dX6_init_60 : decode cX6_init 60 = .ok (.dup, 1) := by decide +kernel
theorem dX6_init_61 : decode cX6_init 61 = .ok (.invokespecial 43, 3) := by decide +kernel
theorem dX6_init_64 : decode cX6_init 64 = .ok (.putfield 44, 3) := by decide +kernel
theorem dX6_init_67 : decode cX6_init 67 = .ok (.aload_n 0, 1) := by decide +kernel
theorem dX6_init_68 : decode cX6_init 68 = .ok (.bipush 9, 2) := by decide +kernel
theorem dX6_init_70 : decode cX6_init 70 = .ok (.newarray .int, 2) := by decide +kernel
theorem dX6_init_72 : decode cX6_init 72 = .ok (.putfield 48, 3) := by decide +kernel
theorem dX6_init_75 : decode cX6_init 75 = .ok (.return_, 1) := by decide +kernel
theorem dX6_push_0 : decode cX6_push 0 = .ok (.iload_n 1, 1) := by decide +kernel
theorem dX6_push_1 : decode cX6_push 1 = .ok (.invokestatic 52, 3) := by decide +kernel
theorem dX6_push_4 : decode cX6_push 4 = .ok (.iload_n 2, 1) := by decide +kernel
theorem dX6_push_5 : decode cX6_push 5 = .ok (.invokestatic 56, 3) := by decide +kernel
theorem dX6_push_8 : decode cX6_push 8 = .ok (.aload_n 0, 1) := by decide +kernel
theorem dX6_push_9 : decode cX6_push 9 = .ok (.getfield 23, 3) := by decide +kernel
theorem dX6_push_12 : decode cX6_push 12 = .ok (.aload_n 0, 1) := by decide +kernel
theorem dX6_push_13 : decode cX6_push 13 = .ok (.getfield 12, 3) := by decide +kernel
theorem dX6_push_16 : decode cX6_push 16 = .ok (.invokevirtual 59, 3) := by decide +kernel
theorem dX6_push_19 : decode cX6_push 19 = .ok (.aload_n 0, 1) := by decide +kernel
theorem dX6_push_20 : decode cX6_push 20 = .ok (.getfield 12, 3) := by decide +kernel
theorem dX6_push_23 : decode cX6_push 23 = .ok (.invokevirtual 63, 3) := by decide +kernel
theorem dX6_push_26 : decode cX6_push 26 = .ok (.ifCond .eq 11, 3) := by decide +kernel
theorem dX6_push_29 : decode cX6_push 29 = .ok (.aload_n 0, 1) := by decide +kernel
theorem dX6_push_30 : decode cX6_push 30 = .ok (.getfield 12, 3) := by decide +kernel
theorem dX6_push_33 : decode cX6_push 33 = .ok (.invokevirtual 67, 3) := by decide +kernel
theorem dX6_push_36 : decode cX6_push 36 = .ok (.ireturn, 1) := by decide +kernel
theorem dX6_push_37 : decode cX6_push 37 = .ok (.aload_n 0, 1) := by decide +kernel
theorem dX6_push_38 : decode cX6_push 38 = .ok (.getfield 37, 3) := by decide +kernel
theorem dX6_push_41 : decode cX6_push 41 = .ok (.aload_n 0, 1) := by decide +kernel
theorem dX6_push_42 : decode cX6_push 42 = .ok (.getfield 12, 3) := by decide +kernel
theorem dX6_push_45 : decode cX6_push 45 = .ok (.getfield 71, 3) := by decide +kernel
theorem dX6_push_48 : decode cX6_push 48 = .ok (.iload_n 1, 1) := by decide +kernel
theorem dX6_push_49 : decode cX6_push 49 = .ok (.invokevirtual 74, 3) := by decide +kernel
theorem dX6_push_52 : decode cX6_push 52 = .ok (.iload_n 2, 1) := by decide +kernel
theorem dX6_push_53 : decode cX6_push 53 = .ok (.aload_n 0, 1) := by decide +kernel
theorem dX6_push_54 : decode cX6_push 54 = .ok (.getfield 12, 3) := by decide +kernel
theorem dX6_push_57 : decode cX6_push 57 = .ok (.getfield 78, 3) := by decide +kernel
theorem dX6_push_60 : decode cX6_push 60 = .ok (.invokevirtual 82, 3) := by decide +kernel
theorem dX6_push_63 : decode cX6_push 63 = .ok (.aload_n 0, 1) := by decide +kernel
theorem dX6_push_64 : decode cX6_push 64 = .ok (.getfield 12, 3) := by decide +kernel
theorem dX6_push_67 : decode cX6_push 67 = .ok (.iload_n 1, 1) := by decide +kernel
theorem dX6_push_68 : decode cX6_push 68 = .ok (.aload_n 0, 1) := by decide +kernel
theorem dX6_push_69 : decode cX6_push 69 = .ok (.getfield 37, 3) := by decide +kernel
theorem dX6_push_72 : decode cX6_push 72 = .ok (.invokevirtual 86, 3) := by decide +kernel
theorem dX6_push_75 : decode cX6_push 75 = .ok (.aload_n 0, 1) := by decide +kernel
theorem dX6_push_76 : decode cX6_push 76 = .ok (.getfield 12, 3) := by decide +kernel
theorem dX6_push_79 : decode cX6_push 79 = .ok (.getfield 90, 3) := by decide +kernel
theorem dX6_push_82 : decode cX6_push 82 = .ok (.iconst 5, 1) := by decide +kernel
theorem dX6_push_83 : decode cX6_push 83 = .ok (.if_icmp .lt 11, 3) := by decide +kernel
theorem dX6_push_86 : decode cX6_push 86 = .ok (.aload_n 0, 1) := by decide +kernel
theorem dX6_push_87 : decode cX6_push 87 = .ok (.getfield 12, 3) := by decide +kernel
theorem dX6_push_90 : decode cX6_push 90 = .ok (.invokevirtual 93, 3) := by decide +kernel
theorem dX6_push_93 : decode cX6_push 93 = .ok (.pop, 1) := by decide +kernel
theorem dX6_push_94 : decode cX6_push 94 = .ok (.aload_n 0, 1) := by decide +kernel
theorem dX6_push_95 : decode cX6_push 95 = .ok (.getfield 37, 3) := by decide +kernel
theorem dX6_push_98 : decode cX6_push 98 = .ok (.getfield 96, 3) := by decide +kernel
theorem dX6_push_101 : decode cX6_push 101 = .ok (.ireturn, 1) := by decide +kernel
theorem dX6_endTurn_0 : decode cX6_endTurn 0 = .ok (.aload_n 0, 1) := by decide +kernel
theorem dX6_endTurn_1 : decode cX6_endTurn 1 = .ok (.getfield 23, 3) := by decide +kernel
theorem dX6_endTurn_4 : decode cX6_endTurn 4 = .ok (.aload_n 0, 1) := by decide +kernel
theorem dX6_endTurn_5 : decode cX6_endTurn 5 = .ok (.getfield 12, 3) := by decide +kernel
theorem dX6_endTurn_8 : decode cX6_endTurn 8 = .ok (.invokevirtual 59, 3) := by decide +kernel
theorem dX6_endTurn_11 : decode cX6_endTurn 11 = .ok (.aload_n 0, 1) := by decide +kernel
theorem dX6_endTurn_12 : decode cX6_endTurn 12 = .ok (.getfield 12, 3) := by decide +kernel
theorem dX6_endTurn_15 : decode cX6_endTurn 15 = .ok (.invokevirtual 63, 3) := by decide +kernel
theorem dX6_endTurn_18 : decode cX6_endTurn 18 = .ok (.ifCond .eq 11, 3) := by decide +kernel
theorem dX6_endTurn_21 : decode cX6_endTurn 21 = .ok (.aload_n 0, 1) := by decide +kernel
theorem dX6_endTurn_22 : decode cX6_endTurn 22 = .ok (.getfield 12, 3) := by decide +kernel
theorem dX6_endTurn_25 : decode cX6_endTurn 25 = .ok (.invokevirtual 67, 3) := by decide +kernel
theorem dX6_endTurn_28 : decode cX6_endTurn 28 = .ok (.ireturn, 1) := by decide +kernel
theorem dX6_endTurn_29 : decode cX6_endTurn 29 = .ok (.aload_n 0, 1) := by decide +kernel
theorem dX6_endTurn_30 : decode cX6_endTurn 30 = .ok (.getfield 12, 3) := by decide +kernel
theorem dX6_endTurn_33 : decode cX6_endTurn 33 = .ok (.invokevirtual 93, 3) := by decide +kernel
theorem dX6_endTurn_36 : decode cX6_endTurn 36 = .ok (.ireturn, 1) := by decide +kernel
theorem dX6_begin_0 : decode cX6_begin 0 = .ok (.aload_n 0, 1) := by decide +kernel
theorem dX6_begin_1 : decode cX6_begin 1 = .ok (.getfield 23, 3) := by decide +kernel
theorem dX6_begin_4 : decode cX6_begin 4 = .ok (.aload_n 0, 1) := by decide +kernel
theorem dX6_begin_5 : decode cX6_begin 5 = .ok (.getfield 12, 3) := by decide +kernel
theorem dX6_begin_8 : decode cX6_begin 8 = .ok (.invokevirtual 59, 3) := by decide +kernel
theorem dX6_begin_11 : decode cX6_begin 11 = .ok (.aload_n 0, 1) := by decide +kernel
theorem dX6_begin_12 : decode cX6_begin 12 = .ok (.getfield 12, 3) := by decide +kernel
theorem dX6_begin_15 : decode cX6_begin 15 = .ok (.invokevirtual 99, 3) := by decide +kernel
theorem dX6_begin_18 : decode cX6_begin 18 = .ok (.istore_n 1, 1) := by decide +kernel
theorem dX6_begin_19 : decode cX6_begin 19 = .ok (.aload_n 0, 1) := by decide +kernel
theorem dX6_begin_20 : decode cX6_begin 20 = .ok (.getfield 12, 3) := by decide +kernel
theorem dX6_begin_23 : decode cX6_begin 23 = .ok (.invokevirtual 102, 3) := by decide +kernel
theorem dX6_begin_26 : decode cX6_begin 26 = .ok (.iload_n 1, 1) := by decide +kernel
theorem dX6_begin_27 : decode cX6_begin 27 = .ok (.ireturn, 1) := by decide +kernel
theorem dX6_set_0 : decode cX6_set 0 = .ok (.iload_n 1, 1) := by decide +kernel
theorem dX6_set_1 : decode cX6_set 1 = .ok (.ifCond .lt 9, 3) := by decide +kernel
theorem dX6_set_4 : decode cX6_set 4 = .ok (.iload_n 1, 1) := by decide +kernel
theorem dX6_set_5 : decode cX6_set 5 = .ok (.bipush 20, 2) := by decide +kernel
theorem dX6_set_7 : decode cX6_set 7 = .ok (.if_icmp .le 13, 3) := by decide +kernel
theorem dX6_set_10 : decode cX6_set 10 = .ok (.new 105, 3) := by decide +kernel
theorem dX6_set_13 : decode cX6_set 13 = .ok (.dup, 1) := by decide +kernel
theorem dX6_set_14 : decode cX6_set 14 = .ok (.ldc 107, 2) := by decide +kernel
theorem dX6_set_16 : decode cX6_set 16 = .ok (.invokespecial 109, 3) := by decide +kernel
theorem dX6_set_19 : decode cX6_set 19 = .ok (.athrow, 1) := by decide +kernel
theorem dX6_set_20 : decode cX6_set 20 = .ok (.aload_n 0, 1) := by decide +kernel
theorem dX6_set_21 : decode cX6_set 21 = .ok (.getfield 23, 3) := by decide +kernel
theorem dX6_set_24 : decode cX6_set 24 = .ok (.aload_n 0, 1) := by decide +kernel
theorem dX6_set_25 : decode cX6_set 25 = .ok (.getfield 12, 3) := by decide +kernel
theorem dX6_set_28 : decode cX6_set 28 = .ok (.invokevirtual 59, 3) := by decide +kernel
theorem dX6_set_31 : decode cX6_set 31 = .ok (.aload_n 0, 1) := by decide +kernel
theorem dX6_set_32 : decode cX6_set 32 = .ok (.getfield 12, 3) := by decide +kernel
theorem dX6_set_35 : decode cX6_set 35 = .ok (.getfield 78, 3) := by decide +kernel
theorem dX6_set_38 : decode cX6_set 38 = .ok (.istore_n 2, 1) := by decide +kernel
theorem dX6_set_39 : decode cX6_set 39 = .ok (.aload_n 0, 1) := by decide +kernel
theorem dX6_set_40 : decode cX6_set 40 = .ok (.getfield 12, 3) := by decide +kernel
theorem dX6_set_43 : decode cX6_set 43 = .ok (.iload_n 1, 1) := by decide +kernel
theorem dX6_set_44 : decode cX6_set 44 = .ok (.putfield 78, 3) := by decide +kernel
theorem dX6_set_47 : decode cX6_set 47 = .ok (.iload_n 2, 1) := by decide +kernel
theorem dX6_set_48 : decode cX6_set 48 = .ok (.ireturn, 1) := by decide +kernel
theorem dX6_append_0 : decode cX6_append 0 = .ok (.iload_n 1, 1) := by decide +kernel
theorem dX6_append_1 : decode cX6_append 1 = .ok (.bipush 33, 2) := by decide +kernel
theorem dX6_append_3 : decode cX6_append 3 = .ok (.if_icmp .lt 9, 3) := by decide +kernel
theorem dX6_append_6 : decode cX6_append 6 = .ok (.iload_n 1, 1) := by decide +kernel
theorem dX6_append_7 : decode cX6_append 7 = .ok (.bipush 126, 2) := by decide +kernel
theorem dX6_append_9 : decode cX6_append 9 = .ok (.if_icmp .le 13, 3) := by decide +kernel
theorem dX6_append_12 : decode cX6_append 12 = .ok (.new 105, 3) := by decide +kernel
theorem dX6_append_15 : decode cX6_append 15 = .ok (.dup, 1) := by decide +kernel
theorem dX6_append_16 : decode cX6_append 16 = .ok (.ldc 112, 2) := by decide +kernel
theorem dX6_append_18 : decode cX6_append 18 = .ok (.invokespecial 109, 3) := by decide +kernel
theorem dX6_append_21 : decode cX6_append 21 = .ok (.athrow, 1) := by decide +kernel
theorem dX6_append_22 : decode cX6_append 22 = .ok (.aload_n 0, 1) := by decide +kernel
theorem dX6_append_23 : decode cX6_append 23 = .ok (.getfield 30, 3) := by decide +kernel
theorem dX6_append_26 : decode cX6_append 26 = .ok (.invokevirtual 114, 3) := by decide +kernel
theorem dX6_append_29 : decode cX6_append 29 = .ok (.ifCond .eq 13, 3) := by decide +kernel
theorem dX6_append_32 : decode cX6_append 32 = .ok (.new 117, 3) := by decide +kernel
theorem dX6_append_35 : decode cX6_append 35 = .ok (.dup, 1) := by decide +kernel
theorem dX6_append_36 : decode cX6_append 36 = .ok (.ldc 119, 2) := by decide +kernel
theorem dX6_append_38 : decode cX6_append 38 = .ok (.invokespecial 121, 3) := by decide +kernel
theorem dX6_append_41 : decode cX6_append 41 = .ok (.athrow, 1) := by decide +kernel
theorem dX6_append_42 : decode cX6_append 42 = .ok (.aload_n 0, 1) := by decide +kernel
theorem dX6_append_43 : decode cX6_append 43 = .ok (.getfield 30, 3) := by decide +kernel
theorem dX6_append_46 : decode cX6_append 46 = .ok (.iload_n 1, 1) := by decide +kernel
theorem dX6_append_47 : decode cX6_append 47 = .ok (.invokevirtual 122, 3) := by decide +kernel
theorem dX6_append_50 : decode cX6_append 50 = .ok (.aload_n 0, 1) := by decide +kernel
theorem dX6_append_51 : decode cX6_append 51 = .ok (.getfield 30, 3) := by decide +kernel
theorem dX6_append_54 : decode cX6_append 54 = .ok (.getfield 124, 3) := by decide +kernel
theorem dX6_append_57 : decode cX6_append 57 = .ok (.ireturn, 1) := by decide +kernel
theorem dX6_clearBuffer_0 : decode cX6_clearBuffer 0 = .ok (.aload_n 0, 1) := by decide +kernel
theorem dX6_clearBuffer_1 : decode cX6_clearBuffer 1 = .ok (.getfield 30, 3) := by decide +kernel
theorem dX6_clearBuffer_4 : decode cX6_clearBuffer 4 = .ok (.getfield 124, 3) := by decide +kernel
theorem dX6_clearBuffer_7 : decode cX6_clearBuffer 7 = .ok (.istore_n 1, 1) := by decide +kernel
theorem dX6_clearBuffer_8 : decode cX6_clearBuffer 8 = .ok (.aload_n 0, 1) := by decide +kernel
theorem dX6_clearBuffer_9 : decode cX6_clearBuffer 9 = .ok (.getfield 30, 3) := by decide +kernel
theorem dX6_clearBuffer_12 : decode cX6_clearBuffer 12 = .ok (.invokevirtual 127, 3) := by decide +kernel
theorem dX6_clearBuffer_15 : decode cX6_clearBuffer 15 = .ok (.iload_n 1, 1) := by decide +kernel
theorem dX6_clearBuffer_16 : decode cX6_clearBuffer 16 = .ok (.ireturn, 1) := by decide +kernel
theorem dX6_lay_0 : decode cX6_lay 0 = .ok (.aload_n 0, 1) := by decide +kernel
theorem dX6_lay_1 : decode cX6_lay 1 = .ok (.getfield 30, 3) := by decide +kernel
theorem dX6_lay_4 : decode cX6_lay 4 = .ok (.invokevirtual 133, 3) := by decide +kernel
theorem dX6_lay_7 : decode cX6_lay 7 = .ok (.ifCond .ne 13, 3) := by decide +kernel
theorem dX6_lay_10 : decode cX6_lay 10 = .ok (.new 105, 3) := by decide +kernel
theorem dX6_lay_13 : decode cX6_lay 13 = .ok (.dup, 1) := by decide +kernel
theorem dX6_lay_14 : decode cX6_lay 14 = .ok (.ldc 136, 2) := by decide +kernel
theorem dX6_lay_16 : decode cX6_lay 16 = .ok (.invokespecial 109, 3) := by decide +kernel
theorem dX6_lay_19 : decode cX6_lay 19 = .ok (.athrow, 1) := by decide +kernel
theorem dX6_lay_20 : decode cX6_lay 20 = .ok (.aload_n 0, 1) := by decide +kernel
theorem dX6_lay_21 : decode cX6_lay 21 = .ok (.getfield 23, 3) := by decide +kernel
theorem dX6_lay_24 : decode cX6_lay 24 = .ok (.aload_n 0, 1) := by decide +kernel
theorem dX6_lay_25 : decode cX6_lay 25 = .ok (.getfield 12, 3) := by decide +kernel
theorem dX6_lay_28 : decode cX6_lay 28 = .ok (.invokevirtual 59, 3) := by decide +kernel
theorem dX6_lay_31 : decode cX6_lay 31 = .ok (.aload_n 0, 1) := by decide +kernel
theorem dX6_lay_32 : decode cX6_lay 32 = .ok (.getfield 30, 3) := by decide +kernel
theorem dX6_lay_35 : decode cX6_lay 35 = .ok (.aload_n 0, 1) := by decide +kernel
theorem dX6_lay_36 : decode cX6_lay 36 = .ok (.getfield 44, 3) := by decide +kernel
theorem dX6_lay_39 : decode cX6_lay 39 = .ok (.invokevirtual 138, 3) := by decide +kernel
theorem dX6_lay_42 : decode cX6_lay 42 = .ok (.istore_n 1, 1) := by decide +kernel
theorem dX6_lay_43 : decode cX6_lay 43 = .ok (.aload_n 0, 1) := by decide +kernel
theorem dX6_lay_44 : decode cX6_lay 44 = .ok (.getfield 30, 3) := by decide +kernel
theorem dX6_lay_47 : decode cX6_lay 47 = .ok (.invokevirtual 127, 3) := by decide +kernel
theorem dX6_lay_50 : decode cX6_lay 50 = .ok (.iload_n 1, 1) := by decide +kernel
theorem dX6_lay_51 : decode cX6_lay 51 = .ok (.ifCond .ne 11, 3) := by decide +kernel
theorem dX6_lay_54 : decode cX6_lay 54 = .ok (.aload_n 0, 1) := by decide +kernel
theorem dX6_lay_55 : decode cX6_lay 55 = .ok (.getfield 12, 3) := by decide +kernel
theorem dX6_lay_58 : decode cX6_lay 58 = .ok (.invokevirtual 67, 3) := by decide +kernel
theorem dX6_lay_61 : decode cX6_lay 61 = .ok (.ireturn, 1) := by decide +kernel
theorem dX6_lay_62 : decode cX6_lay 62 = .ok (.aload_n 0, 1) := by decide +kernel
theorem dX6_lay_63 : decode cX6_lay 63 = .ok (.getfield 12, 3) := by decide +kernel
theorem dX6_lay_66 : decode cX6_lay 66 = .ok (.getfield 71, 3) := by decide +kernel
theorem dX6_lay_69 : decode cX6_lay 69 = .ok (.aload_n 0, 1) := by decide +kernel
theorem dX6_lay_70 : decode cX6_lay 70 = .ok (.getfield 44, 3) := by decide +kernel
theorem dX6_lay_73 : decode cX6_lay 73 = .ok (.invokevirtual 142, 3) := by decide +kernel
theorem dX6_lay_76 : decode cX6_lay 76 = .ok (.aload_n 0, 1) := by decide +kernel
theorem dX6_lay_77 : decode cX6_lay 77 = .ok (.getfield 12, 3) := by decide +kernel
theorem dX6_lay_80 : decode cX6_lay 80 = .ok (.getfield 71, 3) := by decide +kernel
theorem dX6_lay_83 : decode cX6_lay 83 = .ok (.invokevirtual 146, 3) := by decide +kernel
theorem dX6_lay_86 : decode cX6_lay 86 = .ok (.ireturn, 1) := by decide +kernel
theorem dX6_undo_0 : decode cX6_undo 0 = .ok (.aload_n 0, 1) := by decide +kernel
theorem dX6_undo_1 : decode cX6_undo 1 = .ok (.getfield 23, 3) := by decide +kernel
theorem dX6_undo_4 : decode cX6_undo 4 = .ok (.getfield 164, 3) := by decide +kernel
theorem dX6_undo_7 : decode cX6_undo 7 = .ok (.ifCond .ne 13, 3) := by decide +kernel
theorem dX6_undo_10 : decode cX6_undo 10 = .ok (.new 117, 3) := by decide +kernel
theorem dX6_undo_13 : decode cX6_undo 13 = .ok (.dup, 1) := by decide +kernel
theorem dX6_undo_14 : decode cX6_undo 14 = .ok (.ldc 167, 2) := by decide +kernel
theorem dX6_undo_16 : decode cX6_undo 16 = .ok (.invokespecial 121, 3) := by decide +kernel
theorem dX6_undo_19 : decode cX6_undo 19 = .ok (.athrow, 1) := by decide +kernel
theorem dX6_undo_20 : decode cX6_undo 20 = .ok (.aload_n 0, 1) := by decide +kernel
theorem dX6_undo_21 : decode cX6_undo 21 = .ok (.getfield 23, 3) := by decide +kernel
theorem dX6_undo_24 : decode cX6_undo 24 = .ok (.aload_n 0, 1) := by decide +kernel
theorem dX6_undo_25 : decode cX6_undo 25 = .ok (.getfield 12, 3) := by decide +kernel
theorem dX6_undo_28 : decode cX6_undo 28 = .ok (.invokevirtual 169, 3) := by decide +kernel
theorem dX6_undo_31 : decode cX6_undo 31 = .ok (.aload_n 0, 1) := by decide +kernel
theorem dX6_undo_32 : decode cX6_undo 32 = .ok (.getfield 23, 3) := by decide +kernel
theorem dX6_undo_35 : decode cX6_undo 35 = .ok (.getfield 164, 3) := by decide +kernel
theorem dX6_undo_38 : decode cX6_undo 38 = .ok (.ireturn, 1) := by decide +kernel
theorem dX6_coin_0 : decode cX6_coin 0 = .ok (.iload_n 1, 1) := by decide +kernel
theorem dX6_coin_1 : decode cX6_coin 1 = .ok (.invokestatic 52, 3) := by decide +kernel
theorem dX6_coin_4 : decode cX6_coin 4 = .ok (.iload_n 2, 1) := by decide +kernel
theorem dX6_coin_5 : decode cX6_coin 5 = .ok (.ifCond .ge 13, 3) := by decide +kernel
theorem dX6_coin_8 : decode cX6_coin 8 = .ok (.new 105, 3) := by decide +kernel
theorem dX6_coin_11 : decode cX6_coin 11 = .ok (.dup, 1) := by decide +kernel
theorem dX6_coin_12 : decode cX6_coin 12 = .ok (.ldc 172, 2) := by decide +kernel
theorem dX6_coin_14 : decode cX6_coin 14 = .ok (.invokespecial 109, 3) := by decide +kernel
theorem dX6_coin_17 : decode cX6_coin 17 = .ok (.athrow, 1) := by decide +kernel
theorem dX6_coin_18 : decode cX6_coin 18 = .ok (.aload_n 0, 1) := by decide +kernel
theorem dX6_coin_19 : decode cX6_coin 19 = .ok (.getfield 12, 3) := by decide +kernel
theorem dX6_coin_22 : decode cX6_coin 22 = .ok (.getfield 71, 3) := by decide +kernel
theorem dX6_coin_25 : decode cX6_coin 25 = .ok (.iload_n 1, 1) := by decide +kernel
theorem dX6_coin_26 : decode cX6_coin 26 = .ok (.invokevirtual 74, 3) := by decide +kernel
theorem dX6_coin_29 : decode cX6_coin 29 = .ok (.iload_n 2, 1) := by decide +kernel
theorem dX6_coin_30 : decode cX6_coin 30 = .ok (.invokevirtual 174, 3) := by decide +kernel
theorem dX6_coin_33 : decode cX6_coin 33 = .ok (.ireturn, 1) := by decide +kernel
theorem dX6_bedOf_0 : decode cX6_bedOf 0 = .ok (.iload_n 1, 1) := by decide +kernel
theorem dX6_bedOf_1 : decode cX6_bedOf 1 = .ok (.invokestatic 180, 3) := by decide +kernel
theorem dX6_bedOf_4 : decode cX6_bedOf 4 = .ok (.iload_n 2, 1) := by decide +kernel
theorem dX6_bedOf_5 : decode cX6_bedOf 5 = .ok (.ifCond .lt 8, 3) := by decide +kernel
theorem dX6_bedOf_8 : decode cX6_bedOf 8 = .ok (.iload_n 2, 1) := by decide +kernel
theorem dX6_bedOf_9 : decode cX6_bedOf 9 = .ok (.iconst 5, 1) := by decide +kernel
theorem dX6_bedOf_10 : decode cX6_bedOf 10 = .ok (.if_icmp .lt 13, 3) := by decide +kernel
theorem dX6_bedOf_13 : decode cX6_bedOf 13 = .ok (.new 105, 3) := by decide +kernel
theorem dX6_bedOf_16 : decode cX6_bedOf 16 = .ok (.dup, 1) := by decide +kernel
theorem dX6_bedOf_17 : decode cX6_bedOf 17 = .ok (.ldc 183, 2) := by decide +kernel
theorem dX6_bedOf_19 : decode cX6_bedOf 19 = .ok (.invokespecial 109, 3) := by decide +kernel
theorem dX6_bedOf_22 : decode cX6_bedOf 22 = .ok (.athrow, 1) := by decide +kernel
theorem dX6_bedOf_23 : decode cX6_bedOf 23 = .ok (.aload_n 0, 1) := by decide +kernel
theorem dX6_bedOf_24 : decode cX6_bedOf 24 = .ok (.getfield 12, 3) := by decide +kernel
theorem dX6_bedOf_27 : decode cX6_bedOf 27 = .ok (.getfield 71, 3) := by decide +kernel
theorem dX6_bedOf_30 : decode cX6_bedOf 30 = .ok (.iload_n 1, 1) := by decide +kernel
theorem dX6_bedOf_31 : decode cX6_bedOf 31 = .ok (.invokevirtual 185, 3) := by decide +kernel
theorem dX6_bedOf_34 : decode cX6_bedOf 34 = .ok (.istore_n 3, 1) := by decide +kernel
theorem dX6_bedOf_35 : decode cX6_bedOf 35 = .ok (.iload_n 2, 1) := by decide +kernel
theorem dX6_bedOf_36 : decode cX6_bedOf 36 = .ok (.tableswitch 64 0 3 #[32, 34, 44, 54], 32) := by decide +kernel
theorem dX6_bedOf_68 : decode cX6_bedOf 68 = .ok (.iload_n 3, 1) := by decide +kernel
theorem dX6_bedOf_69 : decode cX6_bedOf 69 = .ok (.ireturn, 1) := by decide +kernel
theorem dX6_bedOf_70 : decode cX6_bedOf 70 = .ok (.aload_n 0, 1) := by decide +kernel
theorem dX6_bedOf_71 : decode cX6_bedOf 71 = .ok (.getfield 12, 3) := by decide +kernel
theorem dX6_bedOf_74 : decode cX6_bedOf 74 = .ok (.iload_n 1, 1) := by decide +kernel
theorem dX6_bedOf_75 : decode cX6_bedOf 75 = .ok (.iconst 0, 1) := by decide +kernel
theorem dX6_bedOf_76 : decode cX6_bedOf 76 = .ok (.invokevirtual 188, 3) := by decide +kernel
theorem dX6_bedOf_79 : decode cX6_bedOf 79 = .ok (.ireturn, 1) := by decide +kernel
theorem dX6_bedOf_80 : decode cX6_bedOf 80 = .ok (.aload_n 0, 1) := by decide +kernel
theorem dX6_bedOf_81 : decode cX6_bedOf 81 = .ok (.getfield 12, 3) := by decide +kernel
theorem dX6_bedOf_84 : decode cX6_bedOf 84 = .ok (.iload_n 1, 1) := by decide +kernel
theorem dX6_bedOf_85 : decode cX6_bedOf 85 = .ok (.iconst 1, 1) := by decide +kernel
theorem dX6_bedOf_86 : decode cX6_bedOf 86 = .ok (.invokevirtual 188, 3) := by decide +kernel
theorem dX6_bedOf_89 : decode cX6_bedOf 89 = .ok (.ireturn, 1) := by decide +kernel
theorem dX6_bedOf_90 : decode cX6_bedOf 90 = .ok (.aload_n 0, 1) := by decide +kernel
theorem dX6_bedOf_91 : decode cX6_bedOf 91 = .ok (.getfield 12, 3) := by decide +kernel
theorem dX6_bedOf_94 : decode cX6_bedOf 94 = .ok (.iload_n 1, 1) := by decide +kernel
theorem dX6_bedOf_95 : decode cX6_bedOf 95 = .ok (.iload_n 3, 1) := by decide +kernel
theorem dX6_bedOf_96 : decode cX6_bedOf 96 = .ok (.invokevirtual 192, 3) := by decide +kernel
theorem dX6_bedOf_99 : decode cX6_bedOf 99 = .ok (.ireturn, 1) := by decide +kernel
theorem dX6_bedOf_100 : decode cX6_bedOf 100 = .ok (.aload_n 0, 1) := by decide +kernel
theorem dX6_bedOf_101 : decode cX6_bedOf 101 = .ok (.getfield 12, 3) := by decide +kernel
theorem dX6_bedOf_104 : decode cX6_bedOf 104 = .ok (.iload_n 1, 1) := by decide +kernel
theorem dX6_bedOf_105 : decode cX6_bedOf 105 = .ok (.iload_n 3, 1) := by decide +kernel
theorem dX6_bedOf_106 : decode cX6_bedOf 106 = .ok (.invokevirtual 195, 3) := by decide +kernel
theorem dX6_bedOf_109 : decode cX6_bedOf 109 = .ok (.ireturn, 1) := by decide +kernel
theorem dX6_count_0 : decode cX6_count 0 = .ok (.iload_n 1, 1) := by decide +kernel
theorem dX6_count_1 : decode cX6_count 1 = .ok (.ifCond .lt 9, 3) := by decide +kernel
theorem dX6_count_4 : decode cX6_count 4 = .ok (.iload_n 1, 1) := by decide +kernel
theorem dX6_count_5 : decode cX6_count 5 = .ok (.bipush 13, 2) := by decide +kernel
theorem dX6_count_7 : decode cX6_count 7 = .ok (.if_icmp .lt 13, 3) := by decide +kernel
theorem dX6_count_10 : decode cX6_count 10 = .ok (.new 105, 3) := by decide +kernel
theorem dX6_count_13 : decode cX6_count 13 = .ok (.dup, 1) := by decide +kernel
theorem dX6_count_14 : decode cX6_count 14 = .ok (.ldc 198, 2) := by decide +kernel
theorem dX6_count_16 : decode cX6_count 16 = .ok (.invokespecial 109, 3) := by decide +kernel
theorem dX6_count_19 : decode cX6_count 19 = .ok (.athrow, 1) := by decide +kernel
theorem dX6_count_20 : decode cX6_count 20 = .ok (.iload_n 1, 1) := by decide +kernel
theorem dX6_count_21 : decode cX6_count 21 = .ok (.tableswitch 167 0 11 #[63, 71, 79, 90, 101, 110, 119, 127, 135, 143, 151, 159], 63) := by decide +kernel
theorem dX6_count_84 : decode cX6_count 84 = .ok (.aload_n 0, 1) := by decide +kernel
theorem dX6_count_85 : decode cX6_count 85 = .ok (.getfield 12, 3) := by decide +kernel
theorem dX6_count_88 : decode cX6_count 88 = .ok (.getfield 200, 3) := by decide +kernel
theorem dX6_count_91 : decode cX6_count 91 = .ok (.ireturn, 1) := by decide +kernel
theorem dX6_count_92 : decode cX6_count 92 = .ok (.aload_n 0, 1) := by decide +kernel
theorem dX6_count_93 : decode cX6_count 93 = .ok (.getfield 12, 3) := by decide +kernel
theorem dX6_count_96 : decode cX6_count 96 = .ok (.getfield 90, 3) := by decide +kernel
theorem dX6_count_99 : decode cX6_count 99 = .ok (.ireturn, 1) := by decide +kernel
theorem dX6_count_100 : decode cX6_count 100 = .ok (.aload_n 0, 1) := by decide +kernel
theorem dX6_count_101 : decode cX6_count 101 = .ok (.getfield 12, 3) := by decide +kernel
theorem dX6_count_104 : decode cX6_count 104 = .ok (.getfield 71, 3) := by decide +kernel
theorem dX6_count_107 : decode cX6_count 107 = .ok (.invokevirtual 146, 3) := by decide +kernel
theorem dX6_count_110 : decode cX6_count 110 = .ok (.ireturn, 1) := by decide +kernel
theorem dX6_count_111 : decode cX6_count 111 = .ok (.aload_n 0, 1) := by decide +kernel
theorem dX6_count_112 : decode cX6_count 112 = .ok (.getfield 12, 3) := by decide +kernel
theorem dX6_count_115 : decode cX6_count 115 = .ok (.getfield 71, 3) := by decide +kernel
theorem dX6_count_118 : decode cX6_count 118 = .ok (.invokevirtual 203, 3) := by decide +kernel
theorem dX6_count_121 : decode cX6_count 121 = .ok (.ireturn, 1) := by decide +kernel
theorem dX6_count_122 : decode cX6_count 122 = .ok (.aload_n 0, 1) := by decide +kernel
theorem dX6_count_123 : decode cX6_count 123 = .ok (.getfield 12, 3) := by decide +kernel
theorem dX6_count_126 : decode cX6_count 126 = .ok (.iconst 0, 1) := by decide +kernel
theorem dX6_count_127 : decode cX6_count 127 = .ok (.invokevirtual 205, 3) := by decide +kernel
theorem dX6_count_130 : decode cX6_count 130 = .ok (.ireturn, 1) := by decide +kernel
theorem dX6_count_131 : decode cX6_count 131 = .ok (.aload_n 0, 1) := by decide +kernel
theorem dX6_count_132 : decode cX6_count 132 = .ok (.getfield 12, 3) := by decide +kernel
theorem dX6_count_135 : decode cX6_count 135 = .ok (.iconst 1, 1) := by decide +kernel
theorem dX6_count_136 : decode cX6_count 136 = .ok (.invokevirtual 205, 3) := by decide +kernel
theorem dX6_count_139 : decode cX6_count 139 = .ok (.ireturn, 1) := by decide +kernel
theorem dX6_count_140 : decode cX6_count 140 = .ok (.aload_n 0, 1) := by decide +kernel
theorem dX6_count_141 : decode cX6_count 141 = .ok (.getfield 12, 3) := by decide +kernel
theorem dX6_count_144 : decode cX6_count 144 = .ok (.getfield 208, 3) := by decide +kernel
theorem dX6_count_147 : decode cX6_count 147 = .ok (.ireturn, 1) := by decide +kernel
theorem dX6_count_148 : decode cX6_count 148 = .ok (.aload_n 0, 1) := by decide +kernel
theorem dX6_count_149 : decode cX6_count 149 = .ok (.getfield 12, 3) := by decide +kernel
theorem dX6_count_152 : decode cX6_count 152 = .ok (.getfield 211, 3) := by decide +kernel
theorem dX6_count_155 : decode cX6_count 155 = .ok (.ireturn, 1) := by decide +kernel
theorem dX6_count_156 : decode cX6_count 156 = .ok (.aload_n 0, 1) := by decide +kernel
theorem dX6_count_157 : decode cX6_count 157 = .ok (.getfield 12, 3) := by decide +kernel
theorem dX6_count_160 : decode cX6_count 160 = .ok (.getfield 214, 3) := by decide +kernel
theorem dX6_count_163 : decode cX6_count 163 = .ok (.ireturn, 1) := by decide +kernel
theorem dX6_count_164 : decode cX6_count 164 = .ok (.aload_n 0, 1) := by decide +kernel
theorem dX6_count_165 : decode cX6_count 165 = .ok (.getfield 12, 3) := by decide +kernel
theorem dX6_count_168 : decode cX6_count 168 = .ok (.getfield 217, 3) := by decide +kernel
theorem dX6_count_171 : decode cX6_count 171 = .ok (.ireturn, 1) := by decide +kernel
theorem dX6_count_172 : decode cX6_count 172 = .ok (.aload_n 0, 1) := by decide +kernel
theorem dX6_count_173 : decode cX6_count 173 = .ok (.getfield 12, 3) := by decide +kernel
theorem dX6_count_176 : decode cX6_count 176 = .ok (.getfield 220, 3) := by decide +kernel
theorem dX6_count_179 : decode cX6_count 179 = .ok (.ireturn, 1) := by decide +kernel
theorem dX6_count_180 : decode cX6_count 180 = .ok (.aload_n 0, 1) := by decide +kernel
theorem dX6_count_181 : decode cX6_count 181 = .ok (.getfield 12, 3) := by decide +kernel
theorem dX6_count_184 : decode cX6_count 184 = .ok (.getfield 221, 3) := by decide +kernel
theorem dX6_count_187 : decode cX6_count 187 = .ok (.ireturn, 1) := by decide +kernel
theorem dX6_count_188 : decode cX6_count 188 = .ok (.aload_n 0, 1) := by decide +kernel
theorem dX6_count_189 : decode cX6_count 189 = .ok (.getfield 23, 3) := by decide +kernel
theorem dX6_count_192 : decode cX6_count 192 = .ok (.getfield 164, 3) := by decide +kernel
theorem dX6_count_195 : decode cX6_count 195 = .ok (.ireturn, 1) := by decide +kernel
theorem dX6_setting_0 : decode cX6_setting 0 = .ok (.aload_n 0, 1) := by decide +kernel
theorem dX6_setting_1 : decode cX6_setting 1 = .ok (.getfield 12, 3) := by decide +kernel
theorem dX6_setting_4 : decode cX6_setting 4 = .ok (.getfield 78, 3) := by decide +kernel
theorem dX6_setting_7 : decode cX6_setting 7 = .ok (.ireturn, 1) := by decide +kernel
theorem dX6_ends_0 : decode cX6_ends 0 = .ok (.iload_n 1, 1) := by decide +kernel
theorem dX6_ends_1 : decode cX6_ends 1 = .ok (.invokestatic 52, 3) := by decide +kernel
theorem dX6_ends_4 : decode cX6_ends 4 = .ok (.iload_n 2, 1) := by decide +kernel
theorem dX6_ends_5 : decode cX6_ends 5 = .ok (.invokestatic 56, 3) := by decide +kernel
theorem dX6_ends_8 : decode cX6_ends 8 = .ok (.iload_n 3, 1) := by decide +kernel
theorem dX6_ends_9 : decode cX6_ends 9 = .ok (.ifCond .lt 8, 3) := by decide +kernel
theorem dX6_ends_12 : decode cX6_ends 12 = .ok (.iload_n 3, 1) := by decide +kernel
theorem dX6_ends_13 : decode cX6_ends 13 = .ok (.iconst 1, 1) := by decide +kernel
theorem dX6_ends_14 : decode cX6_ends 14 = .ok (.if_icmp .le 13, 3) := by decide +kernel
theorem dX6_ends_17 : decode cX6_ends 17 = .ok (.new 105, 3) := by decide +kernel
theorem dX6_ends_20 : decode cX6_ends 20 = .ok (.dup, 1) := by decide +kernel
theorem dX6_ends_21 : decode cX6_ends 21 = .ok (.ldc 224, 2) := by decide +kernel
theorem dX6_ends_23 : decode cX6_ends 23 = .ok (.invokespecial 109, 3) := by decide +kernel
theorem dX6_ends_26 : decode cX6_ends 26 = .ok (.athrow, 1) := by decide +kernel
theorem dX6_ends_27 : decode cX6_ends 27 = .ok (.iload_n 3, 1) := by decide +kernel
theorem dX6_ends_28 : decode cX6_ends 28 = .ok (.ifCond .ne 32, 3) := by decide +kernel
theorem dX6_ends_31 : decode cX6_ends 31 = .ok (.aload_n 0, 1) := by decide +kernel
theorem dX6_ends_32 : decode cX6_ends 32 = .ok (.getfield 37, 3) := by decide +kernel
theorem dX6_ends_35 : decode cX6_ends 35 = .ok (.aload_n 0, 1) := by decide +kernel
theorem dX6_ends_36 : decode cX6_ends 36 = .ok (.getfield 12, 3) := by decide +kernel
theorem dX6_ends_39 : decode cX6_ends 39 = .ok (.getfield 71, 3) := by decide +kernel
theorem dX6_ends_42 : decode cX6_ends 42 = .ok (.iload_n 1, 1) := by decide +kernel
theorem dX6_ends_43 : decode cX6_ends 43 = .ok (.invokevirtual 74, 3) := by decide +kernel
theorem dX6_ends_46 : decode cX6_ends 46 = .ok (.iload_n 2, 1) := by decide +kernel
theorem dX6_ends_47 : decode cX6_ends 47 = .ok (.aload_n 0, 1) := by decide +kernel
theorem dX6_ends_48 : decode cX6_ends 48 = .ok (.getfield 12, 3) := by decide +kernel
theorem dX6_ends_51 : decode cX6_ends 51 = .ok (.getfield 78, 3) := by decide +kernel
theorem dX6_ends_54 : decode cX6_ends 54 = .ok (.invokevirtual 82, 3) := by decide +kernel
theorem dX6_ends_57 : decode cX6_ends 57 = .ok (.goto 9, 3) := by decide +kernel
theorem dX6_ends_60 : decode cX6_ends 60 = .ok (.aload_n 0, 1) := by decide +kernel
theorem dX6_ends_61 : decode cX6_ends 61 = .ok (.iload_n 1, 1) := by decide +kernel
theorem dX6_ends_62 : decode cX6_ends 62 = .ok (.iload_n 2, 1) := by decide +kernel
theorem dX6_ends_63 : decode cX6_ends 63 = .ok (.invokevirtual 226, 3) := by decide +kernel
theorem dX6_ends_66 : decode cX6_ends 66 = .ok (.aload_n 0, 1) := by decide +kernel
theorem dX6_ends_67 : decode cX6_ends 67 = .ok (.getfield 37, 3) := by decide +kernel
theorem dX6_ends_70 : decode cX6_ends 70 = .ok (.getfield 230, 3) := by decide +kernel
theorem dX6_ends_73 : decode cX6_ends 73 = .ok (.ireturn, 1) := by decide +kernel
theorem dX6_ifPushed_0 : decode cX6_ifPushed 0 = .ok (.iload_n 1, 1) := by decide +kernel
theorem dX6_ifPushed_1 : decode cX6_ifPushed 1 = .ok (.invokestatic 52, 3) := by decide +kernel
theorem dX6_ifPushed_4 : decode cX6_ifPushed 4 = .ok (.iload_n 2, 1) := by decide +kernel
theorem dX6_ifPushed_5 : decode cX6_ifPushed 5 = .ok (.invokestatic 56, 3) := by decide +kernel
theorem dX6_ifPushed_8 : decode cX6_ifPushed 8 = .ok (.aload_n 0, 1) := by decide +kernel
theorem dX6_ifPushed_9 : decode cX6_ifPushed 9 = .ok (.iload_n 1, 1) := by decide +kernel
theorem dX6_ifPushed_10 : decode cX6_ifPushed 10 = .ok (.iload_n 2, 1) := by decide +kernel
theorem dX6_ifPushed_11 : decode cX6_ifPushed 11 = .ok (.invokevirtual 226, 3) := by decide +kernel
theorem dX6_ifPushed_14 : decode cX6_ifPushed 14 = .ok (.aload_n 0, 1) := by decide +kernel
theorem dX6_ifPushed_15 : decode cX6_ifPushed 15 = .ok (.getfield 12, 3) := by decide +kernel
theorem dX6_ifPushed_18 : decode cX6_ifPushed 18 = .ok (.getfield 71, 3) := by decide +kernel
theorem dX6_ifPushed_21 : decode cX6_ifPushed 21 = .ok (.invokevirtual 203, 3) := by decide +kernel
theorem dX6_ifPushed_24 : decode cX6_ifPushed 24 = .ok (.aload_n 0, 1) := by decide +kernel
theorem dX6_ifPushed_25 : decode cX6_ifPushed 25 = .ok (.getfield 12, 3) := by decide +kernel
theorem dX6_ifPushed_28 : decode cX6_ifPushed 28 = .ok (.getfield 71, 3) := by decide +kernel
theorem dX6_ifPushed_31 : decode cX6_ifPushed 31 = .ok (.iload_n 1, 1) := by decide +kernel
theorem dX6_ifPushed_32 : decode cX6_ifPushed 32 = .ok (.invokevirtual 74, 3) := by decide +kernel
theorem dX6_ifPushed_35 : decode cX6_ifPushed 35 = .ok (.invokevirtual 233, 3) := by decide +kernel
theorem dX6_ifPushed_38 : decode cX6_ifPushed 38 = .ok (.isub, 1) := by decide +kernel
theorem dX6_ifPushed_39 : decode cX6_ifPushed 39 = .ok (.istore_n 3, 1) := by decide +kernel
theorem dX6_ifPushed_40 : decode cX6_ifPushed 40 = .ok (.iload_n 3, 1) := by decide +kernel
theorem dX6_ifPushed_41 : decode cX6_ifPushed 41 = .ok (.aload_n 0, 1) := by decide +kernel
theorem dX6_ifPushed_42 : decode cX6_ifPushed 42 = .ok (.getfield 37, 3) := by decide +kernel
theorem dX6_ifPushed_45 : decode cX6_ifPushed 45 = .ok (.getfield 234, 3) := by decide +kernel
theorem dX6_ifPushed_48 : decode cX6_ifPushed 48 = .ok (.invokevirtual 233, 3) := by decide +kernel
theorem dX6_ifPushed_51 : decode cX6_ifPushed 51 = .ok (.iadd, 1) := by decide +kernel
theorem dX6_ifPushed_52 : decode cX6_ifPushed 52 = .ok (.ireturn, 1) := by decide +kernel
theorem dX6_strengthFor_0 : decode cX6_strengthFor 0 = .ok (.iload_n 1, 1) := by decide +kernel
theorem dX6_strengthFor_1 : decode cX6_strengthFor 1 = .ok (.invokestatic 52, 3) := by decide +kernel
theorem dX6_strengthFor_4 : decode cX6_strengthFor 4 = .ok (.iload_n 2, 1) := by decide +kernel
theorem dX6_strengthFor_5 : decode cX6_strengthFor 5 = .ok (.invokestatic 180, 3) := by decide +kernel
theorem dX6_strengthFor_8 : decode cX6_strengthFor 8 = .ok (.aload_n 0, 1) := by decide +kernel
theorem dX6_strengthFor_9 : decode cX6_strengthFor 9 = .ok (.getfield 12, 3) := by decide +kernel
theorem dX6_strengthFor_12 : decode cX6_strengthFor 12 = .ok (.getfield 71, 3) := by decide +kernel
theorem dX6_strengthFor_15 : decode cX6_strengthFor 15 = .ok (.iload_n 1, 1) := by decide +kernel
theorem dX6_strengthFor_16 : decode cX6_strengthFor 16 = .ok (.invokevirtual 74, 3) := by decide +kernel
theorem dX6_strengthFor_19 : decode cX6_strengthFor 19 = .ok (.iload_n 2, 1) := by decide +kernel
theorem dX6_strengthFor_20 : decode cX6_strengthFor 20 = .ok (.invokevirtual 237, 3) := by decide +kernel
theorem dX6_strengthFor_23 : decode cX6_strengthFor 23 = .ok (.istore_n 3, 1) := by decide +kernel
theorem dX6_strengthFor_24 : decode cX6_strengthFor 24 = .ok (.iconst 1, 1) := by decide +kernel
theorem dX6_strengthFor_25 : decode cX6_strengthFor 25 = .ok (.istore 4, 2) := by decide +kernel
theorem dX6_strengthFor_27 : decode cX6_strengthFor 27 = .ok (.iload 4, 2) := by decide +kernel
theorem dX6_strengthFor_29 : decode cX6_strengthFor 29 = .ok (.sipush 150, 3) := by decide +kernel
theorem dX6_strengthFor_32 : decode cX6_strengthFor 32 = .ok (.if_icmp .gt 34, 3) := by decide +kernel
theorem dX6_strengthFor_35 : decode cX6_strengthFor 35 = .ok (.aload_n 0, 1) := by decide +kernel
theorem dX6_strengthFor_36 : decode cX6_strengthFor 36 = .ok (.iload_n 1, 1) := by decide +kernel
theorem dX6_strengthFor_37 : decode cX6_strengthFor 37 = .ok (.iload 4, 2) := by decide +kernel
theorem dX6_strengthFor_39 : decode cX6_strengthFor 39 = .ok (.invokevirtual 226, 3) := by decide +kernel
theorem dX6_strengthFor_42 : decode cX6_strengthFor 42 = .ok (.aload_n 0, 1) := by decide +kernel
theorem dX6_strengthFor_43 : decode cX6_strengthFor 43 = .ok (.getfield 37, 3) := by decide +kernel
theorem dX6_strengthFor_46 : decode cX6_strengthFor 46 = .ok (.getfield 234, 3) := by decide +kernel
theorem dX6_strengthFor_49 : decode cX6_strengthFor 49 = .ok (.iload_n 2, 1) := by decide +kernel
theorem dX6_strengthFor_50 : decode cX6_strengthFor 50 = .ok (.invokevirtual 237, 3) := by decide +kernel
theorem dX6_strengthFor_53 : decode cX6_strengthFor 53 = .ok (.iload_n 3, 1) := by decide +kernel
theorem dX6_strengthFor_54 : decode cX6_strengthFor 54 = .ok (.if_icmp .le 6, 3) := by decide +kernel
theorem dX6_strengthFor_57 : decode cX6_strengthFor 57 = .ok (.iload 4, 2) := by decide +kernel
theorem dX6_strengthFor_59 : decode cX6_strengthFor 59 = .ok (.ireturn, 1) := by decide +kernel
theorem dX6_strengthFor_60 : decode cX6_strengthFor 60 = .ok (.iinc 4 1, 3) := by decide +kernel
theorem dX6_strengthFor_63 : decode cX6_strengthFor 63 = .ok (.goto (-36), 3) := by decide +kernel
theorem dX6_strengthFor_66 : decode cX6_strengthFor 66 = .ok (.iconst (-1), 1) := by decide +kernel
theorem dX6_strengthFor_67 : decode cX6_strengthFor 67 = .ok (.ireturn, 1) := by decide +kernel
theorem dX6_bestPush_0 : decode cX6_bestPush 0 = .ok (.iconst (-1), 1) := by decide +kernel
theorem dX6_bestPush_1 : decode cX6_bestPush 1 = .ok (.istore_n 1, 1) := by decide +kernel
theorem dX6_bestPush_2 : decode cX6_bestPush 2 = .ok (.iconst 0, 1) := by decide +kernel
theorem dX6_bestPush_3 : decode cX6_bestPush 3 = .ok (.istore_n 2, 1) := by decide +kernel
theorem dX6_bestPush_4 : decode cX6_bestPush 4 = .ok (.iconst 0, 1) := by decide +kernel
theorem dX6_bestPush_5 : decode cX6_bestPush 5 = .ok (.istore_n 3, 1) := by decide +kernel
theorem dX6_bestPush_6 : decode cX6_bestPush 6 = .ok (.iload_n 3, 1) := by decide +kernel
theorem dX6_bestPush_7 : decode cX6_bestPush 7 = .ok (.iconst 3, 1) := by decide +kernel
theorem dX6_bestPush_8 : decode cX6_bestPush 8 = .ok (.if_icmp .ge 58, 3) := by decide +kernel
theorem dX6_bestPush_11 : decode cX6_bestPush 11 = .ok (.iconst 1, 1) := by decide +kernel
theorem dX6_bestPush_12 : decode cX6_bestPush 12 = .ok (.istore 4, 2) := by decide +kernel
theorem dX6_bestPush_14 : decode cX6_bestPush 14 = .ok (.iload 4, 2) := by decide +kernel
theorem dX6_bestPush_16 : decode cX6_bestPush 16 = .ok (.sipush 150, 3) := by decide +kernel
theorem dX6_bestPush_19 : decode cX6_bestPush 19 = .ok (.if_icmp .gt 41, 3) := by decide +kernel
theorem dX6_bestPush_22 : decode cX6_bestPush 22 = .ok (.aload_n 0, 1) := by decide +kernel
theorem dX6_bestPush_23 : decode cX6_bestPush 23 = .ok (.iload_n 3, 1) := by decide +kernel
theorem dX6_bestPush_24 : decode cX6_bestPush 24 = .ok (.iload 4, 2) := by decide +kernel
theorem dX6_bestPush_26 : decode cX6_bestPush 26 = .ok (.invokevirtual 238, 3) := by decide +kernel
theorem dX6_bestPush_29 : decode cX6_bestPush 29 = .ok (.istore 5, 2) := by decide +kernel
theorem dX6_bestPush_31 : decode cX6_bestPush 31 = .ok (.iload_n 1, 1) := by decide +kernel
theorem dX6_bestPush_32 : decode cX6_bestPush 32 = .ok (.iconst (-1), 1) := by decide +kernel
theorem dX6_bestPush_33 : decode cX6_bestPush 33 = .ok (.if_icmp .eq 9, 3) := by decide +kernel
theorem dX6_bestPush_36 : decode cX6_bestPush 36 = .ok (.iload 5, 2) := by decide +kernel
theorem dX6_bestPush_38 : decode cX6_bestPush 38 = .ok (.iload_n 2, 1) := by decide +kernel
theorem dX6_bestPush_39 : decode cX6_bestPush 39 = .ok (.if_icmp .le 15, 3) := by decide +kernel
theorem dX6_bestPush_42 : decode cX6_bestPush 42 = .ok (.sipush 1000, 3) := by decide +kernel
theorem dX6_bestPush_45 : decode cX6_bestPush 45 = .ok (.iload_n 3, 1) := by decide +kernel
theorem dX6_bestPush_46 : decode cX6_bestPush 46 = .ok (.imul, 1) := by decide +kernel
theorem dX6_bestPush_47 : decode cX6_bestPush 47 = .ok (.iload 4, 2) := by decide +kernel
theorem dX6_bestPush_49 : decode cX6_bestPush 49 = .ok (.iadd, 1) := by decide +kernel
theorem dX6_bestPush_50 : decode cX6_bestPush 50 = .ok (.istore_n 1, 1) := by decide +kernel
theorem dX6_bestPush_51 : decode cX6_bestPush 51 = .ok (.iload 5, 2) := by decide +kernel
theorem dX6_bestPush_53 : decode cX6_bestPush 53 = .ok (.istore_n 2, 1) := by decide +kernel
theorem dX6_bestPush_54 : decode cX6_bestPush 54 = .ok (.iinc 4 1, 3) := by decide +kernel
theorem dX6_bestPush_57 : decode cX6_bestPush 57 = .ok (.goto (-43), 3) := by decide +kernel
theorem dX6_bestPush_60 : decode cX6_bestPush 60 = .ok (.iinc 3 1, 3) := by decide +kernel
theorem dX6_bestPush_63 : decode cX6_bestPush 63 = .ok (.goto (-57), 3) := by decide +kernel
theorem dX6_bestPush_66 : decode cX6_bestPush 66 = .ok (.iload_n 1, 1) := by decide +kernel
theorem dX6_bestPush_67 : decode cX6_bestPush 67 = .ok (.ireturn, 1) := by decide +kernel
theorem dX6_fullness_0 : decode cX6_fullness 0 = .ok (.aload_n 0, 1) := by decide +kernel
theorem dX6_fullness_1 : decode cX6_fullness 1 = .ok (.getfield 12, 3) := by decide +kernel
theorem dX6_fullness_4 : decode cX6_fullness 4 = .ok (.invokevirtual 99, 3) := by decide +kernel
theorem dX6_fullness_7 : decode cX6_fullness 7 = .ok (.i2d, 1) := by decide +kernel
theorem dX6_fullness_8 : decode cX6_fullness 8 = .ok (.ldc2_w 241, 3) := by decide +kernel
theorem dX6_fullness_11 : decode cX6_fullness 11 = .ok (.ddiv, 1) := by decide +kernel
theorem dX6_fullness_12 : decode cX6_fullness 12 = .ok (.dreturn, 1) := by decide +kernel
theorem dX6_tryPush_0 : decode cX6_tryPush 0 = .ok (.aload_n 0, 1) := by decide +kernel
theorem dX6_tryPush_1 : decode cX6_tryPush 1 = .ok (.getfield 37, 3) := by decide +kernel
theorem dX6_tryPush_4 : decode cX6_tryPush 4 = .ok (.aload_n 0, 1) := by decide +kernel
theorem dX6_tryPush_5 : decode cX6_tryPush 5 = .ok (.getfield 12, 3) := by decide +kernel
theorem dX6_tryPush_8 : decode cX6_tryPush 8 = .ok (.getfield 71, 3) := by decide +kernel
theorem dX6_tryPush_11 : decode cX6_tryPush 11 = .ok (.iload_n 1, 1) := by decide +kernel
theorem dX6_tryPush_12 : decode cX6_tryPush 12 = .ok (.invokevirtual 74, 3) := by decide +kernel
theorem dX6_tryPush_15 : decode cX6_tryPush 15 = .ok (.iload_n 2, 1) := by decide +kernel
theorem dX6_tryPush_16 : decode cX6_tryPush 16 = .ok (.aload_n 0, 1) := by decide +kernel
theorem dX6_tryPush_17 : decode cX6_tryPush 17 = .ok (.getfield 12, 3) := by decide +kernel
theorem dX6_tryPush_20 : decode cX6_tryPush 20 = .ok (.getfield 78, 3) := by decide +kernel
theorem dX6_tryPush_23 : decode cX6_tryPush 23 = .ok (.invokevirtual 302, 3) := by decide +kernel
theorem dX6_tryPush_26 : decode cX6_tryPush 26 = .ok (.return_, 1) := by decide +kernel
theorem dX6_leadBehind_0 : decode cX6_leadBehind 0 = .ok (.aload_n 0, 1) := by decide +kernel
theorem dX6_leadBehind_1 : decode cX6_leadBehind 1 = .ok (.iload_n 1, 1) := by decide +kernel
theorem dX6_leadBehind_2 : decode cX6_leadBehind 2 = .ok (.iload_n 2, 1) := by decide +kernel
theorem dX6_leadBehind_3 : decode cX6_leadBehind 3 = .ok (.invokevirtual 226, 3) := by decide +kernel
theorem dX6_leadBehind_6 : decode cX6_leadBehind 6 = .ok (.iconst 0, 1) := by decide +kernel
theorem dX6_leadBehind_7 : decode cX6_leadBehind 7 = .ok (.istore_n 3, 1) := by decide +kernel
theorem dX6_leadBehind_8 : decode cX6_leadBehind 8 = .ok (.iload_n 3, 1) := by decide +kernel
theorem dX6_leadBehind_9 : decode cX6_leadBehind 9 = .ok (.bipush 9, 2) := by decide +kernel
theorem dX6_leadBehind_11 : decode cX6_leadBehind 11 = .ok (.if_icmp .ge 25, 3) := by decide +kernel
theorem dX6_leadBehind_14 : decode cX6_leadBehind 14 = .ok (.iload_n 3, 1) := by decide +kernel
theorem dX6_leadBehind_15 : decode cX6_leadBehind 15 = .ok (.aload_n 0, 1) := by decide +kernel
theorem dX6_leadBehind_16 : decode cX6_leadBehind 16 = .ok (.getfield 48, 3) := by decide +kernel
theorem dX6_leadBehind_19 : decode cX6_leadBehind 19 = .ok (.arraylength, 1) := by decide +kernel
theorem dX6_leadBehind_20 : decode cX6_leadBehind 20 = .ok (.if_icmp .ge 16, 3) := by decide +kernel
theorem dX6_leadBehind_23 : decode cX6_leadBehind 23 = .ok (.aload_n 0, 1) := by decide +kernel
theorem dX6_leadBehind_24 : decode cX6_leadBehind 24 = .ok (.getfield 48, 3) := by decide +kernel
theorem dX6_leadBehind_27 : decode cX6_leadBehind 27 = .ok (.iload_n 3, 1) := by decide +kernel
theorem dX6_leadBehind_28 : decode cX6_leadBehind 28 = .ok (.iconst 0, 1) := by decide +kernel
theorem dX6_leadBehind_29 : decode cX6_leadBehind 29 = .ok (.iastore, 1) := by decide +kernel
theorem dX6_leadBehind_30 : decode cX6_leadBehind 30 = .ok (.iinc 3 1, 3) := by decide +kernel
theorem dX6_leadBehind_33 : decode cX6_leadBehind 33 = .ok (.goto (-25), 3) := by decide +kernel
theorem dX6_leadBehind_36 : decode cX6_leadBehind 36 = .ok (.iconst 0, 1) := by decide +kernel
theorem dX6_leadBehind_37 : decode cX6_leadBehind 37 = .ok (.istore_n 3, 1) := by decide +kernel
theorem dX6_leadBehind_38 : decode cX6_leadBehind 38 = .ok (.iload_n 3, 1) := by decide +kernel
theorem dX6_leadBehind_39 : decode cX6_leadBehind 39 = .ok (.iconst 3, 1) := by decide +kernel
theorem dX6_leadBehind_40 : decode cX6_leadBehind 40 = .ok (.if_icmp .ge 46, 3) := by decide +kernel
theorem dX6_leadBehind_43 : decode cX6_leadBehind 43 = .ok (.iload_n 3, 1) := by decide +kernel
theorem dX6_leadBehind_44 : decode cX6_leadBehind 44 = .ok (.iload_n 1, 1) := by decide +kernel
theorem dX6_leadBehind_45 : decode cX6_leadBehind 45 = .ok (.if_icmp .ne 13, 3) := by decide +kernel
theorem dX6_leadBehind_48 : decode cX6_leadBehind 48 = .ok (.aload_n 0, 1) := by decide +kernel
theorem dX6_leadBehind_49 : decode cX6_leadBehind 49 = .ok (.getfield 37, 3) := by decide +kernel
theorem dX6_leadBehind_52 : decode cX6_leadBehind 52 = .ok (.getfield 234, 3) := by decide +kernel
theorem dX6_leadBehind_55 : decode cX6_leadBehind 55 = .ok (.goto 14, 3) := by decide +kernel
theorem dX6_leadBehind_58 : decode cX6_leadBehind 58 = .ok (.aload_n 0, 1) := by decide +kernel
theorem dX6_leadBehind_59 : decode cX6_leadBehind 59 = .ok (.getfield 12, 3) := by decide +kernel
theorem dX6_leadBehind_62 : decode cX6_leadBehind 62 = .ok (.getfield 71, 3) := by decide +kernel
theorem dX6_leadBehind_65 : decode cX6_leadBehind 65 = .ok (.iload_n 3, 1) := by decide +kernel
theorem dX6_leadBehind_66 : decode cX6_leadBehind 66 = .ok (.invokevirtual 74, 3) := by decide +kernel
theorem dX6_leadBehind_69 : decode cX6_leadBehind 69 = .ok (.astore 4, 2) := by decide +kernel
theorem dX6_leadBehind_71 : decode cX6_leadBehind 71 = .ok (.aload 4, 2) := by decide +kernel
theorem dX6_leadBehind_73 : decode cX6_leadBehind 73 = .ok (.aload_n 0, 1) := by decide +kernel
theorem dX6_leadBehind_74 : decode cX6_leadBehind 74 = .ok (.getfield 48, 3) := by decide +kernel
theorem dX6_leadBehind_77 : decode cX6_leadBehind 77 = .ok (.invokevirtual 305, 3) := by decide +kernel
theorem dX6_leadBehind_80 : decode cX6_leadBehind 80 = .ok (.iinc 3 1, 3) := by decide +kernel
theorem dX6_leadBehind_83 : decode cX6_leadBehind 83 = .ok (.goto (-45), 3) := by decide +kernel
theorem dX6_leadBehind_86 : decode cX6_leadBehind 86 = .ok (.aload_n 0, 1) := by decide +kernel
theorem dX6_leadBehind_87 : decode cX6_leadBehind 87 = .ok (.getfield 12, 3) := by decide +kernel
theorem dX6_leadBehind_90 : decode cX6_leadBehind 90 = .ok (.aload_n 0, 1) := by decide +kernel
theorem dX6_leadBehind_91 : decode cX6_leadBehind 91 = .ok (.getfield 48, 3) := by decide +kernel
theorem dX6_leadBehind_94 : decode cX6_leadBehind 94 = .ok (.invokevirtual 309, 3) := by decide +kernel
theorem dX6_leadBehind_97 : decode cX6_leadBehind 97 = .ok (.ireturn, 1) := by decide +kernel
theorem dX6_requireLane_0 : decode cX6_requireLane 0 = .ok (.iload_n 0, 1) := by decide +kernel
theorem dX6_requireLane_1 : decode cX6_requireLane 1 = .ok (.ifCond .lt 8, 3) := by decide +kernel
theorem dX6_requireLane_4 : decode cX6_requireLane 4 = .ok (.iload_n 0, 1) := by decide +kernel
theorem dX6_requireLane_5 : decode cX6_requireLane 5 = .ok (.iconst 3, 1) := by decide +kernel
theorem dX6_requireLane_6 : decode cX6_requireLane 6 = .ok (.if_icmp .lt 14, 3) := by decide +kernel
theorem dX6_requireLane_9 : decode cX6_requireLane 9 = .ok (.new 313, 3) := by decide +kernel
theorem dX6_requireLane_12 : decode cX6_requireLane 12 = .ok (.dup, 1) := by decide +kernel
theorem dX6_requireLane_13 : decode cX6_requireLane 13 = .ok (.ldc_w 315, 3) := by decide +kernel
theorem dX6_requireLane_16 : decode cX6_requireLane 16 = .ok (.invokespecial 317, 3) := by decide +kernel
theorem dX6_requireLane_19 : decode cX6_requireLane 19 = .ok (.athrow, 1) := by decide +kernel
theorem dX6_requireLane_20 : decode cX6_requireLane 20 = .ok (.return_, 1) := by decide +kernel
theorem dX6_requireBed_0 : decode cX6_requireBed 0 = .ok (.iload_n 0, 1) := by decide +kernel
theorem dX6_requireBed_1 : decode cX6_requireBed 1 = .ok (.ifCond .lt 9, 3) := by decide +kernel
theorem dX6_requireBed_4 : decode cX6_requireBed 4 = .ok (.iload_n 0, 1) := by decide +kernel
theorem dX6_requireBed_5 : decode cX6_requireBed 5 = .ok (.bipush 9, 2) := by decide +kernel
theorem dX6_requireBed_7 : decode cX6_requireBed 7 = .ok (.if_icmp .lt 14, 3) := by decide +kernel
theorem dX6_requireBed_10 : decode cX6_requireBed 10 = .ok (.new 313, 3) := by decide +kernel
theorem dX6_requireBed_13 : decode cX6_requireBed 13 = .ok (.dup, 1) := by decide +kernel
theorem dX6_requireBed_14 : decode cX6_requireBed 14 = .ok (.ldc_w 318, 3) := by decide +kernel
theorem dX6_requireBed_17 : decode cX6_requireBed 17 = .ok (.invokespecial 317, 3) := by decide +kernel
theorem dX6_requireBed_20 : decode cX6_requireBed 20 = .ok (.athrow, 1) := by decide +kernel
theorem dX6_requireBed_21 : decode cX6_requireBed 21 = .ok (.return_, 1) := by decide +kernel
theorem dX6_requireStrength_0 : decode cX6_requireStrength 0 = .ok (.iload_n 0, 1) := by decide +kernel
theorem dX6_requireStrength_1 : decode cX6_requireStrength 1 = .ok (.iconst 1, 1) := by decide +kernel
theorem dX6_requireStrength_2 : decode cX6_requireStrength 2 = .ok (.if_icmp .lt 10, 3) := by decide +kernel
theorem dX6_requireStrength_5 : decode cX6_requireStrength 5 = .ok (.iload_n 0, 1) := by decide +kernel
theorem dX6_requireStrength_6 : decode cX6_requireStrength 6 = .ok (.sipush 150, 3) := by decide +kernel
theorem dX6_requireStrength_9 : decode cX6_requireStrength 9 = .ok (.if_icmp .le 14, 3) := by decide +kernel
theorem dX6_requireStrength_12 : decode cX6_requireStrength 12 = .ok (.new 105, 3) := by decide +kernel
theorem dX6_requireStrength_15 : decode cX6_requireStrength 15 = .ok (.dup, 1) := by decide +kernel
theorem dX6_requireStrength_16 : decode cX6_requireStrength 16 = .ok (.ldc_w 320, 3) := by decide +kernel
theorem dX6_requireStrength_19 : decode cX6_requireStrength 19 = .ok (.invokespecial 109, 3) := by decide +kernel
theorem dX6_requireStrength_22 : decode cX6_requireStrength 22 = .ok (.athrow, 1) := by decide +kernel
theorem dX6_requireStrength_23 : decode cX6_requireStrength 23 = .ok (.return_, 1) := by decide +kernel
theorem dX6_bedAt_0 : decode cX6_bedAt 0 = .ok (.iload_n 0, 1) := by decide +kernel
theorem dX6_bedAt_1 : decode cX6_bedAt 1 = .ok (.bipush 8, 2) := by decide +kernel
theorem dX6_bedAt_3 : decode cX6_bedAt 3 = .ok (.isub, 1) := by decide +kernel
theorem dX6_bedAt_4 : decode cX6_bedAt 4 = .ok (.istore_n 1, 1) := by decide +kernel
theorem dX6_bedAt_5 : decode cX6_bedAt 5 = .ok (.iload_n 1, 1) := by decide +kernel
theorem dX6_bedAt_6 : decode cX6_bedAt 6 = .ok (.ifCond .lt 11, 3) := by decide +kernel
theorem dX6_bedAt_9 : decode cX6_bedAt 9 = .ok (.iload_n 1, 1) := by decide +kernel
theorem dX6_bedAt_10 : decode cX6_bedAt 10 = .ok (.bipush 10, 2) := by decide +kernel
theorem dX6_bedAt_12 : decode cX6_bedAt 12 = .ok (.irem, 1) := by decide +kernel
theorem dX6_bedAt_13 : decode cX6_bedAt 13 = .ok (.iconst 4, 1) := by decide +kernel
theorem dX6_bedAt_14 : decode cX6_bedAt 14 = .ok (.if_icmp .le 5, 3) := by decide +kernel
theorem dX6_bedAt_17 : decode cX6_bedAt 17 = .ok (.iconst (-1), 1) := by decide +kernel
theorem dX6_bedAt_18 : decode cX6_bedAt 18 = .ok (.ireturn, 1) := by decide +kernel
theorem dX6_bedAt_19 : decode cX6_bedAt 19 = .ok (.iload_n 1, 1) := by decide +kernel
theorem dX6_bedAt_20 : decode cX6_bedAt 20 = .ok (.bipush 10, 2) := by decide +kernel
theorem dX6_bedAt_22 : decode cX6_bedAt 22 = .ok (.idiv, 1) := by decide +kernel
theorem dX6_bedAt_23 : decode cX6_bedAt 23 = .ok (.istore_n 2, 1) := by decide +kernel
theorem dX6_bedAt_24 : decode cX6_bedAt 24 = .ok (.iload_n 2, 1) := by decide +kernel
theorem dX6_bedAt_25 : decode cX6_bedAt 25 = .ok (.bipush 9, 2) := by decide +kernel
theorem dX6_bedAt_27 : decode cX6_bedAt 27 = .ok (.if_icmp .ge 7, 3) := by decide +kernel
theorem dX6_bedAt_30 : decode cX6_bedAt 30 = .ok (.iload_n 2, 1) := by decide +kernel
theorem dX6_bedAt_31 : decode cX6_bedAt 31 = .ok (.goto 4, 3) := by decide +kernel
theorem dX6_bedAt_34 : decode cX6_bedAt 34 = .ok (.iconst (-1), 1) := by decide +kernel
theorem dX6_bedAt_35 : decode cX6_bedAt 35 = .ok (.ireturn, 1) := by decide +kernel
theorem dJ9_floorMod_7cf53_0 : decode cJ9_floorMod_7cf53 0 = .ok (.iload_n 0, 1) := by decide +kernel
theorem dJ9_floorMod_7cf53_1 : decode cJ9_floorMod_7cf53 1 = .ok (.iload_n 1, 1) := by decide +kernel
theorem dJ9_floorMod_7cf53_2 : decode cJ9_floorMod_7cf53 2 = .ok (.irem, 1) := by decide +kernel
theorem dJ9_floorMod_7cf53_3 : decode cJ9_floorMod_7cf53 3 = .ok (.istore_n 2, 1) := by decide +kernel
theorem dJ9_floorMod_7cf53_4 : decode cJ9_floorMod_7cf53 4 = .ok (.iload_n 0, 1) := by decide +kernel
theorem dJ9_floorMod_7cf53_5 : decode cJ9_floorMod_7cf53 5 = .ok (.iload_n 1, 1) := by decide +kernel
theorem dJ9_floorMod_7cf53_6 : decode cJ9_floorMod_7cf53 6 = .ok (.ixor, 1) := by decide +kernel
theorem dJ9_floorMod_7cf53_7 : decode cJ9_floorMod_7cf53 7 = .ok (.ifCond .ge 11, 3) := by decide +kernel
theorem dJ9_floorMod_7cf53_10 : decode cJ9_floorMod_7cf53 10 = .ok (.iload_n 2, 1) := by decide +kernel
theorem dJ9_floorMod_7cf53_11 : decode cJ9_floorMod_7cf53 11 = .ok (.ifCond .eq 7, 3) := by decide +kernel
theorem dJ9_floorMod_7cf53_14 : decode cJ9_floorMod_7cf53 14 = .ok (.iload_n 2, 1) := by decide +kernel
theorem dJ9_floorMod_7cf53_15 : decode cJ9_floorMod_7cf53 15 = .ok (.iload_n 1, 1) := by decide +kernel
theorem dJ9_floorMod_7cf53_16 : decode cJ9_floorMod_7cf53 16 = .ok (.iadd, 1) := by decide +kernel
theorem dJ9_floorMod_7cf53_17 : decode cJ9_floorMod_7cf53 17 = .ok (.ireturn, 1) := by decide +kernel
theorem dJ9_floorMod_7cf53_18 : decode cJ9_floorMod_7cf53 18 = .ok (.iload_n 2, 1) := by decide +kernel
theorem dJ9_floorMod_7cf53_19 : decode cJ9_floorMod_7cf53 19 = .ok (.ireturn, 1) := by decide +kernel
theorem dJ9_abs_0f7a4_0 : decode cJ9_abs_0f7a4 0 = .ok (.iload_n 0, 1) := by decide +kernel
theorem dJ9_abs_0f7a4_1 : decode cJ9_abs_0f7a4 1 = .ok (.ifCond .ge 8, 3) := by decide +kernel
theorem dJ9_abs_0f7a4_4 : decode cJ9_abs_0f7a4 4 = .ok (.iload_n 0, 1) := by decide +kernel
theorem dJ9_abs_0f7a4_5 : decode cJ9_abs_0f7a4 5 = .ok (.ineg, 1) := by decide +kernel
theorem dJ9_abs_0f7a4_6 : decode cJ9_abs_0f7a4 6 = .ok (.goto 4, 3) := by decide +kernel
theorem dJ9_abs_0f7a4_9 : decode cJ9_abs_0f7a4 9 = .ok (.iload_n 0, 1) := by decide +kernel
theorem dJ9_abs_0f7a4_10 : decode cJ9_abs_0f7a4 10 = .ok (.ireturn, 1) := by decide +kernel
theorem dJ9_min_7cf53_0 : decode cJ9_min_7cf53 0 = .ok (.iload_n 0, 1) := by decide +kernel
theorem dJ9_min_7cf53_1 : decode cJ9_min_7cf53 1 = .ok (.iload_n 1, 1) := by decide +kernel
theorem dJ9_min_7cf53_2 : decode cJ9_min_7cf53 2 = .ok (.if_icmp .gt 7, 3) := by decide +kernel
theorem dJ9_min_7cf53_5 : decode cJ9_min_7cf53 5 = .ok (.iload_n 0, 1) := by decide +kernel
theorem dJ9_min_7cf53_6 : decode cJ9_min_7cf53 6 = .ok (.goto 4, 3) := by decide +kernel
theorem dJ9_min_7cf53_9 : decode cJ9_min_7cf53 9 = .ok (.iload_n 1, 1) := by decide +kernel
theorem dJ9_min_7cf53_10 : decode cJ9_min_7cf53 10 = .ok (.ireturn, 1) := by decide +kernel
theorem dL_at_0 : decode cL_at 0 = .ok (.iload_n 1, 1) := by decide +kernel
theorem dL_at_1 : decode cL_at 1 = .ok (.aload_n 0, 1) := by decide +kernel
theorem dL_at_2 : decode cL_at 2 = .ok (.arraylength, 1) := by decide +kernel
theorem dL_at_3 : decode cL_at 3 = .ok (.if_icmp .ge 9, 3) := by decide +kernel
theorem dL_at_6 : decode cL_at 6 = .ok (.aload_n 0, 1) := by decide +kernel
theorem dL_at_7 : decode cL_at 7 = .ok (.iload_n 1, 1) := by decide +kernel
theorem dL_at_8 : decode cL_at 8 = .ok (.iaload, 1) := by decide +kernel
theorem dL_at_9 : decode cL_at 9 = .ok (.goto 12, 3) := by decide +kernel
theorem dL_at_12 : decode cL_at 12 = .ok (.ldc 7, 2) := by decide +kernel
theorem dL_at_14 : decode cL_at 14 = .ok (.iload_n 1, 1) := by decide +kernel
theorem dL_at_15 : decode cL_at 15 = .ok (.iconst 1, 1) := by decide +kernel
theorem dL_at_16 : decode cL_at 16 = .ok (.iadd, 1) := by decide +kernel
theorem dL_at_17 : decode cL_at 17 = .ok (.imul, 1) := by decide +kernel
theorem dL_at_18 : decode cL_at 18 = .ok (.ldc 8, 2) := by decide +kernel
theorem dL_at_20 : decode cL_at 20 = .ok (.iadd, 1) := by decide +kernel
theorem dL_at_21 : decode cL_at 21 = .ok (.ireturn, 1) := by decide +kernel
theorem dL_low_0 : decode cL_low 0 = .ok (.iload_n 0, 1) := by decide +kernel
theorem dL_low_1 : decode cL_low 1 = .ok (.ldc 9, 2) := by decide +kernel
theorem dL_low_3 : decode cL_low 3 = .ok (.iand, 1) := by decide +kernel
theorem dL_low_4 : decode cL_low 4 = .ok (.iload_n 1, 1) := by decide +kernel
theorem dL_low_5 : decode cL_low 5 = .ok (.irem, 1) := by decide +kernel
theorem dL_low_6 : decode cL_low 6 = .ok (.ireturn, 1) := by decide +kernel
theorem dL_push_0 : decode cL_push 0 = .ok (.aload_n 0, 1) := by decide +kernel
theorem dL_push_1 : decode cL_push 1 = .ok (.iload_n 1, 1) := by decide +kernel
theorem dL_push_2 : decode cL_push 2 = .ok (.iload_n 2, 1) := by decide +kernel
theorem dL_push_3 : decode cL_push 3 = .ok (.invokevirtual 10, 3) := by decide +kernel
theorem dL_push_6 : decode cL_push 6 = .ok (.ireturn, 1) := by decide +kernel
theorem dL_push_7 : decode cL_push 7 = .ok (.astore_n 3, 1) := by decide +kernel
theorem dL_push_8 : decode cL_push 8 = .ok (.ldc 18, 2) := by decide +kernel
theorem dL_push_10 : decode cL_push 10 = .ok (.ireturn, 1) := by decide +kernel
theorem dL_push_11 : decode cL_push 11 = .ok (.astore_n 3, 1) := by decide +kernel
theorem dL_push_12 : decode cL_push 12 = .ok (.ldc 21, 2) := by decide +kernel
theorem dL_push_14 : decode cL_push 14 = .ok (.ireturn, 1) := by decide +kernel
theorem dL_set_0 : decode cL_set 0 = .ok (.aload_n 0, 1) := by decide +kernel
theorem dL_set_1 : decode cL_set 1 = .ok (.iload_n 1, 1) := by decide +kernel
theorem dL_set_2 : decode cL_set 2 = .ok (.invokevirtual 22, 3) := by decide +kernel
theorem dL_set_5 : decode cL_set 5 = .ok (.ireturn, 1) := by decide +kernel
theorem dL_set_6 : decode cL_set 6 = .ok (.astore_n 2, 1) := by decide +kernel
theorem dL_set_7 : decode cL_set 7 = .ok (.ldc 18, 2) := by decide +kernel
theorem dL_set_9 : decode cL_set 9 = .ok (.ireturn, 1) := by decide +kernel
theorem dL_append_0 : decode cL_append 0 = .ok (.aload_n 0, 1) := by decide +kernel
theorem dL_append_1 : decode cL_append 1 = .ok (.iload_n 1, 1) := by decide +kernel
theorem dL_append_2 : decode cL_append 2 = .ok (.invokevirtual 26, 3) := by decide +kernel
theorem dL_append_5 : decode cL_append 5 = .ok (.ireturn, 1) := by decide +kernel
theorem dL_append_6 : decode cL_append 6 = .ok (.astore_n 2, 1) := by decide +kernel
theorem dL_append_7 : decode cL_append 7 = .ok (.ldc 18, 2) := by decide +kernel
theorem dL_append_9 : decode cL_append 9 = .ok (.ireturn, 1) := by decide +kernel
theorem dL_append_10 : decode cL_append 10 = .ok (.astore_n 2, 1) := by decide +kernel
theorem dL_append_11 : decode cL_append 11 = .ok (.ldc 21, 2) := by decide +kernel
theorem dL_append_13 : decode cL_append 13 = .ok (.ireturn, 1) := by decide +kernel
theorem dL_lay_0 : decode cL_lay 0 = .ok (.aload_n 0, 1) := by decide +kernel
theorem dL_lay_1 : decode cL_lay 1 = .ok (.invokevirtual 31, 3) := by decide +kernel
theorem dL_lay_4 : decode cL_lay 4 = .ok (.ireturn, 1) := by decide +kernel
theorem dL_lay_5 : decode cL_lay 5 = .ok (.astore_n 1, 1) := by decide +kernel
theorem dL_lay_6 : decode cL_lay 6 = .ok (.ldc 18, 2) := by decide +kernel
theorem dL_lay_8 : decode cL_lay 8 = .ok (.ireturn, 1) := by decide +kernel
theorem dL_undo_0 : decode cL_undo 0 = .ok (.aload_n 0, 1) := by decide +kernel
theorem dL_undo_1 : decode cL_undo 1 = .ok (.invokevirtual 35, 3) := by decide +kernel
theorem dL_undo_4 : decode cL_undo 4 = .ok (.ireturn, 1) := by decide +kernel
theorem dL_undo_5 : decode cL_undo 5 = .ok (.astore_n 1, 1) := by decide +kernel
theorem dL_undo_6 : decode cL_undo 6 = .ok (.ldc 18, 2) := by decide +kernel
theorem dL_undo_8 : decode cL_undo 8 = .ok (.ireturn, 1) := by decide +kernel
theorem dL_coin_0 : decode cL_coin 0 = .ok (.aload_n 0, 1) := by decide +kernel
theorem dL_coin_1 : decode cL_coin 1 = .ok (.iload_n 1, 1) := by decide +kernel
theorem dL_coin_2 : decode cL_coin 2 = .ok (.iload_n 2, 1) := by decide +kernel
theorem dL_coin_3 : decode cL_coin 3 = .ok (.invokevirtual 38, 3) := by decide +kernel
theorem dL_coin_6 : decode cL_coin 6 = .ok (.ireturn, 1) := by decide +kernel
theorem dL_coin_7 : decode cL_coin 7 = .ok (.astore_n 3, 1) := by decide +kernel
theorem dL_coin_8 : decode cL_coin 8 = .ok (.ldc 18, 2) := by decide +kernel
theorem dL_coin_10 : decode cL_coin 10 = .ok (.ireturn, 1) := by decide +kernel
theorem dL_coin_11 : decode cL_coin 11 = .ok (.astore_n 3, 1) := by decide +kernel
theorem dL_coin_12 : decode cL_coin 12 = .ok (.ldc 21, 2) := by decide +kernel
theorem dL_coin_14 : decode cL_coin 14 = .ok (.ireturn, 1) := by decide +kernel
theorem dL_bedOf_0 : decode cL_bedOf 0 = .ok (.aload_n 0, 1) := by decide +kernel
theorem dL_bedOf_1 : decode cL_bedOf 1 = .ok (.iload_n 1, 1) := by decide +kernel
theorem dL_bedOf_2 : decode cL_bedOf 2 = .ok (.iload_n 2, 1) := by decide +kernel
theorem dL_bedOf_3 : decode cL_bedOf 3 = .ok (.invokevirtual 41, 3) := by decide +kernel
theorem dL_bedOf_6 : decode cL_bedOf 6 = .ok (.ireturn, 1) := by decide +kernel
theorem dL_bedOf_7 : decode cL_bedOf 7 = .ok (.astore_n 3, 1) := by decide +kernel
theorem dL_bedOf_8 : decode cL_bedOf 8 = .ok (.ldc 18, 2) := by decide +kernel
theorem dL_bedOf_10 : decode cL_bedOf 10 = .ok (.ireturn, 1) := by decide +kernel
theorem dL_bedOf_11 : decode cL_bedOf 11 = .ok (.astore_n 3, 1) := by decide +kernel
theorem dL_bedOf_12 : decode cL_bedOf 12 = .ok (.ldc 21, 2) := by decide +kernel
theorem dL_bedOf_14 : decode cL_bedOf 14 = .ok (.ireturn, 1) := by decide +kernel
theorem dL_count_0 : decode cL_count 0 = .ok (.aload_n 0, 1) := by decide +kernel
theorem dL_count_1 : decode cL_count 1 = .ok (.iload_n 1, 1) := by decide +kernel
theorem dL_count_2 : decode cL_count 2 = .ok (.invokevirtual 44, 3) := by decide +kernel
theorem dL_count_5 : decode cL_count 5 = .ok (.ireturn, 1) := by decide +kernel
theorem dL_count_6 : decode cL_count 6 = .ok (.astore_n 2, 1) := by decide +kernel
theorem dL_count_7 : decode cL_count 7 = .ok (.ldc 18, 2) := by decide +kernel
theorem dL_count_9 : decode cL_count 9 = .ok (.ireturn, 1) := by decide +kernel
theorem dL_ends_0 : decode cL_ends 0 = .ok (.aload_n 0, 1) := by decide +kernel
theorem dL_ends_1 : decode cL_ends 1 = .ok (.iload_n 1, 1) := by decide +kernel
theorem dL_ends_2 : decode cL_ends 2 = .ok (.iload_n 2, 1) := by decide +kernel
theorem dL_ends_3 : decode cL_ends 3 = .ok (.iload_n 3, 1) := by decide +kernel
theorem dL_ends_4 : decode cL_ends 4 = .ok (.invokevirtual 47, 3) := by decide +kernel
theorem dL_ends_7 : decode cL_ends 7 = .ok (.ireturn, 1) := by decide +kernel
theorem dL_ends_8 : decode cL_ends 8 = .ok (.astore 4, 2) := by decide +kernel
theorem dL_ends_10 : decode cL_ends 10 = .ok (.ldc 18, 2) := by decide +kernel
theorem dL_ends_12 : decode cL_ends 12 = .ok (.ireturn, 1) := by decide +kernel
theorem dL_ends_13 : decode cL_ends 13 = .ok (.astore 4, 2) := by decide +kernel
theorem dL_ends_15 : decode cL_ends 15 = .ok (.ldc 21, 2) := by decide +kernel
theorem dL_ends_17 : decode cL_ends 17 = .ok (.ireturn, 1) := by decide +kernel
theorem dL_ifPushed_0 : decode cL_ifPushed 0 = .ok (.aload_n 0, 1) := by decide +kernel
theorem dL_ifPushed_1 : decode cL_ifPushed 1 = .ok (.iload_n 1, 1) := by decide +kernel
theorem dL_ifPushed_2 : decode cL_ifPushed 2 = .ok (.iload_n 2, 1) := by decide +kernel
theorem dL_ifPushed_3 : decode cL_ifPushed 3 = .ok (.invokevirtual 51, 3) := by decide +kernel
theorem dL_ifPushed_6 : decode cL_ifPushed 6 = .ok (.ireturn, 1) := by decide +kernel
theorem dL_ifPushed_7 : decode cL_ifPushed 7 = .ok (.astore_n 3, 1) := by decide +kernel
theorem dL_ifPushed_8 : decode cL_ifPushed 8 = .ok (.ldc 18, 2) := by decide +kernel
theorem dL_ifPushed_10 : decode cL_ifPushed 10 = .ok (.ireturn, 1) := by decide +kernel
theorem dL_ifPushed_11 : decode cL_ifPushed 11 = .ok (.astore_n 3, 1) := by decide +kernel
theorem dL_ifPushed_12 : decode cL_ifPushed 12 = .ok (.ldc 21, 2) := by decide +kernel
theorem dL_ifPushed_14 : decode cL_ifPushed 14 = .ok (.ireturn, 1) := by decide +kernel
theorem dL_strengthFor_0 : decode cL_strengthFor 0 = .ok (.aload_n 0, 1) := by decide +kernel
theorem dL_strengthFor_1 : decode cL_strengthFor 1 = .ok (.iload_n 1, 1) := by decide +kernel
theorem dL_strengthFor_2 : decode cL_strengthFor 2 = .ok (.iload_n 2, 1) := by decide +kernel
theorem dL_strengthFor_3 : decode cL_strengthFor 3 = .ok (.invokevirtual 54, 3) := by decide +kernel
theorem dL_strengthFor_6 : decode cL_strengthFor 6 = .ok (.ireturn, 1) := by decide +kernel
theorem dL_strengthFor_7 : decode cL_strengthFor 7 = .ok (.astore_n 3, 1) := by decide +kernel
theorem dL_strengthFor_8 : decode cL_strengthFor 8 = .ok (.ldc 18, 2) := by decide +kernel
theorem dL_strengthFor_10 : decode cL_strengthFor 10 = .ok (.ireturn, 1) := by decide +kernel
theorem dL_act_0 : decode cL_act 0 = .ok (.iconst 0, 1) := by decide +kernel
theorem dL_act_1 : decode cL_act 1 = .ok (.istore_n 3, 1) := by decide +kernel
theorem dL_act_2 : decode cL_act 2 = .ok (.iload_n 1, 1) := by decide +kernel
theorem dL_act_3 : decode cL_act 3 = .ok (.bipush 16, 2) := by decide +kernel
theorem dL_act_5 : decode cL_act 5 = .ok (.invokestatic 57, 3) := by decide +kernel
theorem dL_act_8 : decode cL_act 8 = .ok (.tableswitch 187 0 3 #[32, 32, 155, 166], 32) := by decide +kernel
theorem dL_act_40 : decode cL_act 40 = .ok (.aload_n 0, 1) := by decide +kernel
theorem dL_act_41 : decode cL_act 41 = .ok (.invokevirtual 62, 3) := by decide +kernel
theorem dL_act_44 : decode cL_act 44 = .ok (.istore_n 3, 1) := by decide +kernel
theorem dL_act_45 : decode cL_act 45 = .ok (.iconst 0, 1) := by decide +kernel
theorem dL_act_46 : decode cL_act 46 = .ok (.istore 4, 2) := by decide +kernel
theorem dL_act_48 : decode cL_act 48 = .ok (.iload 4, 2) := by decide +kernel
theorem dL_act_50 : decode cL_act 50 = .ok (.bipush 6, 2) := by decide +kernel
theorem dL_act_52 : decode cL_act 52 = .ok (.if_icmp .ge 106, 3) := by decide +kernel
theorem dL_act_55 : decode cL_act 55 = .ok (.iload_n 2, 1) := by decide +kernel
theorem dL_act_56 : decode cL_act 56 = .ok (.iconst 3, 1) := by decide +kernel
theorem dL_act_57 : decode cL_act 57 = .ok (.iload 4, 2) := by decide +kernel
theorem dL_act_59 : decode cL_act 59 = .ok (.imul, 1) := by decide +kernel
theorem dL_act_60 : decode cL_act 60 = .ok (.ishr, 1) := by decide +kernel
theorem dL_act_61 : decode cL_act 61 = .ok (.bipush 7, 2) := by decide +kernel
theorem dL_act_63 : decode cL_act 63 = .ok (.invokestatic 57, 3) := by decide +kernel
theorem dL_act_66 : decode cL_act 66 = .ok (.bipush 8, 2) := by decide +kernel
theorem dL_act_68 : decode cL_act 68 = .ok (.iload 4, 2) := by decide +kernel
theorem dL_act_70 : decode cL_act 70 = .ok (.imul, 1) := by decide +kernel
theorem dL_act_71 : decode cL_act 71 = .ok (.iadd, 1) := by decide +kernel
theorem dL_act_72 : decode cL_act 72 = .ok (.istore 5, 2) := by decide +kernel
theorem dL_act_74 : decode cL_act 74 = .ok (.iload 4, 2) := by decide +kernel
theorem dL_act_76 : decode cL_act 76 = .ok (.ifCond .le 12, 3) := by decide +kernel
theorem dL_act_79 : decode cL_act 79 = .ok (.aload_n 0, 1) := by decide +kernel
theorem dL_act_80 : decode cL_act 80 = .ok (.bipush 59, 2) := by decide +kernel
theorem dL_act_82 : decode cL_act 82 = .ok (.invokestatic 65, 3) := by decide +kernel
theorem dL_act_85 : decode cL_act 85 = .ok (.goto 4, 3) := by decide +kernel
theorem dL_act_88 : decode cL_act 88 = .ok (.iconst 0, 1) := by decide +kernel
theorem dL_act_89 : decode cL_act 89 = .ok (.istore_n 3, 1) := by decide +kernel
theorem dL_act_90 : decode cL_act 90 = .ok (.aload_n 0, 1) := by decide +kernel
theorem dL_act_91 : decode cL_act 91 = .ok (.bipush 48, 2) := by decide +kernel
theorem dL_act_93 : decode cL_act 93 = .ok (.iload_n 1, 1) := by decide +kernel
theorem dL_act_94 : decode cL_act 94 = .ok (.iconst 4, 1) := by decide +kernel
theorem dL_act_95 : decode cL_act 95 = .ok (.iload 4, 2) := by decide +kernel
theorem dL_act_97 : decode cL_act 97 = .ok (.iadd, 1) := by decide +kernel
theorem dL_act_98 : decode cL_act 98 = .ok (.ishr, 1) := by decide +kernel
theorem dL_act_99 : decode cL_act 99 = .ok (.iconst 3, 1) := by decide +kernel
theorem dL_act_100 : decode cL_act 100 = .ok (.invokestatic 57, 3) := by decide +kernel
theorem dL_act_103 : decode cL_act 103 = .ok (.iadd, 1) := by decide +kernel
theorem dL_act_104 : decode cL_act 104 = .ok (.invokestatic 65, 3) := by decide +kernel
theorem dL_act_107 : decode cL_act 107 = .ok (.istore_n 3, 1) := by decide +kernel
theorem dL_act_108 : decode cL_act 108 = .ok (.aload_n 0, 1) := by decide +kernel
theorem dL_act_109 : decode cL_act 109 = .ok (.bipush 58, 2) := by decide +kernel
theorem dL_act_111 : decode cL_act 111 = .ok (.invokestatic 65, 3) := by decide +kernel
theorem dL_act_114 : decode cL_act 114 = .ok (.istore_n 3, 1) := by decide +kernel
theorem dL_act_115 : decode cL_act 115 = .ok (.iload 5, 2) := by decide +kernel
theorem dL_act_117 : decode cL_act 117 = .ok (.bipush 9, 2) := by decide +kernel
theorem dL_act_119 : decode cL_act 119 = .ok (.if_icmp .le 18, 3) := by decide +kernel
theorem dL_act_122 : decode cL_act 122 = .ok (.aload_n 0, 1) := by decide +kernel
theorem dL_act_123 : decode cL_act 123 = .ok (.bipush 48, 2) := by decide +kernel
theorem dL_act_125 : decode cL_act 125 = .ok (.iload 5, 2) := by decide +kernel
theorem dL_act_127 : decode cL_act 127 = .ok (.bipush 10, 2) := by decide +kernel
theorem dL_act_129 : decode cL_act 129 = .ok (.idiv, 1) := by decide +kernel
theorem dL_act_130 : decode cL_act 130 = .ok (.iadd, 1) := by decide +kernel
theorem dL_act_131 : decode cL_act 131 = .ok (.invokestatic 65, 3) := by decide +kernel
theorem dL_act_134 : decode cL_act 134 = .ok (.goto 4, 3) := by decide +kernel
theorem dL_act_137 : decode cL_act 137 = .ok (.iload_n 3, 1) := by decide +kernel
theorem dL_act_138 : decode cL_act 138 = .ok (.istore_n 3, 1) := by decide +kernel
theorem dL_act_139 : decode cL_act 139 = .ok (.aload_n 0, 1) := by decide +kernel
theorem dL_act_140 : decode cL_act 140 = .ok (.bipush 48, 2) := by decide +kernel
theorem dL_act_142 : decode cL_act 142 = .ok (.iload 5, 2) := by decide +kernel
theorem dL_act_144 : decode cL_act 144 = .ok (.bipush 10, 2) := by decide +kernel
theorem dL_act_146 : decode cL_act 146 = .ok (.irem, 1) := by decide +kernel
theorem dL_act_147 : decode cL_act 147 = .ok (.iadd, 1) := by decide +kernel
theorem dL_act_148 : decode cL_act 148 = .ok (.invokestatic 65, 3) := by decide +kernel
theorem dL_act_151 : decode cL_act 151 = .ok (.istore_n 3, 1) := by decide +kernel
theorem dL_act_152 : decode cL_act 152 = .ok (.iinc 4 1, 3) := by decide +kernel
theorem dL_act_155 : decode cL_act 155 = .ok (.goto (-107), 3) := by decide +kernel
theorem dL_act_158 : decode cL_act 158 = .ok (.aload_n 0, 1) := by decide +kernel
theorem dL_act_159 : decode cL_act 159 = .ok (.invokestatic 68, 3) := by decide +kernel
theorem dL_act_162 : decode cL_act 162 = .ok (.ireturn, 1) := by decide +kernel
theorem dL_act_163 : decode cL_act 163 = .ok (.aload_n 0, 1) := by decide +kernel
theorem dL_act_164 : decode cL_act 164 = .ok (.iload_n 2, 1) := by decide +kernel
theorem dL_act_165 : decode cL_act 165 = .ok (.bipush 21, 2) := by decide +kernel
theorem dL_act_167 : decode cL_act 167 = .ok (.invokestatic 57, 3) := by decide +kernel
theorem dL_act_170 : decode cL_act 170 = .ok (.invokestatic 71, 3) := by decide +kernel
theorem dL_act_173 : decode cL_act 173 = .ok (.ireturn, 1) := by decide +kernel
theorem dL_act_174 : decode cL_act 174 = .ok (.iload_n 2, 1) := by decide +kernel
theorem dL_act_175 : decode cL_act 175 = .ok (.bipush 6, 2) := by decide +kernel
theorem dL_act_177 : decode cL_act 177 = .ok (.invokestatic 57, 3) := by decide +kernel
theorem dL_act_180 : decode cL_act 180 = .ok (.ifCond .ne 10, 3) := by decide +kernel
theorem dL_act_183 : decode cL_act 183 = .ok (.aload_n 0, 1) := by decide +kernel
theorem dL_act_184 : decode cL_act 184 = .ok (.invokevirtual 73, 3) := by decide +kernel
theorem dL_act_187 : decode cL_act 187 = .ok (.goto 7, 3) := by decide +kernel
theorem dL_act_190 : decode cL_act 190 = .ok (.aload_n 0, 1) := by decide +kernel
theorem dL_act_191 : decode cL_act 191 = .ok (.invokevirtual 76, 3) := by decide +kernel
theorem dL_act_194 : decode cL_act 194 = .ok (.ireturn, 1) := by decide +kernel
theorem dL_act_195 : decode cL_act 195 = .ok (.aload_n 0, 1) := by decide +kernel
theorem dL_act_196 : decode cL_act 196 = .ok (.iload_n 1, 1) := by decide +kernel
theorem dL_act_197 : decode cL_act 197 = .ok (.iconst 4, 1) := by decide +kernel
theorem dL_act_198 : decode cL_act 198 = .ok (.ishr, 1) := by decide +kernel
theorem dL_act_199 : decode cL_act 199 = .ok (.iconst 3, 1) := by decide +kernel
theorem dL_act_200 : decode cL_act 200 = .ok (.invokestatic 57, 3) := by decide +kernel
theorem dL_act_203 : decode cL_act 203 = .ok (.iconst 1, 1) := by decide +kernel
theorem dL_act_204 : decode cL_act 204 = .ok (.iload_n 2, 1) := by decide +kernel
