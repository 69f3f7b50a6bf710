theorem dX0_init_0 : decode cX0_init 0 = .ok (.aload_n 0, 1) := by decide +kernel
theorem dX0_init_1 : decode cX0_init 1 = .ok (.invokespecial 3, 3) := by decide +kernel
theorem dX0_init_4 : decode cX0_init 4 = .ok (.aload_n 0, 1) := by decide +kernel
theorem dX0_init_5 : decode cX0_init 5 = .ok (.iconst 4, 1) := by decide +kernel
theorem dX0_init_6 : decode cX0_init 6 = .ok (.anewarray 9, 3) := by decide +kernel
theorem dX0_init_9 : decode cX0_init 9 = .ok (.putfield 11, 3) := by decide +kernel
theorem dX0_init_12 : decode cX0_init 12 = .ok (.aload_n 0, 1) := by decide +kernel
theorem dX0_init_13 : decode cX0_init 13 = .ok (.iconst 0, 1) := by decide +kernel
theorem dX0_init_14 : decode cX0_init 14 = .ok (.putfield 17, 3) := by decide +kernel
theorem dX0_init_17 : decode cX0_init 17 = .ok (.iconst 0, 1) := by decide +kernel
theorem dX0_init_18 : decode cX0_init 18 = .ok (.istore_n 1, 1) := by decide +kernel
theorem dX0_init_19 : decode cX0_init 19 = .ok (.iload_n 1, 1) := by decide +kernel
theorem dX0_init_20 : decode cX0_init 20 = .ok (.iconst 4, 1) := by decide +kernel
theorem dX0_init_21 : decode cX0_init 21 = .ok (.if_icmp .ge 22, 3) := by decide +kernel
theorem dX0_init_24 : decode cX0_init 24 = .ok (.aload_n 0, 1) := by decide +kernel
theorem dX0_init_25 : decode cX0_init 25 = .ok (.getfield 11, 3) := by decide +kernel
theorem dX0_init_28 : decode cX0_init 28 = .ok (.iload_n 1, 1) := by decide +kernel
theorem dX0_init_29 : decode cX0_init 29 = .ok (.new 9, 3) := by decide +kernel
theorem dX0_init_32 : decode cX0_init 32 = .ok (.dup, 1) := by decide +kernel
theorem dX0_init_33 : decode cX0_init 33 = .ok (.invokespecial 21, 3) := by decide +kernel
theorem dX0_init_36 : decode cX0_init 36 = .ok (.aastore, 1) := by decide +kernel
theorem dX0_init_37 : decode cX0_init 37 = .ok (.iinc 1 1, 3) := by decide +kernel
theorem dX0_init_40 : decode cX0_init 40 = .ok (.goto (-21), 3) := by decide +kernel
theorem dX0_init_43 : decode cX0_init 43 = .ok (.return_, 1) := by decide +kernel
theorem dX0_size_0 : decode cX0_size 0 = .ok (.aload_n 0, 1) := by decide +kernel
theorem dX0_size_1 : decode cX0_size 1 = .ok (.getfield 17, 3) := by decide +kernel
theorem dX0_size_4 : decode cX0_size 4 = .ok (.ireturn, 1) := by decide +kernel
theorem dX0_record_0 : decode cX0_record 0 = .ok (.aload_n 0, 1) := by decide +kernel
theorem dX0_record_1 : decode cX0_record 1 = .ok (.getfield 17, 3) := by decide +kernel
theorem dX0_record_4 : decode cX0_record 4 = .ok (.iconst 4, 1) := by decide +kernel
theorem dX0_record_5 : decode cX0_record 5 = .ok (.if_icmp .lt 7, 3) := by decide +kernel
theorem dX0_record_8 : decode cX0_record 8 = .ok (.aload_n 0, 1) := by decide +kernel
theorem dX0_record_9 : decode cX0_record 9 = .ok (.invokevirtual 22, 3) := by decide +kernel
theorem dX0_record_12 : decode cX0_record 12 = .ok (.aload_n 0, 1) := by decide +kernel
theorem dX0_record_13 : decode cX0_record 13 = .ok (.getfield 17, 3) := by decide +kernel
theorem dX0_record_16 : decode cX0_record 16 = .ok (.iconst 0, 1) := by decide +kernel
theorem dX0_record_17 : decode cX0_record 17 = .ok (.iconst 3, 1) := by decide +kernel
theorem dX0_record_18 : decode cX0_record 18 = .ok (.invokestatic 25, 3) := by decide +kernel
theorem dX0_record_21 : decode cX0_record 21 = .ok (.ifCond .eq 38, 3) := by decide +kernel
theorem dX0_record_24 : decode cX0_record 24 = .ok (.aload_n 0, 1) := by decide +kernel
theorem dX0_record_25 : decode cX0_record 25 = .ok (.getfield 11, 3) := by decide +kernel
theorem dX0_record_28 : decode cX0_record 28 = .ok (.aload_n 0, 1) := by decide +kernel
theorem dX0_record_29 : decode cX0_record 29 = .ok (.getfield 17, 3) := by decide +kernel
theorem dX0_record_32 : decode cX0_record 32 = .ok (.aaload, 1) := by decide +kernel
theorem dX0_record_33 : decode cX0_record 33 = .ok (.ifnull 26, 3) := by decide +kernel
theorem dX0_record_36 : decode cX0_record 36 = .ok (.aload_n 0, 1) := by decide +kernel
theorem dX0_record_37 : decode cX0_record 37 = .ok (.getfield 11, 3) := by decide +kernel
theorem dX0_record_40 : decode cX0_record 40 = .ok (.aload_n 0, 1) := by decide +kernel
theorem dX0_record_41 : decode cX0_record 41 = .ok (.getfield 17, 3) := by decide +kernel
theorem dX0_record_44 : decode cX0_record 44 = .ok (.aaload, 1) := by decide +kernel
theorem dX0_record_45 : decode cX0_record 45 = .ok (.aload_n 1, 1) := by decide +kernel
theorem dX0_record_46 : decode cX0_record 46 = .ok (.invokevirtual 29, 3) := by decide +kernel
theorem dX0_record_49 : decode cX0_record 49 = .ok (.aload_n 0, 1) := by decide +kernel
theorem dX0_record_50 : decode cX0_record 50 = .ok (.dup, 1) := by decide +kernel
theorem dX0_record_51 : decode cX0_record 51 = .ok (.getfield 17, 3) := by decide +kernel
theorem dX0_record_54 : decode cX0_record 54 = .ok (.iconst 1, 1) := by decide +kernel
theorem dX0_record_55 : decode cX0_record 55 = .ok (.iadd, 1) := by decide +kernel
theorem dX0_record_56 : decode cX0_record 56 = .ok (.putfield 17, 3) := by decide +kernel
theorem dX0_record_59 : decode cX0_record 59 = .ok (.return_, 1) := by decide +kernel
theorem dX0_dropOldest_0 : decode cX0_dropOldest 0 = .ok (.aload_n 0, 1) := by decide +kernel
theorem dX0_dropOldest_1 : decode cX0_dropOldest 1 = .ok (.getfield 11, 3) := by decide +kernel
theorem dX0_dropOldest_4 : decode cX0_dropOldest 4 = .ok (.iconst 0, 1) := by decide +kernel
theorem dX0_dropOldest_5 : decode cX0_dropOldest 5 = .ok (.aaload, 1) := by decide +kernel
theorem dX0_dropOldest_6 : decode cX0_dropOldest 6 = .ok (.astore_n 1, 1) := by decide +kernel
theorem dX0_dropOldest_7 : decode cX0_dropOldest 7 = .ok (.iconst 1, 1) := by decide +kernel
theorem dX0_dropOldest_8 : decode cX0_dropOldest 8 = .ok (.istore_n 2, 1) := by decide +kernel
theorem dX0_dropOldest_9 : decode cX0_dropOldest 9 = .ok (.iload_n 2, 1) := by decide +kernel
theorem dX0_dropOldest_10 : decode cX0_dropOldest 10 = .ok (.iconst 4, 1) := by decide +kernel
theorem dX0_dropOldest_11 : decode cX0_dropOldest 11 = .ok (.if_icmp .ge 23, 3) := by decide +kernel
theorem dX0_dropOldest_14 : decode cX0_dropOldest 14 = .ok (.aload_n 0, 1) := by decide +kernel
theorem dX0_dropOldest_15 : decode cX0_dropOldest 15 = .ok (.getfield 11, 3) := by decide +kernel
theorem dX0_dropOldest_18 : decode cX0_dropOldest 18 = .ok (.iload_n 2, 1) := by decide +kernel
theorem dX0_dropOldest_19 : decode cX0_dropOldest 19 = .ok (.iconst 1, 1) := by decide +kernel
theorem dX0_dropOldest_20 : decode cX0_dropOldest 20 = .ok (.isub, 1) := by decide +kernel
theorem dX0_dropOldest_21 : decode cX0_dropOldest 21 = .ok (.aload_n 0, 1) := by decide +kernel
theorem dX0_dropOldest_22 : decode cX0_dropOldest 22 = .ok (.getfield 11, 3) := by decide +kernel
theorem dX0_dropOldest_25 : decode cX0_dropOldest 25 = .ok (.iload_n 2, 1) := by decide +kernel
theorem dX0_dropOldest_26 : decode cX0_dropOldest 26 = .ok (.aaload, 1) := by decide +kernel
theorem dX0_dropOldest_27 : decode cX0_dropOldest 27 = .ok (.aastore, 1) := by decide +kernel
theorem dX0_dropOldest_28 : decode cX0_dropOldest 28 = .ok (.iinc 2 1, 3) := by decide +kernel
theorem dX0_dropOldest_31 : decode cX0_dropOldest 31 = .ok (.goto (-22), 3) := by decide +kernel
theorem dX0_dropOldest_34 : decode cX0_dropOldest 34 = .ok (.aload_n 0, 1) := by decide +kernel
theorem dX0_dropOldest_35 : decode cX0_dropOldest 35 = .ok (.getfield 11, 3) := by decide +kernel
theorem dX0_dropOldest_38 : decode cX0_dropOldest 38 = .ok (.iconst 3, 1) := by decide +kernel
theorem dX0_dropOldest_39 : decode cX0_dropOldest 39 = .ok (.aload_n 1, 1) := by decide +kernel
theorem dX0_dropOldest_40 : decode cX0_dropOldest 40 = .ok (.aastore, 1) := by decide +kernel
theorem dX0_dropOldest_41 : decode cX0_dropOldest 41 = .ok (.aload_n 0, 1) := by decide +kernel
theorem dX0_dropOldest_42 : decode cX0_dropOldest 42 = .ok (.iconst 3, 1) := by decide +kernel
theorem dX0_dropOldest_43 : decode cX0_dropOldest 43 = .ok (.putfield 17, 3) := by decide +kernel
theorem dX0_dropOldest_46 : decode cX0_dropOldest 46 = .ok (.return_, 1) := by decide +kernel
theorem dX0_takeBackInto_0 : decode cX0_takeBackInto 0 = .ok (.aload_n 0, 1) := by decide +kernel
theorem dX0_takeBackInto_1 : decode cX0_takeBackInto 1 = .ok (.getfield 17, 3) := by decide +kernel
theorem dX0_takeBackInto_4 : decode cX0_takeBackInto 4 = .ok (.iconst 1, 1) := by decide +kernel
theorem dX0_takeBackInto_5 : decode cX0_takeBackInto 5 = .ok (.iconst 4, 1) := by decide +kernel
theorem dX0_takeBackInto_6 : decode cX0_takeBackInto 6 = .ok (.invokestatic 25, 3) := by decide +kernel
theorem dX0_takeBackInto_9 : decode cX0_takeBackInto 9 = .ok (.ifCond .eq 40, 3) := by decide +kernel
theorem dX0_takeBackInto_12 : decode cX0_takeBackInto 12 = .ok (.aload_n 0, 1) := by decide +kernel
theorem dX0_takeBackInto_13 : decode cX0_takeBackInto 13 = .ok (.getfield 11, 3) := by decide +kernel
theorem dX0_takeBackInto_16 : decode cX0_takeBackInto 16 = .ok (.aload_n 0, 1) := by decide +kernel
theorem dX0_takeBackInto_17 : decode cX0_takeBackInto 17 = .ok (.getfield 17, 3) := by decide +kernel
theorem dX0_takeBackInto_20 : decode cX0_takeBackInto 20 = .ok (.iconst 1, 1) := by decide +kernel
theorem dX0_takeBackInto_21 : decode cX0_takeBackInto 21 = .ok (.isub, 1) := by decide +kernel
theorem dX0_takeBackInto_22 : decode cX0_takeBackInto 22 = .ok (.aaload, 1) := by decide +kernel
theorem dX0_takeBackInto_23 : decode cX0_takeBackInto 23 = .ok (.ifnull 26, 3) := by decide +kernel
theorem dX0_takeBackInto_26 : decode cX0_takeBackInto 26 = .ok (.aload_n 0, 1) := by decide +kernel
theorem dX0_takeBackInto_27 : decode cX0_takeBackInto 27 = .ok (.dup, 1) := by decide +kernel
theorem dX0_takeBackInto_28 : decode cX0_takeBackInto 28 = .ok (.getfield 17, 3) := by decide +kernel
theorem dX0_takeBackInto_31 : decode cX0_takeBackInto 31 = .ok (.iconst 1, 1) := by decide +kernel
theorem dX0_takeBackInto_32 : decode cX0_takeBackInto 32 = .ok (.isub, 1) := by decide +kernel
theorem dX0_takeBackInto_33 : decode cX0_takeBackInto 33 = .ok (.putfield 17, 3) := by decide +kernel
theorem dX0_takeBackInto_36 : decode cX0_takeBackInto 36 = .ok (.aload_n 1, 1) := by decide +kernel
theorem dX0_takeBackInto_37 : decode cX0_takeBackInto 37 = .ok (.aload_n 0, 1) := by decide +kernel
theorem dX0_takeBackInto_38 : decode cX0_takeBackInto 38 = .ok (.getfield 11, 3) := by decide +kernel
theorem dX0_takeBackInto_41 : decode cX0_takeBackInto 41 = .ok (.aload_n 0, 1) := by decide +kernel
theorem dX0_takeBackInto_42 : decode cX0_takeBackInto 42 = .ok (.getfield 17, 3) := by decide +kernel
theorem dX0_takeBackInto_45 : decode cX0_takeBackInto 45 = .ok (.aaload, 1) := by decide +kernel
theorem dX0_takeBackInto_46 : decode cX0_takeBackInto 46 = .ok (.invokevirtual 29, 3) := by decide +kernel
theorem dX0_takeBackInto_49 : decode cX0_takeBackInto 49 = .ok (.aload_n 0, 1) := by decide +kernel
theorem dX0_takeBackInto_50 : decode cX0_takeBackInto 50 = .ok (.getfield 17, 3) := by decide +kernel
theorem dX0_takeBackInto_53 : decode cX0_takeBackInto 53 = .ok (.ireturn, 1) := by decide +kernel
theorem dX1_init_0 : decode cX1_init 0 = .ok (.aload_n 0, 1) := by decide +kernel
theorem dX1_init_1 : decode cX1_init 1 = .ok (.invokespecial 3, 3) := by decide +kernel
theorem dX1_init_4 : decode cX1_init 4 = .ok (.aload_n 0, 1) := by decide +kernel
theorem dX1_init_5 : decode cX1_init 5 = .ok (.bipush 40, 2) := by decide +kernel
theorem dX1_init_7 : decode cX1_init 7 = .ok (.newarray .int, 2) := by decide +kernel
theorem dX1_init_9 : decode cX1_init 9 = .ok (.putfield 9, 3) := by decide +kernel
theorem dX1_init_12 : decode cX1_init 12 = .ok (.aload_n 0, 1) := by decide +kernel
theorem dX1_init_13 : decode cX1_init 13 = .ok (.bipush 40, 2) := by decide +kernel
theorem dX1_init_15 : decode cX1_init 15 = .ok (.newarray .int, 2) := by decide +kernel
theorem dX1_init_17 : decode cX1_init 17 = .ok (.putfield 15, 3) := by decide +kernel
theorem dX1_init_20 : decode cX1_init 20 = .ok (.aload_n 0, 1) := by decide +kernel
theorem dX1_init_21 : decode cX1_init 21 = .ok (.bipush 40, 2) := by decide +kernel
theorem dX1_init_23 : decode cX1_init 23 = .ok (.newarray .int, 2) := by decide +kernel
theorem dX1_init_25 : decode cX1_init 25 = .ok (.putfield 18, 3) := by decide +kernel
theorem dX1_init_28 : decode cX1_init 28 = .ok (.aload_n 0, 1) := by decide +kernel
theorem dX1_init_29 : decode cX1_init 29 = .ok (.bipush 40, 2) := by decide +kernel
theorem dX1_init_31 : decode cX1_init 31 = .ok (.newarray .int, 2) := by decide +kernel
theorem dX1_init_33 : decode cX1_init 33 = .ok (.putfield 21, 3) := by decide +kernel
theorem dX1_init_36 : decode cX1_init 36 = .ok (.aload_n 0, 1) := by decide +kernel
theorem dX1_init_37 : decode cX1_init 37 = .ok (.bipush 40, 2) := by decide +kernel
theorem dX1_init_39 : decode cX1_init 39 = .ok (.newarray .int, 2) := by decide +kernel
theorem dX1_init_41 : decode cX1_init 41 = .ok (.putfield 24, 3) := by decide +kernel
theorem dX1_init_44 : decode cX1_init 44 = .ok (.aload_n 0, 1) := by decide +kernel
theorem dX1_init_45 : decode cX1_init 45 = .ok (.bipush 40, 2) := by decide +kernel
theorem dX1_init_47 : decode cX1_init 47 = .ok (.newarray .int, 2) := by decide +kernel
theorem dX1_init_49 : decode cX1_init 49 = .ok (.putfield 27, 3) := by decide +kernel
theorem dX1_init_52 : decode cX1_init 52 = .ok (.aload_n 0, 1) := by decide +kernel
theorem dX1_init_53 : decode cX1_init 53 = .ok (.bipush 40, 2) := by decide +kernel
theorem dX1_init_55 : decode cX1_init 55 = .ok (.newarray .int, 2) := by decide +kernel
theorem dX1_init_57 : decode cX1_init 57 = .ok (.putfield 30, 3) := by decide +kernel
theorem dX1_init_60 : decode cX1_init 60 = .ok (.aload_n 0, 1) := by decide +kernel
theorem dX1_init_61 : decode cX1_init 61 = .ok (.bipush 40, 2) := by decide +kernel
theorem dX1_init_63 : decode cX1_init 63 = .ok (.newarray .int, 2) := by decide +kernel
theorem dX1_init_65 : decode cX1_init 65 = .ok (.putfield 33, 3) := by decide +kernel
theorem dX1_init_68 : decode cX1_init 68 = .ok (.aload_n 0, 1) := by decide +kernel
theorem dX1_init_69 : decode cX1_init 69 = .ok (.bipush 40, 2) := by decide +kernel
theorem dX1_init_71 : decode cX1_init 71 = .ok (.newarray .int, 2) := by decide +kernel
theorem dX1_init_73 : decode cX1_init 73 = .ok (.putfield 36, 3) := by decide +kernel
theorem dX1_init_76 : decode cX1_init 76 = .ok (.aload_n 0, 1) := by decide +kernel
theorem dX1_init_77 : decode cX1_init 77 = .ok (.bipush 40, 2) := by decide +kernel
theorem dX1_init_79 : decode cX1_init 79 = .ok (.newarray .int, 2) := by decide +kernel
theorem dX1_init_81 : decode cX1_init 81 = .ok (.putfield 39, 3) := by decide +kernel
theorem dX1_init_84 : decode cX1_init 84 = .ok (.aload_n 0, 1) := by decide +kernel
theorem dX1_init_85 : decode cX1_init 85 = .ok (.iconst 0, 1) := by decide +kernel
theorem dX1_init_86 : decode cX1_init 86 = .ok (.putfield 42, 3) := by decide +kernel
theorem dX1_init_89 : decode cX1_init 89 = .ok (.aload_n 0, 1) := by decide +kernel
theorem dX1_init_90 : decode cX1_init 90 = .ok (.iconst 0, 1) := by decide +kernel
theorem dX1_init_91 : decode cX1_init 91 = .ok (.putfield 46, 3) := by decide +kernel
theorem dX1_init_94 : decode cX1_init 94 = .ok (.return_, 1) := by decide +kernel
theorem dX1_judge_0 : decode cX1_judge 0 = .ok (.iconst 0, 1) := by decide +kernel
theorem dX1_judge_1 : decode cX1_judge 1 = .ok (.istore_n 2, 1) := by decide +kernel
theorem dX1_judge_2 : decode cX1_judge 2 = .ok (.iload_n 2, 1) := by decide +kernel
theorem dX1_judge_3 : decode cX1_judge 3 = .ok (.aload_n 1, 1) := by decide +kernel
theorem dX1_judge_4 : decode cX1_judge 4 = .ok (.getfield 49, 3) := by decide +kernel
theorem dX1_judge_7 : decode cX1_judge 7 = .ok (.invokevirtual 55, 3) := by decide +kernel
theorem dX1_judge_10 : decode cX1_judge 10 = .ok (.if_icmp .ge 15, 3) := by decide +kernel
theorem dX1_judge_13 : decode cX1_judge 13 = .ok (.aload_n 0, 1) := by decide +kernel
theorem dX1_judge_14 : decode cX1_judge 14 = .ok (.aload_n 1, 1) := by decide +kernel
theorem dX1_judge_15 : decode cX1_judge 15 = .ok (.iload_n 2, 1) := by decide +kernel
theorem dX1_judge_16 : decode cX1_judge 16 = .ok (.invokevirtual 61, 3) := by decide +kernel
theorem dX1_judge_19 : decode cX1_judge 19 = .ok (.iinc 2 1, 3) := by decide +kernel
theorem dX1_judge_22 : decode cX1_judge 22 = .ok (.goto (-20), 3) := by decide +kernel
theorem dX1_judge_25 : decode cX1_judge 25 = .ok (.aload_n 0, 1) := by decide +kernel
theorem dX1_judge_26 : decode cX1_judge 26 = .ok (.aload_n 1, 1) := by decide +kernel
theorem dX1_judge_27 : decode cX1_judge 27 = .ok (.getfield 49, 3) := by decide +kernel
theorem dX1_judge_30 : decode cX1_judge 30 = .ok (.invokevirtual 65, 3) := by decide +kernel
theorem dX1_judge_33 : decode cX1_judge 33 = .ok (.return_, 1) := by decide +kernel
theorem dX1_judgePerfect_0 : decode cX1_judgePerfect 0 = .ok (.aload_n 1, 1) := by decide +kernel
theorem dX1_judgePerfect_1 : decode cX1_judgePerfect 1 = .ok (.getfield 49, 3) := by decide +kernel
theorem dX1_judgePerfect_4 : decode cX1_judgePerfect 4 = .ok (.astore_n 2, 1) := by decide +kernel
theorem dX1_judgePerfect_5 : decode cX1_judgePerfect 5 = .ok (.iconst 0, 1) := by decide +kernel
theorem dX1_judgePerfect_6 : decode cX1_judgePerfect 6 = .ok (.istore_n 3, 1) := by decide +kernel
theorem dX1_judgePerfect_7 : decode cX1_judgePerfect 7 = .ok (.iload_n 3, 1) := by decide +kernel
theorem dX1_judgePerfect_8 : decode cX1_judgePerfect 8 = .ok (.aload_n 2, 1) := by decide +kernel
theorem dX1_judgePerfect_9 : decode cX1_judgePerfect 9 = .ok (.invokevirtual 55, 3) := by decide +kernel
theorem dX1_judgePerfect_12 : decode cX1_judgePerfect 12 = .ok (.if_icmp .ge 68, 3) := by decide +kernel
theorem dX1_judgePerfect_15 : decode cX1_judgePerfect 15 = .ok (.iload_n 3, 1) := by decide +kernel
theorem dX1_judgePerfect_16 : decode cX1_judgePerfect 16 = .ok (.bipush 40, 2) := by decide +kernel
theorem dX1_judgePerfect_18 : decode cX1_judgePerfect 18 = .ok (.if_icmp .ge 62, 3) := by decide +kernel
theorem dX1_judgePerfect_21 : decode cX1_judgePerfect 21 = .ok (.aload_n 0, 1) := by decide +kernel
theorem dX1_judgePerfect_22 : decode cX1_judgePerfect 22 = .ok (.getfield 9, 3) := by decide +kernel
theorem dX1_judgePerfect_25 : decode cX1_judgePerfect 25 = .ok (.iload_n 3, 1) := by decide +kernel
theorem dX1_judgePerfect_26 : decode cX1_judgePerfect 26 = .ok (.aload_n 2, 1) := by decide +kernel
theorem dX1_judgePerfect_27 : decode cX1_judgePerfect 27 = .ok (.iload_n 3, 1) := by decide +kernel
theorem dX1_judgePerfect_28 : decode cX1_judgePerfect 28 = .ok (.invokevirtual 69, 3) := by decide +kernel
theorem dX1_judgePerfect_31 : decode cX1_judgePerfect 31 = .ok (.iastore, 1) := by decide +kernel
theorem dX1_judgePerfect_32 : decode cX1_judgePerfect 32 = .ok (.aload_n 0, 1) := by decide +kernel
theorem dX1_judgePerfect_33 : decode cX1_judgePerfect 33 = .ok (.getfield 15, 3) := by decide +kernel
theorem dX1_judgePerfect_36 : decode cX1_judgePerfect 36 = .ok (.iload_n 3, 1) := by decide +kernel
theorem dX1_judgePerfect_37 : decode cX1_judgePerfect 37 = .ok (.bipush 100, 2) := by decide +kernel
theorem dX1_judgePerfect_39 : decode cX1_judgePerfect 39 = .ok (.iastore, 1) := by decide +kernel
theorem dX1_judgePerfect_40 : decode cX1_judgePerfect 40 = .ok (.aload_n 0, 1) := by decide +kernel
theorem dX1_judgePerfect_41 : decode cX1_judgePerfect 41 = .ok (.getfield 18, 3) := by decide +kernel
theorem dX1_judgePerfect_44 : decode cX1_judgePerfect 44 = .ok (.iload_n 3, 1) := by decide +kernel
theorem dX1_judgePerfect_45 : decode cX1_judgePerfect 45 = .ok (.aload_n 2, 1) := by decide +kernel
theorem dX1_judgePerfect_46 : decode cX1_judgePerfect 46 = .ok (.iload_n 3, 1) := by decide +kernel
theorem dX1_judgePerfect_47 : decode cX1_judgePerfect 47 = .ok (.aload_n 1, 1) := by decide +kernel
theorem dX1_judgePerfect_48 : decode cX1_judgePerfect 48 = .ok (.iconst 0, 1) := by decide +kernel
theorem dX1_judgePerfect_49 : decode cX1_judgePerfect 49 = .ok (.invokevirtual 73, 3) := by decide +kernel
theorem dX1_judgePerfect_52 : decode cX1_judgePerfect 52 = .ok (.invokevirtual 76, 3) := by decide +kernel
theorem dX1_judgePerfect_55 : decode cX1_judgePerfect 55 = .ok (.iastore, 1) := by decide +kernel
theorem dX1_judgePerfect_56 : decode cX1_judgePerfect 56 = .ok (.aload_n 0, 1) := by decide +kernel
theorem dX1_judgePerfect_57 : decode cX1_judgePerfect 57 = .ok (.getfield 21, 3) := by decide +kernel
theorem dX1_judgePerfect_60 : decode cX1_judgePerfect 60 = .ok (.iload_n 3, 1) := by decide +kernel
theorem dX1_judgePerfect_61 : decode cX1_judgePerfect 61 = .ok (.aload_n 2, 1) := by decide +kernel
theorem dX1_judgePerfect_62 : decode cX1_judgePerfect 62 = .ok (.iload_n 3, 1) := by decide +kernel
theorem dX1_judgePerfect_63 : decode cX1_judgePerfect 63 = .ok (.invokevirtual 80, 3) := by decide +kernel
theorem dX1_judgePerfect_66 : decode cX1_judgePerfect 66 = .ok (.iastore, 1) := by decide +kernel
theorem dX1_judgePerfect_67 : decode cX1_judgePerfect 67 = .ok (.aload_n 0, 1) := by decide +kernel
theorem dX1_judgePerfect_68 : decode cX1_judgePerfect 68 = .ok (.getfield 24, 3) := by decide +kernel
theorem dX1_judgePerfect_71 : decode cX1_judgePerfect 71 = .ok (.iload_n 3, 1) := by decide +kernel
theorem dX1_judgePerfect_72 : decode cX1_judgePerfect 72 = .ok (.iconst 0, 1) := by decide +kernel
theorem dX1_judgePerfect_73 : decode cX1_judgePerfect 73 = .ok (.iastore, 1) := by decide +kernel
theorem dX1_judgePerfect_74 : decode cX1_judgePerfect 74 = .ok (.iinc 3 1, 3) := by decide +kernel
theorem dX1_judgePerfect_77 : decode cX1_judgePerfect 77 = .ok (.goto (-70), 3) := by decide +kernel
theorem dX1_judgePerfect_80 : decode cX1_judgePerfect 80 = .ok (.aload_n 0, 1) := by decide +kernel
theorem dX1_judgePerfect_81 : decode cX1_judgePerfect 81 = .ok (.aload_n 2, 1) := by decide +kernel
theorem dX1_judgePerfect_82 : decode cX1_judgePerfect 82 = .ok (.invokevirtual 65, 3) := by decide +kernel
theorem dX1_judgePerfect_85 : decode cX1_judgePerfect 85 = .ok (.return_, 1) := by decide +kernel
theorem dX1_hear_0 : decode cX1_hear 0 = .ok (.iload_n 2, 1) := by decide +kernel
theorem dX1_hear_1 : decode cX1_hear 1 = .ok (.iconst 0, 1) := by decide +kernel
theorem dX1_hear_2 : decode cX1_hear 2 = .ok (.bipush 39, 2) := by decide +kernel
theorem dX1_hear_4 : decode cX1_hear 4 = .ok (.invokestatic 83, 3) := by decide +kernel
theorem dX1_hear_7 : decode cX1_hear 7 = .ok (.ifCond .ne 4, 3) := by decide +kernel
theorem dX1_hear_10 : decode cX1_hear 10 = .ok (.return_, 1) := by decide +kernel
theorem dX1_hear_11 : decode cX1_hear 11 = .ok (.aload_n 1, 1) := by decide +kernel
theorem dX1_hear_12 : decode cX1_hear 12 = .ok (.getfield 49, 3) := by decide +kernel
theorem dX1_hear_15 : decode cX1_hear 15 = .ok (.astore_n 3, 1) := by decide +kernel
theorem dX1_hear_16 : decode cX1_hear 16 = .ok (.aload_n 3, 1) := by decide +kernel
theorem dX1_hear_17 : decode cX1_hear 17 = .ok (.iload_n 2, 1) := by decide +kernel
theorem dX1_hear_18 : decode cX1_hear 18 = .ok (.invokevirtual 69, 3) := by decide +kernel
theorem dX1_hear_21 : decode cX1_hear 21 = .ok (.istore 4, 2) := by decide +kernel
theorem dX1_hear_23 : decode cX1_hear 23 = .ok (.aload_n 3, 1) := by decide +kernel
theorem dX1_hear_24 : decode cX1_hear 24 = .ok (.iload_n 2, 1) := by decide +kernel
theorem dX1_hear_25 : decode cX1_hear 25 = .ok (.invokevirtual 80, 3) := by decide +kernel
theorem dX1_hear_28 : decode cX1_hear 28 = .ok (.istore 5, 2) := by decide +kernel
theorem dX1_hear_30 : decode cX1_hear 30 = .ok (.aload_n 1, 1) := by decide +kernel
theorem dX1_hear_31 : decode cX1_hear 31 = .ok (.iconst 0, 1) := by decide +kernel
theorem dX1_hear_32 : decode cX1_hear 32 = .ok (.invokevirtual 73, 3) := by decide +kernel
theorem dX1_hear_35 : decode cX1_hear 35 = .ok (.istore 6, 2) := by decide +kernel
theorem dX1_hear_37 : decode cX1_hear 37 = .ok (.iconst 0, 1) := by decide +kernel
theorem dX1_hear_38 : decode cX1_hear 38 = .ok (.istore 7, 2) := by decide +kernel
theorem dX1_hear_40 : decode cX1_hear 40 = .ok (.iconst 0, 1) := by decide +kernel
theorem dX1_hear_41 : decode cX1_hear 41 = .ok (.istore 8, 2) := by decide +kernel
theorem dX1_hear_43 : decode cX1_hear 43 = .ok (.iconst 0, 1) := by decide +kernel
theorem dX1_hear_44 : decode cX1_hear 44 = .ok (.istore 9, 2) := by decide +kernel
theorem dX1_hear_46 : decode cX1_hear 46 = .ok (.iconst 0, 1) := by decide +kernel
theorem dX1_hear_47 : decode cX1_hear 47 = .ok (.istore 10, 2) := by decide +kernel
theorem dX1_hear_49 : decode cX1_hear 49 = .ok (.iconst 0, 1) := by decide +kernel
theorem dX1_hear_50 : decode cX1_hear 50 = .ok (.istore 11, 2) := by decide +kernel
theorem dX1_hear_52 : decode cX1_hear 52 = .ok (.iload 11, 2) := by decide +kernel
theorem dX1_hear_54 : decode cX1_hear 54 = .ok (.iload 4, 2) := by decide +kernel
theorem dX1_hear_56 : decode cX1_hear 56 = .ok (.if_icmp .ge 103, 3) := by decide +kernel
theorem dX1_hear_59 : decode cX1_hear 59 = .ok (.aload_n 1, 1) := by decide +kernel
theorem dX1_hear_60 : decode cX1_hear 60 = .ok (.iload 5, 2) := by decide +kernel
theorem dX1_hear_62 : decode cX1_hear 62 = .ok (.iload 11, 2) := by decide +kernel
theorem dX1_hear_64 : decode cX1_hear 64 = .ok (.iadd, 1) := by decide +kernel
theorem dX1_hear_65 : decode cX1_hear 65 = .ok (.invokevirtual 87, 3) := by decide +kernel
theorem dX1_hear_68 : decode cX1_hear 68 = .ok (.istore 12, 2) := by decide +kernel
theorem dX1_hear_70 : decode cX1_hear 70 = .ok (.aload_n 1, 1) := by decide +kernel
theorem dX1_hear_71 : decode cX1_hear 71 = .ok (.iload 12, 2) := by decide +kernel
theorem dX1_hear_73 : decode cX1_hear 73 = .ok (.aload_n 3, 1) := by decide +kernel
theorem dX1_hear_74 : decode cX1_hear 74 = .ok (.iload_n 2, 1) := by decide +kernel
theorem dX1_hear_75 : decode cX1_hear 75 = .ok (.iload 11, 2) := by decide +kernel
theorem dX1_hear_77 : decode cX1_hear 77 = .ok (.invokevirtual 90, 3) := by decide +kernel
theorem dX1_hear_80 : decode cX1_hear 80 = .ok (.invokevirtual 93, 3) := by decide +kernel
theorem dX1_hear_83 : decode cX1_hear 83 = .ok (.istore 13, 2) := by decide +kernel
theorem dX1_hear_85 : decode cX1_hear 85 = .ok (.iload 7, 2) := by decide +kernel
theorem dX1_hear_87 : decode cX1_hear 87 = .ok (.iload 12, 2) := by decide +kernel
theorem dX1_hear_89 : decode cX1_hear 89 = .ok (.iconst (-1), 1) := by decide +kernel
theorem dX1_hear_90 : decode cX1_hear 90 = .ok (.if_icmp .ne 7, 3) := by decide +kernel
theorem dX1_hear_93 : decode cX1_hear 93 = .ok (.iconst 0, 1) := by decide +kernel
theorem dX1_hear_94 : decode cX1_hear 94 = .ok (.goto 4, 3) := by decide +kernel
theorem dX1_hear_97 : decode cX1_hear 97 = .ok (.iconst 1, 1) := by decide +kernel
theorem dX1_hear_98 : decode cX1_hear 98 = .ok (.iadd, 1) := by decide +kernel
theorem dX1_hear_99 : decode cX1_hear 99 = .ok (.istore 7, 2) := by decide +kernel
theorem dX1_hear_101 : decode cX1_hear 101 = .ok (.iload 8, 2) := by decide +kernel
theorem dX1_hear_103 : decode cX1_hear 103 = .ok (.iload 13, 2) := by decide +kernel
theorem dX1_hear_105 : decode cX1_hear 105 = .ok (.ifCond .eq 7, 3) := by decide +kernel
theorem dX1_hear_108 : decode cX1_hear 108 = .ok (.iconst 1, 1) := by decide +kernel
theorem dX1_hear_109 : decode cX1_hear 109 = .ok (.goto 4, 3) := by decide +kernel
theorem dX1_hear_112 : decode cX1_hear 112 = .ok (.iconst 0, 1) := by decide +kernel
theorem dX1_hear_113 : decode cX1_hear 113 = .ok (.iadd, 1) := by decide +kernel
theorem dX1_hear_114 : decode cX1_hear 114 = .ok (.istore 8, 2) := by decide +kernel
theorem dX1_hear_116 : decode cX1_hear 116 = .ok (.iload 9, 2) := by decide +kernel
theorem dX1_hear_118 : decode cX1_hear 118 = .ok (.iload 13, 2) := by decide +kernel
theorem dX1_hear_120 : decode cX1_hear 120 = .ok (.ifCond .eq 25, 3) := by decide +kernel
theorem dX1_hear_123 : decode cX1_hear 123 = .ok (.iload 10, 2) := by decide +kernel
theorem dX1_hear_125 : decode cX1_hear 125 = .ok (.ifCond .eq 20, 3) := by decide +kernel
theorem dX1_hear_128 : decode cX1_hear 128 = .ok (.iload 5, 2) := by decide +kernel
theorem dX1_hear_130 : decode cX1_hear 130 = .ok (.iload 11, 2) := by decide +kernel
theorem dX1_hear_132 : decode cX1_hear 132 = .ok (.iadd, 1) := by decide +kernel
theorem dX1_hear_133 : decode cX1_hear 133 = .ok (.iload 6, 2) := by decide +kernel
theorem dX1_hear_135 : decode cX1_hear 135 = .ok (.invokestatic 97, 3) := by decide +kernel
theorem dX1_hear_138 : decode cX1_hear 138 = .ok (.ifCond .eq 7, 3) := by decide +kernel
theorem dX1_hear_141 : decode cX1_hear 141 = .ok (.iconst 1, 1) := by decide +kernel
theorem dX1_hear_142 : decode cX1_hear 142 = .ok (.goto 4, 3) := by decide +kernel
theorem dX1_hear_145 : decode cX1_hear 145 = .ok (.iconst 0, 1) := by decide +kernel
theorem dX1_hear_146 : decode cX1_hear 146 = .ok (.iadd, 1) := by decide +kernel
theorem dX1_hear_147 : decode cX1_hear 147 = .ok (.istore 9, 2) := by decide +kernel
theorem dX1_hear_149 : decode cX1_hear 149 = .ok (.iload 13, 2) := by decide +kernel
theorem dX1_hear_151 : decode cX1_hear 151 = .ok (.istore 10, 2) := by decide +kernel
theorem dX1_hear_153 : decode cX1_hear 153 = .ok (.iinc 11 1, 3) := by decide +kernel
theorem dX1_hear_156 : decode cX1_hear 156 = .ok (.goto (-104), 3) := by decide +kernel
theorem dX1_hear_159 : decode cX1_hear 159 = .ok (.aload_n 0, 1) := by decide +kernel
theorem dX1_hear_160 : decode cX1_hear 160 = .ok (.getfield 9, 3) := by decide +kernel
theorem dX1_hear_163 : decode cX1_hear 163 = .ok (.iload_n 2, 1) := by decide +kernel
theorem dX1_hear_164 : decode cX1_hear 164 = .ok (.iload 8, 2) := by decide +kernel
theorem dX1_hear_166 : decode cX1_hear 166 = .ok (.iastore, 1) := by decide +kernel
theorem dX1_hear_167 : decode cX1_hear 167 = .ok (.aload_n 0, 1) := by decide +kernel
theorem dX1_hear_168 : decode cX1_hear 168 = .ok (.getfield 15, 3) := by decide +kernel
theorem dX1_hear_171 : decode cX1_hear 171 = .ok (.iload_n 2, 1) := by decide +kernel
theorem dX1_hear_172 : decode cX1_hear 172 = .ok (.iload 4, 2) := by decide +kernel
theorem dX1_hear_174 : decode cX1_hear 174 = .ok (.iconst 1, 1) := by decide +kernel
theorem dX1_hear_175 : decode cX1_hear 175 = .ok (.if_icmp .ge 7, 3) := by decide +kernel
theorem dX1_hear_178 : decode cX1_hear 178 = .ok (.iconst 0, 1) := by decide +kernel
theorem dX1_hear_179 : decode cX1_hear 179 = .ok (.goto 11, 3) := by decide +kernel
theorem dX1_hear_182 : decode cX1_hear 182 = .ok (.iload 8, 2) := by decide +kernel
theorem dX1_hear_184 : decode cX1_hear 184 = .ok (.bipush 100, 2) := by decide +kernel
theorem dX1_hear_186 : decode cX1_hear 186 = .ok (.imul, 1) := by decide +kernel
theorem dX1_hear_187 : decode cX1_hear 187 = .ok (.iload 4, 2) := by decide +kernel
theorem dX1_hear_189 : decode cX1_hear 189 = .ok (.idiv, 1) := by decide +kernel
theorem dX1_hear_190 : decode cX1_hear 190 = .ok (.iastore, 1) := by decide +kernel
theorem dX1_hear_191 : decode cX1_hear 191 = .ok (.aload_n 0, 1) := by decide +kernel
theorem dX1_hear_192 : decode cX1_hear 192 = .ok (.getfield 18, 3) := by decide +kernel
theorem dX1_hear_195 : decode cX1_hear 195 = .ok (.iload_n 2, 1) := by decide +kernel
theorem dX1_hear_196 : decode cX1_hear 196 = .ok (.iload 9, 2) := by decide +kernel
theorem dX1_hear_198 : decode cX1_hear 198 = .ok (.iastore, 1) := by decide +kernel
theorem dX1_hear_199 : decode cX1_hear 199 = .ok (.aload_n 0, 1) := by decide +kernel
theorem dX1_hear_200 : decode cX1_hear 200 = .ok (.getfield 21, 3) := by decide +kernel
theorem dX1_hear_203 : decode cX1_hear 203 = .ok (.iload_n 2, 1) := by decide +kernel
theorem dX1_hear_204 : decode cX1_hear 204 = .ok (.aload_n 1, 1) := by decide +kernel
theorem dX1_hear_205 : decode cX1_hear 205 = .ok (.iload 5, 2) := by decide +kernel
theorem dX1_hear_207 : decode cX1_hear 207 = .ok (.invokevirtual 100, 3) := by decide +kernel
theorem dX1_hear_210 : decode cX1_hear 210 = .ok (.iastore, 1) := by decide +kernel
theorem dX1_hear_211 : decode cX1_hear 211 = .ok (.aload_n 0, 1) := by decide +kernel
theorem dX1_hear_212 : decode cX1_hear 212 = .ok (.getfield 24, 3) := by decide +kernel
theorem dX1_hear_215 : decode cX1_hear 215 = .ok (.iload_n 2, 1) := by decide +kernel
theorem dX1_hear_216 : decode cX1_hear 216 = .ok (.aload_n 0, 1) := by decide +kernel
theorem dX1_hear_217 : decode cX1_hear 217 = .ok (.iload_n 2, 1) := by decide +kernel
theorem dX1_hear_218 : decode cX1_hear 218 = .ok (.iload 7, 2) := by decide +kernel
theorem dX1_hear_220 : decode cX1_hear 220 = .ok (.aload_n 1, 1) := by decide +kernel
theorem dX1_hear_221 : decode cX1_hear 221 = .ok (.iconst 4, 1) := by decide +kernel
theorem dX1_hear_222 : decode cX1_hear 222 = .ok (.invokevirtual 73, 3) := by decide +kernel
theorem dX1_hear_225 : decode cX1_hear 225 = .ok (.invokevirtual 103, 3) := by decide +kernel
theorem dX1_hear_228 : decode cX1_hear 228 = .ok (.iastore, 1) := by decide +kernel
theorem dX1_hear_229 : decode cX1_hear 229 = .ok (.return_, 1) := by decide +kernel
theorem dX1_isBarLine_0 : decode cX1_isBarLine 0 = .ok (.iload_n 1, 1) := by decide +kernel
theorem dX1_isBarLine_1 : decode cX1_isBarLine 1 = .ok (.ifCond .le 17, 3) := by decide +kernel
theorem dX1_isBarLine_4 : decode cX1_isBarLine 4 = .ok (.iload_n 0, 1) := by decide +kernel
theorem dX1_isBarLine_5 : decode cX1_isBarLine 5 = .ok (.ifCond .le 13, 3) := by decide +kernel
theorem dX1_isBarLine_8 : decode cX1_isBarLine 8 = .ok (.iload_n 0, 1) := by decide +kernel
theorem dX1_isBarLine_9 : decode cX1_isBarLine 9 = .ok (.iload_n 1, 1) := by decide +kernel
theorem dX1_isBarLine_10 : decode cX1_isBarLine 10 = .ok (.irem, 1) := by decide +kernel
theorem dX1_isBarLine_11 : decode cX1_isBarLine 11 = .ok (.ifCond .ne 7, 3) := by decide +kernel
theorem dX1_isBarLine_14 : decode cX1_isBarLine 14 = .ok (.iconst 1, 1) := by decide +kernel
theorem dX1_isBarLine_15 : decode cX1_isBarLine 15 = .ok (.goto 4, 3) := by decide +kernel
theorem dX1_isBarLine_18 : decode cX1_isBarLine 18 = .ok (.iconst 0, 1) := by decide +kernel
theorem dX1_isBarLine_19 : decode cX1_isBarLine 19 = .ok (.ireturn, 1) := by decide +kernel
theorem dX1_reasonFor_0 : decode cX1_reasonFor 0 = .ok (.iload_n 2, 1) := by decide +kernel
theorem dX1_reasonFor_1 : decode cX1_reasonFor 1 = .ok (.ifCond .ne 5, 3) := by decide +kernel
theorem dX1_reasonFor_4 : decode cX1_reasonFor 4 = .ok (.iconst 1, 1) := by decide +kernel
theorem dX1_reasonFor_5 : decode cX1_reasonFor 5 = .ok (.ireturn, 1) := by decide +kernel
theorem dX1_reasonFor_6 : decode cX1_reasonFor 6 = .ok (.aload_n 0, 1) := by decide +kernel
theorem dX1_reasonFor_7 : decode cX1_reasonFor 7 = .ok (.iload_n 1, 1) := by decide +kernel
theorem dX1_reasonFor_8 : decode cX1_reasonFor 8 = .ok (.invokevirtual 107, 3) := by decide +kernel
theorem dX1_reasonFor_11 : decode cX1_reasonFor 11 = .ok (.ifCond .ne 5, 3) := by decide +kernel
theorem dX1_reasonFor_14 : decode cX1_reasonFor 14 = .ok (.iconst 2, 1) := by decide +kernel
theorem dX1_reasonFor_15 : decode cX1_reasonFor 15 = .ok (.ireturn, 1) := by decide +kernel
theorem dX1_reasonFor_16 : decode cX1_reasonFor 16 = .ok (.aload_n 0, 1) := by decide +kernel
theorem dX1_reasonFor_17 : decode cX1_reasonFor 17 = .ok (.iload_n 1, 1) := by decide +kernel
theorem dX1_reasonFor_18 : decode cX1_reasonFor 18 = .ok (.invokevirtual 110, 3) := by decide +kernel
theorem dX1_reasonFor_21 : decode cX1_reasonFor 21 = .ok (.bipush (-5), 2) := by decide +kernel
theorem dX1_reasonFor_23 : decode cX1_reasonFor 23 = .ok (.if_icmp .ne 5, 3) := by decide +kernel
theorem dX1_reasonFor_26 : decode cX1_reasonFor 26 = .ok (.iconst 3, 1) := by decide +kernel
theorem dX1_reasonFor_27 : decode cX1_reasonFor 27 = .ok (.ireturn, 1) := by decide +kernel
theorem dX1_reasonFor_28 : decode cX1_reasonFor 28 = .ok (.aload_n 0, 1) := by decide +kernel
theorem dX1_reasonFor_29 : decode cX1_reasonFor 29 = .ok (.iload_n 1, 1) := by decide +kernel
theorem dX1_reasonFor_30 : decode cX1_reasonFor 30 = .ok (.invokevirtual 113, 3) := by decide +kernel
theorem dX1_reasonFor_33 : decode cX1_reasonFor 33 = .ok (.iload_n 3, 1) := by decide +kernel
theorem dX1_reasonFor_34 : decode cX1_reasonFor 34 = .ok (.if_icmp .ge 7, 3) := by decide +kernel
theorem dX1_reasonFor_37 : decode cX1_reasonFor 37 = .ok (.iconst 4, 1) := by decide +kernel
theorem dX1_reasonFor_38 : decode cX1_reasonFor 38 = .ok (.goto 4, 3) := by decide +kernel
theorem dX1_reasonFor_41 : decode cX1_reasonFor 41 = .ok (.iconst 0, 1) := by decide +kernel
theorem dX1_reasonFor_42 : decode cX1_reasonFor 42 = .ok (.ireturn, 1) := by decide +kernel
theorem dX1_score_0 : decode cX1_score 0 = .ok (.aload_n 0, 1) := by decide +kernel
theorem dX1_score_1 : decode cX1_score 1 = .ok (.iconst 0, 1) := by decide +kernel
theorem dX1_score_2 : decode cX1_score 2 = .ok (.putfield 42, 3) := by decide +kernel
theorem dX1_score_5 : decode cX1_score 5 = .ok (.aload_n 0, 1) := by decide +kernel
theorem dX1_score_6 : decode cX1_score 6 = .ok (.iconst 0, 1) := by decide +kernel
theorem dX1_score_7 : decode cX1_score 7 = .ok (.putfield 46, 3) := by decide +kernel
theorem dX1_score_10 : decode cX1_score 10 = .ok (.iconst 0, 1) := by decide +kernel
theorem dX1_score_11 : decode cX1_score 11 = .ok (.istore_n 2, 1) := by decide +kernel
theorem dX1_score_12 : decode cX1_score 12 = .ok (.iconst 0, 1) := by decide +kernel
theorem dX1_score_13 : decode cX1_score 13 = .ok (.istore_n 3, 1) := by decide +kernel
theorem dX1_score_14 : decode cX1_score 14 = .ok (.iload_n 3, 1) := by decide +kernel
theorem dX1_score_15 : decode cX1_score 15 = .ok (.aload_n 1, 1) := by decide +kernel
theorem dX1_score_16 : decode cX1_score 16 = .ok (.invokevirtual 55, 3) := by decide +kernel
theorem dX1_score_19 : decode cX1_score 19 = .ok (.if_icmp .ge 149, 3) := by decide +kernel
theorem dX1_score_22 : decode cX1_score 22 = .ok (.iload_n 3, 1) := by decide +kernel
theorem dX1_score_23 : decode cX1_score 23 = .ok (.bipush 40, 2) := by decide +kernel
theorem dX1_score_25 : decode cX1_score 25 = .ok (.if_icmp .ge 143, 3) := by decide +kernel
theorem dX1_score_28 : decode cX1_score 28 = .ok (.aload_n 1, 1) := by decide +kernel
theorem dX1_score_29 : decode cX1_score 29 = .ok (.iload_n 3, 1) := by decide +kernel
theorem dX1_score_30 : decode cX1_score 30 = .ok (.invokevirtual 116, 3) := by decide +kernel
theorem dX1_score_33 : decode cX1_score 33 = .ok (.istore 4, 2) := by decide +kernel
theorem dX1_score_35 : decode cX1_score 35 = .ok (.iload 4, 2) := by decide +kernel
theorem dX1_score_37 : decode cX1_score 37 = .ok (.iconst 0, 1) := by decide +kernel
theorem dX1_score_38 : decode cX1_score 38 = .ok (.bipush 39, 2) := by decide +kernel
theorem dX1_score_40 : decode cX1_score 40 = .ok (.invokestatic 83, 3) := by decide +kernel
theorem dX1_score_43 : decode cX1_score 43 = .ok (.ifCond .ne 4, 3) := by decide +kernel
theorem dX1_score_46 : decode cX1_score 46 = .ok (.return_, 1) := by decide +kernel
theorem dX1_score_47 : decode cX1_score 47 = .ok (.aload_n 1, 1) := by decide +kernel
theorem dX1_score_48 : decode cX1_score 48 = .ok (.iload_n 3, 1) := by decide +kernel
theorem dX1_score_49 : decode cX1_score 49 = .ok (.invokevirtual 119, 3) := by decide +kernel
theorem dX1_score_52 : decode cX1_score 52 = .ok (.ifCond .eq 11, 3) := by decide +kernel
theorem dX1_score_55 : decode cX1_score 55 = .ok (.aload_n 0, 1) := by decide +kernel
theorem dX1_score_56 : decode cX1_score 56 = .ok (.iload 4, 2) := by decide +kernel
theorem dX1_score_58 : decode cX1_score 58 = .ok (.invokevirtual 123, 3) := by decide +kernel
theorem dX1_score_61 : decode cX1_score 61 = .ok (.iconst 0, 1) := by decide +kernel
theorem dX1_score_62 : decode cX1_score 62 = .ok (.istore_n 2, 1) := by decide +kernel
theorem dX1_score_63 : decode cX1_score 63 = .ok (.aload_n 0, 1) := by decide +kernel
theorem dX1_score_64 : decode cX1_score 64 = .ok (.getfield 27, 3) := by decide +kernel
theorem dX1_score_67 : decode cX1_score 67 = .ok (.iload_n 3, 1) := by decide +kernel
theorem dX1_score_68 : decode cX1_score 68 = .ok (.iload_n 2, 1) := by decide +kernel
theorem dX1_score_69 : decode cX1_score 69 = .ok (.bipush 10, 2) := by decide +kernel
theorem dX1_score_71 : decode cX1_score 71 = .ok (.invokestatic 127, 3) := by decide +kernel
theorem dX1_score_74 : decode cX1_score 74 = .ok (.iastore, 1) := by decide +kernel
theorem dX1_score_75 : decode cX1_score 75 = .ok (.aload_n 0, 1) := by decide +kernel
theorem dX1_score_76 : decode cX1_score 76 = .ok (.getfield 30, 3) := by decide +kernel
theorem dX1_score_79 : decode cX1_score 79 = .ok (.iload_n 3, 1) := by decide +kernel
theorem dX1_score_80 : decode cX1_score 80 = .ok (.aload_n 0, 1) := by decide +kernel
theorem dX1_score_81 : decode cX1_score 81 = .ok (.aload_n 1, 1) := by decide +kernel
theorem dX1_score_82 : decode cX1_score 82 = .ok (.iload_n 3, 1) := by decide +kernel
theorem dX1_score_83 : decode cX1_score 83 = .ok (.invokevirtual 132, 3) := by decide +kernel
theorem dX1_score_86 : decode cX1_score 86 = .ok (.iastore, 1) := by decide +kernel
theorem dX1_score_87 : decode cX1_score 87 = .ok (.aload_n 0, 1) := by decide +kernel
theorem dX1_score_88 : decode cX1_score 88 = .ok (.getfield 36, 3) := by decide +kernel
theorem dX1_score_91 : decode cX1_score 91 = .ok (.iload 4, 2) := by decide +kernel
theorem dX1_score_93 : decode cX1_score 93 = .ok (.dup2, 1) := by decide +kernel
theorem dX1_score_94 : decode cX1_score 94 = .ok (.iaload, 1) := by decide +kernel
theorem dX1_score_95 : decode cX1_score 95 = .ok (.aload_n 0, 1) := by decide +kernel
theorem dX1_score_96 : decode cX1_score 96 = .ok (.getfield 30, 3) := by decide +kernel
theorem dX1_score_99 : decode cX1_score 99 = .ok (.iload_n 3, 1) := by decide +kernel
theorem dX1_score_100 : decode cX1_score 100 = .ok (.iaload, 1) := by decide +kernel
theorem dX1_score_101 : decode cX1_score 101 = .ok (.iadd, 1) := by decide +kernel
theorem dX1_score_102 : decode cX1_score 102 = .ok (.iastore, 1) := by decide +kernel
theorem dX1_score_103 : decode cX1_score 103 = .ok (.aload_n 0, 1) := by decide +kernel
theorem dX1_score_104 : decode cX1_score 104 = .ok (.getfield 24, 3) := by decide +kernel
theorem dX1_score_107 : decode cX1_score 107 = .ok (.iload_n 3, 1) := by decide +kernel
theorem dX1_score_108 : decode cX1_score 108 = .ok (.iaload, 1) := by decide +kernel
theorem dX1_score_109 : decode cX1_score 109 = .ok (.ifCond .ne 9, 3) := by decide +kernel
theorem dX1_score_112 : decode cX1_score 112 = .ok (.iload_n 2, 1) := by decide +kernel
theorem dX1_score_113 : decode cX1_score 113 = .ok (.iconst 1, 1) := by decide +kernel
theorem dX1_score_114 : decode cX1_score 114 = .ok (.iadd, 1) := by decide +kernel
theorem dX1_score_115 : decode cX1_score 115 = .ok (.goto 4, 3) := by decide +kernel
theorem dX1_score_118 : decode cX1_score 118 = .ok (.iconst 0, 1) := by decide +kernel
theorem dX1_score_119 : decode cX1_score 119 = .ok (.istore_n 2, 1) := by decide +kernel
theorem dX1_score_120 : decode cX1_score 120 = .ok (.aload_n 0, 1) := by decide +kernel
theorem dX1_score_121 : decode cX1_score 121 = .ok (.getfield 33, 3) := by decide +kernel
theorem dX1_score_124 : decode cX1_score 124 = .ok (.iload 4, 2) := by decide +kernel
theorem dX1_score_126 : decode cX1_score 126 = .ok (.dup2, 1) := by decide +kernel
theorem dX1_score_127 : decode cX1_score 127 = .ok (.iaload, 1) := by decide +kernel
theorem dX1_score_128 : decode cX1_score 128 = .ok (.aload_n 0, 1) := by decide +kernel
theorem dX1_score_129 : decode cX1_score 129 = .ok (.getfield 24, 3) := by decide +kernel
theorem dX1_score_132 : decode cX1_score 132 = .ok (.iload_n 3, 1) := by decide +kernel
theorem dX1_score_133 : decode cX1_score 133 = .ok (.iaload, 1) := by decide +kernel
theorem dX1_score_134 : decode cX1_score 134 = .ok (.ifCond .ne 7, 3) := by decide +kernel
theorem dX1_score_137 : decode cX1_score 137 = .ok (.iconst 1, 1) := by decide +kernel
theorem dX1_score_138 : decode cX1_score 138 = .ok (.goto 4, 3) := by decide +kernel
theorem dX1_score_141 : decode cX1_score 141 = .ok (.iconst 0, 1) := by decide +kernel
theorem dX1_score_142 : decode cX1_score 142 = .ok (.iadd, 1) := by decide +kernel
theorem dX1_score_143 : decode cX1_score 143 = .ok (.iastore, 1) := by decide +kernel
theorem dX1_score_144 : decode cX1_score 144 = .ok (.aload_n 0, 1) := by decide +kernel
theorem dX1_score_145 : decode cX1_score 145 = .ok (.getfield 39, 3) := by decide +kernel
theorem dX1_score_148 : decode cX1_score 148 = .ok (.iload 4, 2) := by decide +kernel
theorem dX1_score_150 : decode cX1_score 150 = .ok (.aload_n 0, 1) := by decide +kernel
theorem dX1_score_151 : decode cX1_score 151 = .ok (.getfield 39, 3) := by decide +kernel
theorem dX1_score_154 : decode cX1_score 154 = .ok (.iload 4, 2) := by decide +kernel
theorem dX1_score_156 : decode cX1_score 156 = .ok (.iaload, 1) := by decide +kernel
theorem dX1_score_157 : decode cX1_score 157 = .ok (.iload_n 2, 1) := by decide +kernel
theorem dX1_score_158 : decode cX1_score 158 = .ok (.invokestatic 136, 3) := by decide +kernel
theorem dX1_score_161 : decode cX1_score 161 = .ok (.iastore, 1) := by decide +kernel
theorem dX1_score_162 : decode cX1_score 162 = .ok (.iinc 3 1, 3) := by decide +kernel
theorem dX1_score_165 : decode cX1_score 165 = .ok (.goto (-151), 3) := by decide +kernel
theorem dX1_score_168 : decode cX1_score 168 = .ok (.iconst 0, 1) := by decide +kernel
theorem dX1_score_169 : decode cX1_score 169 = .ok (.istore_n 3, 1) := by decide +kernel
theorem dX1_score_170 : decode cX1_score 170 = .ok (.iload_n 3, 1) := by decide +kernel
theorem dX1_score_171 : decode cX1_score 171 = .ok (.aload_n 1, 1) := by decide +kernel
theorem dX1_score_172 : decode cX1_score 172 = .ok (.invokevirtual 139, 3) := by decide +kernel
theorem dX1_score_175 : decode cX1_score 175 = .ok (.if_icmp .ge 68, 3) := by decide +kernel
theorem dX1_score_178 : decode cX1_score 178 = .ok (.iload_n 3, 1) := by decide +kernel
theorem dX1_score_179 : decode cX1_score 179 = .ok (.bipush 40, 2) := by decide +kernel
theorem dX1_score_181 : decode cX1_score 181 = .ok (.if_icmp .ge 62, 3) := by decide +kernel
theorem dX1_score_184 : decode cX1_score 184 = .ok (.aload_n 0, 1) := by decide +kernel
theorem dX1_score_185 : decode cX1_score 185 = .ok (.getfield 36, 3) := by decide +kernel
theorem dX1_score_188 : decode cX1_score 188 = .ok (.iload_n 3, 1) := by decide +kernel
theorem dX1_score_189 : decode cX1_score 189 = .ok (.dup2, 1) := by decide +kernel
theorem dX1_score_190 : decode cX1_score 190 = .ok (.iaload, 1) := by decide +kernel
theorem dX1_score_191 : decode cX1_score 191 = .ok (.aload_n 0, 1) := by decide +kernel
theorem dX1_score_192 : decode cX1_score 192 = .ok (.getfield 33, 3) := by decide +kernel
theorem dX1_score_195 : decode cX1_score 195 = .ok (.iload_n 3, 1) := by decide +kernel
theorem dX1_score_196 : decode cX1_score 196 = .ok (.iaload, 1) := by decide +kernel
theorem dX1_score_197 : decode cX1_score 197 = .ok (.aload_n 1, 1) := by decide +kernel
theorem dX1_score_198 : decode cX1_score 198 = .ok (.iload_n 3, 1) := by decide +kernel
theorem dX1_score_199 : decode cX1_score 199 = .ok (.invokevirtual 142, 3) := by decide +kernel
theorem dX1_score_202 : decode cX1_score 202 = .ok (.invokestatic 145, 3) := by decide +kernel
theorem dX1_score_205 : decode cX1_score 205 = .ok (.iadd, 1) := by decide +kernel
theorem dX1_score_206 : decode cX1_score 206 = .ok (.iastore, 1) := by decide +kernel
theorem dX1_score_207 : decode cX1_score 207 = .ok (.aload_n 0, 1) := by decide +kernel
theorem dX1_score_208 : decode cX1_score 208 = .ok (.dup, 1) := by decide +kernel
theorem dX1_score_209 : decode cX1_score 209 = .ok (.getfield 42, 3) := by decide +kernel
theorem dX1_score_212 : decode cX1_score 212 = .ok (.aload_n 0, 1) := by decide +kernel
theorem dX1_score_213 : decode cX1_score 213 = .ok (.getfield 33, 3) := by decide +kernel
theorem dX1_score_216 : decode cX1_score 216 = .ok (.iload_n 3, 1) := by decide +kernel
theorem dX1_score_217 : decode cX1_score 217 = .ok (.iaload, 1) := by decide +kernel
theorem dX1_score_218 : decode cX1_score 218 = .ok (.iadd, 1) := by decide +kernel
theorem dX1_score_219 : decode cX1_score 219 = .ok (.putfield 42, 3) := by decide +kernel
theorem dX1_score_222 : decode cX1_score 222 = .ok (.aload_n 0, 1) := by decide +kernel
theorem dX1_score_223 : decode cX1_score 223 = .ok (.dup, 1) := by decide +kernel
theorem dX1_score_224 : decode cX1_score 224 = .ok (.getfield 46, 3) := by decide +kernel
theorem dX1_score_227 : decode cX1_score 227 = .ok (.aload_n 0, 1) := by decide +kernel
theorem dX1_score_228 : decode cX1_score 228 = .ok (.getfield 36, 3) := by decide +kernel
theorem dX1_score_231 : decode cX1_score 231 = .ok (.iload_n 3, 1) := by decide +kernel
theorem dX1_score_232 : decode cX1_score 232 = .ok (.iaload, 1) := by decide +kernel
theorem dX1_score_233 : decode cX1_score 233 = .ok (.iadd, 1) := by decide +kernel
theorem dX1_score_234 : decode cX1_score 234 = .ok (.putfield 46, 3) := by decide +kernel
theorem dX1_score_237 : decode cX1_score 237 = .ok (.iinc 3 1, 3) := by decide +kernel
theorem dX1_score_240 : decode cX1_score 240 = .ok (.goto (-70), 3) := by decide +kernel
theorem dX1_score_243 : decode cX1_score 243 = .ok (.return_, 1) := by decide +kernel
theorem dX1_beginPhrase_0 : decode cX1_beginPhrase 0 = .ok (.iload_n 1, 1) := by decide +kernel
theorem dX1_beginPhrase_1 : decode cX1_beginPhrase 1 = .ok (.iconst 0, 1) := by decide +kernel
theorem dX1_beginPhrase_2 : decode cX1_beginPhrase 2 = .ok (.bipush 39, 2) := by decide +kernel
theorem dX1_beginPhrase_4 : decode cX1_beginPhrase 4 = .ok (.invokestatic 83, 3) := by decide +kernel
theorem dX1_beginPhrase_7 : decode cX1_beginPhrase 7 = .ok (.ifCond .eq 24, 3) := by decide +kernel
theorem dX1_beginPhrase_10 : decode cX1_beginPhrase 10 = .ok (.aload_n 0, 1) := by decide +kernel
theorem dX1_beginPhrase_11 : decode cX1_beginPhrase 11 = .ok (.getfield 33, 3) := by decide +kernel
theorem dX1_beginPhrase_14 : decode cX1_beginPhrase 14 = .ok (.iload_n 1, 1) := by decide +kernel
theorem dX1_beginPhrase_15 : decode cX1_beginPhrase 15 = .ok (.iconst 0, 1) := by decide +kernel
theorem dX1_beginPhrase_16 : decode cX1_beginPhrase 16 = .ok (.iastore, 1) := by decide +kernel
theorem dX1_beginPhrase_17 : decode cX1_beginPhrase 17 = .ok (.aload_n 0, 1) := by decide +kernel
theorem dX1_beginPhrase_18 : decode cX1_beginPhrase 18 = .ok (.getfield 36, 3) := by decide +kernel
theorem dX1_beginPhrase_21 : decode cX1_beginPhrase 21 = .ok (.iload_n 1, 1) := by decide +kernel
theorem dX1_beginPhrase_22 : decode cX1_beginPhrase 22 = .ok (.iconst 0, 1) := by decide +kernel
theorem dX1_beginPhrase_23 : decode cX1_beginPhrase 23 = .ok (.iastore, 1) := by decide +kernel
theorem dX1_beginPhrase_24 : decode cX1_beginPhrase 24 = .ok (.aload_n 0, 1) := by decide +kernel
theorem dX1_beginPhrase_25 : decode cX1_beginPhrase 25 = .ok (.getfield 39, 3) := by decide +kernel
theorem dX1_beginPhrase_28 : decode cX1_beginPhrase 28 = .ok (.iload_n 1, 1) := by decide +kernel
theorem dX1_beginPhrase_29 : decode cX1_beginPhrase 29 = .ok (.iconst 0, 1) := by decide +kernel
theorem dX1_beginPhrase_30 : decode cX1_beginPhrase 30 = .ok (.iastore, 1) := by decide +kernel
theorem dX1_beginPhrase_31 : decode cX1_beginPhrase 31 = .ok (.return_, 1) := by decide +kernel
theorem dX1_scoreOf_0 : decode cX1_scoreOf 0 = .ok (.iload_n 2, 1) := by decide +kernel
theorem dX1_scoreOf_1 : decode cX1_scoreOf 1 = .ok (.iconst 0, 1) := by decide +kernel
theorem dX1_scoreOf_2 : decode cX1_scoreOf 2 = .ok (.bipush 39, 2) := by decide +kernel
theorem dX1_scoreOf_4 : decode cX1_scoreOf 4 = .ok (.invokestatic 83, 3) := by decide +kernel
theorem dX1_scoreOf_7 : decode cX1_scoreOf 7 = .ok (.ifCond .eq 12, 3) := by decide +kernel
theorem dX1_scoreOf_10 : decode cX1_scoreOf 10 = .ok (.aload_n 0, 1) := by decide +kernel
theorem dX1_scoreOf_11 : decode cX1_scoreOf 11 = .ok (.getfield 24, 3) := by decide +kernel
theorem dX1_scoreOf_14 : decode cX1_scoreOf 14 = .ok (.iload_n 2, 1) := by decide +kernel
theorem dX1_scoreOf_15 : decode cX1_scoreOf 15 = .ok (.iaload, 1) := by decide +kernel
theorem dX1_scoreOf_16 : decode cX1_scoreOf 16 = .ok (.ifCond .eq 5, 3) := by decide +kernel
theorem dX1_scoreOf_19 : decode cX1_scoreOf 19 = .ok (.iconst 0, 1) := by decide +kernel
theorem dX1_scoreOf_20 : decode cX1_scoreOf 20 = .ok (.ireturn, 1) := by decide +kernel
theorem dX1_scoreOf_21 : decode cX1_scoreOf 21 = .ok (.aload_n 0, 1) := by decide +kernel
theorem dX1_scoreOf_22 : decode cX1_scoreOf 22 = .ok (.getfield 21, 3) := by decide +kernel
theorem dX1_scoreOf_25 : decode cX1_scoreOf 25 = .ok (.iload_n 2, 1) := by decide +kernel
theorem dX1_scoreOf_26 : decode cX1_scoreOf 26 = .ok (.iaload, 1) := by decide +kernel
theorem dX1_scoreOf_27 : decode cX1_scoreOf 27 = .ok (.aload_n 1, 1) := by decide +kernel
theorem dX1_scoreOf_28 : decode cX1_scoreOf 28 = .ok (.iload_n 2, 1) := by decide +kernel
theorem dX1_scoreOf_29 : decode cX1_scoreOf 29 = .ok (.invokevirtual 80, 3) := by decide +kernel
theorem dX1_scoreOf_32 : decode cX1_scoreOf 32 = .ok (.isub, 1) := by decide +kernel
theorem dX1_scoreOf_33 : decode cX1_scoreOf 33 = .ok (.invokestatic 148, 3) := by decide +kernel
theorem dX1_scoreOf_36 : decode cX1_scoreOf 36 = .ok (.istore_n 3, 1) := by decide +kernel
theorem dX1_scoreOf_37 : decode cX1_scoreOf 37 = .ok (.aload_n 0, 1) := by decide +kernel
theorem dX1_scoreOf_38 : decode cX1_scoreOf 38 = .ok (.getfield 15, 3) := by decide +kernel
theorem dX1_scoreOf_41 : decode cX1_scoreOf 41 = .ok (.iload_n 2, 1) := by decide +kernel
theorem dX1_scoreOf_42 : decode cX1_scoreOf 42 = .ok (.iaload, 1) := by decide +kernel
theorem dX1_scoreOf_43 : decode cX1_scoreOf 43 = .ok (.iconst 5, 1) := by decide +kernel
theorem dX1_scoreOf_44 : decode cX1_scoreOf 44 = .ok (.aload_n 0, 1) := by decide +kernel
theorem dX1_scoreOf_45 : decode cX1_scoreOf 45 = .ok (.getfield 18, 3) := by decide +kernel
theorem dX1_scoreOf_48 : decode cX1_scoreOf 48 = .ok (.iload_n 2, 1) := by decide +kernel
theorem dX1_scoreOf_49 : decode cX1_scoreOf 49 = .ok (.iaload, 1) := by decide +kernel
theorem dX1_scoreOf_50 : decode cX1_scoreOf 50 = .ok (.imul, 1) := by decide +kernel
theorem dX1_scoreOf_51 : decode cX1_scoreOf 51 = .ok (.iadd, 1) := by decide +kernel
theorem dX1_scoreOf_52 : decode cX1_scoreOf 52 = .ok (.iconst 2, 1) := by decide +kernel
theorem dX1_scoreOf_53 : decode cX1_scoreOf 53 = .ok (.iload_n 3, 1) := by decide +kernel
theorem dX1_scoreOf_54 : decode cX1_scoreOf 54 = .ok (.imul, 1) := by decide +kernel
theorem dX1_scoreOf_55 : decode cX1_scoreOf 55 = .ok (.isub, 1) := by decide +kernel
theorem dX1_scoreOf_56 : decode cX1_scoreOf 56 = .ok (.istore 4, 2) := by decide +kernel
theorem dX1_scoreOf_58 : decode cX1_scoreOf 58 = .ok (.iconst 0, 1) := by decide +kernel
theorem dX1_scoreOf_59 : decode cX1_scoreOf 59 = .ok (.iload 4, 2) := by decide +kernel
theorem dX1_scoreOf_61 : decode cX1_scoreOf 61 = .ok (.invokestatic 136, 3) := by decide +kernel
theorem dX1_scoreOf_64 : decode cX1_scoreOf 64 = .ok (.bipush 10, 2) := by decide +kernel
theorem dX1_scoreOf_66 : decode cX1_scoreOf 66 = .ok (.aload_n 0, 1) := by decide +kernel
theorem dX1_scoreOf_67 : decode cX1_scoreOf 67 = .ok (.getfield 27, 3) := by decide +kernel
theorem dX1_scoreOf_70 : decode cX1_scoreOf 70 = .ok (.iload_n 2, 1) := by decide +kernel
theorem dX1_scoreOf_71 : decode cX1_scoreOf 71 = .ok (.iaload, 1) := by decide +kernel
theorem dX1_scoreOf_72 : decode cX1_scoreOf 72 = .ok (.iadd, 1) := by decide +kernel
theorem dX1_scoreOf_73 : decode cX1_scoreOf 73 = .ok (.imul, 1) := by decide +kernel
theorem dX1_scoreOf_74 : decode cX1_scoreOf 74 = .ok (.bipush 10, 2) := by decide +kernel
theorem dX1_scoreOf_76 : decode cX1_scoreOf 76 = .ok (.idiv, 1) := by decide +kernel
theorem dX1_scoreOf_77 : decode cX1_scoreOf 77 = .ok (.ireturn, 1) := by decide +kernel
theorem dX1_extraOf_0 : decode cX1_extraOf 0 = .ok (.iload_n 1, 1) := by decide +kernel
theorem dX1_extraOf_1 : decode cX1_extraOf 1 = .ok (.iconst 2, 1) := by decide +kernel
theorem dX1_extraOf_2 : decode cX1_extraOf 2 = .ok (.if_icmp .lt 13, 3) := by decide +kernel
theorem dX1_extraOf_5 : decode cX1_extraOf 5 = .ok (.iload_n 0, 1) := by decide +kernel
theorem dX1_extraOf_6 : decode cX1_extraOf 6 = .ok (.iload_n 1, 1) := by decide +kernel
theorem dX1_extraOf_7 : decode cX1_extraOf 7 = .ok (.if_icmp .ne 8, 3) := by decide +kernel
theorem dX1_extraOf_10 : decode cX1_extraOf 10 = .ok (.bipush 50, 2) := by decide +kernel
theorem dX1_extraOf_12 : decode cX1_extraOf 12 = .ok (.goto 4, 3) := by decide +kernel
theorem dX1_extraOf_15 : decode cX1_extraOf 15 = .ok (.iconst 0, 1) := by decide +kernel
theorem dX1_extraOf_16 : decode cX1_extraOf 16 = .ok (.ireturn, 1) := by decide +kernel
theorem dX1_valueIn_0 : decode cX1_valueIn 0 = .ok (.iload_n 1, 1) := by decide +kernel
theorem dX1_valueIn_1 : decode cX1_valueIn 1 = .ok (.ifCond .lt 15, 3) := by decide +kernel
theorem dX1_valueIn_4 : decode cX1_valueIn 4 = .ok (.iload_n 1, 1) := by decide +kernel
theorem dX1_valueIn_5 : decode cX1_valueIn 5 = .ok (.aload_n 0, 1) := by decide +kernel
theorem dX1_valueIn_6 : decode cX1_valueIn 6 = .ok (.arraylength, 1) := by decide +kernel
theorem dX1_valueIn_7 : decode cX1_valueIn 7 = .ok (.if_icmp .ge 9, 3) := by decide +kernel
theorem dX1_valueIn_10 : decode cX1_valueIn 10 = .ok (.aload_n 0, 1) := by decide +kernel
theorem dX1_valueIn_11 : decode cX1_valueIn 11 = .ok (.iload_n 1, 1) := by decide +kernel
theorem dX1_valueIn_12 : decode cX1_valueIn 12 = .ok (.iaload, 1) := by decide +kernel
theorem dX1_valueIn_13 : decode cX1_valueIn 13 = .ok (.goto 4, 3) := by decide +kernel
theorem dX1_valueIn_16 : decode cX1_valueIn 16 = .ok (.iconst 0, 1) := by decide +kernel
theorem dX1_valueIn_17 : decode cX1_valueIn 17 = .ok (.ireturn, 1) := by decide +kernel
theorem dX1_matchesOf_0 : decode cX1_matchesOf 0 = .ok (.aload_n 0, 1) := by decide +kernel
theorem dX1_matchesOf_1 : decode cX1_matchesOf 1 = .ok (.getfield 9, 3) := by decide +kernel
theorem dX1_matchesOf_4 : decode cX1_matchesOf 4 = .ok (.iload_n 1, 1) := by decide +kernel
theorem dX1_matchesOf_5 : decode cX1_matchesOf 5 = .ok (.invokestatic 151, 3) := by decide +kernel
theorem dX1_matchesOf_8 : decode cX1_matchesOf 8 = .ok (.ireturn, 1) := by decide +kernel
theorem dX1_shareOf_0 : decode cX1_shareOf 0 = .ok (.aload_n 0, 1) := by decide +kernel
theorem dX1_shareOf_1 : decode cX1_shareOf 1 = .ok (.getfield 15, 3) := by decide +kernel
theorem dX1_shareOf_4 : decode cX1_shareOf 4 = .ok (.iload_n 1, 1) := by decide +kernel
theorem dX1_shareOf_5 : decode cX1_shareOf 5 = .ok (.invokestatic 151, 3) := by decide +kernel
theorem dX1_shareOf_8 : decode cX1_shareOf 8 = .ok (.ireturn, 1) := by decide +kernel
theorem dX1_onsetOf_0 : decode cX1_onsetOf 0 = .ok (.aload_n 0, 1) := by decide +kernel
theorem dX1_onsetOf_1 : decode cX1_onsetOf 1 = .ok (.getfield 21, 3) := by decide +kernel
theorem dX1_onsetOf_4 : decode cX1_onsetOf 4 = .ok (.iload_n 1, 1) := by decide +kernel
theorem dX1_onsetOf_5 : decode cX1_onsetOf 5 = .ok (.invokestatic 151, 3) := by decide +kernel
theorem dX1_onsetOf_8 : decode cX1_onsetOf 8 = .ok (.ireturn, 1) := by decide +kernel
theorem dX1_reasonOf_0 : decode cX1_reasonOf 0 = .ok (.aload_n 0, 1) := by decide +kernel
theorem dX1_reasonOf_1 : decode cX1_reasonOf 1 = .ok (.getfield 24, 3) := by decide +kernel
theorem dX1_reasonOf_4 : decode cX1_reasonOf 4 = .ok (.iload_n 1, 1) := by decide +kernel
theorem dX1_reasonOf_5 : decode cX1_reasonOf 5 = .ok (.invokestatic 151, 3) := by decide +kernel
theorem dX1_reasonOf_8 : decode cX1_reasonOf 8 = .ok (.ireturn, 1) := by decide +kernel
theorem dX1_pointsOf_0 : decode cX1_pointsOf 0 = .ok (.aload_n 0, 1) := by decide +kernel
theorem dX1_pointsOf_1 : decode cX1_pointsOf 1 = .ok (.getfield 30, 3) := by decide +kernel
theorem dX1_pointsOf_4 : decode cX1_pointsOf 4 = .ok (.iload_n 1, 1) := by decide +kernel
theorem dX1_pointsOf_5 : decode cX1_pointsOf 5 = .ok (.invokestatic 151, 3) := by decide +kernel
theorem dX1_pointsOf_8 : decode cX1_pointsOf 8 = .ok (.ireturn, 1) := by decide +kernel
theorem dX1_rowAheadOf_0 : decode cX1_rowAheadOf 0 = .ok (.aload_n 0, 1) := by decide +kernel
theorem dX1_rowAheadOf_1 : decode cX1_rowAheadOf 1 = .ok (.getfield 27, 3) := by decide +kernel
theorem dX1_rowAheadOf_4 : decode cX1_rowAheadOf 4 = .ok (.iload_n 1, 1) := by decide +kernel
theorem dX1_rowAheadOf_5 : decode cX1_rowAheadOf 5 = .ok (.invokestatic 151, 3) := by decide +kernel
theorem dX1_rowAheadOf_8 : decode cX1_rowAheadOf 8 = .ok (.ireturn, 1) := by decide +kernel
theorem dX1_phraseHitsOf_0 : decode cX1_phraseHitsOf 0 = .ok (.aload_n 0, 1) := by decide +kernel
theorem dX1_phraseHitsOf_1 : decode cX1_phraseHitsOf 1 = .ok (.getfield 33, 3) := by decide +kernel
theorem dX1_phraseHitsOf_4 : decode cX1_phraseHitsOf 4 = .ok (.iload_n 1, 1) := by decide +kernel
theorem dX1_phraseHitsOf_5 : decode cX1_phraseHitsOf 5 = .ok (.invokestatic 151, 3) := by decide +kernel
theorem dX1_phraseHitsOf_8 : decode cX1_phraseHitsOf 8 = .ok (.ireturn, 1) := by decide +kernel
theorem dX1_phrasePointsOf_0 : decode cX1_phrasePointsOf 0 = .ok (.aload_n 0, 1) := by decide +kernel
theorem dX1_phrasePointsOf_1 : decode cX1_phrasePointsOf 1 = .ok (.getfield 36, 3) := by decide +kernel
theorem dX1_phrasePointsOf_4 : decode cX1_phrasePointsOf 4 = .ok (.iload_n 1, 1) := by decide +kernel
theorem dX1_phrasePointsOf_5 : decode cX1_phrasePointsOf 5 = .ok (.invokestatic 151, 3) := by decide +kernel
theorem dX1_phrasePointsOf_8 : decode cX1_phrasePointsOf 8 = .ok (.ireturn, 1) := by decide +kernel
theorem dX1_longestRowOf_0 : decode cX1_longestRowOf 0 = .ok (.aload_n 0, 1) := by decide +kernel
theorem dX1_longestRowOf_1 : decode cX1_longestRowOf 1 = .ok (.getfield 39, 3) := by decide +kernel
theorem dX1_longestRowOf_4 : decode cX1_longestRowOf 4 = .ok (.iload_n 1, 1) := by decide +kernel
theorem dX1_longestRowOf_5 : decode cX1_longestRowOf 5 = .ok (.invokestatic 151, 3) := by decide +kernel
theorem dX1_longestRowOf_8 : decode cX1_longestRowOf 8 = .ok (.ireturn, 1) := by decide +kernel
theorem dX2_init_0 : decode cX2_init 0 = .ok (.aload_n 0, 1) := by decide +kernel
theorem dX2_init_1 : decode cX2_init 1 = .ok (.invokespecial 3, 3) := by decide +kernel
theorem dX2_init_4 : decode cX2_init 4 = .ok (.aload_n 0, 1) := by decide +kernel
theorem dX2_init_5 : decode cX2_init 5 = .ok (.iconst 0, 1) := by decide +kernel
theorem dX2_init_6 : decode cX2_init 6 = .ok (.putfield 9, 3) := by decide +kernel
theorem dX2_init_9 : decode cX2_init 9 = .ok (.aload_n 0, 1) := by decide +kernel
theorem dX2_init_10 : decode cX2_init 10 = .ok (.iconst 0, 1) := by decide +kernel
theorem dX2_init_11 : decode cX2_init 11 = .ok (.putfield 15, 3) := by decide +kernel
theorem dX2_init_14 : decode cX2_init 14 = .ok (.aload_n 0, 1) := by decide +kernel
theorem dX2_init_15 : decode cX2_init 15 = .ok (.iconst 0, 1) := by decide +kernel
theorem dX2_init_16 : decode cX2_init 16 = .ok (.putfield 19, 3) := by decide +kernel
theorem dX2_init_19 : decode cX2_init 19 = .ok (.return_, 1) := by decide +kernel
theorem dX3_init_0 : decode cX3_init 0 = .ok (.aload_n 0, 1) := by decide +kernel
theorem dX3_init_1 : decode cX3_init 1 = .ok (.invokespecial 3, 3) := by decide +kernel
theorem dX3_init_4 : decode cX3_init 4 = .ok (.aload_n 0, 1) := by decide +kernel
theorem dX3_init_5 : decode cX3_init 5 = .ok (.bipush 40, 2) := by decide +kernel
theorem dX3_init_7 : decode cX3_init 7 = .ok (.newarray .int, 2) := by decide +kernel
theorem dX3_init_9 : decode cX3_init 9 = .ok (.putfield 9, 3) := by decide +kernel
theorem dX3_init_12 : decode cX3_init 12 = .ok (.aload_n 0, 1) := by decide +kernel
theorem dX3_init_13 : decode cX3_init 13 = .ok (.bipush 40, 2) := by decide +kernel
theorem dX3_init_15 : decode cX3_init 15 = .ok (.newarray .int, 2) := by decide +kernel
theorem dX3_init_17 : decode cX3_init 17 = .ok (.putfield 15, 3) := by decide +kernel
theorem dX3_init_20 : decode cX3_init 20 = .ok (.aload_n 0, 1) := by decide +kernel
theorem dX3_init_21 : decode cX3_init 21 = .ok (.bipush 40, 2) := by decide +kernel
theorem dX3_init_23 : decode cX3_init 23 = .ok (.newarray .int, 2) := by decide +kernel
theorem dX3_init_25 : decode cX3_init 25 = .ok (.putfield 18, 3) := by decide +kernel
theorem dX3_init_28 : decode cX3_init 28 = .ok (.aload_n 0, 1) := by decide +kernel
theorem dX3_init_29 : decode cX3_init 29 = .ok (.bipush 40, 2) := by decide +kernel
theorem dX3_init_31 : decode cX3_init 31 = .ok (.newarray .int, 2) := by decide +kernel
theorem dX3_init_33 : decode cX3_init 33 = .ok (.putfield 21, 3) := by decide +kernel
theorem dX3_init_36 : decode cX3_init 36 = .ok (.aload_n 0, 1) := by decide +kernel
theorem dX3_init_37 : decode cX3_init 37 = .ok (.bipush 40, 2) := by decide +kernel
theorem dX3_init_39 : decode cX3_init 39 = .ok (.newarray .int, 2) := by decide +kernel
theorem dX3_init_41 : decode cX3_init 41 = .ok (.putfield 24, 3) := by decide +kernel
theorem dX3_init_44 : decode cX3_init 44 = .ok (.aload_n 0, 1) := by decide +kernel
theorem dX3_init_45 : decode cX3_init 45 = .ok (.iconst 0, 1) := by decide +kernel
theorem dX3_init_46 : decode cX3_init 46 = .ok (.putfield 27, 3) := by decide +kernel
theorem dX3_init_49 : decode cX3_init 49 = .ok (.return_, 1) := by decide +kernel
theorem dX3_size_0 : decode cX3_size 0 = .ok (.aload_n 0, 1) := by decide +kernel
theorem dX3_size_1 : decode cX3_size 1 = .ok (.getfield 27, 3) := by decide +kernel
theorem dX3_size_4 : decode cX3_size 4 = .ok (.ireturn, 1) := by decide +kernel
theorem dX3_has_0 : decode cX3_has 0 = .ok (.iload_n 1, 1) := by decide +kernel
theorem dX3_has_1 : decode cX3_has 1 = .ok (.ifCond .lt 21, 3) := by decide +kernel
theorem dX3_has_4 : decode cX3_has 4 = .ok (.iload_n 1, 1) := by decide +kernel
theorem dX3_has_5 : decode cX3_has 5 = .ok (.aload_n 0, 1) := by decide +kernel
theorem dX3_has_6 : decode cX3_has 6 = .ok (.getfield 27, 3) := by decide +kernel
theorem dX3_has_9 : decode cX3_has 9 = .ok (.if_icmp .ge 13, 3) := by decide +kernel
theorem dX3_has_12 : decode cX3_has 12 = .ok (.iload_n 1, 1) := by decide +kernel
theorem dX3_has_13 : decode cX3_has 13 = .ok (.bipush 40, 2) := by decide +kernel
theorem dX3_has_15 : decode cX3_has 15 = .ok (.if_icmp .ge 7, 3) := by decide +kernel
theorem dX3_has_18 : decode cX3_has 18 = .ok (.iconst 1, 1) := by decide +kernel
theorem dX3_has_19 : decode cX3_has 19 = .ok (.goto 4, 3) := by decide +kernel
theorem dX3_has_22 : decode cX3_has 22 = .ok (.iconst 0, 1) := by decide +kernel
theorem dX3_has_23 : decode cX3_has 23 = .ok (.ireturn, 1) := by decide +kernel
theorem dX3_beginningOf_0 : decode cX3_beginningOf 0 = .ok (.aload_n 0, 1) := by decide +kernel
theorem dX3_beginningOf_1 : decode cX3_beginningOf 1 = .ok (.iload_n 1, 1) := by decide +kernel
theorem dX3_beginningOf_2 : decode cX3_beginningOf 2 = .ok (.invokevirtual 31, 3) := by decide +kernel
theorem dX3_beginningOf_5 : decode cX3_beginningOf 5 = .ok (.ifCond .eq 12, 3) := by decide +kernel
theorem dX3_beginningOf_8 : decode cX3_beginningOf 8 = .ok (.aload_n 0, 1) := by decide +kernel
theorem dX3_beginningOf_9 : decode cX3_beginningOf 9 = .ok (.getfield 9, 3) := by decide +kernel
theorem dX3_beginningOf_12 : decode cX3_beginningOf 12 = .ok (.iload_n 1, 1) := by decide +kernel
theorem dX3_beginningOf_13 : decode cX3_beginningOf 13 = .ok (.iaload, 1) := by decide +kernel
theorem dX3_beginningOf_14 : decode cX3_beginningOf 14 = .ok (.goto 4, 3) := by decide +kernel
theorem dX3_beginningOf_17 : decode cX3_beginningOf 17 = .ok (.iconst 0, 1) := by decide +kernel
theorem dX3_beginningOf_18 : decode cX3_beginningOf 18 = .ok (.ireturn, 1) := by decide +kernel
theorem dX3_lengthOf_0 : decode cX3_lengthOf 0 = .ok (.aload_n 0, 1) := by decide +kernel
theorem dX3_lengthOf_1 : decode cX3_lengthOf 1 = .ok (.iload_n 1, 1) := by decide +kernel
theorem dX3_lengthOf_2 : decode cX3_lengthOf 2 = .ok (.invokevirtual 31, 3) := by decide +kernel
theorem dX3_lengthOf_5 : decode cX3_lengthOf 5 = .ok (.ifCond .eq 12, 3) := by decide +kernel
theorem dX3_lengthOf_8 : decode cX3_lengthOf 8 = .ok (.aload_n 0, 1) := by decide +kernel
theorem dX3_lengthOf_9 : decode cX3_lengthOf 9 = .ok (.getfield 15, 3) := by decide +kernel
theorem dX3_lengthOf_12 : decode cX3_lengthOf 12 = .ok (.iload_n 1, 1) := by decide +kernel
theorem dX3_lengthOf_13 : decode cX3_lengthOf 13 = .ok (.iaload, 1) := by decide +kernel
theorem dX3_lengthOf_14 : decode cX3_lengthOf 14 = .ok (.goto 4, 3) := by decide +kernel
theorem dX3_lengthOf_17 : decode cX3_lengthOf 17 = .ok (.iconst 0, 1) := by decide +kernel
theorem dX3_lengthOf_18 : decode cX3_lengthOf 18 = .ok (.ireturn, 1) := by decide +kernel
theorem dX3_pitchOf_0 : decode cX3_pitchOf 0 = .ok (.aload_n 0, 1) := by decide +kernel
theorem dX3_pitchOf_1 : decode cX3_pitchOf 1 = .ok (.iload_n 1, 1) := by decide +kernel
theorem dX3_pitchOf_2 : decode cX3_pitchOf 2 = .ok (.invokevirtual 31, 3) := by decide +kernel
theorem dX3_pitchOf_5 : decode cX3_pitchOf 5 = .ok (.ifCond .eq 12, 3) := by decide +kernel
theorem dX3_pitchOf_8 : decode cX3_pitchOf 8 = .ok (.aload_n 0, 1) := by decide +kernel
theorem dX3_pitchOf_9 : decode cX3_pitchOf 9 = .ok (.getfield 18, 3) := by decide +kernel
theorem dX3_pitchOf_12 : decode cX3_pitchOf 12 = .ok (.iload_n 1, 1) := by decide +kernel
theorem dX3_pitchOf_13 : decode cX3_pitchOf 13 = .ok (.iaload, 1) := by decide +kernel
theorem dX3_pitchOf_14 : decode cX3_pitchOf 14 = .ok (.goto 4, 3) := by decide +kernel
theorem dX3_pitchOf_17 : decode cX3_pitchOf 17 = .ok (.iconst 0, 1) := by decide +kernel
theorem dX3_pitchOf_18 : decode cX3_pitchOf 18 = .ok (.ireturn, 1) := by decide +kernel
theorem dX3_endPitchOf_0 : decode cX3_endPitchOf 0 = .ok (.aload_n 0, 1) := by decide +kernel
theorem dX3_endPitchOf_1 : decode cX3_endPitchOf 1 = .ok (.iload_n 1, 1) := by decide +kernel
theorem dX3_endPitchOf_2 : decode cX3_endPitchOf 2 = .ok (.invokevirtual 31, 3) := by decide +kernel
theorem dX3_endPitchOf_5 : decode cX3_endPitchOf 5 = .ok (.ifCond .eq 12, 3) := by decide +kernel
theorem dX3_endPitchOf_8 : decode cX3_endPitchOf 8 = .ok (.aload_n 0, 1) := by decide +kernel
theorem dX3_endPitchOf_9 : decode cX3_endPitchOf 9 = .ok (.getfield 21, 3) := by decide +kernel
theorem dX3_endPitchOf_12 : decode cX3_endPitchOf 12 = .ok (.iload_n 1, 1) := by decide +kernel
theorem dX3_endPitchOf_13 : decode cX3_endPitchOf 13 = .ok (.iaload, 1) := by decide +kernel
theorem dX3_endPitchOf_14 : decode cX3_endPitchOf 14 = .ok (.goto 4, 3) := by decide +kernel
theorem dX3_endPitchOf_17 : decode cX3_endPitchOf 17 = .ok (.iconst 0, 1) := by decide +kernel
theorem dX3_endPitchOf_18 : decode cX3_endPitchOf 18 = .ok (.ireturn, 1) := by decide +kernel
theorem dX3_phraseOf_0 : decode cX3_phraseOf 0 = .ok (.aload_n 0, 1) := by decide +kernel
theorem dX3_phraseOf_1 : decode cX3_phraseOf 1 = .ok (.iload_n 1, 1) := by decide +kernel
theorem dX3_phraseOf_2 : decode cX3_phraseOf 2 = .ok (.invokevirtual 31, 3) := by decide +kernel
theorem dX3_phraseOf_5 : decode cX3_phraseOf 5 = .ok (.ifCond .eq 12, 3) := by decide +kernel
theorem dX3_phraseOf_8 : decode cX3_phraseOf 8 = .ok (.aload_n 0, 1) := by decide +kernel
theorem dX3_phraseOf_9 : decode cX3_phraseOf 9 = .ok (.getfield 24, 3) := by decide +kernel
theorem dX3_phraseOf_12 : decode cX3_phraseOf 12 = .ok (.iload_n 1, 1) := by decide +kernel
theorem dX3_phraseOf_13 : decode cX3_phraseOf 13 = .ok (.iaload, 1) := by decide +kernel
theorem dX3_phraseOf_14 : decode cX3_phraseOf 14 = .ok (.goto 5, 3) := by decide +kernel
theorem dX3_phraseOf_17 : decode cX3_phraseOf 17 = .ok (.bipush (-5), 2) := by decide +kernel
theorem dX3_phraseOf_19 : decode cX3_phraseOf 19 = .ok (.ireturn, 1) := by decide +kernel
theorem dX3_ticks_0 : decode cX3_ticks 0 = .ok (.aload_n 0, 1) := by decide +kernel
theorem dX3_ticks_1 : decode cX3_ticks 1 = .ok (.aload_n 0, 1) := by decide +kernel
theorem dX3_ticks_2 : decode cX3_ticks 2 = .ok (.getfield 27, 3) := by decide +kernel
theorem dX3_ticks_5 : decode cX3_ticks 5 = .ok (.iconst 1, 1) := by decide +kernel
theorem dX3_ticks_6 : decode cX3_ticks 6 = .ok (.isub, 1) := by decide +kernel
theorem dX3_ticks_7 : decode cX3_ticks 7 = .ok (.invokevirtual 35, 3) := by decide +kernel
theorem dX3_ticks_10 : decode cX3_ticks 10 = .ok (.aload_n 0, 1) := by decide +kernel
theorem dX3_ticks_11 : decode cX3_ticks 11 = .ok (.aload_n 0, 1) := by decide +kernel
theorem dX3_ticks_12 : decode cX3_ticks 12 = .ok (.getfield 27, 3) := by decide +kernel
theorem dX3_ticks_15 : decode cX3_ticks 15 = .ok (.iconst 1, 1) := by decide +kernel
theorem dX3_ticks_16 : decode cX3_ticks 16 = .ok (.isub, 1) := by decide +kernel
theorem dX3_ticks_17 : decode cX3_ticks 17 = .ok (.invokevirtual 39, 3) := by decide +kernel
theorem dX3_ticks_20 : decode cX3_ticks 20 = .ok (.iadd, 1) := by decide +kernel
theorem dX3_ticks_21 : decode cX3_ticks 21 = .ok (.ireturn, 1) := by decide +kernel
theorem dX3_phraseCount_0 : decode cX3_phraseCount 0 = .ok (.aload_n 0, 1) := by decide +kernel
theorem dX3_phraseCount_1 : decode cX3_phraseCount 1 = .ok (.getfield 27, 3) := by decide +kernel
theorem dX3_phraseCount_4 : decode cX3_phraseCount 4 = .ok (.ifCond .ne 7, 3) := by decide +kernel
theorem dX3_phraseCount_7 : decode cX3_phraseCount 7 = .ok (.iconst 0, 1) := by decide +kernel
theorem dX3_phraseCount_8 : decode cX3_phraseCount 8 = .ok (.goto 15, 3) := by decide +kernel
theorem dX3_phraseCount_11 : decode cX3_phraseCount 11 = .ok (.aload_n 0, 1) := by decide +kernel
theorem dX3_phraseCount_12 : decode cX3_phraseCount 12 = .ok (.aload_n 0, 1) := by decide +kernel
theorem dX3_phraseCount_13 : decode cX3_phraseCount 13 = .ok (.getfield 27, 3) := by decide +kernel
theorem dX3_phraseCount_16 : decode cX3_phraseCount 16 = .ok (.iconst 1, 1) := by decide +kernel
theorem dX3_phraseCount_17 : decode cX3_phraseCount 17 = .ok (.isub, 1) := by decide +kernel
theorem dX3_phraseCount_18 : decode cX3_phraseCount 18 = .ok (.invokevirtual 42, 3) := by decide +kernel
theorem dX3_phraseCount_21 : decode cX3_phraseCount 21 = .ok (.iconst 1, 1) := by decide +kernel
theorem dX3_phraseCount_22 : decode cX3_phraseCount 22 = .ok (.iadd, 1) := by decide +kernel
theorem dX3_phraseCount_23 : decode cX3_phraseCount 23 = .ok (.ireturn, 1) := by decide +kernel
theorem dX3_firstOfPhrase_0 : decode cX3_firstOfPhrase 0 = .ok (.iconst 0, 1) := by decide +kernel
theorem dX3_firstOfPhrase_1 : decode cX3_firstOfPhrase 1 = .ok (.istore_n 2, 1) := by decide +kernel
theorem dX3_firstOfPhrase_2 : decode cX3_firstOfPhrase 2 = .ok (.iload_n 2, 1) := by decide +kernel
theorem dX3_firstOfPhrase_3 : decode cX3_firstOfPhrase 3 = .ok (.aload_n 0, 1) := by decide +kernel
theorem dX3_firstOfPhrase_4 : decode cX3_firstOfPhrase 4 = .ok (.getfield 27, 3) := by decide +kernel
theorem dX3_firstOfPhrase_7 : decode cX3_firstOfPhrase 7 = .ok (.if_icmp .ge 20, 3) := by decide +kernel
theorem dX3_firstOfPhrase_10 : decode cX3_firstOfPhrase 10 = .ok (.aload_n 0, 1) := by decide +kernel
theorem dX3_firstOfPhrase_11 : decode cX3_firstOfPhrase 11 = .ok (.iload_n 2, 1) := by decide +kernel
theorem dX3_firstOfPhrase_12 : decode cX3_firstOfPhrase 12 = .ok (.invokevirtual 42, 3) := by decide +kernel
theorem dX3_firstOfPhrase_15 : decode cX3_firstOfPhrase 15 = .ok (.iload_n 1, 1) := by decide +kernel
theorem dX3_firstOfPhrase_16 : decode cX3_firstOfPhrase 16 = .ok (.if_icmp .ne 5, 3) := by decide +kernel
theorem dX3_firstOfPhrase_19 : decode cX3_firstOfPhrase 19 = .ok (.iload_n 2, 1) := by decide +kernel
theorem dX3_firstOfPhrase_20 : decode cX3_firstOfPhrase 20 = .ok (.ireturn, 1) := by decide +kernel
theorem dX3_firstOfPhrase_21 : decode cX3_firstOfPhrase 21 = .ok (.iinc 2 1, 3) := by decide +kernel
theorem dX3_firstOfPhrase_24 : decode cX3_firstOfPhrase 24 = .ok (.goto (-22), 3) := by decide +kernel
theorem dX3_firstOfPhrase_27 : decode cX3_firstOfPhrase 27 = .ok (.bipush (-5), 2) := by decide +kernel
theorem dX3_firstOfPhrase_29 : decode cX3_firstOfPhrase 29 = .ok (.ireturn, 1) := by decide +kernel
theorem dX3_sizeOfPhrase_0 : decode cX3_sizeOfPhrase 0 = .ok (.iconst 0, 1) := by decide +kernel
theorem dX3_sizeOfPhrase_1 : decode cX3_sizeOfPhrase 1 = .ok (.istore_n 2, 1) := by decide +kernel
theorem dX3_sizeOfPhrase_2 : decode cX3_sizeOfPhrase 2 = .ok (.iconst 0, 1) := by decide +kernel
theorem dX3_sizeOfPhrase_3 : decode cX3_sizeOfPhrase 3 = .ok (.istore_n 3, 1) := by decide +kernel
theorem dX3_sizeOfPhrase_4 : decode cX3_sizeOfPhrase 4 = .ok (.iload_n 3, 1) := by decide +kernel
theorem dX3_sizeOfPhrase_5 : decode cX3_sizeOfPhrase 5 = .ok (.aload_n 0, 1) := by decide +kernel
theorem dX3_sizeOfPhrase_6 : decode cX3_sizeOfPhrase 6 = .ok (.getfield 27, 3) := by decide +kernel
theorem dX3_sizeOfPhrase_9 : decode cX3_sizeOfPhrase 9 = .ok (.if_icmp .ge 21, 3) := by decide +kernel
theorem dX3_sizeOfPhrase_12 : decode cX3_sizeOfPhrase 12 = .ok (.aload_n 0, 1) := by decide +kernel
theorem dX3_sizeOfPhrase_13 : decode cX3_sizeOfPhrase 13 = .ok (.iload_n 3, 1) := by decide +kernel
theorem dX3_sizeOfPhrase_14 : decode cX3_sizeOfPhrase 14 = .ok (.invokevirtual 42, 3) := by decide +kernel
theorem dX3_sizeOfPhrase_17 : decode cX3_sizeOfPhrase 17 = .ok (.iload_n 1, 1) := by decide +kernel
theorem dX3_sizeOfPhrase_18 : decode cX3_sizeOfPhrase 18 = .ok (.if_icmp .ne 6, 3) := by decide +kernel
theorem dX3_sizeOfPhrase_21 : decode cX3_sizeOfPhrase 21 = .ok (.iinc 2 1, 3) := by decide +kernel
theorem dX3_sizeOfPhrase_24 : decode cX3_sizeOfPhrase 24 = .ok (.iinc 3 1, 3) := by decide +kernel
theorem dX3_sizeOfPhrase_27 : decode cX3_sizeOfPhrase 27 = .ok (.goto (-23), 3) := by decide +kernel
theorem dX3_sizeOfPhrase_30 : decode cX3_sizeOfPhrase 30 = .ok (.iload_n 2, 1) := by decide +kernel
theorem dX3_sizeOfPhrase_31 : decode cX3_sizeOfPhrase 31 = .ok (.ireturn, 1) := by decide +kernel
theorem dX3_beginsPhrase_0 : decode cX3_beginsPhrase 0 = .ok (.iload_n 1, 1) := by decide +kernel
theorem dX3_beginsPhrase_1 : decode cX3_beginsPhrase 1 = .ok (.ifCond .eq 18, 3) := by decide +kernel
theorem dX3_beginsPhrase_4 : decode cX3_beginsPhrase 4 = .ok (.aload_n 0, 1) := by decide +kernel
theorem dX3_beginsPhrase_5 : decode cX3_beginsPhrase 5 = .ok (.iload_n 1, 1) := by decide +kernel
theorem dX3_beginsPhrase_6 : decode cX3_beginsPhrase 6 = .ok (.invokevirtual 42, 3) := by decide +kernel
theorem dX3_beginsPhrase_9 : decode cX3_beginsPhrase 9 = .ok (.aload_n 0, 1) := by decide +kernel
theorem dX3_beginsPhrase_10 : decode cX3_beginsPhrase 10 = .ok (.iload_n 1, 1) := by decide +kernel
theorem dX3_beginsPhrase_11 : decode cX3_beginsPhrase 11 = .ok (.iconst 1, 1) := by decide +kernel
theorem dX3_beginsPhrase_12 : decode cX3_beginsPhrase 12 = .ok (.isub, 1) := by decide +kernel
theorem dX3_beginsPhrase_13 : decode cX3_beginsPhrase 13 = .ok (.invokevirtual 42, 3) := by decide +kernel
theorem dX3_beginsPhrase_16 : decode cX3_beginsPhrase 16 = .ok (.if_icmp .eq 7, 3) := by decide +kernel
theorem dX3_beginsPhrase_19 : decode cX3_beginsPhrase 19 = .ok (.iconst 1, 1) := by decide +kernel
theorem dX3_beginsPhrase_20 : decode cX3_beginsPhrase 20 = .ok (.goto 4, 3) := by decide +kernel
theorem dX3_beginsPhrase_23 : decode cX3_beginsPhrase 23 = .ok (.iconst 0, 1) := by decide +kernel
theorem dX3_beginsPhrase_24 : decode cX3_beginsPhrase 24 = .ok (.ireturn, 1) := by decide +kernel
theorem dX3_wantedOf_0 : decode cX3_wantedOf 0 = .ok (.aload_n 0, 1) := by decide +kernel
theorem dX3_wantedOf_1 : decode cX3_wantedOf 1 = .ok (.iload_n 1, 1) := by decide +kernel
theorem dX3_wantedOf_2 : decode cX3_wantedOf 2 = .ok (.invokevirtual 39, 3) := by decide +kernel
theorem dX3_wantedOf_5 : decode cX3_wantedOf 5 = .ok (.iconst 1, 1) := by decide +kernel
theorem dX3_wantedOf_6 : decode cX3_wantedOf 6 = .ok (.isub, 1) := by decide +kernel
theorem dX3_wantedOf_7 : decode cX3_wantedOf 7 = .ok (.istore_n 3, 1) := by decide +kernel
theorem dX3_wantedOf_8 : decode cX3_wantedOf 8 = .ok (.aload_n 0, 1) := by decide +kernel
theorem dX3_wantedOf_9 : decode cX3_wantedOf 9 = .ok (.iload_n 1, 1) := by decide +kernel
theorem dX3_wantedOf_10 : decode cX3_wantedOf 10 = .ok (.invokevirtual 45, 3) := by decide +kernel
theorem dX3_wantedOf_13 : decode cX3_wantedOf 13 = .ok (.istore 4, 2) := by decide +kernel
theorem dX3_wantedOf_15 : decode cX3_wantedOf 15 = .ok (.iload_n 3, 1) := by decide +kernel
theorem dX3_wantedOf_16 : decode cX3_wantedOf 16 = .ok (.iconst 1, 1) := by decide +kernel
theorem dX3_wantedOf_17 : decode cX3_wantedOf 17 = .ok (.if_icmp .ge 6, 3) := by decide +kernel
theorem dX3_wantedOf_20 : decode cX3_wantedOf 20 = .ok (.iload 4, 2) := by decide +kernel
theorem dX3_wantedOf_22 : decode cX3_wantedOf 22 = .ok (.ireturn, 1) := by decide +kernel
theorem dX3_wantedOf_23 : decode cX3_wantedOf 23 = .ok (.iload 4, 2) := by decide +kernel
theorem dX3_wantedOf_25 : decode cX3_wantedOf 25 = .ok (.aload_n 0, 1) := by decide +kernel
theorem dX3_wantedOf_26 : decode cX3_wantedOf 26 = .ok (.iload_n 1, 1) := by decide +kernel
theorem dX3_wantedOf_27 : decode cX3_wantedOf 27 = .ok (.invokevirtual 48, 3) := by decide +kernel
theorem dX3_wantedOf_30 : decode cX3_wantedOf 30 = .ok (.iload 4, 2) := by decide +kernel
theorem dX3_wantedOf_32 : decode cX3_wantedOf 32 = .ok (.isub, 1) := by decide +kernel
theorem dX3_wantedOf_33 : decode cX3_wantedOf 33 = .ok (.iload_n 2, 1) := by decide +kernel
theorem dX3_wantedOf_34 : decode cX3_wantedOf 34 = .ok (.imul, 1) := by decide +kernel
theorem dX3_wantedOf_35 : decode cX3_wantedOf 35 = .ok (.iload_n 3, 1) := by decide +kernel
theorem dX3_wantedOf_36 : decode cX3_wantedOf 36 = .ok (.idiv, 1) := by decide +kernel
theorem dX3_wantedOf_37 : decode cX3_wantedOf 37 = .ok (.iadd, 1) := by decide +kernel
theorem dX3_wantedOf_38 : decode cX3_wantedOf 38 = .ok (.ireturn, 1) := by decide +kernel
theorem dX3_barLinesOf_0 : decode cX3_barLinesOf 0 = .ok (.iload_n 2, 1) := by decide +kernel
theorem dX3_barLinesOf_1 : decode cX3_barLinesOf 1 = .ok (.iconst 1, 1) := by decide +kernel
theorem dX3_barLinesOf_2 : decode cX3_barLinesOf 2 = .ok (.if_icmp .ge 5, 3) := by decide +kernel
theorem dX3_barLinesOf_5 : decode cX3_barLinesOf 5 = .ok (.iconst 0, 1) := by decide +kernel
theorem dX3_barLinesOf_6 : decode cX3_barLinesOf 6 = .ok (.ireturn, 1) := by decide +kernel
theorem dX3_barLinesOf_7 : decode cX3_barLinesOf 7 = .ok (.aload_n 0, 1) := by decide +kernel
theorem dX3_barLinesOf_8 : decode cX3_barLinesOf 8 = .ok (.iload_n 1, 1) := by decide +kernel
theorem dX3_barLinesOf_9 : decode cX3_barLinesOf 9 = .ok (.invokevirtual 35, 3) := by decide +kernel
theorem dX3_barLinesOf_12 : decode cX3_barLinesOf 12 = .ok (.istore_n 3, 1) := by decide +kernel
theorem dX3_barLinesOf_13 : decode cX3_barLinesOf 13 = .ok (.iload_n 3, 1) := by decide +kernel
theorem dX3_barLinesOf_14 : decode cX3_barLinesOf 14 = .ok (.aload_n 0, 1) := by decide +kernel
theorem dX3_barLinesOf_15 : decode cX3_barLinesOf 15 = .ok (.iload_n 1, 1) := by decide +kernel
theorem dX3_barLinesOf_16 : decode cX3_barLinesOf 16 = .ok (.invokevirtual 39, 3) := by decide +kernel
theorem dX3_barLinesOf_19 : decode cX3_barLinesOf 19 = .ok (.iadd, 1) := by decide +kernel
theorem dX3_barLinesOf_20 : decode cX3_barLinesOf 20 = .ok (.iconst 1, 1) := by decide +kernel
theorem dX3_barLinesOf_21 : decode cX3_barLinesOf 21 = .ok (.isub, 1) := by decide +kernel
theorem dX3_barLinesOf_22 : decode cX3_barLinesOf 22 = .ok (.istore 4, 2) := by decide +kernel
theorem dX3_barLinesOf_24 : decode cX3_barLinesOf 24 = .ok (.iload 4, 2) := by decide +kernel
theorem dX3_barLinesOf_26 : decode cX3_barLinesOf 26 = .ok (.iload_n 2, 1) := by decide +kernel
theorem dX3_barLinesOf_27 : decode cX3_barLinesOf 27 = .ok (.idiv, 1) := by decide +kernel
theorem dX3_barLinesOf_28 : decode cX3_barLinesOf 28 = .ok (.iload_n 3, 1) := by decide +kernel
theorem dX3_barLinesOf_29 : decode cX3_barLinesOf 29 = .ok (.iload_n 2, 1) := by decide +kernel
theorem dX3_barLinesOf_30 : decode cX3_barLinesOf 30 = .ok (.idiv, 1) := by decide +kernel
theorem dX3_barLinesOf_31 : decode cX3_barLinesOf 31 = .ok (.isub, 1) := by decide +kernel
theorem dX3_barLinesOf_32 : decode cX3_barLinesOf 32 = .ok (.ireturn, 1) := by decide +kernel
theorem dX3_hasRoomFor_0 : decode cX3_hasRoomFor 0 = .ok (.aload_n 0, 1) := by decide +kernel
theorem dX3_hasRoomFor_1 : decode cX3_hasRoomFor 1 = .ok (.getfield 27, 3) := by decide +kernel
theorem dX3_hasRoomFor_4 : decode cX3_hasRoomFor 4 = .ok (.bipush 40, 2) := by decide +kernel
theorem dX3_hasRoomFor_6 : decode cX3_hasRoomFor 6 = .ok (.if_icmp .ge 21, 3) := by decide +kernel
theorem dX3_hasRoomFor_9 : decode cX3_hasRoomFor 9 = .ok (.aload_n 0, 1) := by decide +kernel
theorem dX3_hasRoomFor_10 : decode cX3_hasRoomFor 10 = .ok (.invokevirtual 51, 3) := by decide +kernel
theorem dX3_hasRoomFor_13 : decode cX3_hasRoomFor 13 = .ok (.iload_n 1, 1) := by decide +kernel
theorem dX3_hasRoomFor_14 : decode cX3_hasRoomFor 14 = .ok (.iadd, 1) := by decide +kernel
theorem dX3_hasRoomFor_15 : decode cX3_hasRoomFor 15 = .ok (.iload_n 2, 1) := by decide +kernel
theorem dX3_hasRoomFor_16 : decode cX3_hasRoomFor 16 = .ok (.iadd, 1) := by decide +kernel
theorem dX3_hasRoomFor_17 : decode cX3_hasRoomFor 17 = .ok (.sipush 600, 3) := by decide +kernel
theorem dX3_hasRoomFor_20 : decode cX3_hasRoomFor 20 = .ok (.if_icmp .gt 7, 3) := by decide +kernel
theorem dX3_hasRoomFor_23 : decode cX3_hasRoomFor 23 = .ok (.iconst 1, 1) := by decide +kernel
theorem dX3_hasRoomFor_24 : decode cX3_hasRoomFor 24 = .ok (.goto 4, 3) := by decide +kernel
theorem dX3_hasRoomFor_27 : decode cX3_hasRoomFor 27 = .ok (.iconst 0, 1) := by decide +kernel
theorem dX3_hasRoomFor_28 : decode cX3_hasRoomFor 28 = .ok (.ireturn, 1) := by decide +kernel
theorem dX3_append_0 : decode cX3_append 0 = .ok (.aload_n 0, 1) := by decide +kernel
theorem dX3_append_1 : decode cX3_append 1 = .ok (.getfield 27, 3) := by decide +kernel
theorem dX3_append_4 : decode cX3_append 4 = .ok (.ifCond .lt 12, 3) := by decide +kernel
theorem dX3_append_7 : decode cX3_append 7 = .ok (.aload_n 0, 1) := by decide +kernel
theorem dX3_append_8 : decode cX3_append 8 = .ok (.getfield 27, 3) := by decide +kernel
theorem dX3_append_11 : decode cX3_append 11 = .ok (.bipush 40, 2) := by decide +kernel
theorem dX3_append_13 : decode cX3_append 13 = .ok (.if_icmp .lt 6, 3) := by decide +kernel
theorem dX3_append_16 : decode cX3_append 16 = .ok (.bipush (-3), 2) := by decide +kernel
theorem dX3_append_18 : decode cX3_append 18 = .ok (.ireturn, 1) := by decide +kernel
theorem dX3_append_19 : decode cX3_append 19 = .ok (.aload_n 0, 1) := by decide +kernel
theorem dX3_append_20 : decode cX3_append 20 = .ok (.invokevirtual 51, 3) := by decide +kernel
theorem dX3_append_23 : decode cX3_append 23 = .ok (.iload_n 1, 1) := by decide +kernel
theorem dX3_append_24 : decode cX3_append 24 = .ok (.iadd, 1) := by decide +kernel
theorem dX3_append_25 : decode cX3_append 25 = .ok (.istore 6, 2) := by decide +kernel
theorem dX3_append_27 : decode cX3_append 27 = .ok (.aload_n 0, 1) := by decide +kernel
theorem dX3_append_28 : decode cX3_append 28 = .ok (.getfield 27, 3) := by decide +kernel
theorem dX3_append_31 : decode cX3_append 31 = .ok (.ifCond .eq 8, 3) := by decide +kernel
theorem dX3_append_34 : decode cX3_append 34 = .ok (.iload 5, 2) := by decide +kernel
theorem dX3_append_36 : decode cX3_append 36 = .ok (.ifCond .eq 10, 3) := by decide +kernel
theorem dX3_append_39 : decode cX3_append 39 = .ok (.aload_n 0, 1) := by decide +kernel
theorem dX3_append_40 : decode cX3_append 40 = .ok (.invokevirtual 55, 3) := by decide +kernel
theorem dX3_append_43 : decode cX3_append 43 = .ok (.goto 9, 3) := by decide +kernel
theorem dX3_append_46 : decode cX3_append 46 = .ok (.aload_n 0, 1) := by decide +kernel
theorem dX3_append_47 : decode cX3_append 47 = .ok (.invokevirtual 55, 3) := by decide +kernel
theorem dX3_append_50 : decode cX3_append 50 = .ok (.iconst 1, 1) := by decide +kernel
theorem dX3_append_51 : decode cX3_append 51 = .ok (.isub, 1) := by decide +kernel
theorem dX3_append_52 : decode cX3_append 52 = .ok (.istore 7, 2) := by decide +kernel
theorem dX3_append_54 : decode cX3_append 54 = .ok (.aload_n 0, 1) := by decide +kernel
theorem dX3_append_55 : decode cX3_append 55 = .ok (.getfield 9, 3) := by decide +kernel
theorem dX3_append_58 : decode cX3_append 58 = .ok (.aload_n 0, 1) := by decide +kernel
theorem dX3_append_59 : decode cX3_append 59 = .ok (.getfield 27, 3) := by decide +kernel
theorem dX3_append_62 : decode cX3_append 62 = .ok (.iload 6, 2) := by decide +kernel
theorem dX3_append_64 : decode cX3_append 64 = .ok (.iastore, 1) := by decide +kernel
theorem dX3_append_65 : decode cX3_append 65 = .ok (.aload_n 0, 1) := by decide +kernel
theorem dX3_append_66 : decode cX3_append 66 = .ok (.getfield 15, 3) := by decide +kernel
theorem dX3_append_69 : decode cX3_append 69 = .ok (.aload_n 0, 1) := by decide +kernel
theorem dX3_append_70 : decode cX3_append 70 = .ok (.getfield 27, 3) := by decide +kernel
theorem dX3_append_73 : decode cX3_append 73 = .ok (.iload 4, 2) := by decide +kernel
theorem dX3_append_75 : decode cX3_append 75 = .ok (.iastore, 1) := by decide +kernel
theorem dX3_append_76 : decode cX3_append 76 = .ok (.aload_n 0, 1) := by decide +kernel
theorem dX3_append_77 : decode cX3_append 77 = .ok (.getfield 18, 3) := by decide +kernel
theorem dX3_append_80 : decode cX3_append 80 = .ok (.aload_n 0, 1) := by decide +kernel
theorem dX3_append_81 : decode cX3_append 81 = .ok (.getfield 27, 3) := by decide +kernel
theorem dX3_append_84 : decode cX3_append 84 = .ok (.iload_n 2, 1) := by decide +kernel
theorem dX3_append_85 : decode cX3_append 85 = .ok (.iastore, 1) := by decide +kernel
theorem dX3_append_86 : decode cX3_append 86 = .ok (.aload_n 0, 1) := by decide +kernel
theorem dX3_append_87 : decode cX3_append 87 = .ok (.getfield 21, 3) := by decide +kernel
theorem dX3_append_90 : decode cX3_append 90 = .ok (.aload_n 0, 1) := by decide +kernel
theorem dX3_append_91 : decode cX3_append 91 = .ok (.getfield 27, 3) := by decide +kernel
theorem dX3_append_94 : decode cX3_append 94 = .ok (.iload_n 3, 1) := by decide +kernel
theorem dX3_append_95 : decode cX3_append 95 = .ok (.iastore, 1) := by decide +kernel
theorem dX3_append_96 : decode cX3_append 96 = .ok (.aload_n 0, 1) := by decide +kernel
theorem dX3_append_97 : decode cX3_append 97 = .ok (.getfield 24, 3) := by decide +kernel
theorem dX3_append_100 : decode cX3_append 100 = .ok (.aload_n 0, 1) := by decide +kernel
theorem dX3_append_101 : decode cX3_append 101 = .ok (.getfield 27, 3) := by decide +kernel
theorem dX3_append_104 : decode cX3_append 104 = .ok (.iload 7, 2) := by decide +kernel
theorem dX3_append_106 : decode cX3_append 106 = .ok (.iastore, 1) := by decide +kernel
theorem dX3_append_107 : decode cX3_append 107 = .ok (.aload_n 0, 1) := by decide +kernel
theorem dX3_append_108 : decode cX3_append 108 = .ok (.dup, 1) := by decide +kernel
theorem dX3_append_109 : decode cX3_append 109 = .ok (.getfield 27, 3) := by decide +kernel
theorem dX3_append_112 : decode cX3_append 112 = .ok (.iconst 1, 1) := by decide +kernel
theorem dX3_append_113 : decode cX3_append 113 = .ok (.iadd, 1) := by decide +kernel
theorem dX3_append_114 : decode cX3_append 114 = .ok (.putfield 27, 3) := by decide +kernel
theorem dX3_append_117 : decode cX3_append 117 = .ok (.iload 6, 2) := by decide +kernel
theorem dX3_append_119 : decode cX3_append 119 = .ok (.ireturn, 1) := by decide +kernel
theorem dX3_removeLast_0 : decode cX3_removeLast 0 = .ok (.aload_n 0, 1) := by decide +kernel
theorem dX3_removeLast_1 : decode cX3_removeLast 1 = .ok (.getfield 27, 3) := by decide +kernel
theorem dX3_removeLast_4 : decode cX3_removeLast 4 = .ok (.ifCond .le 13, 3) := by decide +kernel
theorem dX3_removeLast_7 : decode cX3_removeLast 7 = .ok (.aload_n 0, 1) := by decide +kernel
theorem dX3_removeLast_8 : decode cX3_removeLast 8 = .ok (.dup, 1) := by decide +kernel
theorem dX3_removeLast_9 : decode cX3_removeLast 9 = .ok (.getfield 27, 3) := by decide +kernel
theorem dX3_removeLast_12 : decode cX3_removeLast 12 = .ok (.iconst 1, 1) := by decide +kernel
theorem dX3_removeLast_13 : decode cX3_removeLast 13 = .ok (.isub, 1) := by decide +kernel
theorem dX3_removeLast_14 : decode cX3_removeLast 14 = .ok (.putfield 27, 3) := by decide +kernel
theorem dX3_removeLast_17 : decode cX3_removeLast 17 = .ok (.aload_n 0, 1) := by decide +kernel
theorem dX3_removeLast_18 : decode cX3_removeLast 18 = .ok (.getfield 27, 3) := by decide +kernel
theorem dX3_removeLast_21 : decode cX3_removeLast 21 = .ok (.ireturn, 1) := by decide +kernel
theorem dX3_copyFrom_0 : decode cX3_copyFrom 0 = .ok (.aload_n 1, 1) := by decide +kernel
theorem dX3_copyFrom_1 : decode cX3_copyFrom 1 = .ok (.getfield 9, 3) := by decide +kernel
theorem dX3_copyFrom_4 : decode cX3_copyFrom 4 = .ok (.iconst 0, 1) := by decide +kernel
theorem dX3_copyFrom_5 : decode cX3_copyFrom 5 = .ok (.aload_n 0, 1) := by decide +kernel
theorem dX3_copyFrom_6 : decode cX3_copyFrom 6 = .ok (.getfield 9, 3) := by decide +kernel
theorem dX3_copyFrom_9 : decode cX3_copyFrom 9 = .ok (.iconst 0, 1) := by decide +kernel
theorem dX3_copyFrom_10 : decode cX3_copyFrom 10 = .ok (.bipush 40, 2) := by decide +kernel
theorem dX3_copyFrom_12 : decode cX3_copyFrom 12 = .ok (.invokestatic 58, 3) := by decide +kernel
theorem dX3_copyFrom_15 : decode cX3_copyFrom 15 = .ok (.aload_n 1, 1) := by decide +kernel
theorem dX3_copyFrom_16 : decode cX3_copyFrom 16 = .ok (.getfield 15, 3) := by decide +kernel
theorem dX3_copyFrom_19 : decode cX3_copyFrom 19 = .ok (.iconst 0, 1) := by decide +kernel
theorem dX3_copyFrom_20 : decode cX3_copyFrom 20 = .ok (.aload_n 0, 1) := by decide +kernel
theorem dX3_copyFrom_21 : decode cX3_copyFrom 21 = .ok (.getfield 15, 3) := by decide +kernel
theorem dX3_copyFrom_24 : decode cX3_copyFrom 24 = .ok (.iconst 0, 1) := by decide +kernel
theorem dX3_copyFrom_25 : decode cX3_copyFrom 25 = .ok (.bipush 40, 2) := by decide +kernel
theorem dX3_copyFrom_27 : decode cX3_copyFrom 27 = .ok (.invokestatic 58, 3) := by decide +kernel
theorem dX3_copyFrom_30 : decode cX3_copyFrom 30 = .ok (.aload_n 1, 1) := by decide +kernel
theorem dX3_copyFrom_31 : decode cX3_copyFrom 31 = .ok (.getfield 18, 3) := by decide +kernel
theorem dX3_copyFrom_34 : decode cX3_copyFrom 34 = .ok (.iconst 0, 1) := by decide +kernel
theorem dX3_copyFrom_35 : decode cX3_copyFrom 35 = .ok (.aload_n 0, 1) := by decide +kernel
theorem dX3_copyFrom_36 : decode cX3_copyFrom 36 = .ok (.getfield 18, 3) := by decide +kernel
theorem dX3_copyFrom_39 : decode cX3_copyFrom 39 = .ok (.iconst 0, 1) := by decide +kernel
theorem dX3_copyFrom_40 : decode cX3_copyFrom 40 = .ok (.bipush 40, 2) := by decide +kernel
theorem dX3_copyFrom_42 : decode cX3_copyFrom 42 = .ok (.invokestatic 58, 3) := by decide +kernel
theorem dX3_copyFrom_45 : decode cX3_copyFrom 45 = .ok (.aload_n 1, 1) := by decide +kernel
theorem dX3_copyFrom_46 : decode cX3_copyFrom 46 = .ok (.getfield 21, 3) := by decide +kernel
theorem dX3_copyFrom_49 : decode cX3_copyFrom 49 = .ok (.iconst 0, 1) := by decide +kernel
theorem dX3_copyFrom_50 : decode cX3_copyFrom 50 = .ok (.aload_n 0, 1) := by decide +kernel
theorem dX3_copyFrom_51 : decode cX3_copyFrom 51 = .ok (.getfield 21, 3) := by decide +kernel
theorem dX3_copyFrom_54 : decode cX3_copyFrom 54 = .ok (.iconst 0, 1) := by decide +kernel
theorem dX3_copyFrom_55 : decode cX3_copyFrom 55 = .ok (.bipush 40, 2) := by decide +kernel
theorem dX3_copyFrom_57 : decode cX3_copyFrom 57 = .ok (.invokestatic 58, 3) := by decide +kernel
theorem dX3_copyFrom_60 : decode cX3_copyFrom 60 = .ok (.aload_n 1, 1) := by decide +kernel
theorem dX3_copyFrom_61 : decode cX3_copyFrom 61 = .ok (.getfield 24, 3) := by decide +kernel
theorem dX3_copyFrom_64 : decode cX3_copyFrom 64 = .ok (.iconst 0, 1) := by decide +kernel
theorem dX3_copyFrom_65 : decode cX3_copyFrom 65 = .ok (.aload_n 0, 1) := by decide +kernel
theorem dX3_copyFrom_66 : decode cX3_copyFrom 66 = .ok (.getfield 24, 3) := by decide +kernel
theorem dX3_copyFrom_69 : decode cX3_copyFrom 69 = .ok (.iconst 0, 1) := by decide +kernel
theorem dX3_copyFrom_70 : decode cX3_copyFrom 70 = .ok (.bipush 40, 2) := by decide +kernel
theorem dX3_copyFrom_72 : decode cX3_copyFrom 72 = .ok (.invokestatic 58, 3) := by decide +kernel
theorem dX3_copyFrom_75 : decode cX3_copyFrom 75 = .ok (.aload_n 0, 1) := by decide +kernel
theorem dX3_copyFrom_76 : decode cX3_copyFrom 76 = .ok (.aload_n 1, 1) := by decide +kernel
theorem dX3_copyFrom_77 : decode cX3_copyFrom 77 = .ok (.getfield 27, 3) := by decide +kernel
theorem dX3_copyFrom_80 : decode cX3_copyFrom 80 = .ok (.putfield 27, 3) := by decide +kernel
theorem dX3_copyFrom_83 : decode cX3_copyFrom 83 = .ok (.return_, 1) := by decide +kernel
theorem dX4_init_0 : decode cX4_init 0 = .ok (.aload_n 0, 1) := by decide +kernel
theorem dX4_init_1 : decode cX4_init 1 = .ok (.invokespecial 3, 3) := by decide +kernel
theorem dX4_init_4 : decode cX4_init 4 = .ok (.aload_n 0, 1) := by decide +kernel
theorem dX4_init_5 : decode cX4_init 5 = .ok (.new 9, 3) := by decide +kernel
theorem dX4_init_8 : decode cX4_init 8 = .ok (.dup, 1) := by decide +kernel
theorem dX4_init_9 : decode cX4_init 9 = .ok (.invokespecial 11, 3) := by decide +kernel
theorem dX4_init_12 : decode cX4_init 12 = .ok (.putfield 12, 3) := by decide +kernel
theorem dX4_init_15 : decode cX4_init 15 = .ok (.aload_n 0, 1) := by decide +kernel
theorem dX4_init_16 : decode cX4_init 16 = .ok (.iconst 5, 1) := by decide +kernel
theorem dX4_init_17 : decode cX4_init 17 = .ok (.newarray .int, 2) := by decide +kernel
theorem dX4_init_19 : decode cX4_init 19 = .ok (.putfield 18, 3) := by decide +kernel
theorem dX4_init_22 : decode cX4_init 22 = .ok (.aload_n 0, 1) := by decide +kernel
theorem dX4_init_23 : decode cX4_init 23 = .ok (.sipush 600, 3) := by decide +kernel
theorem dX4_init_26 : decode cX4_init 26 = .ok (.newarray .int, 2) := by decide +kernel
theorem dX4_init_28 : decode cX4_init 28 = .ok (.putfield 22, 3) := by decide +kernel
theorem dX4_init_31 : decode cX4_init 31 = .ok (.getstatic 25, 3) := by decide +kernel
theorem dX4_init_34 : decode cX4_init 34 = .ok (.iconst 0, 1) := by decide +kernel
theorem dX4_init_35 : decode cX4_init 35 = .ok (.aload_n 0, 1) := by decide +kernel
theorem dX4_init_36 : decode cX4_init 36 = .ok (.getfield 18, 3) := by decide +kernel
theorem dX4_init_39 : decode cX4_init 39 = .ok (.iconst 0, 1) := by decide +kernel
theorem dX4_init_40 : decode cX4_init 40 = .ok (.iconst 5, 1) := by decide +kernel
theorem dX4_init_41 : decode cX4_init 41 = .ok (.invokestatic 28, 3) := by decide +kernel
theorem dX4_init_44 : decode cX4_init 44 = .ok (.iconst 0, 1) := by decide +kernel
theorem dX4_init_45 : decode cX4_init 45 = .ok (.istore_n 1, 1) := by decide +kernel
theorem dX4_init_46 : decode cX4_init 46 = .ok (.iload_n 1, 1) := by decide +kernel
theorem dX4_init_47 : decode cX4_init 47 = .ok (.sipush 600, 3) := by decide +kernel
theorem dX4_init_50 : decode cX4_init 50 = .ok (.if_icmp .ge 16, 3) := by decide +kernel
theorem dX4_init_53 : decode cX4_init 53 = .ok (.aload_n 0, 1) := by decide +kernel
theorem dX4_init_54 : decode cX4_init 54 = .ok (.getfield 22, 3) := by decide +kernel
theorem dX4_init_57 : decode cX4_init 57 = .ok (.iload_n 1, 1) := by decide +kernel
theorem dX4_init_58 : decode cX4_init 58 = .ok (.iconst (-1), 1) := by decide +kernel
theorem dX4_init_59 : decode cX4_init 59 = .ok (.iastore, 1) := by decide +kernel
theorem dX4_init_60 : decode cX4_init 60 = .ok (.iinc 1 1, 3) := by decide +kernel
theorem dX4_init_63 : decode cX4_init 63 = .ok (.goto (-17), 3) := by decide +kernel
theorem dX4_init_66 : decode cX4_init 66 = .ok (.return_, 1) := by decide +kernel
theorem dX4_copyFrom_0 : decode cX4_copyFrom 0 = .ok (.aload_n 0, 1) := by decide +kernel
theorem dX4_copyFrom_1 : decode cX4_copyFrom 1 = .ok (.getfield 12, 3) := by decide +kernel
theorem dX4_copyFrom_4 : decode cX4_copyFrom 4 = .ok (.aload_n 1, 1) := by decide +kernel
theorem dX4_copyFrom_5 : decode cX4_copyFrom 5 = .ok (.getfield 12, 3) := by decide +kernel
theorem dX4_copyFrom_8 : decode cX4_copyFrom 8 = .ok (.invokevirtual 34, 3) := by decide +kernel
theorem dX4_copyFrom_11 : decode cX4_copyFrom 11 = .ok (.aload_n 1, 1) := by decide +kernel
theorem dX4_copyFrom_12 : decode cX4_copyFrom 12 = .ok (.getfield 18, 3) := by decide +kernel
theorem dX4_copyFrom_15 : decode cX4_copyFrom 15 = .ok (.iconst 0, 1) := by decide +kernel
theorem dX4_copyFrom_16 : decode cX4_copyFrom 16 = .ok (.aload_n 0, 1) := by decide +kernel
theorem dX4_copyFrom_17 : decode cX4_copyFrom 17 = .ok (.getfield 18, 3) := by decide +kernel
theorem dX4_copyFrom_20 : decode cX4_copyFrom 20 = .ok (.iconst 0, 1) := by decide +kernel
theorem dX4_copyFrom_21 : decode cX4_copyFrom 21 = .ok (.iconst 5, 1) := by decide +kernel
theorem dX4_copyFrom_22 : decode cX4_copyFrom 22 = .ok (.invokestatic 28, 3) := by decide +kernel
theorem dX4_copyFrom_25 : decode cX4_copyFrom 25 = .ok (.aload_n 1, 1) := by decide +kernel
theorem dX4_copyFrom_26 : decode cX4_copyFrom 26 = .ok (.getfield 22, 3) := by decide +kernel
theorem dX4_copyFrom_29 : decode cX4_copyFrom 29 = .ok (.iconst 0, 1) := by decide +kernel
theorem dX4_copyFrom_30 : decode cX4_copyFrom 30 = .ok (.aload_n 0, 1) := by decide +kernel
theorem dX4_copyFrom_31 : decode cX4_copyFrom 31 = .ok (.getfield 22, 3) := by decide +kernel
theorem dX4_copyFrom_34 : decode cX4_copyFrom 34 = .ok (.iconst 0, 1) := by decide +kernel
theorem dX4_copyFrom_35 : decode cX4_copyFrom 35 = .ok (.sipush 600, 3) := by decide +kernel
theorem dX4_copyFrom_38 : decode cX4_copyFrom 38 = .ok (.invokestatic 28, 3) := by decide +kernel
theorem dX4_copyFrom_41 : decode cX4_copyFrom 41 = .ok (.return_, 1) := by decide +kernel
theorem dX4_setting_0 : decode cX4_setting 0 = .ok (.iload_n 1, 1) := by decide +kernel
theorem dX4_setting_1 : decode cX4_setting 1 = .ok (.ifCond .lt 17, 3) := by decide +kernel
theorem dX4_setting_4 : decode cX4_setting 4 = .ok (.iload_n 1, 1) := by decide +kernel
theorem dX4_setting_5 : decode cX4_setting 5 = .ok (.iconst 5, 1) := by decide +kernel
theorem dX4_setting_6 : decode cX4_setting 6 = .ok (.if_icmp .ge 12, 3) := by decide +kernel
theorem dX4_setting_9 : decode cX4_setting 9 = .ok (.aload_n 0, 1) := by decide +kernel
theorem dX4_setting_10 : decode cX4_setting 10 = .ok (.getfield 18, 3) := by decide +kernel
theorem dX4_setting_13 : decode cX4_setting 13 = .ok (.iload_n 1, 1) := by decide +kernel
theorem dX4_setting_14 : decode cX4_setting 14 = .ok (.iaload, 1) := by decide +kernel
theorem dX4_setting_15 : decode cX4_setting 15 = .ok (.goto 4, 3) := by decide +kernel
theorem dX4_setting_18 : decode cX4_setting 18 = .ok (.iconst 0, 1) := by decide +kernel
theorem dX4_setting_19 : decode cX4_setting 19 = .ok (.ireturn, 1) := by decide +kernel
theorem dX4_change_0 : decode cX4_change 0 = .ok (.iload_n 1, 1) := by decide +kernel
theorem dX4_change_1 : decode cX4_change 1 = .ok (.ifCond .lt 15, 3) := by decide +kernel
theorem dX4_change_4 : decode cX4_change 4 = .ok (.iload_n 1, 1) := by decide +kernel
theorem dX4_change_5 : decode cX4_change 5 = .ok (.iconst 5, 1) := by decide +kernel
theorem dX4_change_6 : decode cX4_change 6 = .ok (.if_icmp .ge 10, 3) := by decide +kernel
theorem dX4_change_9 : decode cX4_change 9 = .ok (.aload_n 0, 1) := by decide +kernel
theorem dX4_change_10 : decode cX4_change 10 = .ok (.getfield 18, 3) := by decide +kernel
theorem dX4_change_13 : decode cX4_change 13 = .ok (.iload_n 1, 1) := by decide +kernel
theorem dX4_change_14 : decode cX4_change 14 = .ok (.iload_n 2, 1) := by decide +kernel
theorem dX4_change_15 : decode cX4_change 15 = .ok (.iastore, 1) := by decide +kernel
theorem dX4_change_16 : decode cX4_change 16 = .ok (.return_, 1) := by decide +kernel
theorem dX4_sungAt_0 : decode cX4_sungAt 0 = .ok (.iload_n 1, 1) := by decide +kernel
theorem dX4_sungAt_1 : decode cX4_sungAt 1 = .ok (.ifCond .lt 19, 3) := by decide +kernel
theorem dX4_sungAt_4 : decode cX4_sungAt 4 = .ok (.iload_n 1, 1) := by decide +kernel
theorem dX4_sungAt_5 : decode cX4_sungAt 5 = .ok (.sipush 600, 3) := by decide +kernel
theorem dX4_sungAt_8 : decode cX4_sungAt 8 = .ok (.if_icmp .ge 12, 3) := by decide +kernel
theorem dX4_sungAt_11 : decode cX4_sungAt 11 = .ok (.aload_n 0, 1) := by decide +kernel
theorem dX4_sungAt_12 : decode cX4_sungAt 12 = .ok (.getfield 22, 3) := by decide +kernel
theorem dX4_sungAt_15 : decode cX4_sungAt 15 = .ok (.iload_n 1, 1) := by decide +kernel
theorem dX4_sungAt_16 : decode cX4_sungAt 16 = .ok (.iaload, 1) := by decide +kernel
theorem dX4_sungAt_17 : decode cX4_sungAt 17 = .ok (.goto 4, 3) := by decide +kernel
theorem dX4_sungAt_20 : decode cX4_sungAt 20 = .ok (.iconst (-1), 1) := by decide +kernel
theorem dX4_sungAt_21 : decode cX4_sungAt 21 = .ok (.ireturn, 1) := by decide +kernel
theorem dX4_voiceAt_0 : decode cX4_voiceAt 0 = .ok (.iload_n 1, 1) := by decide +kernel
theorem dX4_voiceAt_1 : decode cX4_voiceAt 1 = .ok (.ifCond .lt 31, 3) := by decide +kernel
theorem dX4_voiceAt_4 : decode cX4_voiceAt 4 = .ok (.iload_n 1, 1) := by decide +kernel
theorem dX4_voiceAt_5 : decode cX4_voiceAt 5 = .ok (.sipush 600, 3) := by decide +kernel
theorem dX4_voiceAt_8 : decode cX4_voiceAt 8 = .ok (.if_icmp .ge 24, 3) := by decide +kernel
theorem dX4_voiceAt_11 : decode cX4_voiceAt 11 = .ok (.aload_n 0, 1) := by decide +kernel
theorem dX4_voiceAt_12 : decode cX4_voiceAt 12 = .ok (.getfield 22, 3) := by decide +kernel
theorem dX4_voiceAt_15 : decode cX4_voiceAt 15 = .ok (.iload_n 1, 1) := by decide +kernel
theorem dX4_voiceAt_16 : decode cX4_voiceAt 16 = .ok (.iload_n 2, 1) := by decide +kernel
theorem dX4_voiceAt_17 : decode cX4_voiceAt 17 = .ok (.iconst 0, 1) := by decide +kernel
theorem dX4_voiceAt_18 : decode cX4_voiceAt 18 = .ok (.bipush 60, 2) := by decide +kernel
theorem dX4_voiceAt_20 : decode cX4_voiceAt 20 = .ok (.invokestatic 38, 3) := by decide +kernel
theorem dX4_voiceAt_23 : decode cX4_voiceAt 23 = .ok (.ifCond .eq 7, 3) := by decide +kernel
theorem dX4_voiceAt_26 : decode cX4_voiceAt 26 = .ok (.iload_n 2, 1) := by decide +kernel
theorem dX4_voiceAt_27 : decode cX4_voiceAt 27 = .ok (.goto 4, 3) := by decide +kernel
theorem dX4_voiceAt_30 : decode cX4_voiceAt 30 = .ok (.iconst (-1), 1) := by decide +kernel
theorem dX4_voiceAt_31 : decode cX4_voiceAt 31 = .ok (.iastore, 1) := by decide +kernel
theorem dX4_voiceAt_32 : decode cX4_voiceAt 32 = .ok (.return_, 1) := by decide +kernel
theorem dX4_voice_0 : decode cX4_voice 0 = .ok (.iconst 0, 1) := by decide +kernel
theorem dX4_voice_1 : decode cX4_voice 1 = .ok (.istore 4, 2) := by decide +kernel
theorem dX4_voice_3 : decode cX4_voice 3 = .ok (.iload 4, 2) := by decide +kernel
theorem dX4_voice_5 : decode cX4_voice 5 = .ok (.iload_n 2, 1) := by decide +kernel
theorem dX4_voice_6 : decode cX4_voice 6 = .ok (.if_icmp .ge 18, 3) := by decide +kernel
theorem dX4_voice_9 : decode cX4_voice 9 = .ok (.aload_n 0, 1) := by decide +kernel
theorem dX4_voice_10 : decode cX4_voice 10 = .ok (.iload_n 1, 1) := by decide +kernel
theorem dX4_voice_11 : decode cX4_voice 11 = .ok (.iload 4, 2) := by decide +kernel
theorem dX4_voice_13 : decode cX4_voice 13 = .ok (.iadd, 1) := by decide +kernel
theorem dX4_voice_14 : decode cX4_voice 14 = .ok (.iload_n 3, 1) := by decide +kernel
theorem dX4_voice_15 : decode cX4_voice 15 = .ok (.invokevirtual 42, 3) := by decide +kernel
theorem dX4_voice_18 : decode cX4_voice 18 = .ok (.iinc 4 1, 3) := by decide +kernel
theorem dX4_voice_21 : decode cX4_voice 21 = .ok (.goto (-18), 3) := by decide +kernel
theorem dX4_voice_24 : decode cX4_voice 24 = .ok (.return_, 1) := by decide +kernel
theorem dX4_voiceAsWanted_0 : decode cX4_voiceAsWanted 0 = .ok (.aload_n 0, 1) := by decide +kernel
theorem dX4_voiceAsWanted_1 : decode cX4_voiceAsWanted 1 = .ok (.getfield 12, 3) := by decide +kernel
theorem dX4_voiceAsWanted_4 : decode cX4_voiceAsWanted 4 = .ok (.iload_n 1, 1) := by decide +kernel
theorem dX4_voiceAsWanted_5 : decode cX4_voiceAsWanted 5 = .ok (.invokevirtual 46, 3) := by decide +kernel
theorem dX4_voiceAsWanted_8 : decode cX4_voiceAsWanted 8 = .ok (.istore_n 3, 1) := by decide +kernel
theorem dX4_voiceAsWanted_9 : decode cX4_voiceAsWanted 9 = .ok (.iconst 0, 1) := by decide +kernel
theorem dX4_voiceAsWanted_10 : decode cX4_voiceAsWanted 10 = .ok (.istore 4, 2) := by decide +kernel
theorem dX4_voiceAsWanted_12 : decode cX4_voiceAsWanted 12 = .ok (.iload 4, 2) := by decide +kernel
theorem dX4_voiceAsWanted_14 : decode cX4_voiceAsWanted 14 = .ok (.aload_n 0, 1) := by decide +kernel
theorem dX4_voiceAsWanted_15 : decode cX4_voiceAsWanted 15 = .ok (.getfield 12, 3) := by decide +kernel
theorem dX4_voiceAsWanted_18 : decode cX4_voiceAsWanted 18 = .ok (.iload_n 1, 1) := by decide +kernel
theorem dX4_voiceAsWanted_19 : decode cX4_voiceAsWanted 19 = .ok (.invokevirtual 50, 3) := by decide +kernel
theorem dX4_voiceAsWanted_22 : decode cX4_voiceAsWanted 22 = .ok (.if_icmp .ge 29, 3) := by decide +kernel
theorem dX4_voiceAsWanted_25 : decode cX4_voiceAsWanted 25 = .ok (.aload_n 0, 1) := by decide +kernel
theorem dX4_voiceAsWanted_26 : decode cX4_voiceAsWanted 26 = .ok (.iload_n 3, 1) := by decide +kernel
theorem dX4_voiceAsWanted_27 : decode cX4_voiceAsWanted 27 = .ok (.iload 4, 2) := by decide +kernel
theorem dX4_voiceAsWanted_29 : decode cX4_voiceAsWanted 29 = .ok (.iadd, 1) := by decide +kernel
theorem dX4_voiceAsWanted_30 : decode cX4_voiceAsWanted 30 = .ok (.aload_n 0, 1) := by decide +kernel
theorem dX4_voiceAsWanted_31 : decode cX4_voiceAsWanted 31 = .ok (.getfield 12, 3) := by decide +kernel
theorem dX4_voiceAsWanted_34 : decode cX4_voiceAsWanted 34 = .ok (.iload_n 1, 1) := by decide +kernel
theorem dX4_voiceAsWanted_35 : decode cX4_voiceAsWanted 35 = .ok (.iload 4, 2) := by decide +kernel
theorem dX4_voiceAsWanted_37 : decode cX4_voiceAsWanted 37 = .ok (.invokevirtual 53, 3) := by decide +kernel
theorem dX4_voiceAsWanted_40 : decode cX4_voiceAsWanted 40 = .ok (.iload_n 2, 1) := by decide +kernel
theorem dX4_voiceAsWanted_41 : decode cX4_voiceAsWanted 41 = .ok (.iadd, 1) := by decide +kernel
theorem dX4_voiceAsWanted_42 : decode cX4_voiceAsWanted 42 = .ok (.invokevirtual 42, 3) := by decide +kernel
theorem dX4_voiceAsWanted_45 : decode cX4_voiceAsWanted 45 = .ok (.iinc 4 1, 3) := by decide +kernel
theorem dX4_voiceAsWanted_48 : decode cX4_voiceAsWanted 48 = .ok (.goto (-36), 3) := by decide +kernel
theorem dX4_voiceAsWanted_51 : decode cX4_voiceAsWanted 51 = .ok (.return_, 1) := by decide +kernel
theorem dX4_voiceShifted_0 : decode cX4_voiceShifted 0 = .ok (.iconst 0, 1) := by decide +kernel
theorem dX4_voiceShifted_1 : decode cX4_voiceShifted 1 = .ok (.istore 4, 2) := by decide +kernel
theorem dX4_voiceShifted_3 : decode cX4_voiceShifted 3 = .ok (.iload 4, 2) := by decide +kernel
theorem dX4_voiceShifted_5 : decode cX4_voiceShifted 5 = .ok (.sipush 600, 3) := by decide +kernel
theorem dX4_voiceShifted_8 : decode cX4_voiceShifted 8 = .ok (.if_icmp .ge 39, 3) := by decide +kernel
theorem dX4_voiceShifted_11 : decode cX4_voiceShifted 11 = .ok (.aload_n 1, 1) := by decide +kernel
theorem dX4_voiceShifted_12 : decode cX4_voiceShifted 12 = .ok (.iload 4, 2) := by decide +kernel
theorem dX4_voiceShifted_14 : decode cX4_voiceShifted 14 = .ok (.iload_n 2, 1) := by decide +kernel
theorem dX4_voiceShifted_15 : decode cX4_voiceShifted 15 = .ok (.isub, 1) := by decide +kernel
theorem dX4_voiceShifted_16 : decode cX4_voiceShifted 16 = .ok (.invokevirtual 57, 3) := by decide +kernel
theorem dX4_voiceShifted_19 : decode cX4_voiceShifted 19 = .ok (.istore 5, 2) := by decide +kernel
theorem dX4_voiceShifted_21 : decode cX4_voiceShifted 21 = .ok (.aload_n 0, 1) := by decide +kernel
theorem dX4_voiceShifted_22 : decode cX4_voiceShifted 22 = .ok (.iload 4, 2) := by decide +kernel
theorem dX4_voiceShifted_24 : decode cX4_voiceShifted 24 = .ok (.iload 5, 2) := by decide +kernel
theorem dX4_voiceShifted_26 : decode cX4_voiceShifted 26 = .ok (.iconst (-1), 1) := by decide +kernel
theorem dX4_voiceShifted_27 : decode cX4_voiceShifted 27 = .ok (.if_icmp .ne 7, 3) := by decide +kernel
theorem dX4_voiceShifted_30 : decode cX4_voiceShifted 30 = .ok (.iconst (-1), 1) := by decide +kernel
theorem dX4_voiceShifted_31 : decode cX4_voiceShifted 31 = .ok (.goto 7, 3) := by decide +kernel
theorem dX4_voiceShifted_34 : decode cX4_voiceShifted 34 = .ok (.iload 5, 2) := by decide +kernel
theorem dX4_voiceShifted_36 : decode cX4_voiceShifted 36 = .ok (.iload_n 3, 1) := by decide +kernel
theorem dX4_voiceShifted_37 : decode cX4_voiceShifted 37 = .ok (.iadd, 1) := by decide +kernel
theorem dX4_voiceShifted_38 : decode cX4_voiceShifted 38 = .ok (.invokevirtual 42, 3) := by decide +kernel
theorem dX4_voiceShifted_41 : decode cX4_voiceShifted 41 = .ok (.iinc 4 1, 3) := by decide +kernel
theorem dX4_voiceShifted_44 : decode cX4_voiceShifted 44 = .ok (.goto (-41), 3) := by decide +kernel
theorem dX4_voiceShifted_47 : decode cX4_voiceShifted 47 = .ok (.return_, 1) := by decide +kernel
theorem dX4_soundingTicks_0 : decode cX4_soundingTicks 0 = .ok (.iconst 0, 1) := by decide +kernel
theorem dX4_soundingTicks_1 : decode cX4_soundingTicks 1 = .ok (.istore_n 1, 1) := by decide +kernel
theorem dX4_soundingTicks_2 : decode cX4_soundingTicks 2 = .ok (.iconst 0, 1) := by decide +kernel
theorem dX4_soundingTicks_3 : decode cX4_soundingTicks 3 = .ok (.istore_n 2, 1) := by decide +kernel
theorem dX4_soundingTicks_4 : decode cX4_soundingTicks 4 = .ok (.iload_n 2, 1) := by decide +kernel
theorem dX4_soundingTicks_5 : decode cX4_soundingTicks 5 = .ok (.sipush 600, 3) := by decide +kernel
theorem dX4_soundingTicks_8 : decode cX4_soundingTicks 8 = .ok (.if_icmp .ge 21, 3) := by decide +kernel
theorem dX4_soundingTicks_11 : decode cX4_soundingTicks 11 = .ok (.aload_n 0, 1) := by decide +kernel
theorem dX4_soundingTicks_12 : decode cX4_soundingTicks 12 = .ok (.iload_n 2, 1) := by decide +kernel
theorem dX4_soundingTicks_13 : decode cX4_soundingTicks 13 = .ok (.invokevirtual 57, 3) := by decide +kernel
theorem dX4_soundingTicks_16 : decode cX4_soundingTicks 16 = .ok (.iconst (-1), 1) := by decide +kernel
theorem dX4_soundingTicks_17 : decode cX4_soundingTicks 17 = .ok (.if_icmp .eq 6, 3) := by decide +kernel
theorem dX4_soundingTicks_20 : decode cX4_soundingTicks 20 = .ok (.iinc 1 1, 3) := by decide +kernel
theorem dX4_soundingTicks_23 : decode cX4_soundingTicks 23 = .ok (.iinc 2 1, 3) := by decide +kernel
theorem dX4_soundingTicks_26 : decode cX4_soundingTicks 26 = .ok (.goto (-22), 3) := by decide +kernel
theorem dX4_soundingTicks_29 : decode cX4_soundingTicks 29 = .ok (.iload_n 1, 1) := by decide +kernel
theorem dX4_soundingTicks_30 : decode cX4_soundingTicks 30 = .ok (.ireturn, 1) := by decide +kernel
theorem dX4_isOnset_0 : decode cX4_isOnset 0 = .ok (.aload_n 0, 1) := by decide +kernel
theorem dX4_isOnset_1 : decode cX4_isOnset 1 = .ok (.iload_n 1, 1) := by decide +kernel
theorem dX4_isOnset_2 : decode cX4_isOnset 2 = .ok (.invokevirtual 57, 3) := by decide +kernel
theorem dX4_isOnset_5 : decode cX4_isOnset 5 = .ok (.iconst (-1), 1) := by decide +kernel
theorem dX4_isOnset_6 : decode cX4_isOnset 6 = .ok (.if_icmp .eq 22, 3) := by decide +kernel
theorem dX4_isOnset_9 : decode cX4_isOnset 9 = .ok (.aload_n 0, 1) := by decide +kernel
theorem dX4_isOnset_10 : decode cX4_isOnset 10 = .ok (.iload_n 1, 1) := by decide +kernel
theorem dX4_isOnset_11 : decode cX4_isOnset 11 = .ok (.invokevirtual 57, 3) := by decide +kernel
theorem dX4_isOnset_14 : decode cX4_isOnset 14 = .ok (.aload_n 0, 1) := by decide +kernel
theorem dX4_isOnset_15 : decode cX4_isOnset 15 = .ok (.iload_n 1, 1) := by decide +kernel
theorem dX4_isOnset_16 : decode cX4_isOnset 16 = .ok (.iconst 1, 1) := by decide +kernel
theorem dX4_isOnset_17 : decode cX4_isOnset 17 = .ok (.isub, 1) := by decide +kernel
theorem dX4_isOnset_18 : decode cX4_isOnset 18 = .ok (.invokevirtual 57, 3) := by decide +kernel
theorem dX4_isOnset_21 : decode cX4_isOnset 21 = .ok (.if_icmp .eq 7, 3) := by decide +kernel
theorem dX4_isOnset_24 : decode cX4_isOnset 24 = .ok (.iconst 1, 1) := by decide +kernel
theorem dX4_isOnset_25 : decode cX4_isOnset 25 = .ok (.goto 4, 3) := by decide +kernel
theorem dX4_isOnset_28 : decode cX4_isOnset 28 = .ok (.iconst 0, 1) := by decide +kernel
theorem dX4_isOnset_29 : decode cX4_isOnset 29 = .ok (.ireturn, 1) := by decide +kernel
theorem dX4_onsets_0 : decode cX4_onsets 0 = .ok (.iconst 0, 1) := by decide +kernel
theorem dX4_onsets_1 : decode cX4_onsets 1 = .ok (.istore_n 1, 1) := by decide +kernel
theorem dX4_onsets_2 : decode cX4_onsets 2 = .ok (.iconst 0, 1) := by decide +kernel
theorem dX4_onsets_3 : decode cX4_onsets 3 = .ok (.istore_n 2, 1) := by decide +kernel
theorem dX4_onsets_4 : decode cX4_onsets 4 = .ok (.iload_n 2, 1) := by decide +kernel
theorem dX4_onsets_5 : decode cX4_onsets 5 = .ok (.sipush 600, 3) := by decide +kernel
theorem dX4_onsets_8 : decode cX4_onsets 8 = .ok (.if_icmp .ge 20, 3) := by decide +kernel
theorem dX4_onsets_11 : decode cX4_onsets 11 = .ok (.aload_n 0, 1) := by decide +kernel
theorem dX4_onsets_12 : decode cX4_onsets 12 = .ok (.iload_n 2, 1) := by decide +kernel
theorem dX4_onsets_13 : decode cX4_onsets 13 = .ok (.invokevirtual 60, 3) := by decide +kernel
theorem dX4_onsets_16 : decode cX4_onsets 16 = .ok (.ifCond .eq 6, 3) := by decide +kernel
theorem dX4_onsets_19 : decode cX4_onsets 19 = .ok (.iinc 1 1, 3) := by decide +kernel
theorem dX4_onsets_22 : decode cX4_onsets 22 = .ok (.iinc 2 1, 3) := by decide +kernel
theorem dX4_onsets_25 : decode cX4_onsets 25 = .ok (.goto (-21), 3) := by decide +kernel
theorem dX4_onsets_28 : decode cX4_onsets 28 = .ok (.iload_n 1, 1) := by decide +kernel
theorem dX4_onsets_29 : decode cX4_onsets 29 = .ok (.ireturn, 1) := by decide +kernel
theorem dX4_onsetNear_0 : decode cX4_onsetNear 0 = .ok (.aload_n 0, 1) := by decide +kernel
theorem dX4_onsetNear_1 : decode cX4_onsetNear 1 = .ok (.iconst 2, 1) := by decide +kernel
theorem dX4_onsetNear_2 : decode cX4_onsetNear 2 = .ok (.invokevirtual 64, 3) := by decide +kernel
theorem dX4_onsetNear_5 : decode cX4_onsetNear 5 = .ok (.istore_n 2, 1) := by decide +kernel
theorem dX4_onsetNear_6 : decode cX4_onsetNear 6 = .ok (.iconst 0, 1) := by decide +kernel
theorem dX4_onsetNear_7 : decode cX4_onsetNear 7 = .ok (.istore_n 3, 1) := by decide +kernel
theorem dX4_onsetNear_8 : decode cX4_onsetNear 8 = .ok (.iload_n 3, 1) := by decide +kernel
theorem dX4_onsetNear_9 : decode cX4_onsetNear 9 = .ok (.iload_n 2, 1) := by decide +kernel
theorem dX4_onsetNear_10 : decode cX4_onsetNear 10 = .ok (.if_icmp .gt 37, 3) := by decide +kernel
theorem dX4_onsetNear_13 : decode cX4_onsetNear 13 = .ok (.aload_n 0, 1) := by decide +kernel
theorem dX4_onsetNear_14 : decode cX4_onsetNear 14 = .ok (.iload_n 1, 1) := by decide +kernel
theorem dX4_onsetNear_15 : decode cX4_onsetNear 15 = .ok (.iload_n 3, 1) := by decide +kernel
theorem dX4_onsetNear_16 : decode cX4_onsetNear 16 = .ok (.isub, 1) := by decide +kernel
theorem dX4_onsetNear_17 : decode cX4_onsetNear 17 = .ok (.invokevirtual 60, 3) := by decide +kernel
theorem dX4_onsetNear_20 : decode cX4_onsetNear 20 = .ok (.ifCond .eq 7, 3) := by decide +kernel
theorem dX4_onsetNear_23 : decode cX4_onsetNear 23 = .ok (.iload_n 1, 1) := by decide +kernel
theorem dX4_onsetNear_24 : decode cX4_onsetNear 24 = .ok (.iload_n 3, 1) := by decide +kernel
theorem dX4_onsetNear_25 : decode cX4_onsetNear 25 = .ok (.isub, 1) := by decide +kernel
theorem dX4_onsetNear_26 : decode cX4_onsetNear 26 = .ok (.ireturn, 1) := by decide +kernel
theorem dX4_onsetNear_27 : decode cX4_onsetNear 27 = .ok (.aload_n 0, 1) := by decide +kernel
theorem dX4_onsetNear_28 : decode cX4_onsetNear 28 = .ok (.iload_n 1, 1) := by decide +kernel
theorem dX4_onsetNear_29 : decode cX4_onsetNear 29 = .ok (.iload_n 3, 1) := by decide +kernel
theorem dX4_onsetNear_30 : decode cX4_onsetNear 30 = .ok (.iadd, 1) := by decide +kernel
theorem dX4_onsetNear_31 : decode cX4_onsetNear 31 = .ok (.invokevirtual 60, 3) := by decide +kernel
theorem dX4_onsetNear_34 : decode cX4_onsetNear 34 = .ok (.ifCond .eq 7, 3) := by decide +kernel
theorem dX4_onsetNear_37 : decode cX4_onsetNear 37 = .ok (.iload_n 1, 1) := by decide +kernel
theorem dX4_onsetNear_38 : decode cX4_onsetNear 38 = .ok (.iload_n 3, 1) := by decide +kernel
theorem dX4_onsetNear_39 : decode cX4_onsetNear 39 = .ok (.iadd, 1) := by decide +kernel
theorem dX4_onsetNear_40 : decode cX4_onsetNear 40 = .ok (.ireturn, 1) := by decide +kernel
theorem dX4_onsetNear_41 : decode cX4_onsetNear 41 = .ok (.iinc 3 1, 3) := by decide +kernel
theorem dX4_onsetNear_44 : decode cX4_onsetNear 44 = .ok (.goto (-36), 3) := by decide +kernel
theorem dX4_onsetNear_47 : decode cX4_onsetNear 47 = .ok (.bipush (-5), 2) := by decide +kernel
theorem dX4_onsetNear_49 : decode cX4_onsetNear 49 = .ok (.ireturn, 1) := by decide +kernel
theorem dX4_isMatch_0 : decode cX4_isMatch 0 = .ok (.iload_n 1, 1) := by decide +kernel
theorem dX4_isMatch_1 : decode cX4_isMatch 1 = .ok (.iconst (-1), 1) := by decide +kernel
theorem dX4_isMatch_2 : decode cX4_isMatch 2 = .ok (.if_icmp .ne 5, 3) := by decide +kernel
theorem dX4_isMatch_5 : decode cX4_isMatch 5 = .ok (.iconst 0, 1) := by decide +kernel
theorem dX4_isMatch_6 : decode cX4_isMatch 6 = .ok (.ireturn, 1) := by decide +kernel
theorem dX4_isMatch_7 : decode cX4_isMatch 7 = .ok (.iload_n 1, 1) := by decide +kernel
theorem dX4_isMatch_8 : decode cX4_isMatch 8 = .ok (.iload_n 2, 1) := by decide +kernel
theorem dX4_isMatch_9 : decode cX4_isMatch 9 = .ok (.isub, 1) := by decide +kernel
theorem dX4_isMatch_10 : decode cX4_isMatch 10 = .ok (.invokestatic 67, 3) := by decide +kernel
theorem dX4_isMatch_13 : decode cX4_isMatch 13 = .ok (.istore_n 3, 1) := by decide +kernel
theorem dX4_isMatch_14 : decode cX4_isMatch 14 = .ok (.aload_n 0, 1) := by decide +kernel
theorem dX4_isMatch_15 : decode cX4_isMatch 15 = .ok (.iconst 3, 1) := by decide +kernel
theorem dX4_isMatch_16 : decode cX4_isMatch 16 = .ok (.invokevirtual 64, 3) := by decide +kernel
theorem dX4_isMatch_19 : decode cX4_isMatch 19 = .ok (.iconst 1, 1) := by decide +kernel
theorem dX4_isMatch_20 : decode cX4_isMatch 20 = .ok (.if_icmp .ne 20, 3) := by decide +kernel
theorem dX4_isMatch_23 : decode cX4_isMatch 23 = .ok (.iload_n 3, 1) := by decide +kernel
theorem dX4_isMatch_24 : decode cX4_isMatch 24 = .ok (.bipush 12, 2) := by decide +kernel
theorem dX4_isMatch_26 : decode cX4_isMatch 26 = .ok (.irem, 1) := by decide +kernel
theorem dX4_isMatch_27 : decode cX4_isMatch 27 = .ok (.istore 4, 2) := by decide +kernel
theorem dX4_isMatch_29 : decode cX4_isMatch 29 = .ok (.iload 4, 2) := by decide +kernel
theorem dX4_isMatch_31 : decode cX4_isMatch 31 = .ok (.bipush 12, 2) := by decide +kernel
theorem dX4_isMatch_33 : decode cX4_isMatch 33 = .ok (.iload 4, 2) := by decide +kernel
theorem dX4_isMatch_35 : decode cX4_isMatch 35 = .ok (.isub, 1) := by decide +kernel
theorem dX4_isMatch_36 : decode cX4_isMatch 36 = .ok (.invokestatic 72, 3) := by decide +kernel
theorem dX4_isMatch_39 : decode cX4_isMatch 39 = .ok (.istore_n 3, 1) := by decide +kernel
theorem dX4_isMatch_40 : decode cX4_isMatch 40 = .ok (.iload_n 3, 1) := by decide +kernel
theorem dX4_isMatch_41 : decode cX4_isMatch 41 = .ok (.aload_n 0, 1) := by decide +kernel
theorem dX4_isMatch_42 : decode cX4_isMatch 42 = .ok (.iconst 1, 1) := by decide +kernel
theorem dX4_isMatch_43 : decode cX4_isMatch 43 = .ok (.invokevirtual 64, 3) := by decide +kernel
theorem dX4_isMatch_46 : decode cX4_isMatch 46 = .ok (.if_icmp .gt 7, 3) := by decide +kernel
theorem dX4_isMatch_49 : decode cX4_isMatch 49 = .ok (.iconst 1, 1) := by decide +kernel
theorem dX4_isMatch_50 : decode cX4_isMatch 50 = .ok (.goto 4, 3) := by decide +kernel
theorem dX4_isMatch_53 : decode cX4_isMatch 53 = .ok (.iconst 0, 1) := by decide +kernel
theorem dX4_isMatch_54 : decode cX4_isMatch 54 = .ok (.ireturn, 1) := by decide +kernel
theorem dX5_init_0 : decode cX5_init 0 = .ok (.aload_n 0, 1) := by decide +kernel
theorem dX5_init_1 : decode cX5_init 1 = .ok (.invokespecial 3, 3) := by decide +kernel
theorem dX5_init_4 : decode cX5_init 4 = .ok (.aload_n 0, 1) := by decide +kernel
theorem dX5_init_5 : decode cX5_init 5 = .ok (.bipush 60, 2) := by decide +kernel
theorem dX5_init_7 : decode cX5_init 7 = .ok (.newarray .char, 2) := by decide +kernel
theorem dX5_init_9 : decode cX5_init 9 = .ok (.putfield 9, 3) := by decide +kernel
theorem dX5_init_12 : decode cX5_init 12 = .ok (.aload_n 0, 1) := by decide +kernel
theorem dX5_init_13 : decode cX5_init 13 = .ok (.iconst 0, 1) := by decide +kernel
theorem dX5_init_14 : decode cX5_init 14 = .ok (.putfield 15, 3) := by decide +kernel
theorem dX5_init_17 : decode cX5_init 17 = .ok (.return_, 1) := by decide +kernel
theorem dX5_size_0 : decode cX5_size 0 = .ok (.aload_n 0, 1) := by decide +kernel
theorem dX5_size_1 : decode cX5_size 1 = .ok (.getfield 15, 3) := by decide +kernel
theorem dX5_size_4 : decode cX5_size 4 = .ok (.ireturn, 1) := by decide +kernel
theorem dX6_init_0 : decode cX6_init 0 = .ok (.aload_n 0, 1) := by decide +kernel
theorem dX6_init_1 : decode cX6_init 1 = .ok (.invokespecial 1, 3) := by decide +kernel
theorem dX6_init_4 : decode cX6_init 4 = .ok (.aload_n 0, 1) := by decide +kernel
theorem dX6_init_5 : decode cX6_init 5 = .ok (.new 7, 3) := by decide +kernel
theorem dX6_init_8 : decode cX6_init 8 = .ok (.dup, 1) := by decide +kernel
theorem dX6_init_9 : decode cX6_init 9 = .ok (.invokespecial 9, 3) := by decide +kernel
theorem dX6_init_12 : decode cX6_init 12 = .ok (.putfield 10, 3) := by decide +kernel
theorem dX6_init_15 : decode cX6_init 15 = .ok (.aload_n 0, 1) := by decide +kernel
theorem dX6_init_16 : decode cX6_init 16 = .ok (.new 7, 3) := by decide +kernel
theorem dX6_init_19 : decode cX6_init 19 = .ok (.dup, 1) := by decide +kernel
theorem dX6_init_20 : decode cX6_init 20 = .ok (.invokespecial 9, 3) := by decide +kernel
theorem dX6_init_23 : decode cX6_init 23 = .ok (.putfield 16, 3) := by decide +kernel
theorem dX6_init_26 : decode cX6_init 26 = .ok (.aload_n 0, 1) := by decide +kernel
theorem dX6_init_27 : decode cX6_init 27 = .ok (.new 7, 3) := by decide +kernel
theorem dX6_init_30 : decode cX6_init 30 = .ok (.dup, 1) := by decide +kernel
theorem dX6_init_31 : decode cX6_init 31 = .ok (.invokespecial 9, 3) := by decide +kernel
theorem dX6_init_34 : decode cX6_init 34 = .ok (.putfield 19, 3) := by decide +kernel
theorem dX6_init_37 : decode cX6_init 37 = .ok (.aload_n 0, 1) := by decide +kernel
theorem dX6_init_38 : decode cX6_init 38 = .ok (.iconst 0, 1) := by decide +kernel
theorem dX6_init_39 : decode cX6_init 39 = .ok (.putfield 22, 3) := by decide +kernel
theorem dX6_init_42 : decode cX6_init 42 = .ok (.aload_n 0, 1) := by decide +kernel
theorem dX6_init_43 : decode cX6_init 43 = .ok (.new 26, 3) := by decide +kernel
theorem dX6_init_46 : decode cX6_init 46 = .ok (.dup, 1) := by decide +kernel
theorem dX6_init_47 : decode cX6_init 47 = .ok (.invokespecial 28, 3) := by decide +kernel
theorem dX6_init_50 : decode cX6_init 50 = .ok (.putfield 29, 3) := by decide +kernel
theorem dX6_init_53 : decode cX6_init 53 = .ok (.aload_n 0, 1) := by decide +kernel
theorem dX6_init_54 : decode cX6_init 54 = .ok (.new 33, 3) := by decide +kernel
theorem dX6_init_57 : decode cX6_init 57 = .ok (.dup, 1) := by decide +kernel
theorem dX6_init_58 : decode cX6_init 58 = .ok (.invokespecial 35, 3) := by decide +kernel
theorem dX6_init_61 : decode cX6_init 61 = .ok (.putfield 36, 3) := by decide +kernel
theorem dX6_init_64 : decode cX6_init 64 = .ok (.aload_n 0, 1) := by decide +kernel
theorem dX6_init_65 : decode cX6_init 65 = .ok (.new 40, 3) := by decide +kernel
theorem dX6_init_68 : decode cX6_init 68 = .ok (.dup, 1) := by decide +kernel
theorem dX6_init_69 : decode cX6_init 69 = .ok (.invokespecial 42, 3) := by decide +kernel
theorem dX6_init_72 : decode cX6_init 72 = .ok (.putfield 43, 3) := by decide +kernel
theorem dX6_init_75 : decode cX6_init 75 = .ok (.aload_n 0, 1) := by decide +kernel
theorem dX6_init_76 : decode cX6_init 76 = .ok (.new 47, 3) := by decide +kernel
theorem dX6_init_79 : decode cX6_init 79 = .ok (.dup, 1) := by decide +kernel
theorem dX6_init_80 : decode cX6_init 80 = .ok (.invokespecial 49, 3) := by decide +kernel
theorem dX6_init_83 : decode cX6_init 83 = .ok (.putfield 50, 3) := by decide +kernel
theorem dX6_init_86 : decode cX6_init 86 = .ok (.return_, 1) := by decide +kernel
theorem dX6_add_0 : decode cX6_add 0 = .ok (.iload_n 1, 1) := by decide +kernel
theorem dX6_add_1 : decode cX6_add 1 = .ok (.iconst 0, 1) := by decide +kernel
theorem dX6_add_2 : decode cX6_add 2 = .ok (.bipush 32, 2) := by decide +kernel
theorem dX6_add_4 : decode cX6_add 4 = .ok (.invokestatic 54, 3) := by decide +kernel
theorem dX6_add_7 : decode cX6_add 7 = .ok (.ifCond .eq 14, 3) := by decide +kernel
theorem dX6_add_10 : decode cX6_add 10 = .ok (.iload 4, 2) := by decide +kernel
theorem dX6_add_12 : decode cX6_add 12 = .ok (.iconst 1, 1) := by decide +kernel
theorem dX6_add_13 : decode cX6_add 13 = .ok (.bipush 32, 2) := by decide +kernel
theorem dX6_add_15 : decode cX6_add 15 = .ok (.invokestatic 54, 3) := by decide +kernel
theorem dX6_add_18 : decode cX6_add 18 = .ok (.ifCond .ne 6, 3) := by decide +kernel
theorem dX6_add_21 : decode cX6_add 21 = .ok (.bipush (-2), 2) := by decide +kernel
theorem dX6_add_23 : decode cX6_add 23 = .ok (.ireturn, 1) := by decide +kernel
theorem dX6_add_24 : decode cX6_add 24 = .ok (.iload_n 2, 1) := by decide +kernel
theorem dX6_add_25 : decode cX6_add 25 = .ok (.iconst 0, 1) := by decide +kernel
theorem dX6_add_26 : decode cX6_add 26 = .ok (.bipush 60, 2) := by decide +kernel
theorem dX6_add_28 : decode cX6_add 28 = .ok (.invokestatic 54, 3) := by decide +kernel
theorem dX6_add_31 : decode cX6_add 31 = .ok (.ifCond .eq 13, 3) := by decide +kernel
theorem dX6_add_34 : decode cX6_add 34 = .ok (.iload_n 3, 1) := by decide +kernel
theorem dX6_add_35 : decode cX6_add 35 = .ok (.iconst 0, 1) := by decide +kernel
theorem dX6_add_36 : decode cX6_add 36 = .ok (.bipush 60, 2) := by decide +kernel
theorem dX6_add_38 : decode cX6_add 38 = .ok (.invokestatic 54, 3) := by decide +kernel
theorem dX6_add_41 : decode cX6_add 41 = .ok (.ifCond .ne 6, 3) := by decide +kernel
theorem dX6_add_44 : decode cX6_add 44 = .ok (.bipush (-2), 2) := by decide +kernel
theorem dX6_add_46 : decode cX6_add 46 = .ok (.ireturn, 1) := by decide +kernel
theorem dX6_add_47 : decode cX6_add 47 = .ok (.aload_n 0, 1) := by decide +kernel
theorem dX6_add_48 : decode cX6_add 48 = .ok (.getfield 10, 3) := by decide +kernel
theorem dX6_add_51 : decode cX6_add 51 = .ok (.getfield 58, 3) := by decide +kernel
theorem dX6_add_54 : decode cX6_add 54 = .ok (.iload_n 1, 1) := by decide +kernel
theorem dX6_add_55 : decode cX6_add 55 = .ok (.iload 4, 2) := by decide +kernel
theorem dX6_add_57 : decode cX6_add 57 = .ok (.invokevirtual 62, 3) := by decide +kernel
theorem dX6_add_60 : decode cX6_add 60 = .ok (.ifCond .ne 6, 3) := by decide +kernel
theorem dX6_add_63 : decode cX6_add 63 = .ok (.bipush (-3), 2) := by decide +kernel
theorem dX6_add_65 : decode cX6_add 65 = .ok (.ireturn, 1) := by decide +kernel
theorem dX6_add_66 : decode cX6_add 66 = .ok (.aload_n 0, 1) := by decide +kernel
theorem dX6_add_67 : decode cX6_add 67 = .ok (.getfield 29, 3) := by decide +kernel
theorem dX6_add_70 : decode cX6_add 70 = .ok (.aload_n 0, 1) := by decide +kernel
theorem dX6_add_71 : decode cX6_add 71 = .ok (.getfield 10, 3) := by decide +kernel
theorem dX6_add_74 : decode cX6_add 74 = .ok (.invokevirtual 68, 3) := by decide +kernel
theorem dX6_add_77 : decode cX6_add 77 = .ok (.aload_n 0, 1) := by decide +kernel
theorem dX6_add_78 : decode cX6_add 78 = .ok (.getfield 10, 3) := by decide +kernel
theorem dX6_add_81 : decode cX6_add 81 = .ok (.getfield 58, 3) := by decide +kernel
theorem dX6_add_84 : decode cX6_add 84 = .ok (.iload_n 1, 1) := by decide +kernel
theorem dX6_add_85 : decode cX6_add 85 = .ok (.iload_n 2, 1) := by decide +kernel
theorem dX6_add_86 : decode cX6_add 86 = .ok (.iload_n 3, 1) := by decide +kernel
theorem dX6_add_87 : decode cX6_add 87 = .ok (.iload 4, 2) := by decide +kernel
theorem dX6_add_89 : decode cX6_add 89 = .ok (.iload 5, 2) := by decide +kernel
theorem dX6_add_91 : decode cX6_add 91 = .ok (.invokevirtual 72, 3) := by decide +kernel
theorem dX6_add_94 : decode cX6_add 94 = .ok (.ireturn, 1) := by decide +kernel
theorem dX6_drop_0 : decode cX6_drop 0 = .ok (.aload_n 0, 1) := by decide +kernel
theorem dX6_drop_1 : decode cX6_drop 1 = .ok (.getfield 10, 3) := by decide +kernel
theorem dX6_drop_4 : decode cX6_drop 4 = .ok (.getfield 58, 3) := by decide +kernel
theorem dX6_drop_7 : decode cX6_drop 7 = .ok (.invokevirtual 76, 3) := by decide +kernel
theorem dX6_drop_10 : decode cX6_drop 10 = .ok (.ifCond .ne 6, 3) := by decide +kernel
theorem dX6_drop_13 : decode cX6_drop 13 = .ok (.bipush (-5), 2) := by decide +kernel
theorem dX6_drop_15 : decode cX6_drop 15 = .ok (.ireturn, 1) := by decide +kernel
theorem dX6_drop_16 : decode cX6_drop 16 = .ok (.aload_n 0, 1) := by decide +kernel
theorem dX6_drop_17 : decode cX6_drop 17 = .ok (.getfield 29, 3) := by decide +kernel
theorem dX6_drop_20 : decode cX6_drop 20 = .ok (.aload_n 0, 1) := by decide +kernel
theorem dX6_drop_21 : decode cX6_drop 21 = .ok (.getfield 10, 3) := by decide +kernel
theorem dX6_drop_24 : decode cX6_drop 24 = .ok (.invokevirtual 68, 3) := by decide +kernel
theorem dX6_drop_27 : decode cX6_drop 27 = .ok (.aload_n 0, 1) := by decide +kernel
theorem dX6_drop_28 : decode cX6_drop 28 = .ok (.getfield 10, 3) := by decide +kernel
theorem dX6_drop_31 : decode cX6_drop 31 = .ok (.getfield 58, 3) := by decide +kernel
theorem dX6_drop_34 : decode cX6_drop 34 = .ok (.invokevirtual 80, 3) := by decide +kernel
theorem dX6_drop_37 : decode cX6_drop 37 = .ok (.ireturn, 1) := by decide +kernel
theorem dX6_set_0 : decode cX6_set 0 = .ok (.iload_n 1, 1) := by decide +kernel
theorem dX6_set_1 : decode cX6_set 1 = .ok (.invokestatic 101, 3) := by decide +kernel
theorem dX6_set_4 : decode cX6_set 4 = .ok (.ifCond .ne 5, 3) := by decide +kernel
theorem dX6_set_7 : decode cX6_set 7 = .ok (.iconst (-1), 1) := by decide +kernel
theorem dX6_set_8 : decode cX6_set 8 = .ok (.ireturn, 1) := by decide +kernel
theorem dX6_set_9 : decode cX6_set 9 = .ok (.iload_n 1, 1) := by decide +kernel
theorem dX6_set_10 : decode cX6_set 10 = .ok (.iload_n 2, 1) := by decide +kernel
theorem dX6_set_11 : decode cX6_set 11 = .ok (.invokestatic 105, 3) := by decide +kernel
theorem dX6_set_14 : decode cX6_set 14 = .ok (.ifCond .ne 6, 3) := by decide +kernel
theorem dX6_set_17 : decode cX6_set 17 = .ok (.bipush (-2), 2) := by decide +kernel
theorem dX6_set_19 : decode cX6_set 19 = .ok (.ireturn, 1) := by decide +kernel
theorem dX6_set_20 : decode cX6_set 20 = .ok (.aload_n 0, 1) := by decide +kernel
theorem dX6_set_21 : decode cX6_set 21 = .ok (.getfield 10, 3) := by decide +kernel
theorem dX6_set_24 : decode cX6_set 24 = .ok (.iload_n 1, 1) := by decide +kernel
theorem dX6_set_25 : decode cX6_set 25 = .ok (.invokevirtual 108, 3) := by decide +kernel
theorem dX6_set_28 : decode cX6_set 28 = .ok (.istore_n 3, 1) := by decide +kernel
theorem dX6_set_29 : decode cX6_set 29 = .ok (.iload_n 3, 1) := by decide +kernel
theorem dX6_set_30 : decode cX6_set 30 = .ok (.iload_n 2, 1) := by decide +kernel
theorem dX6_set_31 : decode cX6_set 31 = .ok (.if_icmp .ne 6, 3) := by decide +kernel
theorem dX6_set_34 : decode cX6_set 34 = .ok (.bipush (-5), 2) := by decide +kernel
theorem dX6_set_36 : decode cX6_set 36 = .ok (.ireturn, 1) := by decide +kernel
theorem dX6_set_37 : decode cX6_set 37 = .ok (.aload_n 0, 1) := by decide +kernel
theorem dX6_set_38 : decode cX6_set 38 = .ok (.getfield 29, 3) := by decide +kernel
theorem dX6_set_41 : decode cX6_set 41 = .ok (.aload_n 0, 1) := by decide +kernel
theorem dX6_set_42 : decode cX6_set 42 = .ok (.getfield 10, 3) := by decide +kernel
theorem dX6_set_45 : decode cX6_set 45 = .ok (.invokevirtual 68, 3) := by decide +kernel
theorem dX6_set_48 : decode cX6_set 48 = .ok (.aload_n 0, 1) := by decide +kernel
theorem dX6_set_49 : decode cX6_set 49 = .ok (.getfield 10, 3) := by decide +kernel
theorem dX6_set_52 : decode cX6_set 52 = .ok (.iload_n 1, 1) := by decide +kernel
theorem dX6_set_53 : decode cX6_set 53 = .ok (.iload_n 2, 1) := by decide +kernel
theorem dX6_set_54 : decode cX6_set 54 = .ok (.invokevirtual 112, 3) := by decide +kernel
theorem dX6_set_57 : decode cX6_set 57 = .ok (.iload_n 3, 1) := by decide +kernel
theorem dX6_set_58 : decode cX6_set 58 = .ok (.ireturn, 1) := by decide +kernel
theorem dX6_sing_0 : decode cX6_sing 0 = .ok (.iload_n 1, 1) := by decide +kernel
theorem dX6_sing_1 : decode cX6_sing 1 = .ok (.iload_n 2, 1) := by decide +kernel
theorem dX6_sing_2 : decode cX6_sing 2 = .ok (.bipush 64, 2) := by decide +kernel
theorem dX6_sing_4 : decode cX6_sing 4 = .ok (.invokestatic 116, 3) := by decide +kernel
theorem dX6_sing_7 : decode cX6_sing 7 = .ok (.ifCond .eq 13, 3) := by decide +kernel
theorem dX6_sing_10 : decode cX6_sing 10 = .ok (.iload_n 3, 1) := by decide +kernel
theorem dX6_sing_11 : decode cX6_sing 11 = .ok (.iconst 0, 1) := by decide +kernel
theorem dX6_sing_12 : decode cX6_sing 12 = .ok (.bipush 60, 2) := by decide +kernel
theorem dX6_sing_14 : decode cX6_sing 14 = .ok (.invokestatic 54, 3) := by decide +kernel
theorem dX6_sing_17 : decode cX6_sing 17 = .ok (.ifCond .ne 6, 3) := by decide +kernel
theorem dX6_sing_20 : decode cX6_sing 20 = .ok (.bipush (-2), 2) := by decide +kernel
theorem dX6_sing_22 : decode cX6_sing 22 = .ok (.ireturn, 1) := by decide +kernel
theorem dX6_sing_23 : decode cX6_sing 23 = .ok (.aload_n 0, 1) := by decide +kernel
theorem dX6_sing_24 : decode cX6_sing 24 = .ok (.getfield 29, 3) := by decide +kernel
theorem dX6_sing_27 : decode cX6_sing 27 = .ok (.aload_n 0, 1) := by decide +kernel
theorem dX6_sing_28 : decode cX6_sing 28 = .ok (.getfield 10, 3) := by decide +kernel
theorem dX6_sing_31 : decode cX6_sing 31 = .ok (.invokevirtual 68, 3) := by decide +kernel
theorem dX6_sing_34 : decode cX6_sing 34 = .ok (.aload_n 0, 1) := by decide +kernel
theorem dX6_sing_35 : decode cX6_sing 35 = .ok (.getfield 10, 3) := by decide +kernel
theorem dX6_sing_38 : decode cX6_sing 38 = .ok (.iload_n 1, 1) := by decide +kernel
theorem dX6_sing_39 : decode cX6_sing 39 = .ok (.iload_n 2, 1) := by decide +kernel
theorem dX6_sing_40 : decode cX6_sing 40 = .ok (.iload_n 3, 1) := by decide +kernel
theorem dX6_sing_41 : decode cX6_sing 41 = .ok (.invokevirtual 119, 3) := by decide +kernel
theorem dX6_sing_44 : decode cX6_sing 44 = .ok (.aload_n 0, 1) := by decide +kernel
theorem dX6_sing_45 : decode cX6_sing 45 = .ok (.invokevirtual 123, 3) := by decide +kernel
theorem dX6_sing_48 : decode cX6_sing 48 = .ok (.ireturn, 1) := by decide +kernel
theorem dX6_silence_0 : decode cX6_silence 0 = .ok (.iload_n 1, 1) := by decide +kernel
theorem dX6_silence_1 : decode cX6_silence 1 = .ok (.iload_n 2, 1) := by decide +kernel
theorem dX6_silence_2 : decode cX6_silence 2 = .ok (.sipush 600, 3) := by decide +kernel
theorem dX6_silence_5 : decode cX6_silence 5 = .ok (.invokestatic 116, 3) := by decide +kernel
theorem dX6_silence_8 : decode cX6_silence 8 = .ok (.ifCond .ne 6, 3) := by decide +kernel
theorem dX6_silence_11 : decode cX6_silence 11 = .ok (.bipush (-2), 2) := by decide +kernel
theorem dX6_silence_13 : decode cX6_silence 13 = .ok (.ireturn, 1) := by decide +kernel
theorem dX6_silence_14 : decode cX6_silence 14 = .ok (.aload_n 0, 1) := by decide +kernel
theorem dX6_silence_15 : decode cX6_silence 15 = .ok (.getfield 29, 3) := by decide +kernel
theorem dX6_silence_18 : decode cX6_silence 18 = .ok (.aload_n 0, 1) := by decide +kernel
theorem dX6_silence_19 : decode cX6_silence 19 = .ok (.getfield 10, 3) := by decide +kernel
theorem dX6_silence_22 : decode cX6_silence 22 = .ok (.invokevirtual 68, 3) := by decide +kernel
theorem dX6_silence_25 : decode cX6_silence 25 = .ok (.aload_n 0, 1) := by decide +kernel
theorem dX6_silence_26 : decode cX6_silence 26 = .ok (.getfield 10, 3) := by decide +kernel
theorem dX6_silence_29 : decode cX6_silence 29 = .ok (.invokevirtual 126, 3) := by decide +kernel
theorem dX6_silence_32 : decode cX6_silence 32 = .ok (.istore_n 3, 1) := by decide +kernel
theorem dX6_silence_33 : decode cX6_silence 33 = .ok (.aload_n 0, 1) := by decide +kernel
theorem dX6_silence_34 : decode cX6_silence 34 = .ok (.getfield 10, 3) := by decide +kernel
theorem dX6_silence_37 : decode cX6_silence 37 = .ok (.iload_n 1, 1) := by decide +kernel
theorem dX6_silence_38 : decode cX6_silence 38 = .ok (.iload_n 2, 1) := by decide +kernel
theorem dX6_silence_39 : decode cX6_silence 39 = .ok (.iconst (-1), 1) := by decide +kernel
theorem dX6_silence_40 : decode cX6_silence 40 = .ok (.invokevirtual 119, 3) := by decide +kernel
theorem dX6_silence_43 : decode cX6_silence 43 = .ok (.iload_n 3, 1) := by decide +kernel
theorem dX6_silence_44 : decode cX6_silence 44 = .ok (.aload_n 0, 1) := by decide +kernel
theorem dX6_silence_45 : decode cX6_silence 45 = .ok (.getfield 10, 3) := by decide +kernel
theorem dX6_silence_48 : decode cX6_silence 48 = .ok (.invokevirtual 126, 3) := by decide +kernel
theorem dX6_silence_51 : decode cX6_silence 51 = .ok (.isub, 1) := by decide +kernel
theorem dX6_silence_52 : decode cX6_silence 52 = .ok (.ireturn, 1) := by decide +kernel
theorem dX6_singAlong_0 : decode cX6_singAlong 0 = .ok (.aload_n 0, 1) := by decide +kernel
theorem dX6_singAlong_1 : decode cX6_singAlong 1 = .ok (.getfield 10, 3) := by decide +kernel
theorem dX6_singAlong_4 : decode cX6_singAlong 4 = .ok (.getfield 58, 3) := by decide +kernel
theorem dX6_singAlong_7 : decode cX6_singAlong 7 = .ok (.iload_n 1, 1) := by decide +kernel
theorem dX6_singAlong_8 : decode cX6_singAlong 8 = .ok (.invokevirtual 129, 3) := by decide +kernel
theorem dX6_singAlong_11 : decode cX6_singAlong 11 = .ok (.ifCond .eq 17, 3) := by decide +kernel
theorem dX6_singAlong_14 : decode cX6_singAlong 14 = .ok (.aload_n 0, 1) := by decide +kernel
theorem dX6_singAlong_15 : decode cX6_singAlong 15 = .ok (.getfield 10, 3) := by decide +kernel
theorem dX6_singAlong_18 : decode cX6_singAlong 18 = .ok (.getfield 58, 3) := by decide +kernel
theorem dX6_singAlong_21 : decode cX6_singAlong 21 = .ok (.iload_n 2, 1) := by decide +kernel
theorem dX6_singAlong_22 : decode cX6_singAlong 22 = .ok (.invokevirtual 129, 3) := by decide +kernel
theorem dX6_singAlong_25 : decode cX6_singAlong 25 = .ok (.ifCond .ne 5, 3) := by decide +kernel
theorem dX6_singAlong_28 : decode cX6_singAlong 28 = .ok (.iconst (-1), 1) := by decide +kernel
theorem dX6_singAlong_29 : decode cX6_singAlong 29 = .ok (.ireturn, 1) := by decide +kernel
theorem dX6_singAlong_30 : decode cX6_singAlong 30 = .ok (.iload_n 2, 1) := by decide +kernel
theorem dX6_singAlong_31 : decode cX6_singAlong 31 = .ok (.iload_n 1, 1) := by decide +kernel
theorem dX6_singAlong_32 : decode cX6_singAlong 32 = .ok (.if_icmp .lt 14, 3) := by decide +kernel
theorem dX6_singAlong_35 : decode cX6_singAlong 35 = .ok (.iload_n 3, 1) := by decide +kernel
theorem dX6_singAlong_36 : decode cX6_singAlong 36 = .ok (.bipush (-60), 2) := by decide +kernel
theorem dX6_singAlong_38 : decode cX6_singAlong 38 = .ok (.bipush 60, 2) := by decide +kernel
theorem dX6_singAlong_40 : decode cX6_singAlong 40 = .ok (.invokestatic 54, 3) := by decide +kernel
theorem dX6_singAlong_43 : decode cX6_singAlong 43 = .ok (.ifCond .ne 6, 3) := by decide +kernel
theorem dX6_singAlong_46 : decode cX6_singAlong 46 = .ok (.bipush (-2), 2) := by decide +kernel
theorem dX6_singAlong_48 : decode cX6_singAlong 48 = .ok (.ireturn, 1) := by decide +kernel
theorem dX6_singAlong_49 : decode cX6_singAlong 49 = .ok (.aload_n 0, 1) := by decide +kernel
theorem dX6_singAlong_50 : decode cX6_singAlong 50 = .ok (.getfield 29, 3) := by decide +kernel
theorem dX6_singAlong_53 : decode cX6_singAlong 53 = .ok (.aload_n 0, 1) := by decide +kernel
theorem dX6_singAlong_54 : decode cX6_singAlong 54 = .ok (.getfield 10, 3) := by decide +kernel
theorem dX6_singAlong_57 : decode cX6_singAlong 57 = .ok (.invokevirtual 68, 3) := by decide +kernel
theorem dX6_singAlong_60 : decode cX6_singAlong 60 = .ok (.iload_n 1, 1) := by decide +kernel
theorem dX6_singAlong_61 : decode cX6_singAlong 61 = .ok (.istore 4, 2) := by decide +kernel
theorem dX6_singAlong_63 : decode cX6_singAlong 63 = .ok (.iload 4, 2) := by decide +kernel
theorem dX6_singAlong_65 : decode cX6_singAlong 65 = .ok (.iload_n 2, 1) := by decide +kernel
theorem dX6_singAlong_66 : decode cX6_singAlong 66 = .ok (.if_icmp .gt 19, 3) := by decide +kernel
theorem dX6_singAlong_69 : decode cX6_singAlong 69 = .ok (.aload_n 0, 1) := by decide +kernel
theorem dX6_singAlong_70 : decode cX6_singAlong 70 = .ok (.getfield 10, 3) := by decide +kernel
theorem dX6_singAlong_73 : decode cX6_singAlong 73 = .ok (.iload 4, 2) := by decide +kernel
theorem dX6_singAlong_75 : decode cX6_singAlong 75 = .ok (.iload_n 3, 1) := by decide +kernel
theorem dX6_singAlong_76 : decode cX6_singAlong 76 = .ok (.invokevirtual 132, 3) := by decide +kernel
theorem dX6_singAlong_79 : decode cX6_singAlong 79 = .ok (.iinc 4 1, 3) := by decide +kernel
theorem dX6_singAlong_82 : decode cX6_singAlong 82 = .ok (.goto (-19), 3) := by decide +kernel
theorem dX6_singAlong_85 : decode cX6_singAlong 85 = .ok (.aload_n 0, 1) := by decide +kernel
theorem dX6_singAlong_86 : decode cX6_singAlong 86 = .ok (.invokevirtual 123, 3) := by decide +kernel
theorem dX6_singAlong_89 : decode cX6_singAlong 89 = .ok (.ireturn, 1) := by decide +kernel
theorem dX6_undo_0 : decode cX6_undo 0 = .ok (.aload_n 0, 1) := by decide +kernel
theorem dX6_undo_1 : decode cX6_undo 1 = .ok (.getfield 29, 3) := by decide +kernel
theorem dX6_undo_4 : decode cX6_undo 4 = .ok (.invokevirtual 145, 3) := by decide +kernel
theorem dX6_undo_7 : decode cX6_undo 7 = .ok (.ifCond .ne 6, 3) := by decide +kernel
theorem dX6_undo_10 : decode cX6_undo 10 = .ok (.bipush (-5), 2) := by decide +kernel
theorem dX6_undo_12 : decode cX6_undo 12 = .ok (.ireturn, 1) := by decide +kernel
theorem dX6_undo_13 : decode cX6_undo 13 = .ok (.aload_n 0, 1) := by decide +kernel
theorem dX6_undo_14 : decode cX6_undo 14 = .ok (.getfield 29, 3) := by decide +kernel
theorem dX6_undo_17 : decode cX6_undo 17 = .ok (.aload_n 0, 1) := by decide +kernel
theorem dX6_undo_18 : decode cX6_undo 18 = .ok (.getfield 10, 3) := by decide +kernel
theorem dX6_undo_21 : decode cX6_undo 21 = .ok (.invokevirtual 146, 3) := by decide +kernel
theorem dX6_undo_24 : decode cX6_undo 24 = .ok (.ireturn, 1) := by decide +kernel
theorem dX6_syllable_0 : decode cX6_syllable 0 = .ok (.aload_n 0, 1) := by decide +kernel
theorem dX6_syllable_1 : decode cX6_syllable 1 = .ok (.getfield 10, 3) := by decide +kernel
theorem dX6_syllable_4 : decode cX6_syllable 4 = .ok (.getfield 58, 3) := by decide +kernel
theorem dX6_syllable_7 : decode cX6_syllable 7 = .ok (.iload_n 1, 1) := by decide +kernel
theorem dX6_syllable_8 : decode cX6_syllable 8 = .ok (.invokevirtual 129, 3) := by decide +kernel
theorem dX6_syllable_11 : decode cX6_syllable 11 = .ok (.ifCond .ne 5, 3) := by decide +kernel
theorem dX6_syllable_14 : decode cX6_syllable 14 = .ok (.iconst (-1), 1) := by decide +kernel
theorem dX6_syllable_15 : decode cX6_syllable 15 = .ok (.ireturn, 1) := by decide +kernel
theorem dX6_syllable_16 : decode cX6_syllable 16 = .ok (.iload_n 2, 1) := by decide +kernel
theorem dX6_syllable_17 : decode cX6_syllable 17 = .ok (.iconst 0, 1) := by decide +kernel
theorem dX6_syllable_18 : decode cX6_syllable 18 = .ok (.bipush 11, 2) := by decide +kernel
theorem dX6_syllable_20 : decode cX6_syllable 20 = .ok (.invokestatic 54, 3) := by decide +kernel
theorem dX6_syllable_23 : decode cX6_syllable 23 = .ok (.ifCond .ne 6, 3) := by decide +kernel
theorem dX6_syllable_26 : decode cX6_syllable 26 = .ok (.bipush (-2), 2) := by decide +kernel
theorem dX6_syllable_28 : decode cX6_syllable 28 = .ok (.ireturn, 1) := by decide +kernel
theorem dX6_syllable_29 : decode cX6_syllable 29 = .ok (.aload_n 0, 1) := by decide +kernel
theorem dX6_syllable_30 : decode cX6_syllable 30 = .ok (.getfield 50, 3) := by decide +kernel
theorem dX6_syllable_33 : decode cX6_syllable 33 = .ok (.aload_n 0, 1) := by decide +kernel
theorem dX6_syllable_34 : decode cX6_syllable 34 = .ok (.getfield 10, 3) := by decide +kernel
theorem dX6_syllable_37 : decode cX6_syllable 37 = .ok (.invokevirtual 152, 3) := by decide +kernel
theorem dX6_syllable_40 : decode cX6_syllable 40 = .ok (.iload_n 2, 1) := by decide +kernel
theorem dX6_syllable_41 : decode cX6_syllable 41 = .ok (.tableswitch 184 0 10 #[59, 71, 83, 95, 107, 119, 139, 148, 157, 166, 175], 59) := by decide +kernel
theorem dX6_syllable_100 : decode cX6_syllable 100 = .ok (.aload_n 0, 1) := by decide +kernel
theorem dX6_syllable_101 : decode cX6_syllable 101 = .ok (.getfield 10, 3) := by decide +kernel
theorem dX6_syllable_104 : decode cX6_syllable 104 = .ok (.getfield 58, 3) := by decide +kernel
theorem dX6_syllable_107 : decode cX6_syllable 107 = .ok (.iload_n 1, 1) := by decide +kernel
theorem dX6_syllable_108 : decode cX6_syllable 108 = .ok (.invokevirtual 154, 3) := by decide +kernel
theorem dX6_syllable_111 : decode cX6_syllable 111 = .ok (.ireturn, 1) := by decide +kernel
theorem dX6_syllable_112 : decode cX6_syllable 112 = .ok (.aload_n 0, 1) := by decide +kernel
theorem dX6_syllable_113 : decode cX6_syllable 113 = .ok (.getfield 10, 3) := by decide +kernel
theorem dX6_syllable_116 : decode cX6_syllable 116 = .ok (.getfield 58, 3) := by decide +kernel
theorem dX6_syllable_119 : decode cX6_syllable 119 = .ok (.iload_n 1, 1) := by decide +kernel
theorem dX6_syllable_120 : decode cX6_syllable 120 = .ok (.invokevirtual 157, 3) := by decide +kernel
theorem dX6_syllable_123 : decode cX6_syllable 123 = .ok (.ireturn, 1) := by decide +kernel
theorem dX6_syllable_124 : decode cX6_syllable 124 = .ok (.aload_n 0, 1) := by decide +kernel
theorem dX6_syllable_125 : decode cX6_syllable 125 = .ok (.getfield 10, 3) := by decide +kernel
theorem dX6_syllable_128 : decode cX6_syllable 128 = .ok (.getfield 58, 3) := by decide +kernel
theorem dX6_syllable_131 : decode cX6_syllable 131 = .ok (.iload_n 1, 1) := by decide +kernel
theorem dX6_syllable_132 : decode cX6_syllable 132 = .ok (.invokevirtual 160, 3) := by decide +kernel
theorem dX6_syllable_135 : decode cX6_syllable 135 = .ok (.ireturn, 1) := by decide +kernel
theorem dX6_syllable_136 : decode cX6_syllable 136 = .ok (.aload_n 0, 1) := by decide +kernel
theorem dX6_syllable_137 : decode cX6_syllable 137 = .ok (.getfield 10, 3) := by decide +kernel
theorem dX6_syllable_140 : decode cX6_syllable 140 = .ok (.getfield 58, 3) := by decide +kernel
theorem dX6_syllable_143 : decode cX6_syllable 143 = .ok (.iload_n 1, 1) := by decide +kernel
theorem dX6_syllable_144 : decode cX6_syllable 144 = .ok (.invokevirtual 163, 3) := by decide +kernel
theorem dX6_syllable_147 : decode cX6_syllable 147 = .ok (.ireturn, 1) := by decide +kernel
theorem dX6_syllable_148 : decode cX6_syllable 148 = .ok (.aload_n 0, 1) := by decide +kernel
theorem dX6_syllable_149 : decode cX6_syllable 149 = .ok (.getfield 10, 3) := by decide +kernel
theorem dX6_syllable_152 : decode cX6_syllable 152 = .ok (.getfield 58, 3) := by decide +kernel
theorem dX6_syllable_155 : decode cX6_syllable 155 = .ok (.iload_n 1, 1) := by decide +kernel
theorem dX6_syllable_156 : decode cX6_syllable 156 = .ok (.invokevirtual 166, 3) := by decide +kernel
theorem dX6_syllable_159 : decode cX6_syllable 159 = .ok (.ireturn, 1) := by decide +kernel
theorem dX6_syllable_160 : decode cX6_syllable 160 = .ok (.aload_n 0, 1) := by decide +kernel
theorem dX6_syllable_161 : decode cX6_syllable 161 = .ok (.getfield 10, 3) := by decide +kernel
theorem dX6_syllable_164 : decode cX6_syllable 164 = .ok (.getfield 58, 3) := by decide +kernel
theorem dX6_syllable_167 : decode cX6_syllable 167 = .ok (.iload_n 1, 1) := by decide +kernel
theorem dX6_syllable_168 : decode cX6_syllable 168 = .ok (.aload_n 0, 1) := by decide +kernel
theorem dX6_syllable_169 : decode cX6_syllable 169 = .ok (.getfield 10, 3) := by decide +kernel
theorem dX6_syllable_172 : decode cX6_syllable 172 = .ok (.iconst 0, 1) := by decide +kernel
theorem dX6_syllable_173 : decode cX6_syllable 173 = .ok (.invokevirtual 108, 3) := by decide +kernel
theorem dX6_syllable_176 : decode cX6_syllable 176 = .ok (.invokevirtual 169, 3) := by decide +kernel
theorem dX6_syllable_179 : decode cX6_syllable 179 = .ok (.ireturn, 1) := by decide +kernel
theorem dX6_syllable_180 : decode cX6_syllable 180 = .ok (.aload_n 0, 1) := by decide +kernel
theorem dX6_syllable_181 : decode cX6_syllable 181 = .ok (.getfield 50, 3) := by decide +kernel
theorem dX6_syllable_184 : decode cX6_syllable 184 = .ok (.iload_n 1, 1) := by decide +kernel
theorem dX6_syllable_185 : decode cX6_syllable 185 = .ok (.invokevirtual 173, 3) := by decide +kernel
theorem dX6_syllable_188 : decode cX6_syllable 188 = .ok (.ireturn, 1) := by decide +kernel
theorem dX6_syllable_189 : decode cX6_syllable 189 = .ok (.aload_n 0, 1) := by decide +kernel
theorem dX6_syllable_190 : decode cX6_syllable 190 = .ok (.getfield 50, 3) := by decide +kernel
theorem dX6_syllable_193 : decode cX6_syllable 193 = .ok (.iload_n 1, 1) := by decide +kernel
theorem dX6_syllable_194 : decode cX6_syllable 194 = .ok (.invokevirtual 176, 3) := by decide +kernel
theorem dX6_syllable_197 : decode cX6_syllable 197 = .ok (.ireturn, 1) := by decide +kernel
theorem dX6_syllable_198 : decode cX6_syllable 198 = .ok (.aload_n 0, 1) := by decide +kernel
theorem dX6_syllable_199 : decode cX6_syllable 199 = .ok (.getfield 50, 3) := by decide +kernel
theorem dX6_syllable_202 : decode cX6_syllable 202 = .ok (.iload_n 1, 1) := by decide +kernel
theorem dX6_syllable_203 : decode cX6_syllable 203 = .ok (.invokevirtual 179, 3) := by decide +kernel
theorem dX6_syllable_206 : decode cX6_syllable 206 = .ok (.ireturn, 1) := by decide +kernel
theorem dX6_syllable_207 : decode cX6_syllable 207 = .ok (.aload_n 0, 1) := by decide +kernel
theorem dX6_syllable_208 : decode cX6_syllable 208 = .ok (.getfield 50, 3) := by decide +kernel
theorem dX6_syllable_211 : decode cX6_syllable 211 = .ok (.iload_n 1, 1) := by decide +kernel
theorem dX6_syllable_212 : decode cX6_syllable 212 = .ok (.invokevirtual 182, 3) := by decide +kernel
theorem dX6_syllable_215 : decode cX6_syllable 215 = .ok (.ireturn, 1) := by decide +kernel
theorem dX6_syllable_216 : decode cX6_syllable 216 = .ok (.aload_n 0, 1) := by decide +kernel
theorem dX6_syllable_217 : decode cX6_syllable 217 = .ok (.getfield 50, 3) := by decide +kernel
theorem dX6_syllable_220 : decode cX6_syllable 220 = .ok (.iload_n 1, 1) := by decide +kernel
theorem dX6_syllable_221 : decode cX6_syllable 221 = .ok (.invokevirtual 185, 3) := by decide +kernel
theorem dX6_syllable_224 : decode cX6_syllable 224 = .ok (.ireturn, 1) := by decide +kernel
theorem dX6_syllable_225 : decode cX6_syllable 225 = .ok (.aload_n 0, 1) := by decide +kernel
theorem dX6_syllable_226 : decode cX6_syllable 226 = .ok (.getfield 50, 3) := by decide +kernel
theorem dX6_syllable_229 : decode cX6_syllable 229 = .ok (.iload_n 1, 1) := by decide +kernel
theorem dX6_syllable_230 : decode cX6_syllable 230 = .ok (.invokevirtual 188, 3) := by decide +kernel
theorem dX6_syllable_233 : decode cX6_syllable 233 = .ok (.ireturn, 1) := by decide +kernel
theorem dX6_wanted_0 : decode cX6_wanted 0 = .ok (.iload_n 1, 1) := by decide +kernel
theorem dX6_wanted_1 : decode cX6_wanted 1 = .ok (.iconst 0, 1) := by decide +kernel
theorem dX6_wanted_2 : decode cX6_wanted 2 = .ok (.sipush 599, 3) := by decide +kernel
theorem dX6_wanted_5 : decode cX6_wanted 5 = .ok (.invokestatic 54, 3) := by decide +kernel
theorem dX6_wanted_8 : decode cX6_wanted 8 = .ok (.ifCond .ne 6, 3) := by decide +kernel
theorem dX6_wanted_11 : decode cX6_wanted 11 = .ok (.bipush (-2), 2) := by decide +kernel
theorem dX6_wanted_13 : decode cX6_wanted 13 = .ok (.ireturn, 1) := by decide +kernel
theorem dX6_wanted_14 : decode cX6_wanted 14 = .ok (.aload_n 0, 1) := by decide +kernel
theorem dX6_wanted_15 : decode cX6_wanted 15 = .ok (.getfield 10, 3) := by decide +kernel
theorem dX6_wanted_18 : decode cX6_wanted 18 = .ok (.getfield 58, 3) := by decide +kernel
theorem dX6_wanted_21 : decode cX6_wanted 21 = .ok (.astore_n 2, 1) := by decide +kernel
theorem dX6_wanted_22 : decode cX6_wanted 22 = .ok (.iconst 0, 1) := by decide +kernel
theorem dX6_wanted_23 : decode cX6_wanted 23 = .ok (.istore_n 3, 1) := by decide +kernel
theorem dX6_wanted_24 : decode cX6_wanted 24 = .ok (.iload_n 3, 1) := by decide +kernel
theorem dX6_wanted_25 : decode cX6_wanted 25 = .ok (.aload_n 2, 1) := by decide +kernel
theorem dX6_wanted_26 : decode cX6_wanted 26 = .ok (.invokevirtual 76, 3) := by decide +kernel
theorem dX6_wanted_29 : decode cX6_wanted 29 = .ok (.if_icmp .ge 42, 3) := by decide +kernel
theorem dX6_wanted_32 : decode cX6_wanted 32 = .ok (.iload_n 1, 1) := by decide +kernel
theorem dX6_wanted_33 : decode cX6_wanted 33 = .ok (.aload_n 2, 1) := by decide +kernel
theorem dX6_wanted_34 : decode cX6_wanted 34 = .ok (.iload_n 3, 1) := by decide +kernel
theorem dX6_wanted_35 : decode cX6_wanted 35 = .ok (.invokevirtual 154, 3) := by decide +kernel
theorem dX6_wanted_38 : decode cX6_wanted 38 = .ok (.isub, 1) := by decide +kernel
theorem dX6_wanted_39 : decode cX6_wanted 39 = .ok (.istore 4, 2) := by decide +kernel
theorem dX6_wanted_41 : decode cX6_wanted 41 = .ok (.iload 4, 2) := by decide +kernel
theorem dX6_wanted_43 : decode cX6_wanted 43 = .ok (.iconst 0, 1) := by decide +kernel
theorem dX6_wanted_44 : decode cX6_wanted 44 = .ok (.aload_n 2, 1) := by decide +kernel
theorem dX6_wanted_45 : decode cX6_wanted 45 = .ok (.iload_n 3, 1) := by decide +kernel
theorem dX6_wanted_46 : decode cX6_wanted 46 = .ok (.invokevirtual 157, 3) := by decide +kernel
theorem dX6_wanted_49 : decode cX6_wanted 49 = .ok (.iconst 1, 1) := by decide +kernel
theorem dX6_wanted_50 : decode cX6_wanted 50 = .ok (.isub, 1) := by decide +kernel
theorem dX6_wanted_51 : decode cX6_wanted 51 = .ok (.invokestatic 54, 3) := by decide +kernel
theorem dX6_wanted_54 : decode cX6_wanted 54 = .ok (.ifCond .eq 11, 3) := by decide +kernel
theorem dX6_wanted_57 : decode cX6_wanted 57 = .ok (.aload_n 2, 1) := by decide +kernel
theorem dX6_wanted_58 : decode cX6_wanted 58 = .ok (.iload_n 3, 1) := by decide +kernel
theorem dX6_wanted_59 : decode cX6_wanted 59 = .ok (.iload 4, 2) := by decide +kernel
theorem dX6_wanted_61 : decode cX6_wanted 61 = .ok (.invokevirtual 191, 3) := by decide +kernel
theorem dX6_wanted_64 : decode cX6_wanted 64 = .ok (.ireturn, 1) := by decide +kernel
theorem dX6_wanted_65 : decode cX6_wanted 65 = .ok (.iinc 3 1, 3) := by decide +kernel
theorem dX6_wanted_68 : decode cX6_wanted 68 = .ok (.goto (-44), 3) := by decide +kernel
theorem dX6_wanted_71 : decode cX6_wanted 71 = .ok (.bipush (-5), 2) := by decide +kernel
theorem dX6_wanted_73 : decode cX6_wanted 73 = .ok (.ireturn, 1) := by decide +kernel
theorem dX6_sung_0 : decode cX6_sung 0 = .ok (.iload_n 1, 1) := by decide +kernel
theorem dX6_sung_1 : decode cX6_sung 1 = .ok (.iconst 0, 1) := by decide +kernel
theorem dX6_sung_2 : decode cX6_sung 2 = .ok (.sipush 599, 3) := by decide +kernel
theorem dX6_sung_5 : decode cX6_sung 5 = .ok (.invokestatic 54, 3) := by decide +kernel
theorem dX6_sung_8 : decode cX6_sung 8 = .ok (.ifCond .ne 6, 3) := by decide +kernel
theorem dX6_sung_11 : decode cX6_sung 11 = .ok (.bipush (-2), 2) := by decide +kernel
theorem dX6_sung_13 : decode cX6_sung 13 = .ok (.ireturn, 1) := by decide +kernel
theorem dX6_sung_14 : decode cX6_sung 14 = .ok (.aload_n 0, 1) := by decide +kernel
theorem dX6_sung_15 : decode cX6_sung 15 = .ok (.getfield 10, 3) := by decide +kernel
theorem dX6_sung_18 : decode cX6_sung 18 = .ok (.iload_n 1, 1) := by decide +kernel
theorem dX6_sung_19 : decode cX6_sung 19 = .ok (.invokevirtual 194, 3) := by decide +kernel
theorem dX6_sung_22 : decode cX6_sung 22 = .ok (.istore_n 2, 1) := by decide +kernel
theorem dX6_sung_23 : decode cX6_sung 23 = .ok (.iload_n 2, 1) := by decide +kernel
theorem dX6_sung_24 : decode cX6_sung 24 = .ok (.iconst (-1), 1) := by decide +kernel
theorem dX6_sung_25 : decode cX6_sung 25 = .ok (.if_icmp .ne 8, 3) := by decide +kernel
theorem dX6_sung_28 : decode cX6_sung 28 = .ok (.bipush (-5), 2) := by decide +kernel
theorem dX6_sung_30 : decode cX6_sung 30 = .ok (.goto 4, 3) := by decide +kernel
theorem dX6_sung_33 : decode cX6_sung 33 = .ok (.iload_n 2, 1) := by decide +kernel
theorem dX6_sung_34 : decode cX6_sung 34 = .ok (.ireturn, 1) := by decide +kernel
theorem dX6_lit_0 : decode cX6_lit 0 = .ok (.aload_n 0, 1) := by decide +kernel
theorem dX6_lit_1 : decode cX6_lit 1 = .ok (.getfield 10, 3) := by decide +kernel
theorem dX6_lit_4 : decode cX6_lit 4 = .ok (.getfield 58, 3) := by decide +kernel
theorem dX6_lit_7 : decode cX6_lit 7 = .ok (.iload_n 1, 1) := by decide +kernel
theorem dX6_lit_8 : decode cX6_lit 8 = .ok (.invokevirtual 129, 3) := by decide +kernel
theorem dX6_lit_11 : decode cX6_lit 11 = .ok (.ifCond .ne 5, 3) := by decide +kernel
theorem dX6_lit_14 : decode cX6_lit 14 = .ok (.iconst (-1), 1) := by decide +kernel
theorem dX6_lit_15 : decode cX6_lit 15 = .ok (.ireturn, 1) := by decide +kernel
theorem dX6_lit_16 : decode cX6_lit 16 = .ok (.iload_n 2, 1) := by decide +kernel
theorem dX6_lit_17 : decode cX6_lit 17 = .ok (.iconst 0, 1) := by decide +kernel
theorem dX6_lit_18 : decode cX6_lit 18 = .ok (.sipush 599, 3) := by decide +kernel
theorem dX6_lit_21 : decode cX6_lit 21 = .ok (.invokestatic 54, 3) := by decide +kernel
theorem dX6_lit_24 : decode cX6_lit 24 = .ok (.ifCond .ne 6, 3) := by decide +kernel
theorem dX6_lit_27 : decode cX6_lit 27 = .ok (.bipush (-2), 2) := by decide +kernel
theorem dX6_lit_29 : decode cX6_lit 29 = .ok (.ireturn, 1) := by decide +kernel
theorem dX6_lit_30 : decode cX6_lit 30 = .ok (.iload_n 2, 1) := by decide +kernel
theorem dX6_lit_31 : decode cX6_lit 31 = .ok (.aload_n 0, 1) := by decide +kernel
theorem dX6_lit_32 : decode cX6_lit 32 = .ok (.getfield 10, 3) := by decide +kernel
theorem dX6_lit_35 : decode cX6_lit 35 = .ok (.getfield 58, 3) := by decide +kernel
theorem dX6_lit_38 : decode cX6_lit 38 = .ok (.iload_n 1, 1) := by decide +kernel
theorem dX6_lit_39 : decode cX6_lit 39 = .ok (.invokevirtual 154, 3) := by decide +kernel
theorem dX6_lit_42 : decode cX6_lit 42 = .ok (.isub, 1) := by decide +kernel
theorem dX6_lit_43 : decode cX6_lit 43 = .ok (.iconst 1, 1) := by decide +kernel
theorem dX6_lit_44 : decode cX6_lit 44 = .ok (.iadd, 1) := by decide +kernel
theorem dX6_lit_45 : decode cX6_lit 45 = .ok (.istore_n 3, 1) := by decide +kernel
theorem dX6_lit_46 : decode cX6_lit 46 = .ok (.iconst 0, 1) := by decide +kernel
theorem dX6_lit_47 : decode cX6_lit 47 = .ok (.aload_n 0, 1) := by decide +kernel
theorem dX6_lit_48 : decode cX6_lit 48 = .ok (.getfield 10, 3) := by decide +kernel
theorem dX6_lit_51 : decode cX6_lit 51 = .ok (.getfield 58, 3) := by decide +kernel
theorem dX6_lit_54 : decode cX6_lit 54 = .ok (.iload_n 1, 1) := by decide +kernel
theorem dX6_lit_55 : decode cX6_lit 55 = .ok (.invokevirtual 157, 3) := by decide +kernel
theorem dX6_lit_58 : decode cX6_lit 58 = .ok (.iload_n 3, 1) := by decide +kernel
theorem dX6_lit_59 : decode cX6_lit 59 = .ok (.invokestatic 197, 3) := by decide +kernel
theorem dX6_lit_62 : decode cX6_lit 62 = .ok (.invokestatic 202, 3) := by decide +kernel
theorem dX6_lit_65 : decode cX6_lit 65 = .ok (.ireturn, 1) := by decide +kernel
theorem dX6_phrase_0 : decode cX6_phrase 0 = .ok (.iload_n 1, 1) := by decide +kernel
theorem dX6_phrase_1 : decode cX6_phrase 1 = .ok (.iconst 0, 1) := by decide +kernel
theorem dX6_phrase_2 : decode cX6_phrase 2 = .ok (.aload_n 0, 1) := by decide +kernel
theorem dX6_phrase_3 : decode cX6_phrase 3 = .ok (.getfield 10, 3) := by decide +kernel
theorem dX6_phrase_6 : decode cX6_phrase 6 = .ok (.getfield 58, 3) := by decide +kernel
theorem dX6_phrase_9 : decode cX6_phrase 9 = .ok (.invokevirtual 205, 3) := by decide +kernel
theorem dX6_phrase_12 : decode cX6_phrase 12 = .ok (.iconst 1, 1) := by decide +kernel
theorem dX6_phrase_13 : decode cX6_phrase 13 = .ok (.isub, 1) := by decide +kernel
theorem dX6_phrase_14 : decode cX6_phrase 14 = .ok (.invokestatic 54, 3) := by decide +kernel
theorem dX6_phrase_17 : decode cX6_phrase 17 = .ok (.ifCond .ne 5, 3) := by decide +kernel
theorem dX6_phrase_20 : decode cX6_phrase 20 = .ok (.iconst (-1), 1) := by decide +kernel
theorem dX6_phrase_21 : decode cX6_phrase 21 = .ok (.ireturn, 1) := by decide +kernel
theorem dX6_phrase_22 : decode cX6_phrase 22 = .ok (.iload_n 2, 1) := by decide +kernel
theorem dX6_phrase_23 : decode cX6_phrase 23 = .ok (.iconst 0, 1) := by decide +kernel
theorem dX6_phrase_24 : decode cX6_phrase 24 = .ok (.iconst 4, 1) := by decide +kernel
theorem dX6_phrase_25 : decode cX6_phrase 25 = .ok (.invokestatic 54, 3) := by decide +kernel
theorem dX6_phrase_28 : decode cX6_phrase 28 = .ok (.ifCond .ne 6, 3) := by decide +kernel
theorem dX6_phrase_31 : decode cX6_phrase 31 = .ok (.bipush (-2), 2) := by decide +kernel
theorem dX6_phrase_33 : decode cX6_phrase 33 = .ok (.ireturn, 1) := by decide +kernel
theorem dX6_phrase_34 : decode cX6_phrase 34 = .ok (.aload_n 0, 1) := by decide +kernel
theorem dX6_phrase_35 : decode cX6_phrase 35 = .ok (.getfield 50, 3) := by decide +kernel
theorem dX6_phrase_38 : decode cX6_phrase 38 = .ok (.aload_n 0, 1) := by decide +kernel
theorem dX6_phrase_39 : decode cX6_phrase 39 = .ok (.getfield 10, 3) := by decide +kernel
theorem dX6_phrase_42 : decode cX6_phrase 42 = .ok (.invokevirtual 152, 3) := by decide +kernel
theorem dX6_phrase_45 : decode cX6_phrase 45 = .ok (.iload_n 2, 1) := by decide +kernel
theorem dX6_phrase_46 : decode cX6_phrase 46 = .ok (.tableswitch 72 0 3 #[30, 42, 54, 63], 30) := by decide +kernel
theorem dX6_phrase_76 : decode cX6_phrase 76 = .ok (.aload_n 0, 1) := by decide +kernel
theorem dX6_phrase_77 : decode cX6_phrase 77 = .ok (.getfield 10, 3) := by decide +kernel
theorem dX6_phrase_80 : decode cX6_phrase 80 = .ok (.getfield 58, 3) := by decide +kernel
theorem dX6_phrase_83 : decode cX6_phrase 83 = .ok (.iload_n 1, 1) := by decide +kernel
theorem dX6_phrase_84 : decode cX6_phrase 84 = .ok (.invokevirtual 208, 3) := by decide +kernel
theorem dX6_phrase_87 : decode cX6_phrase 87 = .ok (.ireturn, 1) := by decide +kernel
theorem dX6_phrase_88 : decode cX6_phrase 88 = .ok (.aload_n 0, 1) := by decide +kernel
theorem dX6_phrase_89 : decode cX6_phrase 89 = .ok (.getfield 10, 3) := by decide +kernel
theorem dX6_phrase_92 : decode cX6_phrase 92 = .ok (.getfield 58, 3) := by decide +kernel
theorem dX6_phrase_95 : decode cX6_phrase 95 = .ok (.iload_n 1, 1) := by decide +kernel
theorem dX6_phrase_96 : decode cX6_phrase 96 = .ok (.invokevirtual 211, 3) := by decide +kernel
theorem dX6_phrase_99 : decode cX6_phrase 99 = .ok (.ireturn, 1) := by decide +kernel
theorem dX6_phrase_100 : decode cX6_phrase 100 = .ok (.aload_n 0, 1) := by decide +kernel
theorem dX6_phrase_101 : decode cX6_phrase 101 = .ok (.getfield 50, 3) := by decide +kernel
theorem dX6_phrase_104 : decode cX6_phrase 104 = .ok (.iload_n 1, 1) := by decide +kernel
theorem dX6_phrase_105 : decode cX6_phrase 105 = .ok (.invokevirtual 214, 3) := by decide +kernel
theorem dX6_phrase_108 : decode cX6_phrase 108 = .ok (.ireturn, 1) := by decide +kernel
theorem dX6_phrase_109 : decode cX6_phrase 109 = .ok (.aload_n 0, 1) := by decide +kernel
theorem dX6_phrase_110 : decode cX6_phrase 110 = .ok (.getfield 50, 3) := by decide +kernel
theorem dX6_phrase_113 : decode cX6_phrase 113 = .ok (.iload_n 1, 1) := by decide +kernel
theorem dX6_phrase_114 : decode cX6_phrase 114 = .ok (.invokevirtual 217, 3) := by decide +kernel
theorem dX6_phrase_117 : decode cX6_phrase 117 = .ok (.ireturn, 1) := by decide +kernel
theorem dX6_phrase_118 : decode cX6_phrase 118 = .ok (.aload_n 0, 1) := by decide +kernel
theorem dX6_phrase_119 : decode cX6_phrase 119 = .ok (.getfield 50, 3) := by decide +kernel
theorem dX6_phrase_122 : decode cX6_phrase 122 = .ok (.iload_n 1, 1) := by decide +kernel
theorem dX6_phrase_123 : decode cX6_phrase 123 = .ok (.invokevirtual 220, 3) := by decide +kernel
theorem dX6_phrase_126 : decode cX6_phrase 126 = .ok (.ireturn, 1) := by decide +kernel
theorem dX6_total_0 : decode cX6_total 0 = .ok (.iload_n 1, 1) := by decide +kernel
theorem dX6_total_1 : decode cX6_total 1 = .ok (.iconst 0, 1) := by decide +kernel
theorem dX6_total_2 : decode cX6_total 2 = .ok (.bipush 14, 2) := by decide +kernel
theorem dX6_total_4 : decode cX6_total 4 = .ok (.invokestatic 54, 3) := by decide +kernel
theorem dX6_total_7 : decode cX6_total 7 = .ok (.ifCond .ne 6, 3) := by decide +kernel
theorem dX6_total_10 : decode cX6_total 10 = .ok (.bipush (-2), 2) := by decide +kernel
theorem dX6_total_12 : decode cX6_total 12 = .ok (.ireturn, 1) := by decide +kernel
theorem dX6_total_13 : decode cX6_total 13 = .ok (.iload_n 1, 1) := by decide +kernel
theorem dX6_total_14 : decode cX6_total 14 = .ok (.invokestatic 101, 3) := by decide +kernel
theorem dX6_total_17 : decode cX6_total 17 = .ok (.ifCond .eq 12, 3) := by decide +kernel
theorem dX6_total_20 : decode cX6_total 20 = .ok (.aload_n 0, 1) := by decide +kernel
theorem dX6_total_21 : decode cX6_total 21 = .ok (.getfield 10, 3) := by decide +kernel
theorem dX6_total_24 : decode cX6_total 24 = .ok (.iload_n 1, 1) := by decide +kernel
theorem dX6_total_25 : decode cX6_total 25 = .ok (.invokevirtual 108, 3) := by decide +kernel
theorem dX6_total_28 : decode cX6_total 28 = .ok (.ireturn, 1) := by decide +kernel
theorem dX6_total_29 : decode cX6_total 29 = .ok (.iload_n 1, 1) := by decide +kernel
theorem dX6_total_30 : decode cX6_total 30 = .ok (.tableswitch 126 5 13 #[50, 61, 72, 83, 91, 99, 104, 113, 118], 50) := by decide +kernel
theorem dX6_total_80 : decode cX6_total 80 = .ok (.aload_n 0, 1) := by decide +kernel
theorem dX6_total_81 : decode cX6_total 81 = .ok (.getfield 10, 3) := by decide +kernel
theorem dX6_total_84 : decode cX6_total 84 = .ok (.getfield 58, 3) := by decide +kernel
theorem dX6_total_87 : decode cX6_total 87 = .ok (.invokevirtual 76, 3) := by decide +kernel
theorem dX6_total_90 : decode cX6_total 90 = .ok (.ireturn, 1) := by decide +kernel
theorem dX6_total_91 : decode cX6_total 91 = .ok (.aload_n 0, 1) := by decide +kernel
theorem dX6_total_92 : decode cX6_total 92 = .ok (.getfield 10, 3) := by decide +kernel
theorem dX6_total_95 : decode cX6_total 95 = .ok (.getfield 58, 3) := by decide +kernel
theorem dX6_total_98 : decode cX6_total 98 = .ok (.invokevirtual 205, 3) := by decide +kernel
theorem dX6_total_101 : decode cX6_total 101 = .ok (.ireturn, 1) := by decide +kernel
theorem dX6_total_102 : decode cX6_total 102 = .ok (.aload_n 0, 1) := by decide +kernel
theorem dX6_total_103 : decode cX6_total 103 = .ok (.getfield 10, 3) := by decide +kernel
theorem dX6_total_106 : decode cX6_total 106 = .ok (.getfield 58, 3) := by decide +kernel
theorem dX6_total_109 : decode cX6_total 109 = .ok (.invokevirtual 223, 3) := by decide +kernel
theorem dX6_total_112 : decode cX6_total 112 = .ok (.ireturn, 1) := by decide +kernel
theorem dX6_total_113 : decode cX6_total 113 = .ok (.aload_n 0, 1) := by decide +kernel
theorem dX6_total_114 : decode cX6_total 114 = .ok (.getfield 10, 3) := by decide +kernel
theorem dX6_total_117 : decode cX6_total 117 = .ok (.invokevirtual 126, 3) := by decide +kernel
theorem dX6_total_120 : decode cX6_total 120 = .ok (.ireturn, 1) := by decide +kernel
theorem dX6_total_121 : decode cX6_total 121 = .ok (.aload_n 0, 1) := by decide +kernel
theorem dX6_total_122 : decode cX6_total 122 = .ok (.getfield 10, 3) := by decide +kernel
theorem dX6_total_125 : decode cX6_total 125 = .ok (.invokevirtual 226, 3) := by decide +kernel
theorem dX6_total_128 : decode cX6_total 128 = .ok (.ireturn, 1) := by decide +kernel
theorem dX6_total_129 : decode cX6_total 129 = .ok (.aload_n 0, 1) := by decide +kernel
theorem dX6_total_130 : decode cX6_total 130 = .ok (.invokevirtual 123, 3) := by decide +kernel
theorem dX6_total_133 : decode cX6_total 133 = .ok (.ireturn, 1) := by decide +kernel
theorem dX6_total_134 : decode cX6_total 134 = .ok (.aload_n 0, 1) := by decide +kernel
theorem dX6_total_135 : decode cX6_total 135 = .ok (.aload_n 0, 1) := by decide +kernel
theorem dX6_total_136 : decode cX6_total 136 = .ok (.getfield 10, 3) := by decide +kernel
theorem dX6_total_139 : decode cX6_total 139 = .ok (.invokevirtual 229, 3) := by decide +kernel
theorem dX6_total_142 : decode cX6_total 142 = .ok (.ireturn, 1) := by decide +kernel
theorem dX6_total_143 : decode cX6_total 143 = .ok (.aload_n 0, 1) := by decide +kernel
theorem dX6_total_144 : decode cX6_total 144 = .ok (.invokevirtual 231, 3) := by decide +kernel
theorem dX6_total_147 : decode cX6_total 147 = .ok (.ireturn, 1) := by decide +kernel
theorem dX6_total_148 : decode cX6_total 148 = .ok (.aload_n 0, 1) := by decide +kernel
theorem dX6_total_149 : decode cX6_total 149 = .ok (.getfield 29, 3) := by decide +kernel
theorem dX6_total_152 : decode cX6_total 152 = .ok (.invokevirtual 145, 3) := by decide +kernel
theorem dX6_total_155 : decode cX6_total 155 = .ok (.ireturn, 1) := by decide +kernel
theorem dX6_total_156 : decode cX6_total 156 = .ok (.aload_n 0, 1) := by decide +kernel
theorem dX6_total_157 : decode cX6_total 157 = .ok (.getfield 36, 3) := by decide +kernel
theorem dX6_total_160 : decode cX6_total 160 = .ok (.invokevirtual 234, 3) := by decide +kernel
theorem dX6_total_163 : decode cX6_total 163 = .ok (.ireturn, 1) := by decide +kernel
theorem dX6_ifShifted_0 : decode cX6_ifShifted 0 = .ok (.iload_n 1, 1) := by decide +kernel
theorem dX6_ifShifted_1 : decode cX6_ifShifted 1 = .ok (.bipush (-32), 2) := by decide +kernel
theorem dX6_ifShifted_3 : decode cX6_ifShifted 3 = .ok (.bipush 32, 2) := by decide +kernel
theorem dX6_ifShifted_5 : decode cX6_ifShifted 5 = .ok (.invokestatic 54, 3) := by decide +kernel
theorem dX6_ifShifted_8 : decode cX6_ifShifted 8 = .ok (.ifCond .eq 14, 3) := by decide +kernel
theorem dX6_ifShifted_11 : decode cX6_ifShifted 11 = .ok (.iload_n 2, 1) := by decide +kernel
theorem dX6_ifShifted_12 : decode cX6_ifShifted 12 = .ok (.bipush (-60), 2) := by decide +kernel
theorem dX6_ifShifted_14 : decode cX6_ifShifted 14 = .ok (.bipush 60, 2) := by decide +kernel
theorem dX6_ifShifted_16 : decode cX6_ifShifted 16 = .ok (.invokestatic 54, 3) := by decide +kernel
theorem dX6_ifShifted_19 : decode cX6_ifShifted 19 = .ok (.ifCond .ne 6, 3) := by decide +kernel
theorem dX6_ifShifted_22 : decode cX6_ifShifted 22 = .ok (.bipush (-2), 2) := by decide +kernel
theorem dX6_ifShifted_24 : decode cX6_ifShifted 24 = .ok (.ireturn, 1) := by decide +kernel
theorem dX6_ifShifted_25 : decode cX6_ifShifted 25 = .ok (.aload_n 0, 1) := by decide +kernel
theorem dX6_ifShifted_26 : decode cX6_ifShifted 26 = .ok (.getfield 16, 3) := by decide +kernel
theorem dX6_ifShifted_29 : decode cX6_ifShifted 29 = .ok (.aload_n 0, 1) := by decide +kernel
theorem dX6_ifShifted_30 : decode cX6_ifShifted 30 = .ok (.getfield 10, 3) := by decide +kernel
theorem dX6_ifShifted_33 : decode cX6_ifShifted 33 = .ok (.invokevirtual 150, 3) := by decide +kernel
theorem dX6_ifShifted_36 : decode cX6_ifShifted 36 = .ok (.aload_n 0, 1) := by decide +kernel
theorem dX6_ifShifted_37 : decode cX6_ifShifted 37 = .ok (.iload_n 1, 1) := by decide +kernel
theorem dX6_ifShifted_38 : decode cX6_ifShifted 38 = .ok (.iload_n 2, 1) := by decide +kernel
theorem dX6_ifShifted_39 : decode cX6_ifShifted 39 = .ok (.invokevirtual 235, 3) := by decide +kernel
theorem dX6_ifShifted_42 : decode cX6_ifShifted 42 = .ok (.ireturn, 1) := by decide +kernel
theorem dX6_bestShift_0 : decode cX6_bestShift 0 = .ok (.aload_n 0, 1) := by decide +kernel
theorem dX6_bestShift_1 : decode cX6_bestShift 1 = .ok (.getfield 16, 3) := by decide +kernel
theorem dX6_bestShift_4 : decode cX6_bestShift 4 = .ok (.aload_n 0, 1) := by decide +kernel
theorem dX6_bestShift_5 : decode cX6_bestShift 5 = .ok (.getfield 10, 3) := by decide +kernel
theorem dX6_bestShift_8 : decode cX6_bestShift 8 = .ok (.invokevirtual 150, 3) := by decide +kernel
theorem dX6_bestShift_11 : decode cX6_bestShift 11 = .ok (.iconst 0, 1) := by decide +kernel
theorem dX6_bestShift_12 : decode cX6_bestShift 12 = .ok (.istore_n 1, 1) := by decide +kernel
theorem dX6_bestShift_13 : decode cX6_bestShift 13 = .ok (.aload_n 0, 1) := by decide +kernel
theorem dX6_bestShift_14 : decode cX6_bestShift 14 = .ok (.iconst 0, 1) := by decide +kernel
theorem dX6_bestShift_15 : decode cX6_bestShift 15 = .ok (.iconst 0, 1) := by decide +kernel
theorem dX6_bestShift_16 : decode cX6_bestShift 16 = .ok (.invokevirtual 235, 3) := by decide +kernel
theorem dX6_bestShift_19 : decode cX6_bestShift 19 = .ok (.istore_n 2, 1) := by decide +kernel
theorem dX6_bestShift_20 : decode cX6_bestShift 20 = .ok (.iconst 1, 1) := by decide +kernel
theorem dX6_bestShift_21 : decode cX6_bestShift 21 = .ok (.istore_n 3, 1) := by decide +kernel
theorem dX6_bestShift_22 : decode cX6_bestShift 22 = .ok (.iload_n 3, 1) := by decide +kernel
theorem dX6_bestShift_23 : decode cX6_bestShift 23 = .ok (.bipush 32, 2) := by decide +kernel
theorem dX6_bestShift_25 : decode cX6_bestShift 25 = .ok (.if_icmp .gt 49, 3) := by decide +kernel
theorem dX6_bestShift_28 : decode cX6_bestShift 28 = .ok (.aload_n 0, 1) := by decide +kernel
theorem dX6_bestShift_29 : decode cX6_bestShift 29 = .ok (.iload_n 3, 1) := by decide +kernel
theorem dX6_bestShift_30 : decode cX6_bestShift 30 = .ok (.ineg, 1) := by decide +kernel
theorem dX6_bestShift_31 : decode cX6_bestShift 31 = .ok (.iconst 0, 1) := by decide +kernel
theorem dX6_bestShift_32 : decode cX6_bestShift 32 = .ok (.invokevirtual 235, 3) := by decide +kernel
theorem dX6_bestShift_35 : decode cX6_bestShift 35 = .ok (.istore 4, 2) := by decide +kernel
theorem dX6_bestShift_37 : decode cX6_bestShift 37 = .ok (.iload 4, 2) := by decide +kernel
theorem dX6_bestShift_39 : decode cX6_bestShift 39 = .ok (.iload_n 2, 1) := by decide +kernel
theorem dX6_bestShift_40 : decode cX6_bestShift 40 = .ok (.if_icmp .le 9, 3) := by decide +kernel
theorem dX6_bestShift_43 : decode cX6_bestShift 43 = .ok (.iload 4, 2) := by decide +kernel
theorem dX6_bestShift_45 : decode cX6_bestShift 45 = .ok (.istore_n 2, 1) := by decide +kernel
theorem dX6_bestShift_46 : decode cX6_bestShift 46 = .ok (.iload_n 3, 1) := by decide +kernel
theorem dX6_bestShift_47 : decode cX6_bestShift 47 = .ok (.ineg, 1) := by decide +kernel
theorem dX6_bestShift_48 : decode cX6_bestShift 48 = .ok (.istore_n 1, 1) := by decide +kernel
theorem dX6_bestShift_49 : decode cX6_bestShift 49 = .ok (.aload_n 0, 1) := by decide +kernel
theorem dX6_bestShift_50 : decode cX6_bestShift 50 = .ok (.iload_n 3, 1) := by decide +kernel
theorem dX6_bestShift_51 : decode cX6_bestShift 51 = .ok (.iconst 0, 1) := by decide +kernel
theorem dX6_bestShift_52 : decode cX6_bestShift 52 = .ok (.invokevirtual 235, 3) := by decide +kernel
theorem dX6_bestShift_55 : decode cX6_bestShift 55 = .ok (.istore 5, 2) := by decide +kernel
theorem dX6_bestShift_57 : decode cX6_bestShift 57 = .ok (.iload 5, 2) := by decide +kernel
theorem dX6_bestShift_59 : decode cX6_bestShift 59 = .ok (.iload_n 2, 1) := by decide +kernel
theorem dX6_bestShift_60 : decode cX6_bestShift 60 = .ok (.if_icmp .le 8, 3) := by decide +kernel
theorem dX6_bestShift_63 : decode cX6_bestShift 63 = .ok (.iload 5, 2) := by decide +kernel
theorem dX6_bestShift_65 : decode cX6_bestShift 65 = .ok (.istore_n 2, 1) := by decide +kernel
theorem dX6_bestShift_66 : decode cX6_bestShift 66 = .ok (.iload_n 3, 1) := by decide +kernel
theorem dX6_bestShift_67 : decode cX6_bestShift 67 = .ok (.istore_n 1, 1) := by decide +kernel
theorem dX6_bestShift_68 : decode cX6_bestShift 68 = .ok (.iinc 3 1, 3) := by decide +kernel
theorem dX6_bestShift_71 : decode cX6_bestShift 71 = .ok (.goto (-49), 3) := by decide +kernel
theorem dX6_bestShift_74 : decode cX6_bestShift 74 = .ok (.iload_n 1, 1) := by decide +kernel
theorem dX6_bestShift_75 : decode cX6_bestShift 75 = .ok (.bipush 32, 2) := by decide +kernel
theorem dX6_bestShift_77 : decode cX6_bestShift 77 = .ok (.iadd, 1) := by decide +kernel
theorem dX6_bestShift_78 : decode cX6_bestShift 78 = .ok (.ireturn, 1) := by decide +kernel
theorem dX6_ifSet_0 : decode cX6_ifSet 0 = .ok (.iload_n 1, 1) := by decide +kernel
theorem dX6_ifSet_1 : decode cX6_ifSet 1 = .ok (.invokestatic 101, 3) := by decide +kernel
theorem dX6_ifSet_4 : decode cX6_ifSet 4 = .ok (.ifCond .ne 5, 3) := by decide +kernel
theorem dX6_ifSet_7 : decode cX6_ifSet 7 = .ok (.iconst (-1), 1) := by decide +kernel
theorem dX6_ifSet_8 : decode cX6_ifSet 8 = .ok (.ireturn, 1) := by decide +kernel
theorem dX6_ifSet_9 : decode cX6_ifSet 9 = .ok (.iload_n 1, 1) := by decide +kernel
theorem dX6_ifSet_10 : decode cX6_ifSet 10 = .ok (.iload_n 2, 1) := by decide +kernel
theorem dX6_ifSet_11 : decode cX6_ifSet 11 = .ok (.invokestatic 105, 3) := by decide +kernel
theorem dX6_ifSet_14 : decode cX6_ifSet 14 = .ok (.ifCond .ne 6, 3) := by decide +kernel
theorem dX6_ifSet_17 : decode cX6_ifSet 17 = .ok (.bipush (-2), 2) := by decide +kernel
theorem dX6_ifSet_19 : decode cX6_ifSet 19 = .ok (.ireturn, 1) := by decide +kernel
theorem dX6_ifSet_20 : decode cX6_ifSet 20 = .ok (.aload_n 0, 1) := by decide +kernel
theorem dX6_ifSet_21 : decode cX6_ifSet 21 = .ok (.getfield 16, 3) := by decide +kernel
theorem dX6_ifSet_24 : decode cX6_ifSet 24 = .ok (.aload_n 0, 1) := by decide +kernel
theorem dX6_ifSet_25 : decode cX6_ifSet 25 = .ok (.getfield 10, 3) := by decide +kernel
theorem dX6_ifSet_28 : decode cX6_ifSet 28 = .ok (.invokevirtual 150, 3) := by decide +kernel
theorem dX6_ifSet_31 : decode cX6_ifSet 31 = .ok (.aload_n 0, 1) := by decide +kernel
theorem dX6_ifSet_32 : decode cX6_ifSet 32 = .ok (.getfield 16, 3) := by decide +kernel
theorem dX6_ifSet_35 : decode cX6_ifSet 35 = .ok (.iload_n 1, 1) := by decide +kernel
theorem dX6_ifSet_36 : decode cX6_ifSet 36 = .ok (.iload_n 2, 1) := by decide +kernel
theorem dX6_ifSet_37 : decode cX6_ifSet 37 = .ok (.invokevirtual 112, 3) := by decide +kernel
theorem dX6_ifSet_40 : decode cX6_ifSet 40 = .ok (.aload_n 0, 1) := by decide +kernel
theorem dX6_ifSet_41 : decode cX6_ifSet 41 = .ok (.aload_n 0, 1) := by decide +kernel
theorem dX6_ifSet_42 : decode cX6_ifSet 42 = .ok (.getfield 16, 3) := by decide +kernel
theorem dX6_ifSet_45 : decode cX6_ifSet 45 = .ok (.invokevirtual 229, 3) := by decide +kernel
theorem dX6_ifSet_48 : decode cX6_ifSet 48 = .ok (.ireturn, 1) := by decide +kernel
theorem dX6_worst_0 : decode cX6_worst 0 = .ok (.aload_n 0, 1) := by decide +kernel
theorem dX6_worst_1 : decode cX6_worst 1 = .ok (.getfield 10, 3) := by decide +kernel
theorem dX6_worst_4 : decode cX6_worst 4 = .ok (.getfield 58, 3) := by decide +kernel
theorem dX6_worst_7 : decode cX6_worst 7 = .ok (.invokevirtual 205, 3) := by decide +kernel
theorem dX6_worst_10 : decode cX6_worst 10 = .ok (.istore_n 1, 1) := by decide +kernel
theorem dX6_worst_11 : decode cX6_worst 11 = .ok (.iload_n 1, 1) := by decide +kernel
theorem dX6_worst_12 : decode cX6_worst 12 = .ok (.ifCond .ne 6, 3) := by decide +kernel
theorem dX6_worst_15 : decode cX6_worst 15 = .ok (.bipush (-5), 2) := by decide +kernel
theorem dX6_worst_17 : decode cX6_worst 17 = .ok (.ireturn, 1) := by decide +kernel
theorem dX6_worst_18 : decode cX6_worst 18 = .ok (.aload_n 0, 1) := by decide +kernel
theorem dX6_worst_19 : decode cX6_worst 19 = .ok (.getfield 50, 3) := by decide +kernel
theorem dX6_worst_22 : decode cX6_worst 22 = .ok (.aload_n 0, 1) := by decide +kernel
theorem dX6_worst_23 : decode cX6_worst 23 = .ok (.getfield 10, 3) := by decide +kernel
theorem dX6_worst_26 : decode cX6_worst 26 = .ok (.invokevirtual 152, 3) := by decide +kernel
theorem dX6_worst_29 : decode cX6_worst 29 = .ok (.iconst 0, 1) := by decide +kernel
theorem dX6_worst_30 : decode cX6_worst 30 = .ok (.istore_n 2, 1) := by decide +kernel
theorem dX6_worst_31 : decode cX6_worst 31 = .ok (.iconst 1, 1) := by decide +kernel
theorem dX6_worst_32 : decode cX6_worst 32 = .ok (.istore_n 3, 1) := by decide +kernel
theorem dX6_worst_33 : decode cX6_worst 33 = .ok (.iload_n 3, 1) := by decide +kernel
theorem dX6_worst_34 : decode cX6_worst 34 = .ok (.iload_n 1, 1) := by decide +kernel
theorem dX6_worst_35 : decode cX6_worst 35 = .ok (.if_icmp .ge 30, 3) := by decide +kernel
theorem dX6_worst_38 : decode cX6_worst 38 = .ok (.aload_n 0, 1) := by decide +kernel
theorem dX6_worst_39 : decode cX6_worst 39 = .ok (.getfield 50, 3) := by decide +kernel
theorem dX6_worst_42 : decode cX6_worst 42 = .ok (.iload_n 3, 1) := by decide +kernel
theorem dX6_worst_43 : decode cX6_worst 43 = .ok (.invokevirtual 217, 3) := by decide +kernel
theorem dX6_worst_46 : decode cX6_worst 46 = .ok (.aload_n 0, 1) := by decide +kernel
theorem dX6_worst_47 : decode cX6_worst 47 = .ok (.getfield 50, 3) := by decide +kernel
theorem dX6_worst_50 : decode cX6_worst 50 = .ok (.iload_n 2, 1) := by decide +kernel
theorem dX6_worst_51 : decode cX6_worst 51 = .ok (.invokevirtual 217, 3) := by decide +kernel
theorem dX6_worst_54 : decode cX6_worst 54 = .ok (.if_icmp .ge 5, 3) := by decide +kernel
theorem dX6_worst_57 : decode cX6_worst 57 = .ok (.iload_n 3, 1) := by decide +kernel
theorem dX6_worst_58 : decode cX6_worst 58 = .ok (.istore_n 2, 1) := by decide +kernel
theorem dX6_worst_59 : decode cX6_worst 59 = .ok (.iinc 3 1, 3) := by decide +kernel
theorem dX6_worst_62 : decode cX6_worst 62 = .ok (.goto (-29), 3) := by decide +kernel
theorem dX6_worst_65 : decode cX6_worst 65 = .ok (.iload_n 2, 1) := by decide +kernel
theorem dX6_worst_66 : decode cX6_worst 66 = .ok (.ireturn, 1) := by decide +kernel
theorem dX6_isWithin_0 : decode cX6_isWithin 0 = .ok (.iload_n 0, 1) := by decide +kernel
theorem dX6_isWithin_1 : decode cX6_isWithin 1 = .ok (.iload_n 1, 1) := by decide +kernel
theorem dX6_isWithin_2 : decode cX6_isWithin 2 = .ok (.if_icmp .lt 12, 3) := by decide +kernel
theorem dX6_isWithin_5 : decode cX6_isWithin 5 = .ok (.iload_n 0, 1) := by decide +kernel
theorem dX6_isWithin_6 : decode cX6_isWithin 6 = .ok (.iload_n 2, 1) := by decide +kernel
theorem dX6_isWithin_7 : decode cX6_isWithin 7 = .ok (.if_icmp .gt 7, 3) := by decide +kernel
theorem dX6_isWithin_10 : decode cX6_isWithin 10 = .ok (.iconst 1, 1) := by decide +kernel
theorem dX6_isWithin_11 : decode cX6_isWithin 11 = .ok (.goto 4, 3) := by decide +kernel
theorem dX6_isWithin_14 : decode cX6_isWithin 14 = .ok (.iconst 0, 1) := by decide +kernel
theorem dX6_isWithin_15 : decode cX6_isWithin 15 = .ok (.ireturn, 1) := by decide +kernel
theorem dX6_isSetting_0 : decode cX6_isSetting 0 = .ok (.iload_n 0, 1) := by decide +kernel
theorem dX6_isSetting_1 : decode cX6_isSetting 1 = .ok (.iconst 0, 1) := by decide +kernel
theorem dX6_isSetting_2 : decode cX6_isSetting 2 = .ok (.iconst 4, 1) := by decide +kernel
theorem dX6_isSetting_3 : decode cX6_isSetting 3 = .ok (.invokestatic 54, 3) := by decide +kernel
theorem dX6_isSetting_6 : decode cX6_isSetting 6 = .ok (.ireturn, 1) := by decide +kernel
theorem dX6_isValueOf_0 : decode cX6_isValueOf 0 = .ok (.iload_n 0, 1) := by decide +kernel
theorem dX6_isValueOf_1 : decode cX6_isValueOf 1 = .ok (.invokestatic 101, 3) := by decide +kernel
theorem dX6_isValueOf_4 : decode cX6_isValueOf 4 = .ok (.ifCond .eq 24, 3) := by decide +kernel
theorem dX6_isValueOf_7 : decode cX6_isValueOf 7 = .ok (.iload_n 1, 1) := by decide +kernel
theorem dX6_isValueOf_8 : decode cX6_isValueOf 8 = .ok (.getstatic 238, 3) := by decide +kernel
theorem dX6_isValueOf_11 : decode cX6_isValueOf 11 = .ok (.iload_n 0, 1) := by decide +kernel
theorem dX6_isValueOf_12 : decode cX6_isValueOf 12 = .ok (.iaload, 1) := by decide +kernel
theorem dX6_isValueOf_13 : decode cX6_isValueOf 13 = .ok (.getstatic 242, 3) := by decide +kernel
theorem dX6_isValueOf_16 : decode cX6_isValueOf 16 = .ok (.iload_n 0, 1) := by decide +kernel
theorem dX6_isValueOf_17 : decode cX6_isValueOf 17 = .ok (.iaload, 1) := by decide +kernel
theorem dX6_isValueOf_18 : decode cX6_isValueOf 18 = .ok (.invokestatic 54, 3) := by decide +kernel
theorem dX6_isValueOf_21 : decode cX6_isValueOf 21 = .ok (.ifCond .eq 7, 3) := by decide +kernel
theorem dX6_isValueOf_24 : decode cX6_isValueOf 24 = .ok (.iconst 1, 1) := by decide +kernel
theorem dX6_isValueOf_25 : decode cX6_isValueOf 25 = .ok (.goto 4, 3) := by decide +kernel
theorem dX6_isValueOf_28 : decode cX6_isValueOf 28 = .ok (.iconst 0, 1) := by decide +kernel
theorem dX6_isValueOf_29 : decode cX6_isValueOf 29 = .ok (.ireturn, 1) := by decide +kernel
theorem dX6_areTicks_0 : decode cX6_areTicks 0 = .ok (.iload_n 0, 1) := by decide +kernel
theorem dX6_areTicks_1 : decode cX6_areTicks 1 = .ok (.iconst 0, 1) := by decide +kernel
theorem dX6_areTicks_2 : decode cX6_areTicks 2 = .ok (.sipush 599, 3) := by decide +kernel
theorem dX6_areTicks_5 : decode cX6_areTicks 5 = .ok (.invokestatic 54, 3) := by decide +kernel
theorem dX6_areTicks_8 : decode cX6_areTicks 8 = .ok (.ifCond .eq 25, 3) := by decide +kernel
theorem dX6_areTicks_11 : decode cX6_areTicks 11 = .ok (.iload_n 1, 1) := by decide +kernel
theorem dX6_areTicks_12 : decode cX6_areTicks 12 = .ok (.iconst 1, 1) := by decide +kernel
theorem dX6_areTicks_13 : decode cX6_areTicks 13 = .ok (.iload_n 2, 1) := by decide +kernel
theorem dX6_areTicks_14 : decode cX6_areTicks 14 = .ok (.invokestatic 54, 3) := by decide +kernel
theorem dX6_areTicks_17 : decode cX6_areTicks 17 = .ok (.ifCond .eq 16, 3) := by decide +kernel
theorem dX6_areTicks_20 : decode cX6_areTicks 20 = .ok (.iload_n 0, 1) := by decide +kernel
theorem dX6_areTicks_21 : decode cX6_areTicks 21 = .ok (.iload_n 1, 1) := by decide +kernel
theorem dX6_areTicks_22 : decode cX6_areTicks 22 = .ok (.iadd, 1) := by decide +kernel
theorem dX6_areTicks_23 : decode cX6_areTicks 23 = .ok (.sipush 600, 3) := by decide +kernel
theorem dX6_areTicks_26 : decode cX6_areTicks 26 = .ok (.if_icmp .gt 7, 3) := by decide +kernel
theorem dX6_areTicks_29 : decode cX6_areTicks 29 = .ok (.iconst 1, 1) := by decide +kernel
theorem dX6_areTicks_30 : decode cX6_areTicks 30 = .ok (.goto 4, 3) := by decide +kernel
theorem dX6_areTicks_33 : decode cX6_areTicks 33 = .ok (.iconst 0, 1) := by decide +kernel
theorem dX6_areTicks_34 : decode cX6_areTicks 34 = .ok (.ireturn, 1) := by decide +kernel
theorem dX6_hitsNow_0 : decode cX6_hitsNow 0 = .ok (.aload_n 0, 1) := by decide +kernel
theorem dX6_hitsNow_1 : decode cX6_hitsNow 1 = .ok (.getfield 50, 3) := by decide +kernel
theorem dX6_hitsNow_4 : decode cX6_hitsNow 4 = .ok (.aload_n 0, 1) := by decide +kernel
theorem dX6_hitsNow_5 : decode cX6_hitsNow 5 = .ok (.getfield 10, 3) := by decide +kernel
theorem dX6_hitsNow_8 : decode cX6_hitsNow 8 = .ok (.invokevirtual 152, 3) := by decide +kernel
theorem dX6_hitsNow_11 : decode cX6_hitsNow 11 = .ok (.aload_n 0, 1) := by decide +kernel
theorem dX6_hitsNow_12 : decode cX6_hitsNow 12 = .ok (.getfield 50, 3) := by decide +kernel
theorem dX6_hitsNow_15 : decode cX6_hitsNow 15 = .ok (.getfield 245, 3) := by decide +kernel
theorem dX6_hitsNow_18 : decode cX6_hitsNow 18 = .ok (.ireturn, 1) := by decide +kernel
theorem dX6_pointsOf_0 : decode cX6_pointsOf 0 = .ok (.aload_n 0, 1) := by decide +kernel
theorem dX6_pointsOf_1 : decode cX6_pointsOf 1 = .ok (.getfield 50, 3) := by decide +kernel
theorem dX6_pointsOf_4 : decode cX6_pointsOf 4 = .ok (.aload_n 1, 1) := by decide +kernel
theorem dX6_pointsOf_5 : decode cX6_pointsOf 5 = .ok (.invokevirtual 152, 3) := by decide +kernel
theorem dX6_pointsOf_8 : decode cX6_pointsOf 8 = .ok (.aload_n 0, 1) := by decide +kernel
theorem dX6_pointsOf_9 : decode cX6_pointsOf 9 = .ok (.getfield 50, 3) := by decide +kernel
theorem dX6_pointsOf_12 : decode cX6_pointsOf 12 = .ok (.getfield 248, 3) := by decide +kernel
theorem dX6_pointsOf_15 : decode cX6_pointsOf 15 = .ok (.ireturn, 1) := by decide +kernel
theorem dX6_mostPoints_0 : decode cX6_mostPoints 0 = .ok (.aload_n 0, 1) := by decide +kernel
theorem dX6_mostPoints_1 : decode cX6_mostPoints 1 = .ok (.getfield 50, 3) := by decide +kernel
theorem dX6_mostPoints_4 : decode cX6_mostPoints 4 = .ok (.aload_n 0, 1) := by decide +kernel
theorem dX6_mostPoints_5 : decode cX6_mostPoints 5 = .ok (.getfield 10, 3) := by decide +kernel
theorem dX6_mostPoints_8 : decode cX6_mostPoints 8 = .ok (.invokevirtual 251, 3) := by decide +kernel
theorem dX6_mostPoints_11 : decode cX6_mostPoints 11 = .ok (.aload_n 0, 1) := by decide +kernel
theorem dX6_mostPoints_12 : decode cX6_mostPoints 12 = .ok (.getfield 50, 3) := by decide +kernel
theorem dX6_mostPoints_15 : decode cX6_mostPoints 15 = .ok (.getfield 248, 3) := by decide +kernel
theorem dX6_mostPoints_18 : decode cX6_mostPoints 18 = .ok (.ireturn, 1) := by decide +kernel
theorem dX6_pointsIfShifted_0 : decode cX6_pointsIfShifted 0 = .ok (.aload_n 0, 1) := by decide +kernel
theorem dX6_pointsIfShifted_1 : decode cX6_pointsIfShifted 1 = .ok (.getfield 16, 3) := by decide +kernel
theorem dX6_pointsIfShifted_4 : decode cX6_pointsIfShifted 4 = .ok (.aload_n 0, 1) := by decide +kernel
theorem dX6_pointsIfShifted_5 : decode cX6_pointsIfShifted 5 = .ok (.getfield 10, 3) := by decide +kernel
theorem dX6_pointsIfShifted_8 : decode cX6_pointsIfShifted 8 = .ok (.iload_n 1, 1) := by decide +kernel
theorem dX6_pointsIfShifted_9 : decode cX6_pointsIfShifted 9 = .ok (.iload_n 2, 1) := by decide +kernel
theorem dX6_pointsIfShifted_10 : decode cX6_pointsIfShifted 10 = .ok (.invokevirtual 254, 3) := by decide +kernel
theorem dX6_pointsIfShifted_13 : decode cX6_pointsIfShifted 13 = .ok (.aload_n 0, 1) := by decide +kernel
theorem dX6_pointsIfShifted_14 : decode cX6_pointsIfShifted 14 = .ok (.getfield 50, 3) := by decide +kernel
theorem dX6_pointsIfShifted_17 : decode cX6_pointsIfShifted 17 = .ok (.aload_n 0, 1) := by decide +kernel
theorem dX6_pointsIfShifted_18 : decode cX6_pointsIfShifted 18 = .ok (.getfield 16, 3) := by decide +kernel
theorem dX6_pointsIfShifted_21 : decode cX6_pointsIfShifted 21 = .ok (.invokevirtual 152, 3) := by decide +kernel
theorem dX6_pointsIfShifted_24 : decode cX6_pointsIfShifted 24 = .ok (.aload_n 0, 1) := by decide +kernel
theorem dX6_pointsIfShifted_25 : decode cX6_pointsIfShifted 25 = .ok (.getfield 50, 3) := by decide +kernel
theorem dX6_pointsIfShifted_28 : decode cX6_pointsIfShifted 28 = .ok (.getfield 248, 3) := by decide +kernel
theorem dX6_pointsIfShifted_31 : decode cX6_pointsIfShifted 31 = .ok (.ireturn, 1) := by decide +kernel
theorem dL_cell_0 : decode cL_cell 0 = .ok (.iload_n 1, 1) := by decide +kernel
theorem dL_cell_1 : decode cL_cell 1 = .ok (.aload_n 0, 1) := by decide +kernel
theorem dL_cell_2 : decode cL_cell 2 = .ok (.arraylength, 1) := by decide +kernel
theorem dL_cell_3 : decode cL_cell 3 = .ok (.if_icmp .ge 9, 3) := by decide +kernel
theorem dL_cell_6 : decode cL_cell 6 = .ok (.aload_n 0, 1) := by decide +kernel
theorem dL_cell_7 : decode cL_cell 7 = .ok (.iload_n 1, 1) := by decide +kernel
theorem dL_cell_8 : decode cL_cell 8 = .ok (.iaload, 1) := by decide +kernel
theorem dL_cell_9 : decode cL_cell 9 = .ok (.goto 12, 3) := by decide +kernel
theorem dL_cell_12 : decode cL_cell 12 = .ok (.ldc 7, 2) := by decide +kernel
theorem dL_cell_14 : decode cL_cell 14 = .ok (.iload_n 1, 1) := by decide +kernel
theorem dL_cell_15 : decode cL_cell 15 = .ok (.iconst 5, 1) := by decide +kernel
theorem dL_cell_16 : decode cL_cell 16 = .ok (.iadd, 1) := by decide +kernel
theorem dL_cell_17 : decode cL_cell 17 = .ok (.imul, 1) := by decide +kernel
theorem dL_cell_18 : decode cL_cell 18 = .ok (.ldc 8, 2) := by decide +kernel
theorem dL_cell_20 : decode cL_cell 20 = .ok (.iadd, 1) := by decide +kernel
theorem dL_cell_21 : decode cL_cell 21 = .ok (.ireturn, 1) := by decide +kernel
theorem dL_low_0 : decode cL_low 0 = .ok (.iload_n 0, 1) := by decide +kernel
theorem dL_low_1 : decode cL_low 1 = .ok (.ldc 9, 2) := by decide +kernel
theorem dL_low_3 : decode cL_low 3 = .ok (.iand, 1) := by decide +kernel
theorem dL_low_4 : decode cL_low 4 = .ok (.iload_n 1, 1) := by decide +kernel
theorem dL_low_5 : decode cL_low 5 = .ok (.irem, 1) := by decide +kernel
theorem dL_low_6 : decode cL_low 6 = .ok (.ireturn, 1) := by decide +kernel
theorem dL_isSyllable_0 : decode cL_isSyllable 0 = .ok (.aload_n 0, 1) := by decide +kernel
theorem dL_isSyllable_1 : decode cL_isSyllable 1 = .ok (.iload_n 1, 1) := by decide +kernel
theorem dL_isSyllable_2 : decode cL_isSyllable 2 = .ok (.iconst 0, 1) := by decide +kernel
theorem dL_isSyllable_3 : decode cL_isSyllable 3 = .ok (.invokevirtual 10, 3) := by decide +kernel
theorem dL_isSyllable_6 : decode cL_isSyllable 6 = .ok (.istore_n 2, 1) := by decide +kernel
theorem dL_isSyllable_7 : decode cL_isSyllable 7 = .ok (.aload_n 0, 1) := by decide +kernel
theorem dL_isSyllable_8 : decode cL_isSyllable 8 = .ok (.iload_n 1, 1) := by decide +kernel
theorem dL_isSyllable_9 : decode cL_isSyllable 9 = .ok (.iconst 1, 1) := by decide +kernel
theorem dL_isSyllable_10 : decode cL_isSyllable 10 = .ok (.invokevirtual 10, 3) := by decide +kernel
theorem dL_isSyllable_13 : decode cL_isSyllable 13 = .ok (.istore_n 3, 1) := by decide +kernel
theorem dL_isSyllable_14 : decode cL_isSyllable 14 = .ok (.aload_n 0, 1) := by decide +kernel
theorem dL_isSyllable_15 : decode cL_isSyllable 15 = .ok (.iload_n 1, 1) := by decide +kernel
theorem dL_isSyllable_16 : decode cL_isSyllable 16 = .ok (.iconst 2, 1) := by decide +kernel
theorem dL_isSyllable_17 : decode cL_isSyllable 17 = .ok (.invokevirtual 10, 3) := by decide +kernel
theorem dL_isSyllable_20 : decode cL_isSyllable 20 = .ok (.istore 4, 2) := by decide +kernel
theorem dL_isSyllable_22 : decode cL_isSyllable 22 = .ok (.aload_n 0, 1) := by decide +kernel
theorem dL_isSyllable_23 : decode cL_isSyllable 23 = .ok (.iload_n 1, 1) := by decide +kernel
theorem dL_isSyllable_24 : decode cL_isSyllable 24 = .ok (.iconst 3, 1) := by decide +kernel
theorem dL_isSyllable_25 : decode cL_isSyllable 25 = .ok (.invokevirtual 10, 3) := by decide +kernel
theorem dL_isSyllable_28 : decode cL_isSyllable 28 = .ok (.istore 5, 2) := by decide +kernel
theorem dL_isSyllable_30 : decode cL_isSyllable 30 = .ok (.aload_n 0, 1) := by decide +kernel
theorem dL_isSyllable_31 : decode cL_isSyllable 31 = .ok (.iload_n 1, 1) := by decide +kernel
theorem dL_isSyllable_32 : decode cL_isSyllable 32 = .ok (.bipush 8, 2) := by decide +kernel
theorem dL_isSyllable_34 : decode cL_isSyllable 34 = .ok (.invokevirtual 10, 3) := by decide +kernel
theorem dL_isSyllable_37 : decode cL_isSyllable 37 = .ok (.istore 6, 2) := by decide +kernel
theorem dL_isSyllable_39 : decode cL_isSyllable 39 = .ok (.iconst 0, 1) := by decide +kernel
theorem dL_isSyllable_40 : decode cL_isSyllable 40 = .ok (.istore 7, 2) := by decide +kernel
theorem dL_isSyllable_42 : decode cL_isSyllable 42 = .ok (.iload_n 2, 1) := by decide +kernel
theorem dL_isSyllable_43 : decode cL_isSyllable 43 = .ok (.ifCond .lt 96, 3) := by decide +kernel
theorem dL_isSyllable_46 : decode cL_isSyllable 46 = .ok (.iload_n 2, 1) := by decide +kernel
theorem dL_isSyllable_47 : decode cL_isSyllable 47 = .ok (.iload_n 3, 1) := by decide +kernel
theorem dL_isSyllable_48 : decode cL_isSyllable 48 = .ok (.iadd, 1) := by decide +kernel
theorem dL_isSyllable_49 : decode cL_isSyllable 49 = .ok (.sipush 600, 3) := by decide +kernel
theorem dL_isSyllable_52 : decode cL_isSyllable 52 = .ok (.if_icmp .gt 87, 3) := by decide +kernel
theorem dL_isSyllable_55 : decode cL_isSyllable 55 = .ok (.iload_n 2, 1) := by decide +kernel
theorem dL_isSyllable_56 : decode cL_isSyllable 56 = .ok (.ifCond .eq 14, 3) := by decide +kernel
theorem dL_isSyllable_59 : decode cL_isSyllable 59 = .ok (.aload_n 0, 1) := by decide +kernel
theorem dL_isSyllable_60 : decode cL_isSyllable 60 = .ok (.iload_n 1, 1) := by decide +kernel
theorem dL_isSyllable_61 : decode cL_isSyllable 61 = .ok (.iload_n 2, 1) := by decide +kernel
theorem dL_isSyllable_62 : decode cL_isSyllable 62 = .ok (.iconst 1, 1) := by decide +kernel
theorem dL_isSyllable_63 : decode cL_isSyllable 63 = .ok (.isub, 1) := by decide +kernel
theorem dL_isSyllable_64 : decode cL_isSyllable 64 = .ok (.invokevirtual 16, 3) := by decide +kernel
theorem dL_isSyllable_67 : decode cL_isSyllable 67 = .ok (.ifCond .ne 72, 3) := by decide +kernel
theorem dL_isSyllable_70 : decode cL_isSyllable 70 = .ok (.aload_n 0, 1) := by decide +kernel
theorem dL_isSyllable_71 : decode cL_isSyllable 71 = .ok (.iload_n 1, 1) := by decide +kernel
theorem dL_isSyllable_72 : decode cL_isSyllable 72 = .ok (.iload_n 2, 1) := by decide +kernel
theorem dL_isSyllable_73 : decode cL_isSyllable 73 = .ok (.invokevirtual 16, 3) := by decide +kernel
theorem dL_isSyllable_76 : decode cL_isSyllable 76 = .ok (.iconst 1, 1) := by decide +kernel
theorem dL_isSyllable_77 : decode cL_isSyllable 77 = .ok (.if_icmp .ne 62, 3) := by decide +kernel
theorem dL_isSyllable_80 : decode cL_isSyllable 80 = .ok (.aload_n 0, 1) := by decide +kernel
theorem dL_isSyllable_81 : decode cL_isSyllable 81 = .ok (.iload_n 1, 1) := by decide +kernel
theorem dL_isSyllable_82 : decode cL_isSyllable 82 = .ok (.iload_n 2, 1) := by decide +kernel
theorem dL_isSyllable_83 : decode cL_isSyllable 83 = .ok (.iload_n 3, 1) := by decide +kernel
theorem dL_isSyllable_84 : decode cL_isSyllable 84 = .ok (.iadd, 1) := by decide +kernel
theorem dL_isSyllable_85 : decode cL_isSyllable 85 = .ok (.iconst 1, 1) := by decide +kernel
theorem dL_isSyllable_86 : decode cL_isSyllable 86 = .ok (.isub, 1) := by decide +kernel
theorem dL_isSyllable_87 : decode cL_isSyllable 87 = .ok (.invokevirtual 16, 3) := by decide +kernel
theorem dL_isSyllable_90 : decode cL_isSyllable 90 = .ok (.iload_n 3, 1) := by decide +kernel
theorem dL_isSyllable_91 : decode cL_isSyllable 91 = .ok (.if_icmp .ne 48, 3) := by decide +kernel
theorem dL_isSyllable_94 : decode cL_isSyllable 94 = .ok (.aload_n 0, 1) := by decide +kernel
theorem dL_isSyllable_95 : decode cL_isSyllable 95 = .ok (.iload_n 1, 1) := by decide +kernel
theorem dL_isSyllable_96 : decode cL_isSyllable 96 = .ok (.sipush 599, 3) := by decide +kernel
theorem dL_isSyllable_99 : decode cL_isSyllable 99 = .ok (.invokevirtual 16, 3) := by decide +kernel
theorem dL_isSyllable_102 : decode cL_isSyllable 102 = .ok (.iload_n 3, 1) := by decide +kernel
theorem dL_isSyllable_103 : decode cL_isSyllable 103 = .ok (.if_icmp .ne 36, 3) := by decide +kernel
theorem dL_isSyllable_106 : decode cL_isSyllable 106 = .ok (.aload_n 0, 1) := by decide +kernel
theorem dL_isSyllable_107 : decode cL_isSyllable 107 = .ok (.iload_n 2, 1) := by decide +kernel
theorem dL_isSyllable_108 : decode cL_isSyllable 108 = .ok (.invokevirtual 19, 3) := by decide +kernel
theorem dL_isSyllable_111 : decode cL_isSyllable 111 = .ok (.iload 4, 2) := by decide +kernel
theorem dL_isSyllable_113 : decode cL_isSyllable 113 = .ok (.if_icmp .ne 26, 3) := by decide +kernel
theorem dL_isSyllable_116 : decode cL_isSyllable 116 = .ok (.iload_n 3, 1) := by decide +kernel
theorem dL_isSyllable_117 : decode cL_isSyllable 117 = .ok (.iconst 1, 1) := by decide +kernel
theorem dL_isSyllable_118 : decode cL_isSyllable 118 = .ok (.if_icmp .eq 17, 3) := by decide +kernel
theorem dL_isSyllable_121 : decode cL_isSyllable 121 = .ok (.aload_n 0, 1) := by decide +kernel
theorem dL_isSyllable_122 : decode cL_isSyllable 122 = .ok (.iload_n 2, 1) := by decide +kernel
theorem dL_isSyllable_123 : decode cL_isSyllable 123 = .ok (.iload_n 3, 1) := by decide +kernel
theorem dL_isSyllable_124 : decode cL_isSyllable 124 = .ok (.iadd, 1) := by decide +kernel
theorem dL_isSyllable_125 : decode cL_isSyllable 125 = .ok (.iconst 1, 1) := by decide +kernel
theorem dL_isSyllable_126 : decode cL_isSyllable 126 = .ok (.isub, 1) := by decide +kernel
theorem dL_isSyllable_127 : decode cL_isSyllable 127 = .ok (.invokevirtual 19, 3) := by decide +kernel
theorem dL_isSyllable_130 : decode cL_isSyllable 130 = .ok (.iload 5, 2) := by decide +kernel
theorem dL_isSyllable_132 : decode cL_isSyllable 132 = .ok (.if_icmp .ne 7, 3) := by decide +kernel
theorem dL_isSyllable_135 : decode cL_isSyllable 135 = .ok (.iconst 1, 1) := by decide +kernel
theorem dL_isSyllable_136 : decode cL_isSyllable 136 = .ok (.goto 4, 3) := by decide +kernel
theorem dL_isSyllable_139 : decode cL_isSyllable 139 = .ok (.iconst 0, 1) := by decide +kernel
theorem dL_isSyllable_140 : decode cL_isSyllable 140 = .ok (.istore 8, 2) := by decide +kernel
theorem dL_isSyllable_142 : decode cL_isSyllable 142 = .ok (.iload_n 2, 1) := by decide +kernel
theorem dL_isSyllable_143 : decode cL_isSyllable 143 = .ok (.istore 9, 2) := by decide +kernel
theorem dL_isSyllable_145 : decode cL_isSyllable 145 = .ok (.iload 9, 2) := by decide +kernel
theorem dL_isSyllable_147 : decode cL_isSyllable 147 = .ok (.iload_n 2, 1) := by decide +kernel
theorem dL_isSyllable_148 : decode cL_isSyllable 148 = .ok (.iload_n 3, 1) := by decide +kernel
theorem dL_isSyllable_149 : decode cL_isSyllable 149 = .ok (.iadd, 1) := by decide +kernel
theorem dL_isSyllable_150 : decode cL_isSyllable 150 = .ok (.if_icmp .ge 171, 3) := by decide +kernel
theorem dL_isSyllable_153 : decode cL_isSyllable 153 = .ok (.iload 8, 2) := by decide +kernel
theorem dL_isSyllable_155 : decode cL_isSyllable 155 = .ok (.ifCond .eq 166, 3) := by decide +kernel
theorem dL_isSyllable_158 : decode cL_isSyllable 158 = .ok (.aload_n 0, 1) := by decide +kernel
theorem dL_isSyllable_159 : decode cL_isSyllable 159 = .ok (.iload 9, 2) := by decide +kernel
theorem dL_isSyllable_161 : decode cL_isSyllable 161 = .ok (.invokevirtual 19, 3) := by decide +kernel
theorem dL_isSyllable_164 : decode cL_isSyllable 164 = .ok (.istore 10, 2) := by decide +kernel
theorem dL_isSyllable_166 : decode cL_isSyllable 166 = .ok (.aload_n 0, 1) := by decide +kernel
theorem dL_isSyllable_167 : decode cL_isSyllable 167 = .ok (.iload 9, 2) := by decide +kernel
theorem dL_isSyllable_169 : decode cL_isSyllable 169 = .ok (.invokevirtual 23, 3) := by decide +kernel
theorem dL_isSyllable_172 : decode cL_isSyllable 172 = .ok (.iload 10, 2) := by decide +kernel
theorem dL_isSyllable_174 : decode cL_isSyllable 174 = .ok (.if_icmp .ge 15, 3) := by decide +kernel
theorem dL_isSyllable_177 : decode cL_isSyllable 177 = .ok (.iload 10, 2) := by decide +kernel
theorem dL_isSyllable_179 : decode cL_isSyllable 179 = .ok (.aload_n 0, 1) := by decide +kernel
theorem dL_isSyllable_180 : decode cL_isSyllable 180 = .ok (.iload 9, 2) := by decide +kernel
theorem dL_isSyllable_182 : decode cL_isSyllable 182 = .ok (.invokevirtual 23, 3) := by decide +kernel
theorem dL_isSyllable_185 : decode cL_isSyllable 185 = .ok (.isub, 1) := by decide +kernel
theorem dL_isSyllable_186 : decode cL_isSyllable 186 = .ok (.goto 12, 3) := by decide +kernel
theorem dL_isSyllable_189 : decode cL_isSyllable 189 = .ok (.aload_n 0, 1) := by decide +kernel
theorem dL_isSyllable_190 : decode cL_isSyllable 190 = .ok (.iload 9, 2) := by decide +kernel
theorem dL_isSyllable_192 : decode cL_isSyllable 192 = .ok (.invokevirtual 23, 3) := by decide +kernel
theorem dL_isSyllable_195 : decode cL_isSyllable 195 = .ok (.iload 10, 2) := by decide +kernel
theorem dL_isSyllable_197 : decode cL_isSyllable 197 = .ok (.isub, 1) := by decide +kernel
theorem dL_isSyllable_198 : decode cL_isSyllable 198 = .ok (.istore 11, 2) := by decide +kernel
theorem dL_isSyllable_200 : decode cL_isSyllable 200 = .ok (.aload_n 0, 1) := by decide +kernel
theorem dL_isSyllable_201 : decode cL_isSyllable 201 = .ok (.iconst 3, 1) := by decide +kernel
theorem dL_isSyllable_202 : decode cL_isSyllable 202 = .ok (.invokevirtual 26, 3) := by decide +kernel
theorem dL_isSyllable_205 : decode cL_isSyllable 205 = .ok (.ifCond .ne 8, 3) := by decide +kernel
theorem dL_isSyllable_208 : decode cL_isSyllable 208 = .ok (.iload 11, 2) := by decide +kernel
theorem dL_isSyllable_210 : decode cL_isSyllable 210 = .ok (.goto 29, 3) := by decide +kernel
theorem dL_isSyllable_213 : decode cL_isSyllable 213 = .ok (.iload 11, 2) := by decide +kernel
theorem dL_isSyllable_215 : decode cL_isSyllable 215 = .ok (.bipush 12, 2) := by decide +kernel
theorem dL_isSyllable_217 : decode cL_isSyllable 217 = .ok (.irem, 1) := by decide +kernel
theorem dL_isSyllable_218 : decode cL_isSyllable 218 = .ok (.bipush 6, 2) := by decide +kernel
theorem dL_isSyllable_220 : decode cL_isSyllable 220 = .ok (.if_icmp .le 14, 3) := by decide +kernel
theorem dL_isSyllable_223 : decode cL_isSyllable 223 = .ok (.bipush 12, 2) := by decide +kernel
theorem dL_isSyllable_225 : decode cL_isSyllable 225 = .ok (.iload 11, 2) := by decide +kernel
theorem dL_isSyllable_227 : decode cL_isSyllable 227 = .ok (.bipush 12, 2) := by decide +kernel
theorem dL_isSyllable_229 : decode cL_isSyllable 229 = .ok (.irem, 1) := by decide +kernel
theorem dL_isSyllable_230 : decode cL_isSyllable 230 = .ok (.isub, 1) := by decide +kernel
theorem dL_isSyllable_231 : decode cL_isSyllable 231 = .ok (.goto 8, 3) := by decide +kernel
theorem dL_isSyllable_234 : decode cL_isSyllable 234 = .ok (.iload 11, 2) := by decide +kernel
theorem dL_isSyllable_236 : decode cL_isSyllable 236 = .ok (.bipush 12, 2) := by decide +kernel
theorem dL_isSyllable_238 : decode cL_isSyllable 238 = .ok (.irem, 1) := by decide +kernel
theorem dL_isSyllable_239 : decode cL_isSyllable 239 = .ok (.istore 11, 2) := by decide +kernel
theorem dL_isSyllable_241 : decode cL_isSyllable 241 = .ok (.iload 7, 2) := by decide +kernel
theorem dL_isSyllable_243 : decode cL_isSyllable 243 = .ok (.aload_n 0, 1) := by decide +kernel
theorem dL_isSyllable_244 : decode cL_isSyllable 244 = .ok (.iload 9, 2) := by decide +kernel
theorem dL_isSyllable_246 : decode cL_isSyllable 246 = .ok (.invokevirtual 23, 3) := by decide +kernel
theorem dL_isSyllable_249 : decode cL_isSyllable 249 = .ok (.ifCond .lt 17, 3) := by decide +kernel
theorem dL_isSyllable_252 : decode cL_isSyllable 252 = .ok (.iload 11, 2) := by decide +kernel
theorem dL_isSyllable_254 : decode cL_isSyllable 254 = .ok (.aload_n 0, 1) := by decide +kernel
theorem dL_isSyllable_255 : decode cL_isSyllable 255 = .ok (.iconst 1, 1) := by decide +kernel
theorem dL_isSyllable_256 : decode cL_isSyllable 256 = .ok (.invokevirtual 26, 3) := by decide +kernel
theorem dL_isSyllable_259 : decode cL_isSyllable 259 = .ok (.if_icmp .gt 7, 3) := by decide +kernel
theorem dL_isSyllable_262 : decode cL_isSyllable 262 = .ok (.iconst 1, 1) := by decide +kernel
theorem dL_isSyllable_263 : decode cL_isSyllable 263 = .ok (.goto 4, 3) := by decide +kernel
theorem dL_isSyllable_266 : decode cL_isSyllable 266 = .ok (.iconst 0, 1) := by decide +kernel
theorem dL_isSyllable_267 : decode cL_isSyllable 267 = .ok (.iadd, 1) := by decide +kernel
theorem dL_isSyllable_268 : decode cL_isSyllable 268 = .ok (.istore 7, 2) := by decide +kernel
theorem dL_isSyllable_270 : decode cL_isSyllable 270 = .ok (.iload 10, 2) := by decide +kernel
theorem dL_isSyllable_272 : decode cL_isSyllable 272 = .ok (.iload 4, 2) := by decide +kernel
theorem dL_isSyllable_274 : decode cL_isSyllable 274 = .ok (.iload 5, 2) := by decide +kernel
theorem dL_isSyllable_276 : decode cL_isSyllable 276 = .ok (.if_icmp .ge 8, 3) := by decide +kernel
theorem dL_isSyllable_279 : decode cL_isSyllable 279 = .ok (.iload 4, 2) := by decide +kernel
theorem dL_isSyllable_281 : decode cL_isSyllable 281 = .ok (.goto 5, 3) := by decide +kernel
theorem dL_isSyllable_284 : decode cL_isSyllable 284 = .ok (.iload 5, 2) := by decide +kernel
theorem dL_isSyllable_286 : decode cL_isSyllable 286 = .ok (.if_icmp .lt 26, 3) := by decide +kernel
theorem dL_isSyllable_289 : decode cL_isSyllable 289 = .ok (.iload 10, 2) := by decide +kernel
theorem dL_isSyllable_291 : decode cL_isSyllable 291 = .ok (.iload 4, 2) := by decide +kernel
theorem dL_isSyllable_293 : decode cL_isSyllable 293 = .ok (.iload 5, 2) := by decide +kernel
theorem dL_isSyllable_295 : decode cL_isSyllable 295 = .ok (.if_icmp .ge 8, 3) := by decide +kernel
theorem dL_isSyllable_298 : decode cL_isSyllable 298 = .ok (.iload 5, 2) := by decide +kernel
theorem dL_isSyllable_300 : decode cL_isSyllable 300 = .ok (.goto 5, 3) := by decide +kernel
theorem dL_isSyllable_303 : decode cL_isSyllable 303 = .ok (.iload 4, 2) := by decide +kernel
theorem dL_isSyllable_305 : decode cL_isSyllable 305 = .ok (.if_icmp .gt 7, 3) := by decide +kernel
theorem dL_isSyllable_308 : decode cL_isSyllable 308 = .ok (.iconst 1, 1) := by decide +kernel
theorem dL_isSyllable_309 : decode cL_isSyllable 309 = .ok (.goto 4, 3) := by decide +kernel
theorem dL_isSyllable_312 : decode cL_isSyllable 312 = .ok (.iconst 0, 1) := by decide +kernel
theorem dL_isSyllable_313 : decode cL_isSyllable 313 = .ok (.istore 8, 2) := by decide +kernel
theorem dL_isSyllable_315 : decode cL_isSyllable 315 = .ok (.iinc 9 1, 3) := by decide +kernel
theorem dL_isSyllable_318 : decode cL_isSyllable 318 = .ok (.goto (-173), 3) := by decide +kernel
theorem dL_isSyllable_321 : decode cL_isSyllable 321 = .ok (.iload 8, 2) := by decide +kernel
theorem dL_isSyllable_323 : decode cL_isSyllable 323 = .ok (.ifCond .eq 98, 3) := by decide +kernel
theorem dL_isSyllable_326 : decode cL_isSyllable 326 = .ok (.aload_n 0, 1) := by decide +kernel
theorem dL_isSyllable_327 : decode cL_isSyllable 327 = .ok (.iload_n 1, 1) := by decide +kernel
theorem dL_isSyllable_328 : decode cL_isSyllable 328 = .ok (.bipush 6, 2) := by decide +kernel
theorem dL_isSyllable_330 : decode cL_isSyllable 330 = .ok (.invokevirtual 10, 3) := by decide +kernel
theorem dL_isSyllable_333 : decode cL_isSyllable 333 = .ok (.iload 7, 2) := by decide +kernel
theorem dL_isSyllable_335 : decode cL_isSyllable 335 = .ok (.if_icmp .ne 86, 3) := by decide +kernel
theorem dL_isSyllable_338 : decode cL_isSyllable 338 = .ok (.aload_n 0, 1) := by decide +kernel
theorem dL_isSyllable_339 : decode cL_isSyllable 339 = .ok (.iload_n 1, 1) := by decide +kernel
theorem dL_isSyllable_340 : decode cL_isSyllable 340 = .ok (.bipush 7, 2) := by decide +kernel
theorem dL_isSyllable_342 : decode cL_isSyllable 342 = .ok (.invokevirtual 10, 3) := by decide +kernel
theorem dL_isSyllable_345 : decode cL_isSyllable 345 = .ok (.iload 7, 2) := by decide +kernel
theorem dL_isSyllable_347 : decode cL_isSyllable 347 = .ok (.bipush 100, 2) := by decide +kernel
theorem dL_isSyllable_349 : decode cL_isSyllable 349 = .ok (.imul, 1) := by decide +kernel
theorem dL_isSyllable_350 : decode cL_isSyllable 350 = .ok (.iload_n 3, 1) := by decide +kernel
theorem dL_isSyllable_351 : decode cL_isSyllable 351 = .ok (.idiv, 1) := by decide +kernel
theorem dL_isSyllable_352 : decode cL_isSyllable 352 = .ok (.if_icmp .ne 69, 3) := by decide +kernel
theorem dL_isSyllable_355 : decode cL_isSyllable 355 = .ok (.iload 6, 2) := by decide +kernel
theorem dL_isSyllable_357 : decode cL_isSyllable 357 = .ok (.bipush (-5), 2) := by decide +kernel
theorem dL_isSyllable_359 : decode cL_isSyllable 359 = .ok (.if_icmp .eq 58, 3) := by decide +kernel
theorem dL_isSyllable_362 : decode cL_isSyllable 362 = .ok (.iload 6, 2) := by decide +kernel
theorem dL_isSyllable_364 : decode cL_isSyllable 364 = .ok (.iload_n 2, 1) := by decide +kernel
theorem dL_isSyllable_365 : decode cL_isSyllable 365 = .ok (.isub, 1) := by decide +kernel
theorem dL_isSyllable_366 : decode cL_isSyllable 366 = .ok (.aload_n 0, 1) := by decide +kernel
theorem dL_isSyllable_367 : decode cL_isSyllable 367 = .ok (.iconst 2, 1) := by decide +kernel
theorem dL_isSyllable_368 : decode cL_isSyllable 368 = .ok (.invokevirtual 26, 3) := by decide +kernel
theorem dL_isSyllable_371 : decode cL_isSyllable 371 = .ok (.if_icmp .gt 50, 3) := by decide +kernel
theorem dL_isSyllable_374 : decode cL_isSyllable 374 = .ok (.iload_n 2, 1) := by decide +kernel
theorem dL_isSyllable_375 : decode cL_isSyllable 375 = .ok (.iload 6, 2) := by decide +kernel
theorem dL_isSyllable_377 : decode cL_isSyllable 377 = .ok (.isub, 1) := by decide +kernel
theorem dL_isSyllable_378 : decode cL_isSyllable 378 = .ok (.aload_n 0, 1) := by decide +kernel
theorem dL_isSyllable_379 : decode cL_isSyllable 379 = .ok (.iconst 2, 1) := by decide +kernel
theorem dL_isSyllable_380 : decode cL_isSyllable 380 = .ok (.invokevirtual 26, 3) := by decide +kernel
theorem dL_isSyllable_383 : decode cL_isSyllable 383 = .ok (.if_icmp .gt 38, 3) := by decide +kernel
theorem dL_isSyllable_386 : decode cL_isSyllable 386 = .ok (.aload_n 0, 1) := by decide +kernel
theorem dL_isSyllable_387 : decode cL_isSyllable 387 = .ok (.iload 6, 2) := by decide +kernel
theorem dL_isSyllable_389 : decode cL_isSyllable 389 = .ok (.invokevirtual 23, 3) := by decide +kernel
theorem dL_isSyllable_392 : decode cL_isSyllable 392 = .ok (.ifCond .lt 29, 3) := by decide +kernel
theorem dL_isSyllable_395 : decode cL_isSyllable 395 = .ok (.iload 6, 2) := by decide +kernel
theorem dL_isSyllable_397 : decode cL_isSyllable 397 = .ok (.ifCond .eq 20, 3) := by decide +kernel
theorem dL_isSyllable_400 : decode cL_isSyllable 400 = .ok (.aload_n 0, 1) := by decide +kernel
theorem dL_isSyllable_401 : decode cL_isSyllable 401 = .ok (.iload 6, 2) := by decide +kernel
theorem dL_isSyllable_403 : decode cL_isSyllable 403 = .ok (.iconst 1, 1) := by decide +kernel
theorem dL_isSyllable_404 : decode cL_isSyllable 404 = .ok (.isub, 1) := by decide +kernel
theorem dL_isSyllable_405 : decode cL_isSyllable 405 = .ok (.invokevirtual 23, 3) := by decide +kernel
theorem dL_isSyllable_408 : decode cL_isSyllable 408 = .ok (.aload_n 0, 1) := by decide +kernel
theorem dL_isSyllable_409 : decode cL_isSyllable 409 = .ok (.iload 6, 2) := by decide +kernel
theorem dL_isSyllable_411 : decode cL_isSyllable 411 = .ok (.invokevirtual 23, 3) := by decide +kernel
theorem dL_isSyllable_414 : decode cL_isSyllable 414 = .ok (.if_icmp .eq 7, 3) := by decide +kernel
theorem dL_isSyllable_417 : decode cL_isSyllable 417 = .ok (.iconst 1, 1) := by decide +kernel
theorem dL_isSyllable_418 : decode cL_isSyllable 418 = .ok (.goto 4, 3) := by decide +kernel
theorem dL_isSyllable_421 : decode cL_isSyllable 421 = .ok (.iconst 0, 1) := by decide +kernel
theorem dL_isSyllable_422 : decode cL_isSyllable 422 = .ok (.istore 8, 2) := by decide +kernel
theorem dL_isSyllable_424 : decode cL_isSyllable 424 = .ok (.iload 8, 2) := by decide +kernel
theorem dL_isSyllable_426 : decode cL_isSyllable 426 = .ok (.ifCond .eq 95, 3) := by decide +kernel
theorem dL_isSyllable_429 : decode cL_isSyllable 429 = .ok (.aload_n 0, 1) := by decide +kernel
theorem dL_isSyllable_430 : decode cL_isSyllable 430 = .ok (.iload_n 1, 1) := by decide +kernel
theorem dL_isSyllable_431 : decode cL_isSyllable 431 = .ok (.bipush 9, 2) := by decide +kernel
theorem dL_isSyllable_433 : decode cL_isSyllable 433 = .ok (.invokevirtual 10, 3) := by decide +kernel
theorem dL_isSyllable_436 : decode cL_isSyllable 436 = .ok (.ifCond .ne 26, 3) := by decide +kernel
theorem dL_isSyllable_439 : decode cL_isSyllable 439 = .ok (.iload 6, 2) := by decide +kernel
theorem dL_isSyllable_441 : decode cL_isSyllable 441 = .ok (.ifCond .lt 80, 3) := by decide +kernel
theorem dL_isSyllable_444 : decode cL_isSyllable 444 = .ok (.aload_n 0, 1) := by decide +kernel
theorem dL_isSyllable_445 : decode cL_isSyllable 445 = .ok (.iload_n 1, 1) := by decide +kernel
theorem dL_isSyllable_446 : decode cL_isSyllable 446 = .ok (.bipush 7, 2) := by decide +kernel
theorem dL_isSyllable_448 : decode cL_isSyllable 448 = .ok (.invokevirtual 10, 3) := by decide +kernel
theorem dL_isSyllable_451 : decode cL_isSyllable 451 = .ok (.aload_n 0, 1) := by decide +kernel
theorem dL_isSyllable_452 : decode cL_isSyllable 452 = .ok (.iconst 4, 1) := by decide +kernel
theorem dL_isSyllable_453 : decode cL_isSyllable 453 = .ok (.invokevirtual 26, 3) := by decide +kernel
theorem dL_isSyllable_456 : decode cL_isSyllable 456 = .ok (.if_icmp .lt 65, 3) := by decide +kernel
theorem dL_isSyllable_459 : decode cL_isSyllable 459 = .ok (.goto 13, 3) := by decide +kernel
theorem dL_isSyllable_462 : decode cL_isSyllable 462 = .ok (.aload_n 0, 1) := by decide +kernel
theorem dL_isSyllable_463 : decode cL_isSyllable 463 = .ok (.iload_n 1, 1) := by decide +kernel
theorem dL_isSyllable_464 : decode cL_isSyllable 464 = .ok (.bipush 10, 2) := by decide +kernel
theorem dL_isSyllable_466 : decode cL_isSyllable 466 = .ok (.invokevirtual 10, 3) := by decide +kernel
theorem dL_isSyllable_469 : decode cL_isSyllable 469 = .ok (.ifCond .ne 52, 3) := by decide +kernel
theorem dL_isSyllable_472 : decode cL_isSyllable 472 = .ok (.aload_n 0, 1) := by decide +kernel
theorem dL_isSyllable_473 : decode cL_isSyllable 473 = .ok (.iload_n 1, 1) := by decide +kernel
theorem dL_isSyllable_474 : decode cL_isSyllable 474 = .ok (.bipush 9, 2) := by decide +kernel
theorem dL_isSyllable_476 : decode cL_isSyllable 476 = .ok (.invokevirtual 10, 3) := by decide +kernel
theorem dL_isSyllable_479 : decode cL_isSyllable 479 = .ok (.ifCond .lt 42, 3) := by decide +kernel
theorem dL_isSyllable_482 : decode cL_isSyllable 482 = .ok (.aload_n 0, 1) := by decide +kernel
theorem dL_isSyllable_483 : decode cL_isSyllable 483 = .ok (.iload_n 1, 1) := by decide +kernel
theorem dL_isSyllable_484 : decode cL_isSyllable 484 = .ok (.bipush 9, 2) := by decide +kernel
theorem dL_isSyllable_486 : decode cL_isSyllable 486 = .ok (.invokevirtual 10, 3) := by decide +kernel
theorem dL_isSyllable_489 : decode cL_isSyllable 489 = .ok (.iconst 4, 1) := by decide +kernel
theorem dL_isSyllable_490 : decode cL_isSyllable 490 = .ok (.if_icmp .gt 31, 3) := by decide +kernel
theorem dL_isSyllable_493 : decode cL_isSyllable 493 = .ok (.aload_n 0, 1) := by decide +kernel
theorem dL_isSyllable_494 : decode cL_isSyllable 494 = .ok (.iload_n 1, 1) := by decide +kernel
theorem dL_isSyllable_495 : decode cL_isSyllable 495 = .ok (.iconst 5, 1) := by decide +kernel
theorem dL_isSyllable_496 : decode cL_isSyllable 496 = .ok (.invokevirtual 10, 3) := by decide +kernel
theorem dL_isSyllable_499 : decode cL_isSyllable 499 = .ok (.iload_n 3, 1) := by decide +kernel
theorem dL_isSyllable_500 : decode cL_isSyllable 500 = .ok (.iconst 2, 1) := by decide +kernel
theorem dL_isSyllable_501 : decode cL_isSyllable 501 = .ok (.idiv, 1) := by decide +kernel
theorem dL_isSyllable_502 : decode cL_isSyllable 502 = .ok (.if_icmp .gt 19, 3) := by decide +kernel
theorem dL_isSyllable_505 : decode cL_isSyllable 505 = .ok (.aload_n 0, 1) := by decide +kernel
theorem dL_isSyllable_506 : decode cL_isSyllable 506 = .ok (.iload_n 1, 1) := by decide +kernel
theorem dL_isSyllable_507 : decode cL_isSyllable 507 = .ok (.bipush 11, 2) := by decide +kernel
theorem dL_isSyllable_509 : decode cL_isSyllable 509 = .ok (.invokevirtual 10, 3) := by decide +kernel
theorem dL_isSyllable_512 : decode cL_isSyllable 512 = .ok (.bipush 10, 2) := by decide +kernel
theorem dL_isSyllable_514 : decode cL_isSyllable 514 = .ok (.if_icmp .gt 7, 3) := by decide +kernel
theorem dL_isSyllable_517 : decode cL_isSyllable 517 = .ok (.iconst 1, 1) := by decide +kernel
theorem dL_isSyllable_518 : decode cL_isSyllable 518 = .ok (.goto 4, 3) := by decide +kernel
theorem dL_isSyllable_521 : decode cL_isSyllable 521 = .ok (.iconst 0, 1) := by decide +kernel
theorem dL_isSyllable_522 : decode cL_isSyllable 522 = .ok (.ireturn, 1) := by decide +kernel
theorem dL_holds_0 : decode cL_holds 0 = .ok (.aload_n 0, 1) := by decide +kernel
theorem dL_holds_1 : decode cL_holds 1 = .ok (.iconst 5, 1) := by decide +kernel
theorem dL_holds_2 : decode cL_holds 2 = .ok (.invokevirtual 26, 3) := by decide +kernel
theorem dL_holds_5 : decode cL_holds 5 = .ok (.istore_n 1, 1) := by decide +kernel
theorem dL_holds_6 : decode cL_holds 6 = .ok (.iconst 0, 1) := by decide +kernel
theorem dL_holds_7 : decode cL_holds 7 = .ok (.istore_n 2, 1) := by decide +kernel
theorem dL_holds_8 : decode cL_holds 8 = .ok (.iconst 0, 1) := by decide +kernel
theorem dL_holds_9 : decode cL_holds 9 = .ok (.istore_n 3, 1) := by decide +kernel
theorem dL_holds_10 : decode cL_holds 10 = .ok (.iconst 0, 1) := by decide +kernel
theorem dL_holds_11 : decode cL_holds 11 = .ok (.istore 4, 2) := by decide +kernel
theorem dL_holds_13 : decode cL_holds 13 = .ok (.iconst 0, 1) := by decide +kernel
theorem dL_holds_14 : decode cL_holds 14 = .ok (.istore 5, 2) := by decide +kernel
theorem dL_holds_16 : decode cL_holds 16 = .ok (.iconst 0, 1) := by decide +kernel
theorem dL_holds_17 : decode cL_holds 17 = .ok (.istore 6, 2) := by decide +kernel
theorem dL_holds_19 : decode cL_holds 19 = .ok (.iload 6, 2) := by decide +kernel
theorem dL_holds_21 : decode cL_holds 21 = .ok (.iload_n 1, 1) := by decide +kernel
theorem dL_holds_22 : decode cL_holds 22 = .ok (.if_icmp .ge 199, 3) := by decide +kernel
theorem dL_holds_25 : decode cL_holds 25 = .ok (.aload_n 0, 1) := by decide +kernel
theorem dL_holds_26 : decode cL_holds 26 = .ok (.iload 6, 2) := by decide +kernel
theorem dL_holds_28 : decode cL_holds 28 = .ok (.iconst 0, 1) := by decide +kernel
theorem dL_holds_29 : decode cL_holds 29 = .ok (.invokevirtual 10, 3) := by decide +kernel
theorem dL_holds_32 : decode cL_holds 32 = .ok (.iload_n 2, 1) := by decide +kernel
theorem dL_holds_33 : decode cL_holds 33 = .ok (.if_icmp .lt 12, 3) := by decide +kernel
theorem dL_holds_36 : decode cL_holds 36 = .ok (.aload_n 0, 1) := by decide +kernel
theorem dL_holds_37 : decode cL_holds 37 = .ok (.iload 6, 2) := by decide +kernel
theorem dL_holds_39 : decode cL_holds 39 = .ok (.invokestatic 29, 3) := by decide +kernel
theorem dL_holds_42 : decode cL_holds 42 = .ok (.ifCond .ne 5, 3) := by decide +kernel
theorem dL_holds_45 : decode cL_holds 45 = .ok (.iconst 0, 1) := by decide +kernel
theorem dL_holds_46 : decode cL_holds 46 = .ok (.ireturn, 1) := by decide +kernel
theorem dL_holds_47 : decode cL_holds 47 = .ok (.aload_n 0, 1) := by decide +kernel
theorem dL_holds_48 : decode cL_holds 48 = .ok (.iload 6, 2) := by decide +kernel
theorem dL_holds_50 : decode cL_holds 50 = .ok (.iconst 0, 1) := by decide +kernel
theorem dL_holds_51 : decode cL_holds 51 = .ok (.invokevirtual 10, 3) := by decide +kernel
theorem dL_holds_54 : decode cL_holds 54 = .ok (.aload_n 0, 1) := by decide +kernel
theorem dL_holds_55 : decode cL_holds 55 = .ok (.iload 6, 2) := by decide +kernel
theorem dL_holds_57 : decode cL_holds 57 = .ok (.iconst 1, 1) := by decide +kernel
theorem dL_holds_58 : decode cL_holds 58 = .ok (.invokevirtual 10, 3) := by decide +kernel
theorem dL_holds_61 : decode cL_holds 61 = .ok (.iadd, 1) := by decide +kernel
theorem dL_holds_62 : decode cL_holds 62 = .ok (.istore_n 2, 1) := by decide +kernel
theorem dL_holds_63 : decode cL_holds 63 = .ok (.iload_n 3, 1) := by decide +kernel
theorem dL_holds_64 : decode cL_holds 64 = .ok (.aload_n 0, 1) := by decide +kernel
theorem dL_holds_65 : decode cL_holds 65 = .ok (.iload 6, 2) := by decide +kernel
theorem dL_holds_67 : decode cL_holds 67 = .ok (.bipush 9, 2) := by decide +kernel
theorem dL_holds_69 : decode cL_holds 69 = .ok (.invokevirtual 10, 3) := by decide +kernel
theorem dL_holds_72 : decode cL_holds 72 = .ok (.ifCond .ne 7, 3) := by decide +kernel
theorem dL_holds_75 : decode cL_holds 75 = .ok (.iconst 1, 1) := by decide +kernel
theorem dL_holds_76 : decode cL_holds 76 = .ok (.goto 4, 3) := by decide +kernel
theorem dL_holds_79 : decode cL_holds 79 = .ok (.iconst 0, 1) := by decide +kernel
theorem dL_holds_80 : decode cL_holds 80 = .ok (.iadd, 1) := by decide +kernel
theorem dL_holds_81 : decode cL_holds 81 = .ok (.istore_n 3, 1) := by decide +kernel
theorem dL_holds_82 : decode cL_holds 82 = .ok (.iload 6, 2) := by decide +kernel
theorem dL_holds_84 : decode cL_holds 84 = .ok (.ifCond .eq 22, 3) := by decide +kernel
theorem dL_holds_87 : decode cL_holds 87 = .ok (.aload_n 0, 1) := by decide +kernel
theorem dL_holds_88 : decode cL_holds 88 = .ok (.iload 6, 2) := by decide +kernel
theorem dL_holds_90 : decode cL_holds 90 = .ok (.iconst 4, 1) := by decide +kernel
theorem dL_holds_91 : decode cL_holds 91 = .ok (.invokevirtual 10, 3) := by decide +kernel
theorem dL_holds_94 : decode cL_holds 94 = .ok (.aload_n 0, 1) := by decide +kernel
theorem dL_holds_95 : decode cL_holds 95 = .ok (.iload 6, 2) := by decide +kernel
theorem dL_holds_97 : decode cL_holds 97 = .ok (.iconst 1, 1) := by decide +kernel
theorem dL_holds_98 : decode cL_holds 98 = .ok (.isub, 1) := by decide +kernel
theorem dL_holds_99 : decode cL_holds 99 = .ok (.iconst 4, 1) := by decide +kernel
theorem dL_holds_100 : decode cL_holds 100 = .ok (.invokevirtual 10, 3) := by decide +kernel
theorem dL_holds_103 : decode cL_holds 103 = .ok (.if_icmp .eq 7, 3) := by decide +kernel
theorem dL_holds_106 : decode cL_holds 106 = .ok (.iconst 1, 1) := by decide +kernel
theorem dL_holds_107 : decode cL_holds 107 = .ok (.goto 4, 3) := by decide +kernel
theorem dL_holds_110 : decode cL_holds 110 = .ok (.iconst 0, 1) := by decide +kernel
theorem dL_holds_111 : decode cL_holds 111 = .ok (.istore 7, 2) := by decide +kernel
theorem dL_holds_113 : decode cL_holds 113 = .ok (.iload 7, 2) := by decide +kernel
theorem dL_holds_115 : decode cL_holds 115 = .ok (.ifCond .ne 16, 3) := by decide +kernel
theorem dL_holds_118 : decode cL_holds 118 = .ok (.aload_n 0, 1) := by decide +kernel
theorem dL_holds_119 : decode cL_holds 119 = .ok (.iload 6, 2) := by decide +kernel
theorem dL_holds_121 : decode cL_holds 121 = .ok (.iconst 1, 1) := by decide +kernel
theorem dL_holds_122 : decode cL_holds 122 = .ok (.isub, 1) := by decide +kernel
theorem dL_holds_123 : decode cL_holds 123 = .ok (.bipush 9, 2) := by decide +kernel
theorem dL_holds_125 : decode cL_holds 125 = .ok (.invokevirtual 10, 3) := by decide +kernel
theorem dL_holds_128 : decode cL_holds 128 = .ok (.ifCond .le 7, 3) := by decide +kernel
theorem dL_holds_131 : decode cL_holds 131 = .ok (.iconst 0, 1) := by decide +kernel
theorem dL_holds_132 : decode cL_holds 132 = .ok (.goto 15, 3) := by decide +kernel
theorem dL_holds_135 : decode cL_holds 135 = .ok (.aload_n 0, 1) := by decide +kernel
theorem dL_holds_136 : decode cL_holds 136 = .ok (.iload 6, 2) := by decide +kernel
theorem dL_holds_138 : decode cL_holds 138 = .ok (.iconst 1, 1) := by decide +kernel
theorem dL_holds_139 : decode cL_holds 139 = .ok (.isub, 1) := by decide +kernel
theorem dL_holds_140 : decode cL_holds 140 = .ok (.bipush 11, 2) := by decide +kernel
theorem dL_holds_142 : decode cL_holds 142 = .ok (.invokevirtual 10, 3) := by decide +kernel
theorem dL_holds_145 : decode cL_holds 145 = .ok (.iconst 1, 1) := by decide +kernel
theorem dL_holds_146 : decode cL_holds 146 = .ok (.iadd, 1) := by decide +kernel
theorem dL_holds_147 : decode cL_holds 147 = .ok (.istore 8, 2) := by decide +kernel
theorem dL_holds_149 : decode cL_holds 149 = .ok (.aload_n 0, 1) := by decide +kernel
theorem dL_holds_150 : decode cL_holds 150 = .ok (.iload 6, 2) := by decide +kernel
theorem dL_holds_152 : decode cL_holds 152 = .ok (.bipush 11, 2) := by decide +kernel
theorem dL_holds_154 : decode cL_holds 154 = .ok (.invokevirtual 10, 3) := by decide +kernel
theorem dL_holds_157 : decode cL_holds 157 = .ok (.iload 8, 2) := by decide +kernel
theorem dL_holds_159 : decode cL_holds 159 = .ok (.bipush 10, 2) := by decide +kernel
theorem dL_holds_161 : decode cL_holds 161 = .ok (.if_icmp .le 8, 3) := by decide +kernel
theorem dL_holds_164 : decode cL_holds 164 = .ok (.bipush 10, 2) := by decide +kernel
theorem dL_holds_166 : decode cL_holds 166 = .ok (.goto 5, 3) := by decide +kernel
theorem dL_holds_169 : decode cL_holds 169 = .ok (.iload 8, 2) := by decide +kernel
theorem dL_holds_171 : decode cL_holds 171 = .ok (.if_icmp .ne 42, 3) := by decide +kernel
theorem dL_holds_174 : decode cL_holds 174 = .ok (.aload_n 0, 1) := by decide +kernel
theorem dL_holds_175 : decode cL_holds 175 = .ok (.iload 6, 2) := by decide +kernel
theorem dL_holds_177 : decode cL_holds 177 = .ok (.iconst 4, 1) := by decide +kernel
theorem dL_holds_178 : decode cL_holds 178 = .ok (.invokevirtual 10, 3) := by decide +kernel
theorem dL_holds_181 : decode cL_holds 181 = .ok (.iload 6, 2) := by decide +kernel
theorem dL_holds_183 : decode cL_holds 183 = .ok (.ifCond .ne 7, 3) := by decide +kernel
theorem dL_holds_186 : decode cL_holds 186 = .ok (.iconst 0, 1) := by decide +kernel
theorem dL_holds_187 : decode cL_holds 187 = .ok (.goto 23, 3) := by decide +kernel
theorem dL_holds_190 : decode cL_holds 190 = .ok (.aload_n 0, 1) := by decide +kernel
theorem dL_holds_191 : decode cL_holds 191 = .ok (.iload 6, 2) := by decide +kernel
theorem dL_holds_193 : decode cL_holds 193 = .ok (.iconst 1, 1) := by decide +kernel
theorem dL_holds_194 : decode cL_holds 194 = .ok (.isub, 1) := by decide +kernel
theorem dL_holds_195 : decode cL_holds 195 = .ok (.iconst 4, 1) := by decide +kernel
theorem dL_holds_196 : decode cL_holds 196 = .ok (.invokevirtual 10, 3) := by decide +kernel
theorem dL_holds_199 : decode cL_holds 199 = .ok (.iload 7, 2) := by decide +kernel
theorem dL_holds_201 : decode cL_holds 201 = .ok (.ifCond .eq 7, 3) := by decide +kernel
theorem dL_holds_204 : decode cL_holds 204 = .ok (.iconst 1, 1) := by decide +kernel
theorem dL_holds_205 : decode cL_holds 205 = .ok (.goto 4, 3) := by decide +kernel
theorem dL_holds_208 : decode cL_holds 208 = .ok (.iconst 0, 1) := by decide +kernel
theorem dL_holds_209 : decode cL_holds 209 = .ok (.iadd, 1) := by decide +kernel
theorem dL_holds_210 : decode cL_holds 210 = .ok (.if_icmp .eq 5, 3) := by decide +kernel
theorem dL_holds_213 : decode cL_holds 213 = .ok (.iconst 0, 1) := by decide +kernel
theorem dL_holds_214 : decode cL_holds 214 = .ok (.ireturn, 1) := by decide +kernel
theorem dL_holds_215 : decode cL_holds 215 = .ok (.iinc 6 1, 3) := by decide +kernel
theorem dL_holds_218 : decode cL_holds 218 = .ok (.goto (-199), 3) := by decide +kernel
theorem dL_holds_221 : decode cL_holds 221 = .ok (.iconst 0, 1) := by decide +kernel
theorem dL_holds_222 : decode cL_holds 222 = .ok (.istore 6, 2) := by decide +kernel
theorem dL_holds_224 : decode cL_holds 224 = .ok (.iload 6, 2) := by decide +kernel
theorem dL_holds_226 : decode cL_holds 226 = .ok (.sipush 600, 3) := by decide +kernel
theorem dL_holds_229 : decode cL_holds 229 = .ok (.if_icmp .ge 69, 3) := by decide +kernel
theorem dL_holds_232 : decode cL_holds 232 = .ok (.iload 4, 2) := by decide +kernel
theorem dL_holds_234 : decode cL_holds 234 = .ok (.aload_n 0, 1) := by decide +kernel
theorem dL_holds_235 : decode cL_holds 235 = .ok (.iload 6, 2) := by decide +kernel
theorem dL_holds_237 : decode cL_holds 237 = .ok (.invokevirtual 23, 3) := by decide +kernel
theorem dL_holds_240 : decode cL_holds 240 = .ok (.ifCond .ge 7, 3) := by decide +kernel
theorem dL_holds_243 : decode cL_holds 243 = .ok (.iconst 0, 1) := by decide +kernel
theorem dL_holds_244 : decode cL_holds 244 = .ok (.goto 4, 3) := by decide +kernel
theorem dL_holds_247 : decode cL_holds 247 = .ok (.iconst 1, 1) := by decide +kernel
theorem dL_holds_248 : decode cL_holds 248 = .ok (.iadd, 1) := by decide +kernel
theorem dL_holds_249 : decode cL_holds 249 = .ok (.istore 4, 2) := by decide +kernel
theorem dL_holds_251 : decode cL_holds 251 = .ok (.iload 5, 2) := by decide +kernel
theorem dL_holds_253 : decode cL_holds 253 = .ok (.aload_n 0, 1) := by decide +kernel
theorem dL_holds_254 : decode cL_holds 254 = .ok (.iload 6, 2) := by decide +kernel
theorem dL_holds_256 : decode cL_holds 256 = .ok (.invokevirtual 23, 3) := by decide +kernel
theorem dL_holds_259 : decode cL_holds 259 = .ok (.ifCond .lt 29, 3) := by decide +kernel
theorem dL_holds_262 : decode cL_holds 262 = .ok (.iload 6, 2) := by decide +kernel
theorem dL_holds_264 : decode cL_holds 264 = .ok (.ifCond .eq 20, 3) := by decide +kernel
theorem dL_holds_267 : decode cL_holds 267 = .ok (.aload_n 0, 1) := by decide +kernel
theorem dL_holds_268 : decode cL_holds 268 = .ok (.iload 6, 2) := by decide +kernel
theorem dL_holds_270 : decode cL_holds 270 = .ok (.iconst 1, 1) := by decide +kernel
theorem dL_holds_271 : decode cL_holds 271 = .ok (.isub, 1) := by decide +kernel
theorem dL_holds_272 : decode cL_holds 272 = .ok (.invokevirtual 23, 3) := by decide +kernel
theorem dL_holds_275 : decode cL_holds 275 = .ok (.aload_n 0, 1) := by decide +kernel
theorem dL_holds_276 : decode cL_holds 276 = .ok (.iload 6, 2) := by decide +kernel
theorem dL_holds_278 : decode cL_holds 278 = .ok (.invokevirtual 23, 3) := by decide +kernel
theorem dL_holds_281 : decode cL_holds 281 = .ok (.if_icmp .eq 7, 3) := by decide +kernel
theorem dL_holds_284 : decode cL_holds 284 = .ok (.iconst 1, 1) := by decide +kernel
theorem dL_holds_285 : decode cL_holds 285 = .ok (.goto 4, 3) := by decide +kernel
theorem dL_holds_288 : decode cL_holds 288 = .ok (.iconst 0, 1) := by decide +kernel
theorem dL_holds_289 : decode cL_holds 289 = .ok (.iadd, 1) := by decide +kernel
theorem dL_holds_290 : decode cL_holds 290 = .ok (.istore 5, 2) := by decide +kernel
theorem dL_holds_292 : decode cL_holds 292 = .ok (.iinc 6 1, 3) := by decide +kernel
theorem dL_holds_295 : decode cL_holds 295 = .ok (.goto (-71), 3) := by decide +kernel
theorem dL_holds_298 : decode cL_holds 298 = .ok (.iconst 0, 1) := by decide +kernel
theorem dL_holds_299 : decode cL_holds 299 = .ok (.istore 6, 2) := by decide +kernel
theorem dL_holds_301 : decode cL_holds 301 = .ok (.iconst 0, 1) := by decide +kernel
theorem dL_holds_302 : decode cL_holds 302 = .ok (.istore 7, 2) := by decide +kernel
theorem dL_holds_304 : decode cL_holds 304 = .ok (.iconst 0, 1) := by decide +kernel
theorem dL_holds_305 : decode cL_holds 305 = .ok (.istore 8, 2) := by decide +kernel
theorem dL_holds_307 : decode cL_holds 307 = .ok (.aload_n 0, 1) := by decide +kernel
theorem dL_holds_308 : decode cL_holds 308 = .ok (.invokevirtual 35, 3) := by decide +kernel
theorem dL_holds_311 : decode cL_holds 311 = .ok (.istore 9, 2) := by decide +kernel
theorem dL_holds_313 : decode cL_holds 313 = .ok (.iconst 0, 1) := by decide +kernel
theorem dL_holds_314 : decode cL_holds 314 = .ok (.istore 10, 2) := by decide +kernel
theorem dL_holds_316 : decode cL_holds 316 = .ok (.iload 10, 2) := by decide +kernel
theorem dL_holds_318 : decode cL_holds 318 = .ok (.aload_n 0, 1) := by decide +kernel
theorem dL_holds_319 : decode cL_holds 319 = .ok (.bipush 6, 2) := by decide +kernel
theorem dL_holds_321 : decode cL_holds 321 = .ok (.invokevirtual 26, 3) := by decide +kernel
theorem dL_holds_324 : decode cL_holds 324 = .ok (.if_icmp .ge 209, 3) := by decide +kernel
theorem dL_holds_327 : decode cL_holds 327 = .ok (.iconst 0, 1) := by decide +kernel
theorem dL_holds_328 : decode cL_holds 328 = .ok (.istore 11, 2) := by decide +kernel
theorem dL_holds_330 : decode cL_holds 330 = .ok (.aload_n 0, 1) := by decide +kernel
theorem dL_holds_331 : decode cL_holds 331 = .ok (.iload 10, 2) := by decide +kernel
theorem dL_holds_333 : decode cL_holds 333 = .ok (.iconst 0, 1) := by decide +kernel
theorem dL_holds_334 : decode cL_holds 334 = .ok (.invokevirtual 39, 3) := by decide +kernel
theorem dL_holds_337 : decode cL_holds 337 = .ok (.istore 12, 2) := by decide +kernel
theorem dL_holds_339 : decode cL_holds 339 = .ok (.iload 12, 2) := by decide +kernel
theorem dL_holds_341 : decode cL_holds 341 = .ok (.aload_n 0, 1) := by decide +kernel
theorem dL_holds_342 : decode cL_holds 342 = .ok (.iload 10, 2) := by decide +kernel
theorem dL_holds_344 : decode cL_holds 344 = .ok (.iconst 0, 1) := by decide +kernel
theorem dL_holds_345 : decode cL_holds 345 = .ok (.invokevirtual 39, 3) := by decide +kernel
theorem dL_holds_348 : decode cL_holds 348 = .ok (.aload_n 0, 1) := by decide +kernel
theorem dL_holds_349 : decode cL_holds 349 = .ok (.iload 10, 2) := by decide +kernel
theorem dL_holds_351 : decode cL_holds 351 = .ok (.iconst 1, 1) := by decide +kernel
theorem dL_holds_352 : decode cL_holds 352 = .ok (.invokevirtual 39, 3) := by decide +kernel
theorem dL_holds_355 : decode cL_holds 355 = .ok (.iadd, 1) := by decide +kernel
theorem dL_holds_356 : decode cL_holds 356 = .ok (.if_icmp .ge 39, 3) := by decide +kernel
theorem dL_holds_359 : decode cL_holds 359 = .ok (.iload 11, 2) := by decide +kernel
theorem dL_holds_361 : decode cL_holds 361 = .ok (.aload_n 0, 1) := by decide +kernel
theorem dL_holds_362 : decode cL_holds 362 = .ok (.iload 12, 2) := by decide +kernel
theorem dL_holds_364 : decode cL_holds 364 = .ok (.iconst 4, 1) := by decide +kernel
theorem dL_holds_365 : decode cL_holds 365 = .ok (.invokevirtual 10, 3) := by decide +kernel
theorem dL_holds_368 : decode cL_holds 368 = .ok (.iload 10, 2) := by decide +kernel
theorem dL_holds_370 : decode cL_holds 370 = .ok (.if_icmp .ne 14, 3) := by decide +kernel
theorem dL_holds_373 : decode cL_holds 373 = .ok (.aload_n 0, 1) := by decide +kernel
theorem dL_holds_374 : decode cL_holds 374 = .ok (.iload 12, 2) := by decide +kernel
theorem dL_holds_376 : decode cL_holds 376 = .ok (.bipush 10, 2) := by decide +kernel
theorem dL_holds_378 : decode cL_holds 378 = .ok (.invokevirtual 10, 3) := by decide +kernel
theorem dL_holds_381 : decode cL_holds 381 = .ok (.goto 5, 3) := by decide +kernel
theorem dL_holds_384 : decode cL_holds 384 = .ok (.ldc 42, 2) := by decide +kernel
theorem dL_holds_386 : decode cL_holds 386 = .ok (.iadd, 1) := by decide +kernel
theorem dL_holds_387 : decode cL_holds 387 = .ok (.istore 11, 2) := by decide +kernel
theorem dL_holds_389 : decode cL_holds 389 = .ok (.iinc 12 1, 3) := by decide +kernel
theorem dL_holds_392 : decode cL_holds 392 = .ok (.goto (-53), 3) := by decide +kernel
theorem dL_holds_395 : decode cL_holds 395 = .ok (.iload 11, 2) := by decide +kernel
theorem dL_holds_397 : decode cL_holds 397 = .ok (.aload_n 0, 1) := by decide +kernel
theorem dL_holds_398 : decode cL_holds 398 = .ok (.iload 10, 2) := by decide +kernel
theorem dL_holds_400 : decode cL_holds 400 = .ok (.iconst 1, 1) := by decide +kernel
theorem dL_holds_401 : decode cL_holds 401 = .ok (.invokevirtual 39, 3) := by decide +kernel
theorem dL_holds_404 : decode cL_holds 404 = .ok (.iconst 1, 1) := by decide +kernel
theorem dL_holds_405 : decode cL_holds 405 = .ok (.if_icmp .le 25, 3) := by decide +kernel
theorem dL_holds_408 : decode cL_holds 408 = .ok (.aload_n 0, 1) := by decide +kernel
theorem dL_holds_409 : decode cL_holds 409 = .ok (.iload 10, 2) := by decide +kernel
theorem dL_holds_411 : decode cL_holds 411 = .ok (.iconst 2, 1) := by decide +kernel
theorem dL_holds_412 : decode cL_holds 412 = .ok (.invokevirtual 39, 3) := by decide +kernel
theorem dL_holds_415 : decode cL_holds 415 = .ok (.aload_n 0, 1) := by decide +kernel
theorem dL_holds_416 : decode cL_holds 416 = .ok (.iload 10, 2) := by decide +kernel
theorem dL_holds_418 : decode cL_holds 418 = .ok (.iconst 1, 1) := by decide +kernel
theorem dL_holds_419 : decode cL_holds 419 = .ok (.invokevirtual 39, 3) := by decide +kernel
theorem dL_holds_422 : decode cL_holds 422 = .ok (.if_icmp .ne 8, 3) := by decide +kernel
theorem dL_holds_425 : decode cL_holds 425 = .ok (.bipush 50, 2) := by decide +kernel
theorem dL_holds_427 : decode cL_holds 427 = .ok (.goto 4, 3) := by decide +kernel
theorem dL_holds_430 : decode cL_holds 430 = .ok (.iconst 0, 1) := by decide +kernel
theorem dL_holds_431 : decode cL_holds 431 = .ok (.iadd, 1) := by decide +kernel
theorem dL_holds_432 : decode cL_holds 432 = .ok (.istore 11, 2) := by decide +kernel
theorem dL_holds_434 : decode cL_holds 434 = .ok (.iload 11, 2) := by decide +kernel
theorem dL_holds_436 : decode cL_holds 436 = .ok (.aload_n 0, 1) := by decide +kernel
theorem dL_holds_437 : decode cL_holds 437 = .ok (.iload 10, 2) := by decide +kernel
theorem dL_holds_439 : decode cL_holds 439 = .ok (.iconst 3, 1) := by decide +kernel
theorem dL_holds_440 : decode cL_holds 440 = .ok (.invokevirtual 39, 3) := by decide +kernel
theorem dL_holds_443 : decode cL_holds 443 = .ok (.if_icmp .ne 51, 3) := by decide +kernel
theorem dL_holds_446 : decode cL_holds 446 = .ok (.aload_n 0, 1) := by decide +kernel
theorem dL_holds_447 : decode cL_holds 447 = .ok (.iload 10, 2) := by decide +kernel
theorem dL_holds_449 : decode cL_holds 449 = .ok (.iconst 4, 1) := by decide +kernel
theorem dL_holds_450 : decode cL_holds 450 = .ok (.invokevirtual 39, 3) := by decide +kernel
theorem dL_holds_453 : decode cL_holds 453 = .ok (.aload_n 0, 1) := by decide +kernel
theorem dL_holds_454 : decode cL_holds 454 = .ok (.iload 10, 2) := by decide +kernel
theorem dL_holds_456 : decode cL_holds 456 = .ok (.iconst 2, 1) := by decide +kernel
theorem dL_holds_457 : decode cL_holds 457 = .ok (.invokevirtual 39, 3) := by decide +kernel
theorem dL_holds_460 : decode cL_holds 460 = .ok (.if_icmp .gt 34, 3) := by decide +kernel
theorem dL_holds_463 : decode cL_holds 463 = .ok (.aload_n 0, 1) := by decide +kernel
theorem dL_holds_464 : decode cL_holds 464 = .ok (.iload 9, 2) := by decide +kernel
theorem dL_holds_466 : decode cL_holds 466 = .ok (.iconst 3, 1) := by decide +kernel
theorem dL_holds_467 : decode cL_holds 467 = .ok (.invokevirtual 39, 3) := by decide +kernel
theorem dL_holds_470 : decode cL_holds 470 = .ok (.iload 11, 2) := by decide +kernel
theorem dL_holds_472 : decode cL_holds 472 = .ok (.if_icmp .gt 22, 3) := by decide +kernel
theorem dL_holds_475 : decode cL_holds 475 = .ok (.iload 10, 2) := by decide +kernel
theorem dL_holds_477 : decode cL_holds 477 = .ok (.iload 9, 2) := by decide +kernel
theorem dL_holds_479 : decode cL_holds 479 = .ok (.if_icmp .ge 17, 3) := by decide +kernel
theorem dL_holds_482 : decode cL_holds 482 = .ok (.aload_n 0, 1) := by decide +kernel
theorem dL_holds_483 : decode cL_holds 483 = .ok (.iload 9, 2) := by decide +kernel
theorem dL_holds_485 : decode cL_holds 485 = .ok (.iconst 3, 1) := by decide +kernel
theorem dL_holds_486 : decode cL_holds 486 = .ok (.invokevirtual 39, 3) := by decide +kernel
theorem dL_holds_489 : decode cL_holds 489 = .ok (.iload 11, 2) := by decide +kernel
theorem dL_holds_491 : decode cL_holds 491 = .ok (.if_icmp .ne 5, 3) := by decide +kernel
theorem dL_holds_494 : decode cL_holds 494 = .ok (.iconst 0, 1) := by decide +kernel
theorem dL_holds_495 : decode cL_holds 495 = .ok (.ireturn, 1) := by decide +kernel
theorem dL_holds_496 : decode cL_holds 496 = .ok (.iload 6, 2) := by decide +kernel
theorem dL_holds_498 : decode cL_holds 498 = .ok (.aload_n 0, 1) := by decide +kernel
theorem dL_holds_499 : decode cL_holds 499 = .ok (.iload 10, 2) := by decide +kernel
theorem dL_holds_501 : decode cL_holds 501 = .ok (.iconst 1, 1) := by decide +kernel
theorem dL_holds_502 : decode cL_holds 502 = .ok (.invokevirtual 39, 3) := by decide +kernel
theorem dL_holds_505 : decode cL_holds 505 = .ok (.iadd, 1) := by decide +kernel
theorem dL_holds_506 : decode cL_holds 506 = .ok (.istore 6, 2) := by decide +kernel
theorem dL_holds_508 : decode cL_holds 508 = .ok (.iload 7, 2) := by decide +kernel
theorem dL_holds_510 : decode cL_holds 510 = .ok (.aload_n 0, 1) := by decide +kernel
theorem dL_holds_511 : decode cL_holds 511 = .ok (.iload 10, 2) := by decide +kernel
theorem dL_holds_513 : decode cL_holds 513 = .ok (.iconst 2, 1) := by decide +kernel
theorem dL_holds_514 : decode cL_holds 514 = .ok (.invokevirtual 39, 3) := by decide +kernel
theorem dL_holds_517 : decode cL_holds 517 = .ok (.iadd, 1) := by decide +kernel
theorem dL_holds_518 : decode cL_holds 518 = .ok (.istore 7, 2) := by decide +kernel
theorem dL_holds_520 : decode cL_holds 520 = .ok (.iload 8, 2) := by decide +kernel
theorem dL_holds_522 : decode cL_holds 522 = .ok (.iload 11, 2) := by decide +kernel
theorem dL_holds_524 : decode cL_holds 524 = .ok (.iadd, 1) := by decide +kernel
theorem dL_holds_525 : decode cL_holds 525 = .ok (.istore 8, 2) := by decide +kernel
theorem dL_holds_527 : decode cL_holds 527 = .ok (.iinc 10 1, 3) := by decide +kernel
theorem dL_holds_530 : decode cL_holds 530 = .ok (.goto (-214), 3) := by decide +kernel
theorem dL_holds_533 : decode cL_holds 533 = .ok (.iload 6, 2) := by decide +kernel
theorem dL_holds_535 : decode cL_holds 535 = .ok (.iload_n 1, 1) := by decide +kernel
theorem dL_holds_536 : decode cL_holds 536 = .ok (.if_icmp .ne 110, 3) := by decide +kernel
theorem dL_holds_539 : decode cL_holds 539 = .ok (.iload 7, 2) := by decide +kernel
theorem dL_holds_541 : decode cL_holds 541 = .ok (.iload_n 3, 1) := by decide +kernel
theorem dL_holds_542 : decode cL_holds 542 = .ok (.if_icmp .ne 104, 3) := by decide +kernel
theorem dL_holds_545 : decode cL_holds 545 = .ok (.aload_n 0, 1) := by decide +kernel
theorem dL_holds_546 : decode cL_holds 546 = .ok (.bipush 10, 2) := by decide +kernel
theorem dL_holds_548 : decode cL_holds 548 = .ok (.invokevirtual 26, 3) := by decide +kernel
theorem dL_holds_551 : decode cL_holds 551 = .ok (.iload_n 3, 1) := by decide +kernel
theorem dL_holds_552 : decode cL_holds 552 = .ok (.if_icmp .ne 94, 3) := by decide +kernel
theorem dL_holds_555 : decode cL_holds 555 = .ok (.aload_n 0, 1) := by decide +kernel
theorem dL_holds_556 : decode cL_holds 556 = .ok (.bipush 11, 2) := by decide +kernel
theorem dL_holds_558 : decode cL_holds 558 = .ok (.invokevirtual 26, 3) := by decide +kernel
theorem dL_holds_561 : decode cL_holds 561 = .ok (.iload 8, 2) := by decide +kernel
theorem dL_holds_563 : decode cL_holds 563 = .ok (.if_icmp .ne 83, 3) := by decide +kernel
theorem dL_holds_566 : decode cL_holds 566 = .ok (.iload 8, 2) := by decide +kernel
theorem dL_holds_568 : decode cL_holds 568 = .ok (.aload_n 0, 1) := by decide +kernel
theorem dL_holds_569 : decode cL_holds 569 = .ok (.bipush 12, 2) := by decide +kernel
theorem dL_holds_571 : decode cL_holds 571 = .ok (.invokevirtual 26, 3) := by decide +kernel
theorem dL_holds_574 : decode cL_holds 574 = .ok (.if_icmp .gt 72, 3) := by decide +kernel
theorem dL_holds_577 : decode cL_holds 577 = .ok (.aload_n 0, 1) := by decide +kernel
theorem dL_holds_578 : decode cL_holds 578 = .ok (.bipush 8, 2) := by decide +kernel
theorem dL_holds_580 : decode cL_holds 580 = .ok (.invokevirtual 26, 3) := by decide +kernel
theorem dL_holds_583 : decode cL_holds 583 = .ok (.iload 4, 2) := by decide +kernel
theorem dL_holds_585 : decode cL_holds 585 = .ok (.if_icmp .ne 61, 3) := by decide +kernel
theorem dL_holds_588 : decode cL_holds 588 = .ok (.aload_n 0, 1) := by decide +kernel
theorem dL_holds_589 : decode cL_holds 589 = .ok (.bipush 9, 2) := by decide +kernel
theorem dL_holds_591 : decode cL_holds 591 = .ok (.invokevirtual 26, 3) := by decide +kernel
theorem dL_holds_594 : decode cL_holds 594 = .ok (.iload 5, 2) := by decide +kernel
theorem dL_holds_596 : decode cL_holds 596 = .ok (.if_icmp .ne 50, 3) := by decide +kernel
theorem dL_holds_599 : decode cL_holds 599 = .ok (.aload_n 0, 1) := by decide +kernel
theorem dL_holds_600 : decode cL_holds 600 = .ok (.bipush 7, 2) := by decide +kernel
theorem dL_holds_602 : decode cL_holds 602 = .ok (.invokevirtual 26, 3) := by decide +kernel
theorem dL_holds_605 : decode cL_holds 605 = .ok (.iload_n 2, 1) := by decide +kernel
theorem dL_holds_606 : decode cL_holds 606 = .ok (.if_icmp .ne 40, 3) := by decide +kernel
theorem dL_holds_609 : decode cL_holds 609 = .ok (.iload 9, 2) := by decide +kernel
theorem dL_holds_611 : decode cL_holds 611 = .ok (.ifCond .ge 7, 3) := by decide +kernel
theorem dL_holds_614 : decode cL_holds 614 = .ok (.iconst 1, 1) := by decide +kernel
theorem dL_holds_615 : decode cL_holds 615 = .ok (.goto 4, 3) := by decide +kernel
theorem dL_holds_618 : decode cL_holds 618 = .ok (.iconst 0, 1) := by decide +kernel
theorem dL_holds_619 : decode cL_holds 619 = .ok (.iload_n 1, 1) := by decide +kernel
theorem dL_holds_620 : decode cL_holds 620 = .ok (.ifCond .ne 7, 3) := by decide +kernel
theorem dL_holds_623 : decode cL_holds 623 = .ok (.iconst 1, 1) := by decide +kernel
theorem dL_holds_624 : decode cL_holds 624 = .ok (.goto 4, 3) := by decide +kernel
theorem dL_holds_627 : decode cL_holds 627 = .ok (.iconst 0, 1) := by decide +kernel
theorem dL_holds_628 : decode cL_holds 628 = .ok (.if_icmp .ne 18, 3) := by decide +kernel
theorem dL_holds_631 : decode cL_holds 631 = .ok (.aload_n 0, 1) := by decide +kernel
theorem dL_holds_632 : decode cL_holds 632 = .ok (.iconst 0, 1) := by decide +kernel
theorem dL_holds_633 : decode cL_holds 633 = .ok (.iconst 0, 1) := by decide +kernel
theorem dL_holds_634 : decode cL_holds 634 = .ok (.invokevirtual 43, 3) := by decide +kernel
theorem dL_holds_637 : decode cL_holds 637 = .ok (.iload 8, 2) := by decide +kernel
theorem dL_holds_639 : decode cL_holds 639 = .ok (.if_icmp .ne 7, 3) := by decide +kernel
theorem dL_holds_642 : decode cL_holds 642 = .ok (.iconst 1, 1) := by decide +kernel
theorem dL_holds_643 : decode cL_holds 643 = .ok (.goto 4, 3) := by decide +kernel
theorem dL_holds_646 : decode cL_holds 646 = .ok (.iconst 0, 1) := by decide +kernel
theorem dL_holds_647 : decode cL_holds 647 = .ok (.ireturn, 1) := by decide +kernel
theorem dL_shifts_0 : decode cL_shifts 0 = .ok (.aload_n 0, 1) := by decide +kernel
theorem dL_shifts_1 : decode cL_shifts 1 = .ok (.invokevirtual 46, 3) := by decide +kernel
theorem dL_shifts_4 : decode cL_shifts 4 = .ok (.bipush 32, 2) := by decide +kernel
theorem dL_shifts_6 : decode cL_shifts 6 = .ok (.isub, 1) := by decide +kernel
theorem dL_shifts_7 : decode cL_shifts 7 = .ok (.istore_n 2, 1) := by decide +kernel
theorem dL_shifts_8 : decode cL_shifts 8 = .ok (.aload_n 0, 1) := by decide +kernel
theorem dL_shifts_9 : decode cL_shifts 9 = .ok (.iload_n 2, 1) := by decide +kernel
theorem dL_shifts_10 : decode cL_shifts 10 = .ok (.iconst 0, 1) := by decide +kernel
theorem dL_shifts_11 : decode cL_shifts 11 = .ok (.invokevirtual 43, 3) := by decide +kernel
theorem dL_shifts_14 : decode cL_shifts 14 = .ok (.istore_n 3, 1) := by decide +kernel
theorem dL_shifts_15 : decode cL_shifts 15 = .ok (.iload_n 2, 1) := by decide +kernel
theorem dL_shifts_16 : decode cL_shifts 16 = .ok (.bipush (-32), 2) := by decide +kernel
theorem dL_shifts_18 : decode cL_shifts 18 = .ok (.if_icmp .lt 23, 3) := by decide +kernel
theorem dL_shifts_21 : decode cL_shifts 21 = .ok (.iload_n 2, 1) := by decide +kernel
theorem dL_shifts_22 : decode cL_shifts 22 = .ok (.bipush 32, 2) := by decide +kernel
theorem dL_shifts_24 : decode cL_shifts 24 = .ok (.if_icmp .gt 17, 3) := by decide +kernel
theorem dL_shifts_27 : decode cL_shifts 27 = .ok (.iload_n 3, 1) := by decide +kernel
theorem dL_shifts_28 : decode cL_shifts 28 = .ok (.aload_n 0, 1) := by decide +kernel
theorem dL_shifts_29 : decode cL_shifts 29 = .ok (.bipush 11, 2) := by decide +kernel
theorem dL_shifts_31 : decode cL_shifts 31 = .ok (.invokevirtual 26, 3) := by decide +kernel
theorem dL_shifts_34 : decode cL_shifts 34 = .ok (.if_icmp .lt 7, 3) := by decide +kernel
theorem dL_shifts_37 : decode cL_shifts 37 = .ok (.iconst 1, 1) := by decide +kernel
theorem dL_shifts_38 : decode cL_shifts 38 = .ok (.goto 4, 3) := by decide +kernel
theorem dL_shifts_41 : decode cL_shifts 41 = .ok (.iconst 0, 1) := by decide +kernel
theorem dL_shifts_42 : decode cL_shifts 42 = .ok (.istore 4, 2) := by decide +kernel
theorem dL_shifts_44 : decode cL_shifts 44 = .ok (.bipush (-32), 2) := by decide +kernel
theorem dL_shifts_46 : decode cL_shifts 46 = .ok (.istore 5, 2) := by decide +kernel
theorem dL_shifts_48 : decode cL_shifts 48 = .ok (.iload 5, 2) := by decide +kernel
theorem dL_shifts_50 : decode cL_shifts 50 = .ok (.bipush 32, 2) := by decide +kernel
theorem dL_shifts_52 : decode cL_shifts 52 = .ok (.if_icmp .gt 89, 3) := by decide +kernel
theorem dL_shifts_55 : decode cL_shifts 55 = .ok (.iload 4, 2) := by decide +kernel
theorem dL_shifts_57 : decode cL_shifts 57 = .ok (.ifCond .eq 84, 3) := by decide +kernel
theorem dL_shifts_60 : decode cL_shifts 60 = .ok (.aload_n 0, 1) := by decide +kernel
theorem dL_shifts_61 : decode cL_shifts 61 = .ok (.iload 5, 2) := by decide +kernel
theorem dL_shifts_63 : decode cL_shifts 63 = .ok (.iconst 0, 1) := by decide +kernel
theorem dL_shifts_64 : decode cL_shifts 64 = .ok (.invokevirtual 43, 3) := by decide +kernel
theorem dL_shifts_67 : decode cL_shifts 67 = .ok (.istore 6, 2) := by decide +kernel
theorem dL_shifts_69 : decode cL_shifts 69 = .ok (.iload 5, 2) := by decide +kernel
theorem dL_shifts_71 : decode cL_shifts 71 = .ok (.ifCond .ge 9, 3) := by decide +kernel
theorem dL_shifts_74 : decode cL_shifts 74 = .ok (.iload 5, 2) := by decide +kernel
theorem dL_shifts_76 : decode cL_shifts 76 = .ok (.ineg, 1) := by decide +kernel
theorem dL_shifts_77 : decode cL_shifts 77 = .ok (.goto 5, 3) := by decide +kernel
theorem dL_shifts_80 : decode cL_shifts 80 = .ok (.iload 5, 2) := by decide +kernel
theorem dL_shifts_82 : decode cL_shifts 82 = .ok (.istore 7, 2) := by decide +kernel
theorem dL_shifts_84 : decode cL_shifts 84 = .ok (.iload_n 2, 1) := by decide +kernel
theorem dL_shifts_85 : decode cL_shifts 85 = .ok (.ifCond .ge 8, 3) := by decide +kernel
theorem dL_shifts_88 : decode cL_shifts 88 = .ok (.iload_n 2, 1) := by decide +kernel
theorem dL_shifts_89 : decode cL_shifts 89 = .ok (.ineg, 1) := by decide +kernel
theorem dL_shifts_90 : decode cL_shifts 90 = .ok (.goto 4, 3) := by decide +kernel
theorem dL_shifts_93 : decode cL_shifts 93 = .ok (.iload_n 2, 1) := by decide +kernel
theorem dL_shifts_94 : decode cL_shifts 94 = .ok (.istore 8, 2) := by decide +kernel
theorem dL_shifts_96 : decode cL_shifts 96 = .ok (.iload 6, 2) := by decide +kernel
theorem dL_shifts_98 : decode cL_shifts 98 = .ok (.iload_n 3, 1) := by decide +kernel
theorem dL_shifts_99 : decode cL_shifts 99 = .ok (.if_icmp .lt 29, 3) := by decide +kernel
theorem dL_shifts_102 : decode cL_shifts 102 = .ok (.iload 6, 2) := by decide +kernel
theorem dL_shifts_104 : decode cL_shifts 104 = .ok (.iload_n 3, 1) := by decide +kernel
theorem dL_shifts_105 : decode cL_shifts 105 = .ok (.if_icmp .ne 27, 3) := by decide +kernel
theorem dL_shifts_108 : decode cL_shifts 108 = .ok (.iload 7, 2) := by decide +kernel
theorem dL_shifts_110 : decode cL_shifts 110 = .ok (.iload 8, 2) := by decide +kernel
theorem dL_shifts_112 : decode cL_shifts 112 = .ok (.if_icmp .gt 16, 3) := by decide +kernel
theorem dL_shifts_115 : decode cL_shifts 115 = .ok (.iload 7, 2) := by decide +kernel
theorem dL_shifts_117 : decode cL_shifts 117 = .ok (.iload 8, 2) := by decide +kernel
theorem dL_shifts_119 : decode cL_shifts 119 = .ok (.if_icmp .ne 13, 3) := by decide +kernel
theorem dL_shifts_122 : decode cL_shifts 122 = .ok (.iload_n 2, 1) := by decide +kernel
theorem dL_shifts_123 : decode cL_shifts 123 = .ok (.iload 5, 2) := by decide +kernel
theorem dL_shifts_125 : decode cL_shifts 125 = .ok (.if_icmp .gt 7, 3) := by decide +kernel
theorem dL_shifts_128 : decode cL_shifts 128 = .ok (.iconst 1, 1) := by decide +kernel
theorem dL_shifts_129 : decode cL_shifts 129 = .ok (.goto 4, 3) := by decide +kernel
theorem dL_shifts_132 : decode cL_shifts 132 = .ok (.iconst 0, 1) := by decide +kernel
theorem dL_shifts_133 : decode cL_shifts 133 = .ok (.istore 4, 2) := by decide +kernel
theorem dL_shifts_135 : decode cL_shifts 135 = .ok (.iinc 5 1, 3) := by decide +kernel
theorem dL_shifts_138 : decode cL_shifts 138 = .ok (.goto (-90), 3) := by decide +kernel
theorem dL_shifts_141 : decode cL_shifts 141 = .ok (.iconst 0, 1) := by decide +kernel
theorem dL_shifts_142 : decode cL_shifts 142 = .ok (.istore 5, 2) := by decide +kernel
theorem dL_shifts_144 : decode cL_shifts 144 = .ok (.iload 5, 2) := by decide +kernel
theorem dL_shifts_146 : decode cL_shifts 146 = .ok (.iconst 5, 1) := by decide +kernel
theorem dL_shifts_147 : decode cL_shifts 147 = .ok (.if_icmp .ge 42, 3) := by decide +kernel
theorem dL_shifts_150 : decode cL_shifts 150 = .ok (.iload 4, 2) := by decide +kernel
theorem dL_shifts_152 : decode cL_shifts 152 = .ok (.ifCond .eq 37, 3) := by decide +kernel
theorem dL_shifts_155 : decode cL_shifts 155 = .ok (.aload_n 0, 1) := by decide +kernel
theorem dL_shifts_156 : decode cL_shifts 156 = .ok (.iload 5, 2) := by decide +kernel
theorem dL_shifts_158 : decode cL_shifts 158 = .ok (.aload_n 0, 1) := by decide +kernel
theorem dL_shifts_159 : decode cL_shifts 159 = .ok (.iload 5, 2) := by decide +kernel
theorem dL_shifts_161 : decode cL_shifts 161 = .ok (.invokevirtual 26, 3) := by decide +kernel
theorem dL_shifts_164 : decode cL_shifts 164 = .ok (.invokevirtual 49, 3) := by decide +kernel
theorem dL_shifts_167 : decode cL_shifts 167 = .ok (.aload_n 0, 1) := by decide +kernel
theorem dL_shifts_168 : decode cL_shifts 168 = .ok (.bipush 11, 2) := by decide +kernel
theorem dL_shifts_170 : decode cL_shifts 170 = .ok (.invokevirtual 26, 3) := by decide +kernel
theorem dL_shifts_173 : decode cL_shifts 173 = .ok (.if_icmp .ne 7, 3) := by decide +kernel
theorem dL_shifts_176 : decode cL_shifts 176 = .ok (.iconst 1, 1) := by decide +kernel
theorem dL_shifts_177 : decode cL_shifts 177 = .ok (.goto 4, 3) := by decide +kernel
theorem dL_shifts_180 : decode cL_shifts 180 = .ok (.iconst 0, 1) := by decide +kernel
theorem dL_shifts_181 : decode cL_shifts 181 = .ok (.istore 4, 2) := by decide +kernel
theorem dL_shifts_183 : decode cL_shifts 183 = .ok (.iinc 5 1, 3) := by decide +kernel
theorem dL_shifts_186 : decode cL_shifts 186 = .ok (.goto (-42), 3) := by decide +kernel
theorem dL_shifts_189 : decode cL_shifts 189 = .ok (.iload_n 1, 1) := by decide +kernel
theorem dL_shifts_190 : decode cL_shifts 190 = .ok (.iconst 5, 1) := by decide +kernel
theorem dL_shifts_191 : decode cL_shifts 191 = .ok (.invokestatic 52, 3) := by decide +kernel
theorem dL_shifts_194 : decode cL_shifts 194 = .ok (.istore 5, 2) := by decide +kernel
theorem dL_shifts_196 : decode cL_shifts 196 = .ok (.iload 5, 2) := by decide +kernel
theorem dL_shifts_198 : decode cL_shifts 198 = .ok (.ifCond .ne 16, 3) := by decide +kernel
theorem dL_shifts_201 : decode cL_shifts 201 = .ok (.iconst 2, 1) := by decide +kernel
theorem dL_shifts_202 : decode cL_shifts 202 = .ok (.iload_n 1, 1) := by decide +kernel
theorem dL_shifts_203 : decode cL_shifts 203 = .ok (.iconst 3, 1) := by decide +kernel
theorem dL_shifts_204 : decode cL_shifts 204 = .ok (.ishr, 1) := by decide +kernel
theorem dL_shifts_205 : decode cL_shifts 205 = .ok (.bipush 63, 2) := by decide +kernel
theorem dL_shifts_207 : decode cL_shifts 207 = .ok (.invokestatic 52, 3) := by decide +kernel
theorem dL_shifts_210 : decode cL_shifts 210 = .ok (.iadd, 1) := by decide +kernel
theorem dL_shifts_211 : decode cL_shifts 211 = .ok (.goto 63, 3) := by decide +kernel
theorem dL_shifts_214 : decode cL_shifts 214 = .ok (.iload 5, 2) := by decide +kernel
theorem dL_shifts_216 : decode cL_shifts 216 = .ok (.iconst 1, 1) := by decide +kernel
theorem dL_shifts_217 : decode cL_shifts 217 = .ok (.if_icmp .ne 14, 3) := by decide +kernel
theorem dL_shifts_220 : decode cL_shifts 220 = .ok (.iload_n 1, 1) := by decide +kernel
theorem dL_shifts_221 : decode cL_shifts 221 = .ok (.iconst 3, 1) := by decide +kernel
theorem dL_shifts_222 : decode cL_shifts 222 = .ok (.ishr, 1) := by decide +kernel
theorem dL_shifts_223 : decode cL_shifts 223 = .ok (.bipush 7, 2) := by decide +kernel
theorem dL_shifts_225 : decode cL_shifts 225 = .ok (.invokestatic 52, 3) := by decide +kernel
theorem dL_shifts_228 : decode cL_shifts 228 = .ok (.goto 46, 3) := by decide +kernel
theorem dL_shifts_231 : decode cL_shifts 231 = .ok (.iload 5, 2) := by decide +kernel
theorem dL_shifts_233 : decode cL_shifts 233 = .ok (.iconst 2, 1) := by decide +kernel
theorem dL_shifts_234 : decode cL_shifts 234 = .ok (.if_icmp .ne 14, 3) := by decide +kernel
theorem dL_shifts_237 : decode cL_shifts 237 = .ok (.iload_n 1, 1) := by decide +kernel
theorem dL_shifts_238 : decode cL_shifts 238 = .ok (.iconst 3, 1) := by decide +kernel
theorem dL_shifts_239 : decode cL_shifts 239 = .ok (.ishr, 1) := by decide +kernel
theorem dL_shifts_240 : decode cL_shifts 240 = .ok (.bipush 9, 2) := by decide +kernel
theorem dL_shifts_242 : decode cL_shifts 242 = .ok (.invokestatic 52, 3) := by decide +kernel
theorem dL_shifts_245 : decode cL_shifts 245 = .ok (.goto 29, 3) := by decide +kernel
theorem dL_shifts_248 : decode cL_shifts 248 = .ok (.iload 5, 2) := by decide +kernel
theorem dL_shifts_250 : decode cL_shifts 250 = .ok (.iconst 3, 1) := by decide +kernel
theorem dL_shifts_251 : decode cL_shifts 251 = .ok (.if_icmp .ne 13, 3) := by decide +kernel
theorem dL_shifts_254 : decode cL_shifts 254 = .ok (.iload_n 1, 1) := by decide +kernel
theorem dL_shifts_255 : decode cL_shifts 255 = .ok (.iconst 3, 1) := by decide +kernel
theorem dL_shifts_256 : decode cL_shifts 256 = .ok (.ishr, 1) := by decide +kernel
theorem dL_shifts_257 : decode cL_shifts 257 = .ok (.iconst 2, 1) := by decide +kernel
theorem dL_shifts_258 : decode cL_shifts 258 = .ok (.invokestatic 52, 3) := by decide +kernel
theorem dL_shifts_261 : decode cL_shifts 261 = .ok (.goto 13, 3) := by decide +kernel
theorem dL_shifts_264 : decode cL_shifts 264 = .ok (.iconst 1, 1) := by decide +kernel
theorem dL_shifts_265 : decode cL_shifts 265 = .ok (.iload_n 1, 1) := by decide +kernel
theorem dL_shifts_266 : decode cL_shifts 266 = .ok (.iconst 3, 1) := by decide +kernel
theorem dL_shifts_267 : decode cL_shifts 267 = .ok (.ishr, 1) := by decide +kernel
theorem dL_shifts_268 : decode cL_shifts 268 = .ok (.bipush 100, 2) := by decide +kernel
theorem dL_shifts_270 : decode cL_shifts 270 = .ok (.invokestatic 52, 3) := by decide +kernel
theorem dL_shifts_273 : decode cL_shifts 273 = .ok (.iadd, 1) := by decide +kernel
theorem dL_shifts_274 : decode cL_shifts 274 = .ok (.istore 6, 2) := by decide +kernel
theorem dL_shifts_276 : decode cL_shifts 276 = .ok (.aload_n 0, 1) := by decide +kernel
theorem dL_shifts_277 : decode cL_shifts 277 = .ok (.iload 5, 2) := by decide +kernel
theorem dL_shifts_279 : decode cL_shifts 279 = .ok (.invokevirtual 26, 3) := by decide +kernel
theorem dL_shifts_282 : decode cL_shifts 282 = .ok (.istore 7, 2) := by decide +kernel
theorem dL_shifts_284 : decode cL_shifts 284 = .ok (.aload_n 0, 1) := by decide +kernel
theorem dL_shifts_285 : decode cL_shifts 285 = .ok (.iload 5, 2) := by decide +kernel
theorem dL_shifts_287 : decode cL_shifts 287 = .ok (.iload 6, 2) := by decide +kernel
theorem dL_shifts_289 : decode cL_shifts 289 = .ok (.invokevirtual 49, 3) := by decide +kernel
theorem dL_shifts_292 : decode cL_shifts 292 = .ok (.istore 8, 2) := by decide +kernel
theorem dL_shifts_294 : decode cL_shifts 294 = .ok (.iload 4, 2) := by decide +kernel
theorem dL_shifts_296 : decode cL_shifts 296 = .ok (.ifCond .eq 54, 3) := by decide +kernel
theorem dL_shifts_299 : decode cL_shifts 299 = .ok (.aload_n 0, 1) := by decide +kernel
theorem dL_shifts_300 : decode cL_shifts 300 = .ok (.iload 5, 2) := by decide +kernel
theorem dL_shifts_302 : decode cL_shifts 302 = .ok (.iload 6, 2) := by decide +kernel
theorem dL_shifts_304 : decode cL_shifts 304 = .ok (.invokevirtual 55, 3) := by decide +kernel
theorem dL_shifts_307 : decode cL_shifts 307 = .ok (.iload 7, 2) := by decide +kernel
theorem dL_shifts_309 : decode cL_shifts 309 = .ok (.iload 6, 2) := by decide +kernel
theorem dL_shifts_311 : decode cL_shifts 311 = .ok (.if_icmp .ne 8, 3) := by decide +kernel
theorem dL_shifts_314 : decode cL_shifts 314 = .ok (.bipush (-5), 2) := by decide +kernel
theorem dL_shifts_316 : decode cL_shifts 316 = .ok (.goto 5, 3) := by decide +kernel
theorem dL_shifts_319 : decode cL_shifts 319 = .ok (.iload 7, 2) := by decide +kernel
theorem dL_shifts_321 : decode cL_shifts 321 = .ok (.if_icmp .ne 29, 3) := by decide +kernel
theorem dL_shifts_324 : decode cL_shifts 324 = .ok (.aload_n 0, 1) := by decide +kernel
theorem dL_shifts_325 : decode cL_shifts 325 = .ok (.iload 5, 2) := by decide +kernel
theorem dL_shifts_327 : decode cL_shifts 327 = .ok (.invokevirtual 26, 3) := by decide +kernel
theorem dL_shifts_330 : decode cL_shifts 330 = .ok (.iload 6, 2) := by decide +kernel
theorem dL_shifts_332 : decode cL_shifts 332 = .ok (.if_icmp .ne 18, 3) := by decide +kernel
theorem dL_shifts_335 : decode cL_shifts 335 = .ok (.aload_n 0, 1) := by decide +kernel
theorem dL_shifts_336 : decode cL_shifts 336 = .ok (.bipush 11, 2) := by decide +kernel
theorem dL_shifts_338 : decode cL_shifts 338 = .ok (.invokevirtual 26, 3) := by decide +kernel
theorem dL_shifts_341 : decode cL_shifts 341 = .ok (.iload 8, 2) := by decide +kernel
theorem dL_shifts_343 : decode cL_shifts 343 = .ok (.if_icmp .ne 7, 3) := by decide +kernel
theorem dL_shifts_346 : decode cL_shifts 346 = .ok (.iconst 1, 1) := by decide +kernel
theorem dL_shifts_347 : decode cL_shifts 347 = .ok (.goto 4, 3) := by decide +kernel
theorem dL_shifts_350 : decode cL_shifts 350 = .ok (.iconst 0, 1) := by decide +kernel
theorem dL_shifts_351 : decode cL_shifts 351 = .ok (.ireturn, 1) := by decide +kernel
theorem dL_alone_0 : decode cL_alone 0 = .ok (.aload_n 0, 1) := by decide +kernel
theorem dL_alone_1 : decode cL_alone 1 = .ok (.bipush 8, 2) := by decide +kernel
theorem dL_alone_3 : decode cL_alone 3 = .ok (.invokevirtual 26, 3) := by decide +kernel
theorem dL_alone_6 : decode cL_alone 6 = .ok (.istore_n 2, 1) := by decide +kernel
theorem dL_alone_7 : decode cL_alone 7 = .ok (.aload_n 0, 1) := by decide +kernel
theorem dL_alone_8 : decode cL_alone 8 = .ok (.iconst 0, 1) := by decide +kernel
theorem dL_alone_9 : decode cL_alone 9 = .ok (.sipush 600, 3) := by decide +kernel
theorem dL_alone_12 : decode cL_alone 12 = .ok (.invokevirtual 58, 3) := by decide +kernel
theorem dL_alone_15 : decode cL_alone 15 = .ok (.istore_n 3, 1) := by decide +kernel
theorem dL_alone_16 : decode cL_alone 16 = .ok (.aload_n 0, 1) := by decide +kernel
theorem dL_alone_17 : decode cL_alone 17 = .ok (.iload_n 1, 1) := by decide +kernel
theorem dL_alone_18 : decode cL_alone 18 = .ok (.iload_n 1, 1) := by decide +kernel
theorem dL_alone_19 : decode cL_alone 19 = .ok (.iconst 0, 1) := by decide +kernel
theorem dL_alone_20 : decode cL_alone 20 = .ok (.invokevirtual 61, 3) := by decide +kernel
theorem dL_alone_23 : decode cL_alone 23 = .ok (.istore 4, 2) := by decide +kernel
theorem dL_alone_25 : decode cL_alone 25 = .ok (.iload_n 3, 1) := by decide +kernel
theorem dL_alone_26 : decode cL_alone 26 = .ok (.iload_n 2, 1) := by decide +kernel
theorem dL_alone_27 : decode cL_alone 27 = .ok (.if_icmp .ne 71, 3) := by decide +kernel
theorem dL_alone_30 : decode cL_alone 30 = .ok (.iload 4, 2) := by decide +kernel
theorem dL_alone_32 : decode cL_alone 32 = .ok (.aload_n 0, 1) := by decide +kernel
theorem dL_alone_33 : decode cL_alone 33 = .ok (.bipush 10, 2) := by decide +kernel
theorem dL_alone_35 : decode cL_alone 35 = .ok (.invokevirtual 26, 3) := by decide +kernel
theorem dL_alone_38 : decode cL_alone 38 = .ok (.if_icmp .ne 60, 3) := by decide +kernel
theorem dL_alone_41 : decode cL_alone 41 = .ok (.aload_n 0, 1) := by decide +kernel
theorem dL_alone_42 : decode cL_alone 42 = .ok (.iload_n 1, 1) := by decide +kernel
theorem dL_alone_43 : decode cL_alone 43 = .ok (.bipush 7, 2) := by decide +kernel
theorem dL_alone_45 : decode cL_alone 45 = .ok (.invokevirtual 10, 3) := by decide +kernel
theorem dL_alone_48 : decode cL_alone 48 = .ok (.bipush 100, 2) := by decide +kernel
theorem dL_alone_50 : decode cL_alone 50 = .ok (.if_icmp .ne 48, 3) := by decide +kernel
theorem dL_alone_53 : decode cL_alone 53 = .ok (.aload_n 0, 1) := by decide +kernel
theorem dL_alone_54 : decode cL_alone 54 = .ok (.iload_n 1, 1) := by decide +kernel
theorem dL_alone_55 : decode cL_alone 55 = .ok (.bipush 8, 2) := by decide +kernel
theorem dL_alone_57 : decode cL_alone 57 = .ok (.invokevirtual 10, 3) := by decide +kernel
theorem dL_alone_60 : decode cL_alone 60 = .ok (.aload_n 0, 1) := by decide +kernel
theorem dL_alone_61 : decode cL_alone 61 = .ok (.iload_n 1, 1) := by decide +kernel
theorem dL_alone_62 : decode cL_alone 62 = .ok (.iconst 0, 1) := by decide +kernel
theorem dL_alone_63 : decode cL_alone 63 = .ok (.invokevirtual 10, 3) := by decide +kernel
theorem dL_alone_66 : decode cL_alone 66 = .ok (.if_icmp .ne 32, 3) := by decide +kernel
theorem dL_alone_69 : decode cL_alone 69 = .ok (.aload_n 0, 1) := by decide +kernel
theorem dL_alone_70 : decode cL_alone 70 = .ok (.iload_n 1, 1) := by decide +kernel
theorem dL_alone_71 : decode cL_alone 71 = .ok (.bipush 9, 2) := by decide +kernel
theorem dL_alone_73 : decode cL_alone 73 = .ok (.invokevirtual 10, 3) := by decide +kernel
theorem dL_alone_76 : decode cL_alone 76 = .ok (.ifCond .ne 22, 3) := by decide +kernel
theorem dL_alone_79 : decode cL_alone 79 = .ok (.aload_n 0, 1) := by decide +kernel
theorem dL_alone_80 : decode cL_alone 80 = .ok (.bipush 8, 2) := by decide +kernel
theorem dL_alone_82 : decode cL_alone 82 = .ok (.invokevirtual 26, 3) := by decide +kernel
theorem dL_alone_85 : decode cL_alone 85 = .ok (.aload_n 0, 1) := by decide +kernel
theorem dL_alone_86 : decode cL_alone 86 = .ok (.iload_n 1, 1) := by decide +kernel
theorem dL_alone_87 : decode cL_alone 87 = .ok (.iconst 1, 1) := by decide +kernel
theorem dL_alone_88 : decode cL_alone 88 = .ok (.invokevirtual 10, 3) := by decide +kernel
theorem dL_alone_91 : decode cL_alone 91 = .ok (.if_icmp .ne 7, 3) := by decide +kernel
theorem dL_alone_94 : decode cL_alone 94 = .ok (.iconst 1, 1) := by decide +kernel
theorem dL_alone_95 : decode cL_alone 95 = .ok (.goto 4, 3) := by decide +kernel
theorem dL_alone_98 : decode cL_alone 98 = .ok (.iconst 0, 1) := by decide +kernel
theorem dL_alone_99 : decode cL_alone 99 = .ok (.istore 5, 2) := by decide +kernel
theorem dL_alone_101 : decode cL_alone 101 = .ok (.aload_n 0, 1) := by decide +kernel
theorem dL_alone_102 : decode cL_alone 102 = .ok (.iconst 0, 1) := by decide +kernel
theorem dL_alone_103 : decode cL_alone 103 = .ok (.aload_n 0, 1) := by decide +kernel
theorem dL_alone_104 : decode cL_alone 104 = .ok (.iconst 5, 1) := by decide +kernel
theorem dL_alone_105 : decode cL_alone 105 = .ok (.invokevirtual 26, 3) := by decide +kernel
theorem dL_alone_108 : decode cL_alone 108 = .ok (.iconst 1, 1) := by decide +kernel
theorem dL_alone_109 : decode cL_alone 109 = .ok (.isub, 1) := by decide +kernel
theorem dL_alone_110 : decode cL_alone 110 = .ok (.iconst 0, 1) := by decide +kernel
theorem dL_alone_111 : decode cL_alone 111 = .ok (.invokevirtual 61, 3) := by decide +kernel
theorem dL_alone_114 : decode cL_alone 114 = .ok (.istore 6, 2) := by decide +kernel
theorem dL_alone_116 : decode cL_alone 116 = .ok (.iload 5, 2) := by decide +kernel
theorem dL_alone_118 : decode cL_alone 118 = .ok (.ifCond .eq 37, 3) := by decide +kernel
theorem dL_alone_121 : decode cL_alone 121 = .ok (.iload 6, 2) := by decide +kernel
theorem dL_alone_123 : decode cL_alone 123 = .ok (.aload_n 0, 1) := by decide +kernel
theorem dL_alone_124 : decode cL_alone 124 = .ok (.bipush 10, 2) := by decide +kernel
theorem dL_alone_126 : decode cL_alone 126 = .ok (.invokevirtual 26, 3) := by decide +kernel
theorem dL_alone_129 : decode cL_alone 129 = .ok (.if_icmp .ne 26, 3) := by decide +kernel
theorem dL_alone_132 : decode cL_alone 132 = .ok (.aload_n 0, 1) := by decide +kernel
theorem dL_alone_133 : decode cL_alone 133 = .ok (.iconst 3, 1) := by decide +kernel
theorem dL_alone_134 : decode cL_alone 134 = .ok (.invokevirtual 26, 3) := by decide +kernel
theorem dL_alone_137 : decode cL_alone 137 = .ok (.iconst 1, 1) := by decide +kernel
theorem dL_alone_138 : decode cL_alone 138 = .ok (.if_icmp .eq 13, 3) := by decide +kernel
theorem dL_alone_141 : decode cL_alone 141 = .ok (.aload_n 0, 1) := by decide +kernel
theorem dL_alone_142 : decode cL_alone 142 = .ok (.iconst 0, 1) := by decide +kernel
theorem dL_alone_143 : decode cL_alone 143 = .ok (.bipush 60, 2) := by decide +kernel
theorem dL_alone_145 : decode cL_alone 145 = .ok (.invokevirtual 43, 3) := by decide +kernel
theorem dL_alone_148 : decode cL_alone 148 = .ok (.ifCond .lt 7, 3) := by decide +kernel
theorem dL_alone_151 : decode cL_alone 151 = .ok (.iconst 1, 1) := by decide +kernel
theorem dL_alone_152 : decode cL_alone 152 = .ok (.goto 4, 3) := by decide +kernel
theorem dL_alone_155 : decode cL_alone 155 = .ok (.iconst 0, 1) := by decide +kernel
theorem dL_alone_156 : decode cL_alone 156 = .ok (.istore 5, 2) := by decide +kernel
theorem dL_alone_158 : decode cL_alone 158 = .ok (.iload 5, 2) := by decide +kernel
theorem dL_alone_160 : decode cL_alone 160 = .ok (.ifCond .eq 38, 3) := by decide +kernel
theorem dL_alone_163 : decode cL_alone 163 = .ok (.aload_n 0, 1) := by decide +kernel
theorem dL_alone_164 : decode cL_alone 164 = .ok (.invokevirtual 65, 3) := by decide +kernel
theorem dL_alone_167 : decode cL_alone 167 = .ok (.ifCond .lt 31, 3) := by decide +kernel
theorem dL_alone_170 : decode cL_alone 170 = .ok (.aload_n 0, 1) := by decide +kernel
theorem dL_alone_171 : decode cL_alone 171 = .ok (.invokevirtual 65, 3) := by decide +kernel
theorem dL_alone_174 : decode cL_alone 174 = .ok (.ifCond .lt 24, 3) := by decide +kernel
theorem dL_alone_177 : decode cL_alone 177 = .ok (.aload_n 0, 1) := by decide +kernel
theorem dL_alone_178 : decode cL_alone 178 = .ok (.invokevirtual 65, 3) := by decide +kernel
theorem dL_alone_181 : decode cL_alone 181 = .ok (.ifCond .lt 17, 3) := by decide +kernel
theorem dL_alone_184 : decode cL_alone 184 = .ok (.aload_n 0, 1) := by decide +kernel
theorem dL_alone_185 : decode cL_alone 185 = .ok (.bipush 8, 2) := by decide +kernel
theorem dL_alone_187 : decode cL_alone 187 = .ok (.invokevirtual 26, 3) := by decide +kernel
theorem dL_alone_190 : decode cL_alone 190 = .ok (.iload_n 2, 1) := by decide +kernel
theorem dL_alone_191 : decode cL_alone 191 = .ok (.if_icmp .ne 7, 3) := by decide +kernel
theorem dL_alone_194 : decode cL_alone 194 = .ok (.iconst 1, 1) := by decide +kernel
theorem dL_alone_195 : decode cL_alone 195 = .ok (.goto 4, 3) := by decide +kernel
theorem dL_alone_198 : decode cL_alone 198 = .ok (.iconst 0, 1) := by decide +kernel
theorem dL_alone_199 : decode cL_alone 199 = .ok (.ireturn, 1) := by decide +kernel
theorem dL_octaves_0 : decode cL_octaves 0 = .ok (.aload_n 0, 1) := by decide +kernel
theorem dL_octaves_1 : decode cL_octaves 1 = .ok (.iconst 3, 1) := by decide +kernel
theorem dL_octaves_2 : decode cL_octaves 2 = .ok (.invokevirtual 26, 3) := by decide +kernel
theorem dL_octaves_5 : decode cL_octaves 5 = .ok (.iconst 1, 1) := by decide +kernel
theorem dL_octaves_6 : decode cL_octaves 6 = .ok (.if_icmp .ne 7, 3) := by decide +kernel
theorem dL_octaves_9 : decode cL_octaves 9 = .ok (.iconst 1, 1) := by decide +kernel
theorem dL_octaves_10 : decode cL_octaves 10 = .ok (.goto 4, 3) := by decide +kernel
theorem dL_octaves_13 : decode cL_octaves 13 = .ok (.iconst 0, 1) := by decide +kernel
theorem dL_octaves_14 : decode cL_octaves 14 = .ok (.istore_n 1, 1) := by decide +kernel
theorem dL_octaves_15 : decode cL_octaves 15 = .ok (.iconst 0, 1) := by decide +kernel
theorem dL_octaves_16 : decode cL_octaves 16 = .ok (.istore_n 2, 1) := by decide +kernel
theorem dL_octaves_17 : decode cL_octaves 17 = .ok (.iload_n 2, 1) := by decide +kernel
theorem dL_octaves_18 : decode cL_octaves 18 = .ok (.sipush 600, 3) := by decide +kernel
theorem dL_octaves_21 : decode cL_octaves 21 = .ok (.if_icmp .ge 32, 3) := by decide +kernel
theorem dL_octaves_24 : decode cL_octaves 24 = .ok (.iload_n 1, 1) := by decide +kernel
theorem dL_octaves_25 : decode cL_octaves 25 = .ok (.ifCond .eq 28, 3) := by decide +kernel
theorem dL_octaves_28 : decode cL_octaves 28 = .ok (.aload_n 0, 1) := by decide +kernel
theorem dL_octaves_29 : decode cL_octaves 29 = .ok (.iload_n 2, 1) := by decide +kernel
theorem dL_octaves_30 : decode cL_octaves 30 = .ok (.invokevirtual 23, 3) := by decide +kernel
theorem dL_octaves_33 : decode cL_octaves 33 = .ok (.bipush 12, 2) := by decide +kernel
theorem dL_octaves_35 : decode cL_octaves 35 = .ok (.iadd, 1) := by decide +kernel
theorem dL_octaves_36 : decode cL_octaves 36 = .ok (.bipush 60, 2) := by decide +kernel
theorem dL_octaves_38 : decode cL_octaves 38 = .ok (.if_icmp .gt 7, 3) := by decide +kernel
theorem dL_octaves_41 : decode cL_octaves 41 = .ok (.iconst 1, 1) := by decide +kernel
theorem dL_octaves_42 : decode cL_octaves 42 = .ok (.goto 4, 3) := by decide +kernel
theorem dL_octaves_45 : decode cL_octaves 45 = .ok (.iconst 0, 1) := by decide +kernel
theorem dL_octaves_46 : decode cL_octaves 46 = .ok (.istore_n 1, 1) := by decide +kernel
theorem dL_octaves_47 : decode cL_octaves 47 = .ok (.iinc 2 1, 3) := by decide +kernel
theorem dL_octaves_50 : decode cL_octaves 50 = .ok (.goto (-33), 3) := by decide +kernel
theorem dL_octaves_53 : decode cL_octaves 53 = .ok (.iload_n 1, 1) := by decide +kernel
theorem dL_octaves_54 : decode cL_octaves 54 = .ok (.ifCond .eq 19, 3) := by decide +kernel
theorem dL_octaves_57 : decode cL_octaves 57 = .ok (.aload_n 0, 1) := by decide +kernel
theorem dL_octaves_58 : decode cL_octaves 58 = .ok (.iconst 0, 1) := by decide +kernel
theorem dL_octaves_59 : decode cL_octaves 59 = .ok (.bipush 12, 2) := by decide +kernel
theorem dL_octaves_61 : decode cL_octaves 61 = .ok (.invokevirtual 43, 3) := by decide +kernel
theorem dL_octaves_64 : decode cL_octaves 64 = .ok (.aload_n 0, 1) := by decide +kernel
theorem dL_octaves_65 : decode cL_octaves 65 = .ok (.bipush 11, 2) := by decide +kernel
theorem dL_octaves_67 : decode cL_octaves 67 = .ok (.invokevirtual 26, 3) := by decide +kernel
theorem dL_octaves_70 : decode cL_octaves 70 = .ok (.if_icmp .ne 7, 3) := by decide +kernel
theorem dL_octaves_73 : decode cL_octaves 73 = .ok (.iconst 1, 1) := by decide +kernel
theorem dL_octaves_74 : decode cL_octaves 74 = .ok (.goto 4, 3) := by decide +kernel
theorem dL_octaves_77 : decode cL_octaves 77 = .ok (.iconst 0, 1) := by decide +kernel
theorem dL_octaves_78 : decode cL_octaves 78 = .ok (.ireturn, 1) := by decide +kernel
theorem dL_act_0 : decode cL_act 0 = .ok (.aload_n 0, 1) := by decide +kernel
theorem dL_act_1 : decode cL_act 1 = .ok (.iconst 5, 1) := by decide +kernel
theorem dL_act_2 : decode cL_act 2 = .ok (.invokevirtual 26, 3) := by decide +kernel
theorem dL_act_5 : decode cL_act 5 = .ok (.istore_n 3, 1) := by decide +kernel
theorem dL_act_6 : decode cL_act 6 = .ok (.iload_n 1, 1) := by decide +kernel
theorem dL_act_7 : decode cL_act 7 = .ok (.bipush 18, 2) := by decide +kernel
theorem dL_act_9 : decode cL_act 9 = .ok (.invokestatic 52, 3) := by decide +kernel
theorem dL_act_12 : decode cL_act 12 = .ok (.istore 4, 2) := by decide +kernel
theorem dL_act_14 : decode cL_act 14 = .ok (.iload 4, 2) := by decide +kernel
theorem dL_act_16 : decode cL_act 16 = .ok (.bipush 6, 2) := by decide +kernel
theorem dL_act_18 : decode cL_act 18 = .ok (.if_icmp .lt 7, 3) := by decide +kernel
theorem dL_act_21 : decode cL_act 21 = .ok (.iload_n 3, 1) := by decide +kernel
theorem dL_act_22 : decode cL_act 22 = .ok (.ifCond .ne 256, 3) := by decide +kernel
theorem dL_act_25 : decode cL_act 25 = .ok (.iload_n 1, 1) := by decide +kernel
theorem dL_act_26 : decode cL_act 26 = .ok (.bipush 6, 2) := by decide +kernel
theorem dL_act_28 : decode cL_act 28 = .ok (.ishr, 1) := by decide +kernel
theorem dL_act_29 : decode cL_act 29 = .ok (.iconst 3, 1) := by decide +kernel
theorem dL_act_30 : decode cL_act 30 = .ok (.invokestatic 52, 3) := by decide +kernel
theorem dL_act_33 : decode cL_act 33 = .ok (.ifCond .ne 15, 3) := by decide +kernel
theorem dL_act_36 : decode cL_act 36 = .ok (.iload_n 1, 1) := by decide +kernel
theorem dL_act_37 : decode cL_act 37 = .ok (.bipush 9, 2) := by decide +kernel
theorem dL_act_39 : decode cL_act 39 = .ok (.ishr, 1) := by decide +kernel
theorem dL_act_40 : decode cL_act 40 = .ok (.bipush 33, 2) := by decide +kernel
theorem dL_act_42 : decode cL_act 42 = .ok (.invokestatic 52, 3) := by decide +kernel
theorem dL_act_45 : decode cL_act 45 = .ok (.goto 4, 3) := by decide +kernel
theorem dL_act_48 : decode cL_act 48 = .ok (.iconst 0, 1) := by decide +kernel
theorem dL_act_49 : decode cL_act 49 = .ok (.istore 5, 2) := by decide +kernel
theorem dL_act_51 : decode cL_act 51 = .ok (.iload_n 2, 1) := by decide +kernel
theorem dL_act_52 : decode cL_act 52 = .ok (.bipush 61, 2) := by decide +kernel
theorem dL_act_54 : decode cL_act 54 = .ok (.invokestatic 52, 3) := by decide +kernel
theorem dL_act_57 : decode cL_act 57 = .ok (.istore 6, 2) := by decide +kernel
theorem dL_act_59 : decode cL_act 59 = .ok (.iload_n 2, 1) := by decide +kernel
theorem dL_act_60 : decode cL_act 60 = .ok (.bipush 6, 2) := by decide +kernel
theorem dL_act_62 : decode cL_act 62 = .ok (.ishr, 1) := by decide +kernel
theorem dL_act_63 : decode cL_act 63 = .ok (.iconst 3, 1) := by decide +kernel
theorem dL_act_64 : decode cL_act 64 = .ok (.invokestatic 52, 3) := by decide +kernel
theorem dL_act_67 : decode cL_act 67 = .ok (.ifCond .ne 15, 3) := by decide +kernel
theorem dL_act_70 : decode cL_act 70 = .ok (.iload_n 2, 1) := by decide +kernel
theorem dL_act_71 : decode cL_act 71 = .ok (.bipush 8, 2) := by decide +kernel
theorem dL_act_73 : decode cL_act 73 = .ok (.ishr, 1) := by decide +kernel
theorem dL_act_74 : decode cL_act 74 = .ok (.bipush 61, 2) := by decide +kernel
theorem dL_act_76 : decode cL_act 76 = .ok (.invokestatic 52, 3) := by decide +kernel
theorem dL_act_79 : decode cL_act 79 = .ok (.goto 5, 3) := by decide +kernel
theorem dL_act_82 : decode cL_act 82 = .ok (.iload 6, 2) := by decide +kernel
theorem dL_act_84 : decode cL_act 84 = .ok (.istore 7, 2) := by decide +kernel
theorem dL_act_86 : decode cL_act 86 = .ok (.iconst 1, 1) := by decide +kernel
theorem dL_act_87 : decode cL_act 87 = .ok (.iload_n 2, 1) := by decide +kernel
theorem dL_act_88 : decode cL_act 88 = .ok (.bipush 13, 2) := by decide +kernel
theorem dL_act_90 : decode cL_act 90 = .ok (.ishr, 1) := by decide +kernel
theorem dL_act_91 : decode cL_act 91 = .ok (.iload_n 2, 1) := by decide +kernel
theorem dL_act_92 : decode cL_act 92 = .ok (.bipush 19, 2) := by decide +kernel
theorem dL_act_94 : decode cL_act 94 = .ok (.ishr, 1) := by decide +kernel
theorem dL_act_95 : decode cL_act 95 = .ok (.iconst 2, 1) := by decide +kernel
theorem dL_act_96 : decode cL_act 96 = .ok (.invokestatic 52, 3) := by decide +kernel
theorem dL_act_99 : decode cL_act 99 = .ok (.ifCond .ne 8, 3) := by decide +kernel
theorem dL_act_102 : decode cL_act 102 = .ok (.bipush 32, 2) := by decide +kernel
theorem dL_act_104 : decode cL_act 104 = .ok (.goto 5, 3) := by decide +kernel
theorem dL_act_107 : decode cL_act 107 = .ok (.bipush 6, 2) := by decide +kernel
theorem dL_act_109 : decode cL_act 109 = .ok (.invokestatic 52, 3) := by decide +kernel
theorem dL_act_112 : decode cL_act 112 = .ok (.iadd, 1) := by decide +kernel
theorem dL_act_113 : decode cL_act 113 = .ok (.istore 8, 2) := by decide +kernel
theorem dL_act_115 : decode cL_act 115 = .ok (.iload_n 1, 1) := by decide +kernel
theorem dL_act_116 : decode cL_act 116 = .ok (.bipush 15, 2) := by decide +kernel
theorem dL_act_118 : decode cL_act 118 = .ok (.ishr, 1) := by decide +kernel
theorem dL_act_119 : decode cL_act 119 = .ok (.iconst 4, 1) := by decide +kernel
theorem dL_act_120 : decode cL_act 120 = .ok (.invokestatic 52, 3) := by decide +kernel
theorem dL_act_123 : decode cL_act 123 = .ok (.ifCond .ne 7, 3) := by decide +kernel
theorem dL_act_126 : decode cL_act 126 = .ok (.iconst 1, 1) := by decide +kernel
theorem dL_act_127 : decode cL_act 127 = .ok (.goto 4, 3) := by decide +kernel
theorem dL_act_130 : decode cL_act 130 = .ok (.iconst 0, 1) := by decide +kernel
theorem dL_act_131 : decode cL_act 131 = .ok (.istore 9, 2) := by decide +kernel
theorem dL_act_133 : decode cL_act 133 = .ok (.aload_n 0, 1) := by decide +kernel
theorem dL_act_134 : decode cL_act 134 = .ok (.bipush 7, 2) := by decide +kernel
theorem dL_act_136 : decode cL_act 136 = .ok (.invokevirtual 26, 3) := by decide +kernel
theorem dL_act_139 : decode cL_act 139 = .ok (.iload 5, 2) := by decide +kernel
theorem dL_act_141 : decode cL_act 141 = .ok (.iadd, 1) := by decide +kernel
theorem dL_act_142 : decode cL_act 142 = .ok (.istore 10, 2) := by decide +kernel
theorem dL_act_144 : decode cL_act 144 = .ok (.aload_n 0, 1) := by decide +kernel
theorem dL_act_145 : decode cL_act 145 = .ok (.iload 5, 2) := by decide +kernel
theorem dL_act_147 : decode cL_act 147 = .ok (.iload 6, 2) := by decide +kernel
theorem dL_act_149 : decode cL_act 149 = .ok (.iload 7, 2) := by decide +kernel
theorem dL_act_151 : decode cL_act 151 = .ok (.iload 8, 2) := by decide +kernel
theorem dL_act_153 : decode cL_act 153 = .ok (.iload 9, 2) := by decide +kernel
theorem dL_act_155 : decode cL_act 155 = .ok (.invokevirtual 68, 3) := by decide +kernel
theorem dL_act_158 : decode cL_act 158 = .ok (.istore 11, 2) := by decide +kernel
theorem dL_act_160 : decode cL_act 160 = .ok (.iload_n 3, 1) := by decide +kernel
theorem dL_act_161 : decode cL_act 161 = .ok (.bipush 40, 2) := by decide +kernel
theorem dL_act_163 : decode cL_act 163 = .ok (.if_icmp .eq 14, 3) := by decide +kernel
theorem dL_act_166 : decode cL_act 166 = .ok (.iload 10, 2) := by decide +kernel
theorem dL_act_168 : decode cL_act 168 = .ok (.iload 8, 2) := by decide +kernel
theorem dL_act_170 : decode cL_act 170 = .ok (.iadd, 1) := by decide +kernel
theorem dL_act_171 : decode cL_act 171 = .ok (.sipush 600, 3) := by decide +kernel
theorem dL_act_174 : decode cL_act 174 = .ok (.if_icmp .le 18, 3) := by decide +kernel
theorem dL_act_177 : decode cL_act 177 = .ok (.iload 11, 2) := by decide +kernel
theorem dL_act_179 : decode cL_act 179 = .ok (.bipush (-3), 2) := by decide +kernel
theorem dL_act_181 : decode cL_act 181 = .ok (.if_icmp .ne 7, 3) := by decide +kernel
theorem dL_act_184 : decode cL_act 184 = .ok (.iconst 1, 1) := by decide +kernel
theorem dL_act_185 : decode cL_act 185 = .ok (.goto 92, 3) := by decide +kernel
theorem dL_act_188 : decode cL_act 188 = .ok (.iconst 0, 1) := by decide +kernel
theorem dL_act_189 : decode cL_act 189 = .ok (.goto 88, 3) := by decide +kernel
theorem dL_act_192 : decode cL_act 192 = .ok (.iload 11, 2) := by decide +kernel
theorem dL_act_194 : decode cL_act 194 = .ok (.iload 10, 2) := by decide +kernel
theorem dL_act_196 : decode cL_act 196 = .ok (.if_icmp .ne 80, 3) := by decide +kernel
theorem dL_act_199 : decode cL_act 199 = .ok (.aload_n 0, 1) := by decide +kernel
theorem dL_act_200 : decode cL_act 200 = .ok (.iload_n 3, 1) := by decide +kernel
theorem dL_act_201 : decode cL_act 201 = .ok (.iconst 1, 1) := by decide +kernel
theorem dL_act_202 : decode cL_act 202 = .ok (.invokevirtual 10, 3) := by decide +kernel
theorem dL_act_205 : decode cL_act 205 = .ok (.iload 8, 2) := by decide +kernel
theorem dL_act_207 : decode cL_act 207 = .ok (.if_icmp .ne 69, 3) := by decide +kernel
theorem dL_act_210 : decode cL_act 210 = .ok (.aload_n 0, 1) := by decide +kernel
theorem dL_act_211 : decode cL_act 211 = .ok (.iload_n 3, 1) := by decide +kernel
theorem dL_act_212 : decode cL_act 212 = .ok (.iconst 2, 1) := by decide +kernel
theorem dL_act_213 : decode cL_act 213 = .ok (.invokevirtual 10, 3) := by decide +kernel
theorem dL_act_216 : decode cL_act 216 = .ok (.iload 6, 2) := by decide +kernel
theorem dL_act_218 : decode cL_act 218 = .ok (.if_icmp .ne 58, 3) := by decide +kernel
theorem dL_act_221 : decode cL_act 221 = .ok (.aload_n 0, 1) := by decide +kernel
theorem dL_act_222 : decode cL_act 222 = .ok (.iload_n 3, 1) := by decide +kernel
theorem dL_act_223 : decode cL_act 223 = .ok (.iconst 3, 1) := by decide +kernel
theorem dL_act_224 : decode cL_act 224 = .ok (.invokevirtual 10, 3) := by decide +kernel
theorem dL_act_227 : decode cL_act 227 = .ok (.iload 7, 2) := by decide +kernel
theorem dL_act_229 : decode cL_act 229 = .ok (.if_icmp .ne 47, 3) := by decide +kernel
theorem dL_act_232 : decode cL_act 232 = .ok (.aload_n 0, 1) := by decide +kernel
theorem dL_act_233 : decode cL_act 233 = .ok (.aload_n 0, 1) := by decide +kernel
theorem dL_act_234 : decode cL_act 234 = .ok (.iload_n 3, 1) := by decide +kernel
theorem dL_act_235 : decode cL_act 235 = .ok (.iconst 4, 1) := by decide +kernel
theorem dL_act_236 : decode cL_act 236 = .ok (.invokevirtual 10, 3) := by decide +kernel
theorem dL_act_239 : decode cL_act 239 = .ok (.iconst 0, 1) := by decide +kernel
theorem dL_act_240 : decode cL_act 240 = .ok (.invokevirtual 39, 3) := by decide +kernel
theorem dL_act_243 : decode cL_act 243 = .ok (.iload_n 3, 1) := by decide +kernel
theorem dL_act_244 : decode cL_act 244 = .ok (.ifCond .eq 8, 3) := by decide +kernel
theorem dL_act_247 : decode cL_act 247 = .ok (.iload 9, 2) := by decide +kernel
theorem dL_act_249 : decode cL_act 249 = .ok (.ifCond .eq 7, 3) := by decide +kernel
theorem dL_act_252 : decode cL_act 252 = .ok (.iload_n 3, 1) := by decide +kernel
theorem dL_act_253 : decode cL_act 253 = .ok (.goto 16, 3) := by decide +kernel
theorem dL_act_256 : decode cL_act 256 = .ok (.aload_n 0, 1) := by decide +kernel
theorem dL_act_257 : decode cL_act 257 = .ok (.aload_n 0, 1) := by decide +kernel
theorem dL_act_258 : decode cL_act 258 = .ok (.iload_n 3, 1) := by decide +kernel
theorem dL_act_259 : decode cL_act 259 = .ok (.iconst 1, 1) := by decide +kernel
theorem dL_act_260 : decode cL_act 260 = .ok (.isub, 1) := by decide +kernel
theorem dL_act_261 : decode cL_act 261 = .ok (.iconst 4, 1) := by decide +kernel
theorem dL_act_262 : decode cL_act 262 = .ok (.invokevirtual 10, 3) := by decide +kernel
theorem dL_act_265 : decode cL_act 265 = .ok (.iconst 0, 1) := by decide +kernel
theorem dL_act_266 : decode cL_act 266 = .ok (.invokevirtual 39, 3) := by decide +kernel
theorem dL_act_269 : decode cL_act 269 = .ok (.if_icmp .ne 7, 3) := by decide +kernel
theorem dL_act_272 : decode cL_act 272 = .ok (.iconst 1, 1) := by decide +kernel
theorem dL_act_273 : decode cL_act 273 = .ok (.goto 4, 3) := by decide +kernel
theorem dL_act_276 : decode cL_act 276 = .ok (.iconst 0, 1) := by decide +kernel
theorem dL_act_277 : decode cL_act 277 = .ok (.ireturn, 1) := by decide +kernel
theorem dL_act_278 : decode cL_act 278 = .ok (.iload_n 2, 1) := by decide +kernel
theorem dL_act_279 : decode cL_act 279 = .ok (.iload_n 3, 1) := by decide +kernel
theorem dL_act_280 : decode cL_act 280 = .ok (.invokestatic 52, 3) := by decide +kernel
theorem dL_act_283 : decode cL_act 283 = .ok (.istore 5, 2) := by decide +kernel
theorem dL_act_285 : decode cL_act 285 = .ok (.iload 4, 2) := by decide +kernel
theorem dL_act_287 : decode cL_act 287 = .ok (.bipush 6, 2) := by decide +kernel
theorem dL_act_289 : decode cL_act 289 = .ok (.if_icmp .ne 31, 3) := by decide +kernel
theorem dL_act_292 : decode cL_act 292 = .ok (.aload_n 0, 1) := by decide +kernel
theorem dL_act_293 : decode cL_act 293 = .ok (.invokevirtual 72, 3) := by decide +kernel
theorem dL_act_296 : decode cL_act 296 = .ok (.iload_n 3, 1) := by decide +kernel
theorem dL_act_297 : decode cL_act 297 = .ok (.iconst 1, 1) := by decide +kernel
theorem dL_act_298 : decode cL_act 298 = .ok (.isub, 1) := by decide +kernel
theorem dL_act_299 : decode cL_act 299 = .ok (.if_icmp .ne 19, 3) := by decide +kernel
theorem dL_act_302 : decode cL_act 302 = .ok (.aload_n 0, 1) := by decide +kernel
theorem dL_act_303 : decode cL_act 303 = .ok (.iload_n 3, 1) := by decide +kernel
theorem dL_act_304 : decode cL_act 304 = .ok (.iconst 1, 1) := by decide +kernel
theorem dL_act_305 : decode cL_act 305 = .ok (.isub, 1) := by decide +kernel
theorem dL_act_306 : decode cL_act 306 = .ok (.iconst 0, 1) := by decide +kernel
theorem dL_act_307 : decode cL_act 307 = .ok (.invokevirtual 10, 3) := by decide +kernel
theorem dL_act_310 : decode cL_act 310 = .ok (.iconst (-1), 1) := by decide +kernel
theorem dL_act_311 : decode cL_act 311 = .ok (.if_icmp .ne 7, 3) := by decide +kernel
theorem dL_act_314 : decode cL_act 314 = .ok (.iconst 1, 1) := by decide +kernel
theorem dL_act_315 : decode cL_act 315 = .ok (.goto 4, 3) := by decide +kernel
theorem dL_act_318 : decode cL_act 318 = .ok (.iconst 0, 1) := by decide +kernel
theorem dL_act_319 : decode cL_act 319 = .ok (.ireturn, 1) := by decide +kernel
theorem dL_act_320 : decode cL_act 320 = .ok (.iload 4, 2) := by decide +kernel
theorem dL_act_322 : decode cL_act 322 = .ok (.bipush 11, 2) := by decide +kernel
theorem dL_act_324 : decode cL_act 324 = .ok (.if_icmp .ge 162, 3) := by decide +kernel
theorem dL_act_327 : decode cL_act 327 = .ok (.iload_n 2, 1) := by decide +kernel
theorem dL_act_328 : decode cL_act 328 = .ok (.bipush 9, 2) := by decide +kernel
theorem dL_act_330 : decode cL_act 330 = .ok (.ishr, 1) := by decide +kernel
theorem dL_act_331 : decode cL_act 331 = .ok (.iconst 2, 1) := by decide +kernel
theorem dL_act_332 : decode cL_act 332 = .ok (.invokestatic 52, 3) := by decide +kernel
theorem dL_act_335 : decode cL_act 335 = .ok (.ifCond .ne 8, 3) := by decide +kernel
theorem dL_act_338 : decode cL_act 338 = .ok (.iload 5, 2) := by decide +kernel
theorem dL_act_340 : decode cL_act 340 = .ok (.goto 17, 3) := by decide +kernel
theorem dL_act_343 : decode cL_act 343 = .ok (.iload 5, 2) := by decide +kernel
theorem dL_act_345 : decode cL_act 345 = .ok (.iload_n 2, 1) := by decide +kernel
theorem dL_act_346 : decode cL_act 346 = .ok (.bipush 10, 2) := by decide +kernel
theorem dL_act_348 : decode cL_act 348 = .ok (.ishr, 1) := by decide +kernel
theorem dL_act_349 : decode cL_act 349 = .ok (.iload_n 3, 1) := by decide +kernel
theorem dL_act_350 : decode cL_act 350 = .ok (.iload 5, 2) := by decide +kernel
theorem dL_act_352 : decode cL_act 352 = .ok (.isub, 1) := by decide +kernel
theorem dL_act_353 : decode cL_act 353 = .ok (.invokestatic 52, 3) := by decide +kernel
theorem dL_act_356 : decode cL_act 356 = .ok (.iadd, 1) := by decide +kernel
theorem dL_act_357 : decode cL_act 357 = .ok (.istore 6, 2) := by decide +kernel
theorem dL_act_359 : decode cL_act 359 = .ok (.iload_n 1, 1) := by decide +kernel
theorem dL_act_360 : decode cL_act 360 = .ok (.bipush 6, 2) := by decide +kernel
theorem dL_act_362 : decode cL_act 362 = .ok (.ishr, 1) := by decide +kernel
theorem dL_act_363 : decode cL_act 363 = .ok (.iconst 3, 1) := by decide +kernel
theorem dL_act_364 : decode cL_act 364 = .ok (.invokestatic 52, 3) := by decide +kernel
theorem dL_act_367 : decode cL_act 367 = .ok (.ifCond .le 7, 3) := by decide +kernel
theorem dL_act_370 : decode cL_act 370 = .ok (.iconst 0, 1) := by decide +kernel
theorem dL_act_371 : decode cL_act 371 = .ok (.goto 39, 3) := by decide +kernel
theorem dL_act_374 : decode cL_act 374 = .ok (.iload_n 1, 1) := by decide +kernel
theorem dL_act_375 : decode cL_act 375 = .ok (.bipush 8, 2) := by decide +kernel
theorem dL_act_377 : decode cL_act 377 = .ok (.ishr, 1) := by decide +kernel
theorem dL_act_378 : decode cL_act 378 = .ok (.iconst 2, 1) := by decide +kernel
theorem dL_act_379 : decode cL_act 379 = .ok (.invokestatic 52, 3) := by decide +kernel
theorem dL_act_382 : decode cL_act 382 = .ok (.ifCond .ne 16, 3) := by decide +kernel
theorem dL_act_385 : decode cL_act 385 = .ok (.iload_n 1, 1) := by decide +kernel
theorem dL_act_386 : decode cL_act 386 = .ok (.bipush 9, 2) := by decide +kernel
theorem dL_act_388 : decode cL_act 388 = .ok (.ishr, 1) := by decide +kernel
theorem dL_act_389 : decode cL_act 389 = .ok (.iconst 3, 1) := by decide +kernel
theorem dL_act_390 : decode cL_act 390 = .ok (.invokestatic 52, 3) := by decide +kernel
theorem dL_act_393 : decode cL_act 393 = .ok (.iconst 1, 1) := by decide +kernel
theorem dL_act_394 : decode cL_act 394 = .ok (.isub, 1) := by decide +kernel
theorem dL_act_395 : decode cL_act 395 = .ok (.goto 15, 3) := by decide +kernel
theorem dL_act_398 : decode cL_act 398 = .ok (.iload_n 1, 1) := by decide +kernel
theorem dL_act_399 : decode cL_act 399 = .ok (.bipush 9, 2) := by decide +kernel
theorem dL_act_401 : decode cL_act 401 = .ok (.ishr, 1) := by decide +kernel
theorem dL_act_402 : decode cL_act 402 = .ok (.bipush 121, 2) := by decide +kernel
theorem dL_act_404 : decode cL_act 404 = .ok (.invokestatic 52, 3) := by decide +kernel
theorem dL_act_407 : decode cL_act 407 = .ok (.bipush 60, 2) := by decide +kernel
theorem dL_act_409 : decode cL_act 409 = .ok (.isub, 1) := by decide +kernel
theorem dL_act_410 : decode cL_act 410 = .ok (.istore 7, 2) := by decide +kernel
theorem dL_act_412 : decode cL_act 412 = .ok (.aload_n 0, 1) := by decide +kernel
theorem dL_act_413 : decode cL_act 413 = .ok (.aload_n 0, 1) := by decide +kernel
theorem dL_act_414 : decode cL_act 414 = .ok (.iload 6, 2) := by decide +kernel
theorem dL_act_416 : decode cL_act 416 = .ok (.iconst 0, 1) := by decide +kernel
theorem dL_act_417 : decode cL_act 417 = .ok (.invokevirtual 10, 3) := by decide +kernel
theorem dL_act_420 : decode cL_act 420 = .ok (.invokevirtual 19, 3) := by decide +kernel
theorem dL_act_423 : decode cL_act 423 = .ok (.iload 7, 2) := by decide +kernel
theorem dL_act_425 : decode cL_act 425 = .ok (.iadd, 1) := by decide +kernel
theorem dL_act_426 : decode cL_act 426 = .ok (.istore 8, 2) := by decide +kernel
theorem dL_act_428 : decode cL_act 428 = .ok (.aload_n 0, 1) := by decide +kernel
theorem dL_act_429 : decode cL_act 429 = .ok (.iload 5, 2) := by decide +kernel
theorem dL_act_431 : decode cL_act 431 = .ok (.iload 6, 2) := by decide +kernel
theorem dL_act_433 : decode cL_act 433 = .ok (.iload 7, 2) := by decide +kernel
theorem dL_act_435 : decode cL_act 435 = .ok (.invokevirtual 61, 3) := by decide +kernel
theorem dL_act_438 : decode cL_act 438 = .ok (.aload_n 0, 1) := by decide +kernel
theorem dL_act_439 : decode cL_act 439 = .ok (.bipush 10, 2) := by decide +kernel
theorem dL_act_441 : decode cL_act 441 = .ok (.invokevirtual 26, 3) := by decide +kernel
theorem dL_act_444 : decode cL_act 444 = .ok (.if_icmp .ne 40, 3) := by decide +kernel
theorem dL_act_447 : decode cL_act 447 = .ok (.aload_n 0, 1) := by decide +kernel
theorem dL_act_448 : decode cL_act 448 = .ok (.aload_n 0, 1) := by decide +kernel
theorem dL_act_449 : decode cL_act 449 = .ok (.iload 6, 2) := by decide +kernel
theorem dL_act_451 : decode cL_act 451 = .ok (.iconst 0, 1) := by decide +kernel
theorem dL_act_452 : decode cL_act 452 = .ok (.invokevirtual 10, 3) := by decide +kernel
theorem dL_act_455 : decode cL_act 455 = .ok (.invokevirtual 23, 3) := by decide +kernel
theorem dL_act_458 : decode cL_act 458 = .ok (.iload 8, 2) := by decide +kernel
theorem dL_act_460 : decode cL_act 460 = .ok (.ifCond .lt 10, 3) := by decide +kernel
theorem dL_act_463 : decode cL_act 463 = .ok (.iload 8, 2) := by decide +kernel
theorem dL_act_465 : decode cL_act 465 = .ok (.bipush 60, 2) := by decide +kernel
theorem dL_act_467 : decode cL_act 467 = .ok (.if_icmp .le 8, 3) := by decide +kernel
theorem dL_act_470 : decode cL_act 470 = .ok (.bipush (-5), 2) := by decide +kernel
theorem dL_act_472 : decode cL_act 472 = .ok (.goto 5, 3) := by decide +kernel
theorem dL_act_475 : decode cL_act 475 = .ok (.iload 8, 2) := by decide +kernel
theorem dL_act_477 : decode cL_act 477 = .ok (.if_icmp .ne 7, 3) := by decide +kernel
theorem dL_act_480 : decode cL_act 480 = .ok (.iconst 1, 1) := by decide +kernel
theorem dL_act_481 : decode cL_act 481 = .ok (.goto 4, 3) := by decide +kernel
theorem dL_act_484 : decode cL_act 484 = .ok (.iconst 0, 1) := by decide +kernel
theorem dL_act_485 : decode cL_act 485 = .ok (.ireturn, 1) := by decide +kernel
theorem dL_act_486 : decode cL_act 486 = .ok (.iload 4, 2) := by decide +kernel
theorem dL_act_488 : decode cL_act 488 = .ok (.bipush 13, 2) := by decide +kernel
theorem dL_act_490 : decode cL_act 490 = .ok (.if_icmp .ge 133, 3) := by decide +kernel
theorem dL_act_493 : decode cL_act 493 = .ok (.iload_n 2, 1) := by decide +kernel
theorem dL_act_494 : decode cL_act 494 = .ok (.sipush 600, 3) := by decide +kernel
theorem dL_act_497 : decode cL_act 497 = .ok (.invokestatic 52, 3) := by decide +kernel
theorem dL_act_500 : decode cL_act 500 = .ok (.istore 6, 2) := by decide +kernel
theorem dL_act_502 : decode cL_act 502 = .ok (.iconst 1, 1) := by decide +kernel
theorem dL_act_503 : decode cL_act 503 = .ok (.iload_n 2, 1) := by decide +kernel
theorem dL_act_504 : decode cL_act 504 = .ok (.bipush 9, 2) := by decide +kernel
theorem dL_act_506 : decode cL_act 506 = .ok (.ishr, 1) := by decide +kernel
theorem dL_act_507 : decode cL_act 507 = .ok (.bipush 64, 2) := by decide +kernel
theorem dL_act_509 : decode cL_act 509 = .ok (.invokestatic 52, 3) := by decide +kernel
theorem dL_act_512 : decode cL_act 512 = .ok (.iadd, 1) := by decide +kernel
theorem dL_act_513 : decode cL_act 513 = .ok (.istore 7, 2) := by decide +kernel
theorem dL_act_515 : decode cL_act 515 = .ok (.iload_n 1, 1) := by decide +kernel
theorem dL_act_516 : decode cL_act 516 = .ok (.bipush 7, 2) := by decide +kernel
theorem dL_act_518 : decode cL_act 518 = .ok (.ishr, 1) := by decide +kernel
theorem dL_act_519 : decode cL_act 519 = .ok (.bipush 61, 2) := by decide +kernel
theorem dL_act_521 : decode cL_act 521 = .ok (.invokestatic 52, 3) := by decide +kernel
theorem dL_act_524 : decode cL_act 524 = .ok (.istore 8, 2) := by decide +kernel
theorem dL_act_526 : decode cL_act 526 = .ok (.iload 6, 2) := by decide +kernel
theorem dL_act_528 : decode cL_act 528 = .ok (.iload 7, 2) := by decide +kernel
theorem dL_act_530 : decode cL_act 530 = .ok (.iadd, 1) := by decide +kernel
theorem dL_act_531 : decode cL_act 531 = .ok (.sipush 600, 3) := by decide +kernel
theorem dL_act_534 : decode cL_act 534 = .ok (.if_icmp .le 37, 3) := by decide +kernel
theorem dL_act_537 : decode cL_act 537 = .ok (.aload_n 0, 1) := by decide +kernel
theorem dL_act_538 : decode cL_act 538 = .ok (.iload 6, 2) := by decide +kernel
theorem dL_act_540 : decode cL_act 540 = .ok (.iload 7, 2) := by decide +kernel
theorem dL_act_542 : decode cL_act 542 = .ok (.iload 8, 2) := by decide +kernel
theorem dL_act_544 : decode cL_act 544 = .ok (.invokevirtual 75, 3) := by decide +kernel
theorem dL_act_547 : decode cL_act 547 = .ok (.bipush (-2), 2) := by decide +kernel
theorem dL_act_549 : decode cL_act 549 = .ok (.if_icmp .ne 20, 3) := by decide +kernel
theorem dL_act_552 : decode cL_act 552 = .ok (.aload_n 0, 1) := by decide +kernel
theorem dL_act_553 : decode cL_act 553 = .ok (.iload 6, 2) := by decide +kernel
theorem dL_act_555 : decode cL_act 555 = .ok (.iload 7, 2) := by decide +kernel
theorem dL_act_557 : decode cL_act 557 = .ok (.invokevirtual 58, 3) := by decide +kernel
theorem dL_act_560 : decode cL_act 560 = .ok (.bipush (-2), 2) := by decide +kernel
theorem dL_act_562 : decode cL_act 562 = .ok (.if_icmp .ne 7, 3) := by decide +kernel
theorem dL_act_565 : decode cL_act 565 = .ok (.iconst 1, 1) := by decide +kernel
theorem dL_act_566 : decode cL_act 566 = .ok (.goto 4, 3) := by decide +kernel
theorem dL_act_569 : decode cL_act 569 = .ok (.iconst 0, 1) := by decide +kernel
theorem dL_act_570 : decode cL_act 570 = .ok (.ireturn, 1) := by decide +kernel
theorem dL_act_571 : decode cL_act 571 = .ok (.aload_n 0, 1) := by decide +kernel
theorem dL_act_572 : decode cL_act 572 = .ok (.iload 6, 2) := by decide +kernel
theorem dL_act_574 : decode cL_act 574 = .ok (.iload 7, 2) := by decide +kernel
theorem dL_act_576 : decode cL_act 576 = .ok (.iload 8, 2) := by decide +kernel
theorem dL_act_578 : decode cL_act 578 = .ok (.invokevirtual 75, 3) := by decide +kernel
theorem dL_act_581 : decode cL_act 581 = .ok (.aload_n 0, 1) := by decide +kernel
theorem dL_act_582 : decode cL_act 582 = .ok (.bipush 10, 2) := by decide +kernel
theorem dL_act_584 : decode cL_act 584 = .ok (.invokevirtual 26, 3) := by decide +kernel
theorem dL_act_587 : decode cL_act 587 = .ok (.if_icmp .ne 34, 3) := by decide +kernel
theorem dL_act_590 : decode cL_act 590 = .ok (.aload_n 0, 1) := by decide +kernel
theorem dL_act_591 : decode cL_act 591 = .ok (.iload 6, 2) := by decide +kernel
theorem dL_act_593 : decode cL_act 593 = .ok (.invokevirtual 23, 3) := by decide +kernel
theorem dL_act_596 : decode cL_act 596 = .ok (.iload 8, 2) := by decide +kernel
theorem dL_act_598 : decode cL_act 598 = .ok (.if_icmp .ne 23, 3) := by decide +kernel
theorem dL_act_601 : decode cL_act 601 = .ok (.aload_n 0, 1) := by decide +kernel
theorem dL_act_602 : decode cL_act 602 = .ok (.iload 6, 2) := by decide +kernel
theorem dL_act_604 : decode cL_act 604 = .ok (.iload 7, 2) := by decide +kernel
theorem dL_act_606 : decode cL_act 606 = .ok (.iadd, 1) := by decide +kernel
theorem dL_act_607 : decode cL_act 607 = .ok (.iconst 1, 1) := by decide +kernel
theorem dL_act_608 : decode cL_act 608 = .ok (.isub, 1) := by decide +kernel
theorem dL_act_609 : decode cL_act 609 = .ok (.invokevirtual 23, 3) := by decide +kernel
theorem dL_act_612 : decode cL_act 612 = .ok (.iload 8, 2) := by decide +kernel
theorem dL_act_614 : decode cL_act 614 = .ok (.if_icmp .ne 7, 3) := by decide +kernel
theorem dL_act_617 : decode cL_act 617 = .ok (.iconst 1, 1) := by decide +kernel
theorem dL_act_618 : decode cL_act 618 = .ok (.goto 4, 3) := by decide +kernel
theorem dL_act_621 : decode cL_act 621 = .ok (.iconst 0, 1) := by decide +kernel
theorem dL_act_622 : decode cL_act 622 = .ok (.ireturn, 1) := by decide +kernel
theorem dL_act_623 : decode cL_act 623 = .ok (.iload 4, 2) := by decide +kernel
theorem dL_act_625 : decode cL_act 625 = .ok (.bipush 13, 2) := by decide +kernel
theorem dL_act_627 : decode cL_act 627 = .ok (.if_icmp .ne 62, 3) := by decide +kernel
theorem dL_act_630 : decode cL_act 630 = .ok (.aload_n 0, 1) := by decide +kernel
theorem dL_act_631 : decode cL_act 631 = .ok (.bipush 8, 2) := by decide +kernel
theorem dL_act_633 : decode cL_act 633 = .ok (.invokevirtual 26, 3) := by decide +kernel
theorem dL_act_636 : decode cL_act 636 = .ok (.istore 6, 2) := by decide +kernel
theorem dL_act_638 : decode cL_act 638 = .ok (.aload_n 0, 1) := by decide +kernel
theorem dL_act_639 : decode cL_act 639 = .ok (.bipush 8, 2) := by decide +kernel
theorem dL_act_641 : decode cL_act 641 = .ok (.invokevirtual 26, 3) := by decide +kernel
theorem dL_act_644 : decode cL_act 644 = .ok (.iload 6, 2) := by decide +kernel
theorem dL_act_646 : decode cL_act 646 = .ok (.if_icmp .ne 41, 3) := by decide +kernel
theorem dL_act_649 : decode cL_act 649 = .ok (.aload_n 0, 1) := by decide +kernel
theorem dL_act_650 : decode cL_act 650 = .ok (.iload_n 2, 1) := by decide +kernel
theorem dL_act_651 : decode cL_act 651 = .ok (.sipush 500, 3) := by decide +kernel
theorem dL_act_654 : decode cL_act 654 = .ok (.invokestatic 52, 3) := by decide +kernel
theorem dL_act_657 : decode cL_act 657 = .ok (.iconst 1, 1) := by decide +kernel
theorem dL_act_658 : decode cL_act 658 = .ok (.iload_n 2, 1) := by decide +kernel
theorem dL_act_659 : decode cL_act 659 = .ok (.bipush 9, 2) := by decide +kernel
theorem dL_act_661 : decode cL_act 661 = .ok (.ishr, 1) := by decide +kernel
theorem dL_act_662 : decode cL_act 662 = .ok (.bipush 100, 2) := by decide +kernel
theorem dL_act_664 : decode cL_act 664 = .ok (.invokestatic 52, 3) := by decide +kernel
theorem dL_act_667 : decode cL_act 667 = .ok (.iadd, 1) := by decide +kernel
theorem dL_act_668 : decode cL_act 668 = .ok (.invokevirtual 58, 3) := by decide +kernel
theorem dL_act_671 : decode cL_act 671 = .ok (.iload 6, 2) := by decide +kernel
theorem dL_act_673 : decode cL_act 673 = .ok (.aload_n 0, 1) := by decide +kernel
theorem dL_act_674 : decode cL_act 674 = .ok (.bipush 8, 2) := by decide +kernel
theorem dL_act_676 : decode cL_act 676 = .ok (.invokevirtual 26, 3) := by decide +kernel
theorem dL_act_679 : decode cL_act 679 = .ok (.isub, 1) := by decide +kernel
theorem dL_act_680 : decode cL_act 680 = .ok (.if_icmp .ne 7, 3) := by decide +kernel
theorem dL_act_683 : decode cL_act 683 = .ok (.iconst 1, 1) := by decide +kernel
theorem dL_act_684 : decode cL_act 684 = .ok (.goto 4, 3) := by decide +kernel
theorem dL_act_687 : decode cL_act 687 = .ok (.iconst 0, 1) := by decide +kernel
theorem dL_act_688 : decode cL_act 688 = .ok (.ireturn, 1) := by decide +kernel
theorem dL_act_689 : decode cL_act 689 = .ok (.iload 4, 2) := by decide +kernel
theorem dL_act_691 : decode cL_act 691 = .ok (.bipush 14, 2) := by decide +kernel
theorem dL_act_693 : decode cL_act 693 = .ok (.if_icmp .ne 10, 3) := by decide +kernel
theorem dL_act_696 : decode cL_act 696 = .ok (.aload_n 0, 1) := by decide +kernel
theorem dL_act_697 : decode cL_act 697 = .ok (.iload 5, 2) := by decide +kernel
theorem dL_act_699 : decode cL_act 699 = .ok (.invokestatic 78, 3) := by decide +kernel
theorem dL_act_702 : decode cL_act 702 = .ok (.ireturn, 1) := by decide +kernel
theorem dL_act_703 : decode cL_act 703 = .ok (.iload 4, 2) := by decide +kernel
theorem dL_act_705 : decode cL_act 705 = .ok (.bipush 15, 2) := by decide +kernel
theorem dL_act_707 : decode cL_act 707 = .ok (.if_icmp .ne 10, 3) := by decide +kernel
theorem dL_act_710 : decode cL_act 710 = .ok (.aload_n 0, 1) := by decide +kernel
theorem dL_act_711 : decode cL_act 711 = .ok (.invokestatic 81, 3) := by decide +kernel
theorem dL_act_714 : decode cL_act 714 = .ok (.goto 29, 3) := by decide +kernel
theorem dL_act_717 : decode cL_act 717 = .ok (.iload_n 2, 1) := by decide +kernel
theorem dL_act_718 : decode cL_act 718 = .ok (.iconst 5, 1) := by decide +kernel
theorem dL_act_719 : decode cL_act 719 = .ok (.ishr, 1) := by decide +kernel
theorem dL_act_720 : decode cL_act 720 = .ok (.iconst 3, 1) := by decide +kernel
theorem dL_act_721 : decode cL_act 721 = .ok (.invokestatic 52, 3) := by decide +kernel
theorem dL_act_724 : decode cL_act 724 = .ok (.ifCond .gt 14, 3) := by decide +kernel
theorem dL_act_727 : decode cL_act 727 = .ok (.aload_n 0, 1) := by decide +kernel
theorem dL_act_728 : decode cL_act 728 = .ok (.iload_n 2, 1) := by decide +kernel
theorem dL_act_729 : decode cL_act 729 = .ok (.bipush 7, 2) := by decide +kernel
theorem dL_act_731 : decode cL_act 731 = .ok (.ishr, 1) := by decide +kernel
theorem dL_act_732 : decode cL_act 732 = .ok (.invokestatic 85, 3) := by decide +kernel
theorem dL_act_735 : decode cL_act 735 = .ok (.ifCond .eq 7, 3) := by decide +kernel
theorem dL_act_738 : decode cL_act 738 = .ok (.iconst 1, 1) := by decide +kernel
theorem dL_act_739 : decode cL_act 739 = .ok (.goto 4, 3) := by decide +kernel
theorem dL_act_742 : decode cL_act 742 = .ok (.iconst 0, 1) := by decide +kernel
theorem dL_act_743 : decode cL_act 743 = .ok (.ireturn, 1) := by decide +kernel
theorem dL_law_0 : decode cL_law 0 = .ok (.new 11, 3) := by decide +kernel
theorem dL_law_3 : decode cL_law 3 = .ok (.dup, 1) := by decide +kernel
theorem dL_law_4 : decode cL_law 4 = .ok (.invokespecial 88, 3) := by decide +kernel
theorem dL_law_7 : decode cL_law 7 = .ok (.astore_n 1, 1) := by decide +kernel
theorem dL_law_8 : decode cL_law 8 = .ok (.aload_n 1, 1) := by decide +kernel
theorem dL_law_9 : decode cL_law 9 = .ok (.invokestatic 89, 3) := by decide +kernel
theorem dL_law_12 : decode cL_law 12 = .ok (.ifCond .eq 21, 3) := by decide +kernel
theorem dL_law_15 : decode cL_law 15 = .ok (.aload_n 1, 1) := by decide +kernel
theorem dL_law_16 : decode cL_law 16 = .ok (.invokevirtual 46, 3) := by decide +kernel
theorem dL_law_19 : decode cL_law 19 = .ok (.bipush 32, 2) := by decide +kernel
theorem dL_law_21 : decode cL_law 21 = .ok (.if_icmp .ne 12, 3) := by decide +kernel
theorem dL_law_24 : decode cL_law 24 = .ok (.aload_n 1, 1) := by decide +kernel
theorem dL_law_25 : decode cL_law 25 = .ok (.bipush 12, 2) := by decide +kernel
theorem dL_law_27 : decode cL_law 27 = .ok (.invokevirtual 26, 3) := by decide +kernel
theorem dL_law_30 : decode cL_law 30 = .ok (.ifCond .eq 5, 3) := by decide +kernel
theorem dL_law_33 : decode cL_law 33 = .ok (.iconst 0, 1) := by decide +kernel
theorem dL_law_34 : decode cL_law 34 = .ok (.ireturn, 1) := by decide +kernel
theorem dL_law_35 : decode cL_law 35 = .ok (.iconst 0, 1) := by decide +kernel
theorem dL_law_36 : decode cL_law 36 = .ok (.istore_n 2, 1) := by decide +kernel
theorem dL_law_37 : decode cL_law 37 = .ok (.iload_n 2, 1) := by decide +kernel
theorem dL_law_38 : decode cL_law 38 = .ok (.bipush 30, 2) := by decide +kernel
theorem dL_law_40 : decode cL_law 40 = .ok (.if_icmp .ge 74, 3) := by decide +kernel
theorem dL_law_43 : decode cL_law 43 = .ok (.iload_n 2, 1) := by decide +kernel
theorem dL_law_44 : decode cL_law 44 = .ok (.iconst 5, 1) := by decide +kernel
theorem dL_law_45 : decode cL_law 45 = .ok (.if_icmp .ge 22, 3) := by decide +kernel
theorem dL_law_48 : decode cL_law 48 = .ok (.bipush 18, 2) := by decide +kernel
theorem dL_law_50 : decode cL_law 50 = .ok (.aload_n 0, 1) := by decide +kernel
theorem dL_law_51 : decode cL_law 51 = .ok (.iconst 2, 1) := by decide +kernel
theorem dL_law_52 : decode cL_law 52 = .ok (.iload_n 2, 1) := by decide +kernel
theorem dL_law_53 : decode cL_law 53 = .ok (.imul, 1) := by decide +kernel
theorem dL_law_54 : decode cL_law 54 = .ok (.invokestatic 92, 3) := by decide +kernel
theorem dL_law_57 : decode cL_law 57 = .ok (.bipush 8, 2) := by decide +kernel
theorem dL_law_59 : decode cL_law 59 = .ok (.ishr, 1) := by decide +kernel
theorem dL_law_60 : decode cL_law 60 = .ok (.ldc 96, 2) := by decide +kernel
theorem dL_law_62 : decode cL_law 62 = .ok (.iand, 1) := by decide +kernel
theorem dL_law_63 : decode cL_law 63 = .ok (.imul, 1) := by decide +kernel
theorem dL_law_64 : decode cL_law 64 = .ok (.goto 10, 3) := by decide +kernel
theorem dL_law_67 : decode cL_law 67 = .ok (.aload_n 0, 1) := by decide +kernel
theorem dL_law_68 : decode cL_law 68 = .ok (.iconst 2, 1) := by decide +kernel
theorem dL_law_69 : decode cL_law 69 = .ok (.iload_n 2, 1) := by decide +kernel
theorem dL_law_70 : decode cL_law 70 = .ok (.imul, 1) := by decide +kernel
theorem dL_law_71 : decode cL_law 71 = .ok (.invokestatic 92, 3) := by decide +kernel
theorem dL_law_74 : decode cL_law 74 = .ok (.istore_n 3, 1) := by decide +kernel
theorem dL_law_75 : decode cL_law 75 = .ok (.aload_n 1, 1) := by decide +kernel
theorem dL_law_76 : decode cL_law 76 = .ok (.iload_n 3, 1) := by decide +kernel
theorem dL_law_77 : decode cL_law 77 = .ok (.aload_n 0, 1) := by decide +kernel
theorem dL_law_78 : decode cL_law 78 = .ok (.iconst 2, 1) := by decide +kernel
theorem dL_law_79 : decode cL_law 79 = .ok (.iload_n 2, 1) := by decide +kernel
theorem dL_law_80 : decode cL_law 80 = .ok (.imul, 1) := by decide +kernel
theorem dL_law_81 : decode cL_law 81 = .ok (.iconst 1, 1) := by decide +kernel
theorem dL_law_82 : decode cL_law 82 = .ok (.iadd, 1) := by decide +kernel
theorem dL_law_83 : decode cL_law 83 = .ok (.invokestatic 92, 3) := by decide +kernel
theorem dL_law_86 : decode cL_law 86 = .ok (.invokestatic 97, 3) := by decide +kernel
theorem dL_law_89 : decode cL_law 89 = .ok (.ifCond .eq 17, 3) := by decide +kernel
theorem dL_law_92 : decode cL_law 92 = .ok (.iload_n 2, 1) := by decide +kernel
theorem dL_law_93 : decode cL_law 93 = .ok (.iconst 2, 1) := by decide +kernel
theorem dL_law_94 : decode cL_law 94 = .ok (.irem, 1) := by decide +kernel
theorem dL_law_95 : decode cL_law 95 = .ok (.iconst 1, 1) := by decide +kernel
theorem dL_law_96 : decode cL_law 96 = .ok (.if_icmp .ne 12, 3) := by decide +kernel
theorem dL_law_99 : decode cL_law 99 = .ok (.aload_n 1, 1) := by decide +kernel
theorem dL_law_100 : decode cL_law 100 = .ok (.invokestatic 89, 3) := by decide +kernel
theorem dL_law_103 : decode cL_law 103 = .ok (.ifCond .ne 5, 3) := by decide +kernel
theorem dL_law_106 : decode cL_law 106 = .ok (.iconst 0, 1) := by decide +kernel
theorem dL_law_107 : decode cL_law 107 = .ok (.ireturn, 1) := by decide +kernel
theorem dL_law_108 : decode cL_law 108 = .ok (.iinc 2 1, 3) := by decide +kernel
theorem dL_law_111 : decode cL_law 111 = .ok (.goto (-74), 3) := by decide +kernel
theorem dL_law_114 : decode cL_law 114 = .ok (.aload_n 1, 1) := by decide +kernel
theorem dL_law_115 : decode cL_law 115 = .ok (.aload_n 0, 1) := by decide +kernel
theorem dL_law_116 : decode cL_law 116 = .ok (.bipush 61, 2) := by decide +kernel
theorem dL_law_118 : decode cL_law 118 = .ok (.invokestatic 92, 3) := by decide +kernel
theorem dL_law_121 : decode cL_law 121 = .ok (.invokestatic 85, 3) := by decide +kernel
theorem dL_law_124 : decode cL_law 124 = .ok (.ifCond .eq 14, 3) := by decide +kernel
theorem dL_law_127 : decode cL_law 127 = .ok (.aload_n 1, 1) := by decide +kernel
theorem dL_law_128 : decode cL_law 128 = .ok (.invokestatic 89, 3) := by decide +kernel
theorem dL_law_131 : decode cL_law 131 = .ok (.ifCond .eq 7, 3) := by decide +kernel
theorem dL_law_134 : decode cL_law 134 = .ok (.iconst 1, 1) := by decide +kernel
theorem dL_law_135 : decode cL_law 135 = .ok (.goto 4, 3) := by decide +kernel
theorem dL_law_138 : decode cL_law 138 = .ok (.iconst 0, 1) := by decide +kernel
theorem dL_law_139 : decode cL_law 139 = .ok (.ireturn, 1) := by decide +kernel
