theorem dX0_init_0 : decode cX0_init 0 = .ok (.aload_n 0, 1) := by decide +kernel
theorem dX0_init_1 : decode cX0_init 1 = .ok (.invokespecial 3, 3) := by decide +kernel
theorem dX0_init_4 : decode cX0_init 4 = .ok (.aload_n 0, 1) := by decide +kernel
theorem dX0_init_5 : decode cX0_init 5 = .ok (.bipush 12, 2) := by decide +kernel
theorem dX0_init_7 : decode cX0_init 7 = .ok (.newarray .int, 2) := by decide +kernel
theorem dX0_init_9 : decode cX0_init 9 = .ok (.putfield 9, 3) := by decide +kernel
theorem dX0_init_12 : decode cX0_init 12 = .ok (.aload_n 0, 1) := by decide +kernel
theorem dX0_init_13 : decode cX0_init 13 = .ok (.bipush 12, 2) := by decide +kernel
theorem dX0_init_15 : decode cX0_init 15 = .ok (.newarray .int, 2) := by decide +kernel
theorem dX0_init_17 : decode cX0_init 17 = .ok (.putfield 15, 3) := by decide +kernel
theorem dX0_init_20 : decode cX0_init 20 = .ok (.aload_n 0, 1) := by decide +kernel
theorem dX0_init_21 : decode cX0_init 21 = .ok (.sipush 144, 3) := by decide +kernel
theorem dX0_init_24 : decode cX0_init 24 = .ok (.newarray .int, 2) := by decide +kernel
theorem dX0_init_26 : decode cX0_init 26 = .ok (.putfield 18, 3) := by decide +kernel
theorem dX0_init_29 : decode cX0_init 29 = .ok (.aload_n 0, 1) := by decide +kernel
theorem dX0_init_30 : decode cX0_init 30 = .ok (.bipush 9, 2) := by decide +kernel
theorem dX0_init_32 : decode cX0_init 32 = .ok (.newarray .int, 2) := by decide +kernel
theorem dX0_init_34 : decode cX0_init 34 = .ok (.putfield 21, 3) := by decide +kernel
theorem dX0_init_37 : decode cX0_init 37 = .ok (.aload_n 0, 1) := by decide +kernel
theorem dX0_init_38 : decode cX0_init 38 = .ok (.bipush 18, 2) := by decide +kernel
theorem dX0_init_40 : decode cX0_init 40 = .ok (.newarray .int, 2) := by decide +kernel
theorem dX0_init_42 : decode cX0_init 42 = .ok (.putfield 24, 3) := by decide +kernel
theorem dX0_init_45 : decode cX0_init 45 = .ok (.aload_n 0, 1) := by decide +kernel
theorem dX0_init_46 : decode cX0_init 46 = .ok (.bipush 18, 2) := by decide +kernel
theorem dX0_init_48 : decode cX0_init 48 = .ok (.newarray .int, 2) := by decide +kernel
theorem dX0_init_50 : decode cX0_init 50 = .ok (.putfield 27, 3) := by decide +kernel
theorem dX0_init_53 : decode cX0_init 53 = .ok (.aload_n 0, 1) := by decide +kernel
theorem dX0_init_54 : decode cX0_init 54 = .ok (.bipush 18, 2) := by decide +kernel
theorem dX0_init_56 : decode cX0_init 56 = .ok (.newarray .int, 2) := by decide +kernel
theorem dX0_init_58 : decode cX0_init 58 = .ok (.putfield 30, 3) := by decide +kernel
theorem dX0_init_61 : decode cX0_init 61 = .ok (.aload_n 0, 1) := by decide +kernel
theorem dX0_init_62 : decode cX0_init 62 = .ok (.bipush 18, 2) := by decide +kernel
theorem dX0_init_64 : decode cX0_init 64 = .ok (.newarray .int, 2) := by decide +kernel
theorem dX0_init_66 : decode cX0_init 66 = .ok (.putfield 33, 3) := by decide +kernel
theorem dX0_init_69 : decode cX0_init 69 = .ok (.aload_n 0, 1) := by decide +kernel
theorem dX0_init_70 : decode cX0_init 70 = .ok (.bipush 18, 2) := by decide +kernel
theorem dX0_init_72 : decode cX0_init 72 = .ok (.newarray .int, 2) := by decide +kernel
theorem dX0_init_74 : decode cX0_init 74 = .ok (.putfield 36, 3) := by decide +kernel
theorem dX0_init_77 : decode cX0_init 77 = .ok (.return_, 1) := by decide +kernel
theorem dX0_isPlace_0 : decode cX0_isPlace 0 = .ok (.iload_n 1, 1) := by decide +kernel
theorem dX0_isPlace_1 : decode cX0_isPlace 1 = .ok (.ifCond .lt 15, 3) := by decide +kernel
theorem dX0_isPlace_4 : decode cX0_isPlace 4 = .ok (.iload_n 1, 1) := by decide +kernel
theorem dX0_isPlace_5 : decode cX0_isPlace 5 = .ok (.aload_n 0, 1) := by decide +kernel
theorem dX0_isPlace_6 : decode cX0_isPlace 6 = .ok (.getfield 39, 3) := by decide +kernel
theorem dX0_isPlace_9 : decode cX0_isPlace 9 = .ok (.if_icmp .ge 7, 3) := by decide +kernel
theorem dX0_isPlace_12 : decode cX0_isPlace 12 = .ok (.iconst 1, 1) := by decide +kernel
theorem dX0_isPlace_13 : decode cX0_isPlace 13 = .ok (.goto 4, 3) := by decide +kernel
theorem dX0_isPlace_16 : decode cX0_isPlace 16 = .ok (.iconst 0, 1) := by decide +kernel
theorem dX0_isPlace_17 : decode cX0_isPlace 17 = .ok (.ireturn, 1) := by decide +kernel
theorem dX0_isStop_0 : decode cX0_isStop 0 = .ok (.iload_n 1, 1) := by decide +kernel
theorem dX0_isStop_1 : decode cX0_isStop 1 = .ok (.ifCond .lt 17, 3) := by decide +kernel
theorem dX0_isStop_4 : decode cX0_isStop 4 = .ok (.iload_n 1, 1) := by decide +kernel
theorem dX0_isStop_5 : decode cX0_isStop 5 = .ok (.iconst 2, 1) := by decide +kernel
theorem dX0_isStop_6 : decode cX0_isStop 6 = .ok (.aload_n 0, 1) := by decide +kernel
theorem dX0_isStop_7 : decode cX0_isStop 7 = .ok (.getfield 43, 3) := by decide +kernel
theorem dX0_isStop_10 : decode cX0_isStop 10 = .ok (.imul, 1) := by decide +kernel
theorem dX0_isStop_11 : decode cX0_isStop 11 = .ok (.if_icmp .ge 7, 3) := by decide +kernel
theorem dX0_isStop_14 : decode cX0_isStop 14 = .ok (.iconst 1, 1) := by decide +kernel
theorem dX0_isStop_15 : decode cX0_isStop 15 = .ok (.goto 4, 3) := by decide +kernel
theorem dX0_isStop_18 : decode cX0_isStop 18 = .ok (.iconst 0, 1) := by decide +kernel
theorem dX0_isStop_19 : decode cX0_isStop 19 = .ok (.ireturn, 1) := by decide +kernel
theorem dX0_wayBetween_0 : decode cX0_wayBetween 0 = .ok (.iload_n 1, 1) := by decide +kernel
theorem dX0_wayBetween_1 : decode cX0_wayBetween 1 = .ok (.ifCond .lt 23, 3) := by decide +kernel
theorem dX0_wayBetween_4 : decode cX0_wayBetween 4 = .ok (.iload_n 1, 1) := by decide +kernel
theorem dX0_wayBetween_5 : decode cX0_wayBetween 5 = .ok (.aload_n 0, 1) := by decide +kernel
theorem dX0_wayBetween_6 : decode cX0_wayBetween 6 = .ok (.getfield 39, 3) := by decide +kernel
theorem dX0_wayBetween_9 : decode cX0_wayBetween 9 = .ok (.if_icmp .ge 15, 3) := by decide +kernel
theorem dX0_wayBetween_12 : decode cX0_wayBetween 12 = .ok (.iload_n 2, 1) := by decide +kernel
theorem dX0_wayBetween_13 : decode cX0_wayBetween 13 = .ok (.ifCond .lt 11, 3) := by decide +kernel
theorem dX0_wayBetween_16 : decode cX0_wayBetween 16 = .ok (.iload_n 2, 1) := by decide +kernel
theorem dX0_wayBetween_17 : decode cX0_wayBetween 17 = .ok (.aload_n 0, 1) := by decide +kernel
theorem dX0_wayBetween_18 : decode cX0_wayBetween 18 = .ok (.getfield 39, 3) := by decide +kernel
theorem dX0_wayBetween_21 : decode cX0_wayBetween 21 = .ok (.if_icmp .lt 5, 3) := by decide +kernel
theorem dX0_wayBetween_24 : decode cX0_wayBetween 24 = .ok (.iconst 0, 1) := by decide +kernel
theorem dX0_wayBetween_25 : decode cX0_wayBetween 25 = .ok (.ireturn, 1) := by decide +kernel
theorem dX0_wayBetween_26 : decode cX0_wayBetween 26 = .ok (.aload_n 0, 1) := by decide +kernel
theorem dX0_wayBetween_27 : decode cX0_wayBetween 27 = .ok (.getfield 18, 3) := by decide +kernel
theorem dX0_wayBetween_30 : decode cX0_wayBetween 30 = .ok (.iload_n 1, 1) := by decide +kernel
theorem dX0_wayBetween_31 : decode cX0_wayBetween 31 = .ok (.bipush 12, 2) := by decide +kernel
theorem dX0_wayBetween_33 : decode cX0_wayBetween 33 = .ok (.imul, 1) := by decide +kernel
theorem dX0_wayBetween_34 : decode cX0_wayBetween 34 = .ok (.iload_n 2, 1) := by decide +kernel
theorem dX0_wayBetween_35 : decode cX0_wayBetween 35 = .ok (.iadd, 1) := by decide +kernel
theorem dX0_wayBetween_36 : decode cX0_wayBetween 36 = .ok (.iaload, 1) := by decide +kernel
theorem dX0_wayBetween_37 : decode cX0_wayBetween 37 = .ok (.ireturn, 1) := by decide +kernel
theorem dX0_tellPlace_0 : decode cX0_tellPlace 0 = .ok (.aload_n 0, 1) := by decide +kernel
theorem dX0_tellPlace_1 : decode cX0_tellPlace 1 = .ok (.getfield 39, 3) := by decide +kernel
theorem dX0_tellPlace_4 : decode cX0_tellPlace 4 = .ok (.istore_n 3, 1) := by decide +kernel
theorem dX0_tellPlace_5 : decode cX0_tellPlace 5 = .ok (.iload_n 3, 1) := by decide +kernel
theorem dX0_tellPlace_6 : decode cX0_tellPlace 6 = .ok (.bipush 12, 2) := by decide +kernel
theorem dX0_tellPlace_8 : decode cX0_tellPlace 8 = .ok (.if_icmp .lt 5, 3) := by decide +kernel
theorem dX0_tellPlace_11 : decode cX0_tellPlace 11 = .ok (.iconst (-1), 1) := by decide +kernel
theorem dX0_tellPlace_12 : decode cX0_tellPlace 12 = .ok (.ireturn, 1) := by decide +kernel
theorem dX0_tellPlace_13 : decode cX0_tellPlace 13 = .ok (.aload_n 0, 1) := by decide +kernel
theorem dX0_tellPlace_14 : decode cX0_tellPlace 14 = .ok (.getfield 9, 3) := by decide +kernel
theorem dX0_tellPlace_17 : decode cX0_tellPlace 17 = .ok (.iload_n 3, 1) := by decide +kernel
theorem dX0_tellPlace_18 : decode cX0_tellPlace 18 = .ok (.iload_n 1, 1) := by decide +kernel
theorem dX0_tellPlace_19 : decode cX0_tellPlace 19 = .ok (.iastore, 1) := by decide +kernel
theorem dX0_tellPlace_20 : decode cX0_tellPlace 20 = .ok (.aload_n 0, 1) := by decide +kernel
theorem dX0_tellPlace_21 : decode cX0_tellPlace 21 = .ok (.getfield 15, 3) := by decide +kernel
theorem dX0_tellPlace_24 : decode cX0_tellPlace 24 = .ok (.iload_n 3, 1) := by decide +kernel
theorem dX0_tellPlace_25 : decode cX0_tellPlace 25 = .ok (.iload_n 2, 1) := by decide +kernel
theorem dX0_tellPlace_26 : decode cX0_tellPlace 26 = .ok (.iastore, 1) := by decide +kernel
theorem dX0_tellPlace_27 : decode cX0_tellPlace 27 = .ok (.iconst 0, 1) := by decide +kernel
theorem dX0_tellPlace_28 : decode cX0_tellPlace 28 = .ok (.istore 4, 2) := by decide +kernel
theorem dX0_tellPlace_30 : decode cX0_tellPlace 30 = .ok (.iload 4, 2) := by decide +kernel
theorem dX0_tellPlace_32 : decode cX0_tellPlace 32 = .ok (.iload_n 3, 1) := by decide +kernel
theorem dX0_tellPlace_33 : decode cX0_tellPlace 33 = .ok (.if_icmp .gt 64, 3) := by decide +kernel
theorem dX0_tellPlace_36 : decode cX0_tellPlace 36 = .ok (.aload_n 0, 1) := by decide +kernel
theorem dX0_tellPlace_37 : decode cX0_tellPlace 37 = .ok (.getfield 9, 3) := by decide +kernel
theorem dX0_tellPlace_40 : decode cX0_tellPlace 40 = .ok (.iload 4, 2) := by decide +kernel
theorem dX0_tellPlace_42 : decode cX0_tellPlace 42 = .ok (.iaload, 1) := by decide +kernel
theorem dX0_tellPlace_43 : decode cX0_tellPlace 43 = .ok (.iload_n 1, 1) := by decide +kernel
theorem dX0_tellPlace_44 : decode cX0_tellPlace 44 = .ok (.isub, 1) := by decide +kernel
theorem dX0_tellPlace_45 : decode cX0_tellPlace 45 = .ok (.invokestatic 46, 3) := by decide +kernel
theorem dX0_tellPlace_48 : decode cX0_tellPlace 48 = .ok (.aload_n 0, 1) := by decide +kernel
theorem dX0_tellPlace_49 : decode cX0_tellPlace 49 = .ok (.getfield 15, 3) := by decide +kernel
theorem dX0_tellPlace_52 : decode cX0_tellPlace 52 = .ok (.iload 4, 2) := by decide +kernel
theorem dX0_tellPlace_54 : decode cX0_tellPlace 54 = .ok (.iaload, 1) := by decide +kernel
theorem dX0_tellPlace_55 : decode cX0_tellPlace 55 = .ok (.iload_n 2, 1) := by decide +kernel
theorem dX0_tellPlace_56 : decode cX0_tellPlace 56 = .ok (.isub, 1) := by decide +kernel
theorem dX0_tellPlace_57 : decode cX0_tellPlace 57 = .ok (.invokestatic 46, 3) := by decide +kernel
theorem dX0_tellPlace_60 : decode cX0_tellPlace 60 = .ok (.iadd, 1) := by decide +kernel
theorem dX0_tellPlace_61 : decode cX0_tellPlace 61 = .ok (.istore 5, 2) := by decide +kernel
theorem dX0_tellPlace_63 : decode cX0_tellPlace 63 = .ok (.aload_n 0, 1) := by decide +kernel
theorem dX0_tellPlace_64 : decode cX0_tellPlace 64 = .ok (.getfield 18, 3) := by decide +kernel
theorem dX0_tellPlace_67 : decode cX0_tellPlace 67 = .ok (.iload 4, 2) := by decide +kernel
theorem dX0_tellPlace_69 : decode cX0_tellPlace 69 = .ok (.bipush 12, 2) := by decide +kernel
theorem dX0_tellPlace_71 : decode cX0_tellPlace 71 = .ok (.imul, 1) := by decide +kernel
theorem dX0_tellPlace_72 : decode cX0_tellPlace 72 = .ok (.iload_n 3, 1) := by decide +kernel
theorem dX0_tellPlace_73 : decode cX0_tellPlace 73 = .ok (.iadd, 1) := by decide +kernel
theorem dX0_tellPlace_74 : decode cX0_tellPlace 74 = .ok (.iload 5, 2) := by decide +kernel
theorem dX0_tellPlace_76 : decode cX0_tellPlace 76 = .ok (.iastore, 1) := by decide +kernel
theorem dX0_tellPlace_77 : decode cX0_tellPlace 77 = .ok (.aload_n 0, 1) := by decide +kernel
theorem dX0_tellPlace_78 : decode cX0_tellPlace 78 = .ok (.getfield 18, 3) := by decide +kernel
theorem dX0_tellPlace_81 : decode cX0_tellPlace 81 = .ok (.iload_n 3, 1) := by decide +kernel
theorem dX0_tellPlace_82 : decode cX0_tellPlace 82 = .ok (.bipush 12, 2) := by decide +kernel
theorem dX0_tellPlace_84 : decode cX0_tellPlace 84 = .ok (.imul, 1) := by decide +kernel
theorem dX0_tellPlace_85 : decode cX0_tellPlace 85 = .ok (.iload 4, 2) := by decide +kernel
theorem dX0_tellPlace_87 : decode cX0_tellPlace 87 = .ok (.iadd, 1) := by decide +kernel
theorem dX0_tellPlace_88 : decode cX0_tellPlace 88 = .ok (.iload 5, 2) := by decide +kernel
theorem dX0_tellPlace_90 : decode cX0_tellPlace 90 = .ok (.iastore, 1) := by decide +kernel
theorem dX0_tellPlace_91 : decode cX0_tellPlace 91 = .ok (.iinc 4 1, 3) := by decide +kernel
theorem dX0_tellPlace_94 : decode cX0_tellPlace 94 = .ok (.goto (-64), 3) := by decide +kernel
theorem dX0_tellPlace_97 : decode cX0_tellPlace 97 = .ok (.aload_n 0, 1) := by decide +kernel
theorem dX0_tellPlace_98 : decode cX0_tellPlace 98 = .ok (.dup, 1) := by decide +kernel
theorem dX0_tellPlace_99 : decode cX0_tellPlace 99 = .ok (.getfield 39, 3) := by decide +kernel
theorem dX0_tellPlace_102 : decode cX0_tellPlace 102 = .ok (.iconst 1, 1) := by decide +kernel
theorem dX0_tellPlace_103 : decode cX0_tellPlace 103 = .ok (.iadd, 1) := by decide +kernel
theorem dX0_tellPlace_104 : decode cX0_tellPlace 104 = .ok (.putfield 39, 3) := by decide +kernel
theorem dX0_tellPlace_107 : decode cX0_tellPlace 107 = .ok (.iload_n 3, 1) := by decide +kernel
theorem dX0_tellPlace_108 : decode cX0_tellPlace 108 = .ok (.ireturn, 1) := by decide +kernel
theorem dX0_tellJob_0 : decode cX0_tellJob 0 = .ok (.aload_n 0, 1) := by decide +kernel
theorem dX0_tellJob_1 : decode cX0_tellJob 1 = .ok (.getfield 43, 3) := by decide +kernel
theorem dX0_tellJob_4 : decode cX0_tellJob 4 = .ok (.istore 6, 2) := by decide +kernel
theorem dX0_tellJob_6 : decode cX0_tellJob 6 = .ok (.iload 6, 2) := by decide +kernel
theorem dX0_tellJob_8 : decode cX0_tellJob 8 = .ok (.bipush 9, 2) := by decide +kernel
theorem dX0_tellJob_10 : decode cX0_tellJob 10 = .ok (.if_icmp .lt 5, 3) := by decide +kernel
theorem dX0_tellJob_13 : decode cX0_tellJob 13 = .ok (.iconst (-1), 1) := by decide +kernel
theorem dX0_tellJob_14 : decode cX0_tellJob 14 = .ok (.ireturn, 1) := by decide +kernel
theorem dX0_tellJob_15 : decode cX0_tellJob 15 = .ok (.aload_n 0, 1) := by decide +kernel
theorem dX0_tellJob_16 : decode cX0_tellJob 16 = .ok (.dup, 1) := by decide +kernel
theorem dX0_tellJob_17 : decode cX0_tellJob 17 = .ok (.getfield 43, 3) := by decide +kernel
theorem dX0_tellJob_20 : decode cX0_tellJob 20 = .ok (.iconst 1, 1) := by decide +kernel
theorem dX0_tellJob_21 : decode cX0_tellJob 21 = .ok (.iadd, 1) := by decide +kernel
theorem dX0_tellJob_22 : decode cX0_tellJob 22 = .ok (.putfield 43, 3) := by decide +kernel
theorem dX0_tellJob_25 : decode cX0_tellJob 25 = .ok (.aload_n 0, 1) := by decide +kernel
theorem dX0_tellJob_26 : decode cX0_tellJob 26 = .ok (.getfield 21, 3) := by decide +kernel
theorem dX0_tellJob_29 : decode cX0_tellJob 29 = .ok (.iload 6, 2) := by decide +kernel
theorem dX0_tellJob_31 : decode cX0_tellJob 31 = .ok (.iload 5, 2) := by decide +kernel
theorem dX0_tellJob_33 : decode cX0_tellJob 33 = .ok (.iastore, 1) := by decide +kernel
theorem dX0_tellJob_34 : decode cX0_tellJob 34 = .ok (.aload_n 0, 1) := by decide +kernel
theorem dX0_tellJob_35 : decode cX0_tellJob 35 = .ok (.iload 6, 2) := by decide +kernel
theorem dX0_tellJob_37 : decode cX0_tellJob 37 = .ok (.invokestatic 52, 3) := by decide +kernel
theorem dX0_tellJob_40 : decode cX0_tellJob 40 = .ok (.iload_n 1, 1) := by decide +kernel
theorem dX0_tellJob_41 : decode cX0_tellJob 41 = .ok (.iload_n 3, 1) := by decide +kernel
theorem dX0_tellJob_42 : decode cX0_tellJob 42 = .ok (.iload 4, 2) := by decide +kernel
theorem dX0_tellJob_44 : decode cX0_tellJob 44 = .ok (.invokevirtual 55, 3) := by decide +kernel
theorem dX0_tellJob_47 : decode cX0_tellJob 47 = .ok (.aload_n 0, 1) := by decide +kernel
theorem dX0_tellJob_48 : decode cX0_tellJob 48 = .ok (.iload 6, 2) := by decide +kernel
theorem dX0_tellJob_50 : decode cX0_tellJob 50 = .ok (.invokestatic 59, 3) := by decide +kernel
theorem dX0_tellJob_53 : decode cX0_tellJob 53 = .ok (.iload_n 2, 1) := by decide +kernel
theorem dX0_tellJob_54 : decode cX0_tellJob 54 = .ok (.iload_n 3, 1) := by decide +kernel
theorem dX0_tellJob_55 : decode cX0_tellJob 55 = .ok (.ineg, 1) := by decide +kernel
theorem dX0_tellJob_56 : decode cX0_tellJob 56 = .ok (.iload 4, 2) := by decide +kernel
theorem dX0_tellJob_58 : decode cX0_tellJob 58 = .ok (.invokevirtual 55, 3) := by decide +kernel
theorem dX0_tellJob_61 : decode cX0_tellJob 61 = .ok (.iload 6, 2) := by decide +kernel
theorem dX0_tellJob_63 : decode cX0_tellJob 63 = .ok (.ireturn, 1) := by decide +kernel
theorem dX0_tellStop_0 : decode cX0_tellStop 0 = .ok (.aload_n 0, 1) := by decide +kernel
theorem dX0_tellStop_1 : decode cX0_tellStop 1 = .ok (.iload_n 1, 1) := by decide +kernel
theorem dX0_tellStop_2 : decode cX0_tellStop 2 = .ok (.invokevirtual 62, 3) := by decide +kernel
theorem dX0_tellStop_5 : decode cX0_tellStop 5 = .ok (.ifCond .eq 34, 3) := by decide +kernel
theorem dX0_tellStop_8 : decode cX0_tellStop 8 = .ok (.aload_n 0, 1) := by decide +kernel
theorem dX0_tellStop_9 : decode cX0_tellStop 9 = .ok (.getfield 24, 3) := by decide +kernel
theorem dX0_tellStop_12 : decode cX0_tellStop 12 = .ok (.iload_n 1, 1) := by decide +kernel
theorem dX0_tellStop_13 : decode cX0_tellStop 13 = .ok (.iload_n 2, 1) := by decide +kernel
theorem dX0_tellStop_14 : decode cX0_tellStop 14 = .ok (.iastore, 1) := by decide +kernel
theorem dX0_tellStop_15 : decode cX0_tellStop 15 = .ok (.aload_n 0, 1) := by decide +kernel
theorem dX0_tellStop_16 : decode cX0_tellStop 16 = .ok (.getfield 36, 3) := by decide +kernel
theorem dX0_tellStop_19 : decode cX0_tellStop 19 = .ok (.iload_n 1, 1) := by decide +kernel
theorem dX0_tellStop_20 : decode cX0_tellStop 20 = .ok (.iload_n 3, 1) := by decide +kernel
theorem dX0_tellStop_21 : decode cX0_tellStop 21 = .ok (.iastore, 1) := by decide +kernel
theorem dX0_tellStop_22 : decode cX0_tellStop 22 = .ok (.aload_n 0, 1) := by decide +kernel
theorem dX0_tellStop_23 : decode cX0_tellStop 23 = .ok (.getfield 33, 3) := by decide +kernel
theorem dX0_tellStop_26 : decode cX0_tellStop 26 = .ok (.iload_n 1, 1) := by decide +kernel
theorem dX0_tellStop_27 : decode cX0_tellStop 27 = .ok (.iload 4, 2) := by decide +kernel
theorem dX0_tellStop_29 : decode cX0_tellStop 29 = .ok (.iastore, 1) := by decide +kernel
theorem dX0_tellStop_30 : decode cX0_tellStop 30 = .ok (.aload_n 0, 1) := by decide +kernel
theorem dX0_tellStop_31 : decode cX0_tellStop 31 = .ok (.iload_n 1, 1) := by decide +kernel
theorem dX0_tellStop_32 : decode cX0_tellStop 32 = .ok (.iconst 0, 1) := by decide +kernel
theorem dX0_tellStop_33 : decode cX0_tellStop 33 = .ok (.sipush 1440, 3) := by decide +kernel
theorem dX0_tellStop_36 : decode cX0_tellStop 36 = .ok (.invokevirtual 66, 3) := by decide +kernel
theorem dX0_tellStop_39 : decode cX0_tellStop 39 = .ok (.return_, 1) := by decide +kernel
theorem dX0_tellHours_0 : decode cX0_tellHours 0 = .ok (.aload_n 0, 1) := by decide +kernel
theorem dX0_tellHours_1 : decode cX0_tellHours 1 = .ok (.iload_n 1, 1) := by decide +kernel
theorem dX0_tellHours_2 : decode cX0_tellHours 2 = .ok (.invokevirtual 62, 3) := by decide +kernel
theorem dX0_tellHours_5 : decode cX0_tellHours 5 = .ok (.ifCond .eq 17, 3) := by decide +kernel
theorem dX0_tellHours_8 : decode cX0_tellHours 8 = .ok (.aload_n 0, 1) := by decide +kernel
theorem dX0_tellHours_9 : decode cX0_tellHours 9 = .ok (.getfield 27, 3) := by decide +kernel
theorem dX0_tellHours_12 : decode cX0_tellHours 12 = .ok (.iload_n 1, 1) := by decide +kernel
theorem dX0_tellHours_13 : decode cX0_tellHours 13 = .ok (.iload_n 2, 1) := by decide +kernel
theorem dX0_tellHours_14 : decode cX0_tellHours 14 = .ok (.iastore, 1) := by decide +kernel
theorem dX0_tellHours_15 : decode cX0_tellHours 15 = .ok (.aload_n 0, 1) := by decide +kernel
theorem dX0_tellHours_16 : decode cX0_tellHours 16 = .ok (.getfield 30, 3) := by decide +kernel
theorem dX0_tellHours_19 : decode cX0_tellHours 19 = .ok (.iload_n 1, 1) := by decide +kernel
theorem dX0_tellHours_20 : decode cX0_tellHours 20 = .ok (.iload_n 3, 1) := by decide +kernel
theorem dX0_tellHours_21 : decode cX0_tellHours 21 = .ok (.iastore, 1) := by decide +kernel
theorem dX0_tellHours_22 : decode cX0_tellHours 22 = .ok (.return_, 1) := by decide +kernel
theorem dX1_init_0 : decode cX1_init 0 = .ok (.aload_n 0, 1) := by decide +kernel
theorem dX1_init_1 : decode cX1_init 1 = .ok (.invokespecial 1, 3) := by decide +kernel
theorem dX1_init_4 : decode cX1_init 4 = .ok (.return_, 1) := by decide +kernel
theorem dX1_become_0 : decode cX1_become 0 = .ok (.aload_n 0, 1) := by decide +kernel
theorem dX1_become_1 : decode cX1_become 1 = .ok (.aload_n 1, 1) := by decide +kernel
theorem dX1_become_2 : decode cX1_become 2 = .ok (.getfield 7, 3) := by decide +kernel
theorem dX1_become_5 : decode cX1_become 5 = .ok (.putfield 7, 3) := by decide +kernel
theorem dX1_become_8 : decode cX1_become 8 = .ok (.aload_n 0, 1) := by decide +kernel
theorem dX1_become_9 : decode cX1_become 9 = .ok (.aload_n 1, 1) := by decide +kernel
theorem dX1_become_10 : decode cX1_become 10 = .ok (.getfield 13, 3) := by decide +kernel
theorem dX1_become_13 : decode cX1_become 13 = .ok (.putfield 13, 3) := by decide +kernel
theorem dX1_become_16 : decode cX1_become 16 = .ok (.aload_n 0, 1) := by decide +kernel
theorem dX1_become_17 : decode cX1_become 17 = .ok (.aload_n 1, 1) := by decide +kernel
theorem dX1_become_18 : decode cX1_become 18 = .ok (.getfield 16, 3) := by decide +kernel
theorem dX1_become_21 : decode cX1_become 21 = .ok (.putfield 16, 3) := by decide +kernel
theorem dX1_become_24 : decode cX1_become 24 = .ok (.aload_n 0, 1) := by decide +kernel
theorem dX1_become_25 : decode cX1_become 25 = .ok (.aload_n 1, 1) := by decide +kernel
theorem dX1_become_26 : decode cX1_become 26 = .ok (.getfield 19, 3) := by decide +kernel
theorem dX1_become_29 : decode cX1_become 29 = .ok (.putfield 19, 3) := by decide +kernel
theorem dX1_become_32 : decode cX1_become 32 = .ok (.aload_n 0, 1) := by decide +kernel
theorem dX1_become_33 : decode cX1_become 33 = .ok (.aload_n 1, 1) := by decide +kernel
theorem dX1_become_34 : decode cX1_become 34 = .ok (.getfield 22, 3) := by decide +kernel
theorem dX1_become_37 : decode cX1_become 37 = .ok (.putfield 22, 3) := by decide +kernel
theorem dX1_become_40 : decode cX1_become 40 = .ok (.aload_n 0, 1) := by decide +kernel
theorem dX1_become_41 : decode cX1_become 41 = .ok (.aload_n 1, 1) := by decide +kernel
theorem dX1_become_42 : decode cX1_become 42 = .ok (.getfield 25, 3) := by decide +kernel
theorem dX1_become_45 : decode cX1_become 45 = .ok (.putfield 25, 3) := by decide +kernel
theorem dX1_become_48 : decode cX1_become 48 = .ok (.return_, 1) := by decide +kernel
theorem dX1_comesBefore_0 : decode cX1_comesBefore 0 = .ok (.aload_n 0, 1) := by decide +kernel
theorem dX1_comesBefore_1 : decode cX1_comesBefore 1 = .ok (.getfield 25, 3) := by decide +kernel
theorem dX1_comesBefore_4 : decode cX1_comesBefore 4 = .ok (.aload_n 1, 1) := by decide +kernel
theorem dX1_comesBefore_5 : decode cX1_comesBefore 5 = .ok (.getfield 25, 3) := by decide +kernel
theorem dX1_comesBefore_8 : decode cX1_comesBefore 8 = .ok (.if_icmp .gt 25, 3) := by decide +kernel
theorem dX1_comesBefore_11 : decode cX1_comesBefore 11 = .ok (.aload_n 0, 1) := by decide +kernel
theorem dX1_comesBefore_12 : decode cX1_comesBefore 12 = .ok (.getfield 25, 3) := by decide +kernel
theorem dX1_comesBefore_15 : decode cX1_comesBefore 15 = .ok (.aload_n 1, 1) := by decide +kernel
theorem dX1_comesBefore_16 : decode cX1_comesBefore 16 = .ok (.getfield 25, 3) := by decide +kernel
theorem dX1_comesBefore_19 : decode cX1_comesBefore 19 = .ok (.if_icmp .ne 18, 3) := by decide +kernel
theorem dX1_comesBefore_22 : decode cX1_comesBefore 22 = .ok (.aload_n 0, 1) := by decide +kernel
theorem dX1_comesBefore_23 : decode cX1_comesBefore 23 = .ok (.getfield 22, 3) := by decide +kernel
theorem dX1_comesBefore_26 : decode cX1_comesBefore 26 = .ok (.aload_n 1, 1) := by decide +kernel
theorem dX1_comesBefore_27 : decode cX1_comesBefore 27 = .ok (.getfield 22, 3) := by decide +kernel
theorem dX1_comesBefore_30 : decode cX1_comesBefore 30 = .ok (.if_icmp .ge 7, 3) := by decide +kernel
theorem dX1_comesBefore_33 : decode cX1_comesBefore 33 = .ok (.iconst 1, 1) := by decide +kernel
theorem dX1_comesBefore_34 : decode cX1_comesBefore 34 = .ok (.goto 4, 3) := by decide +kernel
theorem dX1_comesBefore_37 : decode cX1_comesBefore 37 = .ok (.iconst 0, 1) := by decide +kernel
theorem dX1_comesBefore_38 : decode cX1_comesBefore 38 = .ok (.ireturn, 1) := by decide +kernel
theorem dX2_init_0 : decode cX2_init 0 = .ok (.aload_n 0, 1) := by decide +kernel
theorem dX2_init_1 : decode cX2_init 1 = .ok (.invokespecial 3, 3) := by decide +kernel
theorem dX2_init_4 : decode cX2_init 4 = .ok (.aload_n 0, 1) := by decide +kernel
theorem dX2_init_5 : decode cX2_init 5 = .ok (.bipush 18, 2) := by decide +kernel
theorem dX2_init_7 : decode cX2_init 7 = .ok (.newarray .int, 2) := by decide +kernel
theorem dX2_init_9 : decode cX2_init 9 = .ok (.putfield 9, 3) := by decide +kernel
theorem dX2_init_12 : decode cX2_init 12 = .ok (.return_, 1) := by decide +kernel
theorem dX2_at_0 : decode cX2_at 0 = .ok (.iload_n 1, 1) := by decide +kernel
theorem dX2_at_1 : decode cX2_at 1 = .ok (.ifCond .lt 20, 3) := by decide +kernel
theorem dX2_at_4 : decode cX2_at 4 = .ok (.iload_n 1, 1) := by decide +kernel
theorem dX2_at_5 : decode cX2_at 5 = .ok (.aload_n 0, 1) := by decide +kernel
theorem dX2_at_6 : decode cX2_at 6 = .ok (.getfield 15, 3) := by decide +kernel
theorem dX2_at_9 : decode cX2_at 9 = .ok (.if_icmp .ge 12, 3) := by decide +kernel
theorem dX2_at_12 : decode cX2_at 12 = .ok (.aload_n 0, 1) := by decide +kernel
theorem dX2_at_13 : decode cX2_at 13 = .ok (.getfield 9, 3) := by decide +kernel
theorem dX2_at_16 : decode cX2_at 16 = .ok (.iload_n 1, 1) := by decide +kernel
theorem dX2_at_17 : decode cX2_at 17 = .ok (.iaload, 1) := by decide +kernel
theorem dX2_at_18 : decode cX2_at 18 = .ok (.goto 4, 3) := by decide +kernel
theorem dX2_at_21 : decode cX2_at 21 = .ok (.iconst (-1), 1) := by decide +kernel
theorem dX2_at_22 : decode cX2_at 22 = .ok (.ireturn, 1) := by decide +kernel
theorem dX2_find_0 : decode cX2_find 0 = .ok (.iconst 0, 1) := by decide +kernel
theorem dX2_find_1 : decode cX2_find 1 = .ok (.istore_n 2, 1) := by decide +kernel
theorem dX2_find_2 : decode cX2_find 2 = .ok (.iload_n 2, 1) := by decide +kernel
theorem dX2_find_3 : decode cX2_find 3 = .ok (.aload_n 0, 1) := by decide +kernel
theorem dX2_find_4 : decode cX2_find 4 = .ok (.getfield 15, 3) := by decide +kernel
theorem dX2_find_7 : decode cX2_find 7 = .ok (.if_icmp .ge 21, 3) := by decide +kernel
theorem dX2_find_10 : decode cX2_find 10 = .ok (.aload_n 0, 1) := by decide +kernel
theorem dX2_find_11 : decode cX2_find 11 = .ok (.getfield 9, 3) := by decide +kernel
theorem dX2_find_14 : decode cX2_find 14 = .ok (.iload_n 2, 1) := by decide +kernel
theorem dX2_find_15 : decode cX2_find 15 = .ok (.iaload, 1) := by decide +kernel
theorem dX2_find_16 : decode cX2_find 16 = .ok (.iload_n 1, 1) := by decide +kernel
theorem dX2_find_17 : decode cX2_find 17 = .ok (.if_icmp .ne 5, 3) := by decide +kernel
theorem dX2_find_20 : decode cX2_find 20 = .ok (.iload_n 2, 1) := by decide +kernel
theorem dX2_find_21 : decode cX2_find 21 = .ok (.ireturn, 1) := by decide +kernel
theorem dX2_find_22 : decode cX2_find 22 = .ok (.iinc 2 1, 3) := by decide +kernel
theorem dX2_find_25 : decode cX2_find 25 = .ok (.goto (-23), 3) := by decide +kernel
theorem dX2_find_28 : decode cX2_find 28 = .ok (.iconst (-1), 1) := by decide +kernel
theorem dX2_find_29 : decode cX2_find 29 = .ok (.ireturn, 1) := by decide +kernel
theorem dX2_holdsPair_0 : decode cX2_holdsPair 0 = .ok (.iload_n 1, 1) := by decide +kernel
theorem dX2_holdsPair_1 : decode cX2_holdsPair 1 = .ok (.istore_n 3, 1) := by decide +kernel
theorem dX2_holdsPair_2 : decode cX2_holdsPair 2 = .ok (.iload_n 3, 1) := by decide +kernel
theorem dX2_holdsPair_3 : decode cX2_holdsPair 3 = .ok (.iload_n 2, 1) := by decide +kernel
theorem dX2_holdsPair_4 : decode cX2_holdsPair 4 = .ok (.if_icmp .gt 46, 3) := by decide +kernel
theorem dX2_holdsPair_7 : decode cX2_holdsPair 7 = .ok (.aload_n 0, 1) := by decide +kernel
theorem dX2_holdsPair_8 : decode cX2_holdsPair 8 = .ok (.iload_n 3, 1) := by decide +kernel
theorem dX2_holdsPair_9 : decode cX2_holdsPair 9 = .ok (.invokevirtual 19, 3) := by decide +kernel
theorem dX2_holdsPair_12 : decode cX2_holdsPair 12 = .ok (.istore 4, 2) := by decide +kernel
theorem dX2_holdsPair_14 : decode cX2_holdsPair 14 = .ok (.aload_n 0, 1) := by decide +kernel
theorem dX2_holdsPair_15 : decode cX2_holdsPair 15 = .ok (.iload 4, 2) := by decide +kernel
theorem dX2_holdsPair_17 : decode cX2_holdsPair 17 = .ok (.invokestatic 23, 3) := by decide +kernel
theorem dX2_holdsPair_20 : decode cX2_holdsPair 20 = .ok (.invokestatic 26, 3) := by decide +kernel
theorem dX2_holdsPair_23 : decode cX2_holdsPair 23 = .ok (.invokevirtual 29, 3) := by decide +kernel
theorem dX2_holdsPair_26 : decode cX2_holdsPair 26 = .ok (.istore 5, 2) := by decide +kernel
theorem dX2_holdsPair_28 : decode cX2_holdsPair 28 = .ok (.iload 4, 2) := by decide +kernel
theorem dX2_holdsPair_30 : decode cX2_holdsPair 30 = .ok (.invokestatic 32, 3) := by decide +kernel
theorem dX2_holdsPair_33 : decode cX2_holdsPair 33 = .ok (.ifCond .eq 11, 3) := by decide +kernel
theorem dX2_holdsPair_36 : decode cX2_holdsPair 36 = .ok (.iload 5, 2) := by decide +kernel
theorem dX2_holdsPair_38 : decode cX2_holdsPair 38 = .ok (.iload_n 2, 1) := by decide +kernel
theorem dX2_holdsPair_39 : decode cX2_holdsPair 39 = .ok (.if_icmp .gt 5, 3) := by decide +kernel
theorem dX2_holdsPair_42 : decode cX2_holdsPair 42 = .ok (.iconst 1, 1) := by decide +kernel
theorem dX2_holdsPair_43 : decode cX2_holdsPair 43 = .ok (.ireturn, 1) := by decide +kernel
theorem dX2_holdsPair_44 : decode cX2_holdsPair 44 = .ok (.iinc 3 1, 3) := by decide +kernel
theorem dX2_holdsPair_47 : decode cX2_holdsPair 47 = .ok (.goto (-45), 3) := by decide +kernel
theorem dX2_holdsPair_50 : decode cX2_holdsPair 50 = .ok (.iconst 0, 1) := by decide +kernel
theorem dX2_holdsPair_51 : decode cX2_holdsPair 51 = .ok (.ireturn, 1) := by decide +kernel
theorem dX2_splitsJob_0 : decode cX2_splitsJob 0 = .ok (.iconst 0, 1) := by decide +kernel
theorem dX2_splitsJob_1 : decode cX2_splitsJob 1 = .ok (.istore_n 2, 1) := by decide +kernel
theorem dX2_splitsJob_2 : decode cX2_splitsJob 2 = .ok (.iload_n 2, 1) := by decide +kernel
theorem dX2_splitsJob_3 : decode cX2_splitsJob 3 = .ok (.iload_n 1, 1) := by decide +kernel
theorem dX2_splitsJob_4 : decode cX2_splitsJob 4 = .ok (.if_icmp .ge 30, 3) := by decide +kernel
theorem dX2_splitsJob_7 : decode cX2_splitsJob 7 = .ok (.aload_n 0, 1) := by decide +kernel
theorem dX2_splitsJob_8 : decode cX2_splitsJob 8 = .ok (.aload_n 0, 1) := by decide +kernel
theorem dX2_splitsJob_9 : decode cX2_splitsJob 9 = .ok (.iload_n 2, 1) := by decide +kernel
theorem dX2_splitsJob_10 : decode cX2_splitsJob 10 = .ok (.invokevirtual 19, 3) := by decide +kernel
theorem dX2_splitsJob_13 : decode cX2_splitsJob 13 = .ok (.invokestatic 23, 3) := by decide +kernel
theorem dX2_splitsJob_16 : decode cX2_splitsJob 16 = .ok (.invokestatic 26, 3) := by decide +kernel
theorem dX2_splitsJob_19 : decode cX2_splitsJob 19 = .ok (.invokevirtual 29, 3) := by decide +kernel
theorem dX2_splitsJob_22 : decode cX2_splitsJob 22 = .ok (.iload_n 1, 1) := by decide +kernel
theorem dX2_splitsJob_23 : decode cX2_splitsJob 23 = .ok (.if_icmp .lt 5, 3) := by decide +kernel
theorem dX2_splitsJob_26 : decode cX2_splitsJob 26 = .ok (.iconst 1, 1) := by decide +kernel
theorem dX2_splitsJob_27 : decode cX2_splitsJob 27 = .ok (.ireturn, 1) := by decide +kernel
theorem dX2_splitsJob_28 : decode cX2_splitsJob 28 = .ok (.iinc 2 1, 3) := by decide +kernel
theorem dX2_splitsJob_31 : decode cX2_splitsJob 31 = .ok (.goto (-29), 3) := by decide +kernel
theorem dX2_splitsJob_34 : decode cX2_splitsJob 34 = .ok (.iconst 0, 1) := by decide +kernel
theorem dX2_splitsJob_35 : decode cX2_splitsJob 35 = .ok (.ireturn, 1) := by decide +kernel
theorem dX2_add_0 : decode cX2_add 0 = .ok (.aload_n 0, 1) := by decide +kernel
theorem dX2_add_1 : decode cX2_add 1 = .ok (.getfield 15, 3) := by decide +kernel
theorem dX2_add_4 : decode cX2_add 4 = .ok (.aload_n 0, 1) := by decide +kernel
theorem dX2_add_5 : decode cX2_add 5 = .ok (.getfield 9, 3) := by decide +kernel
theorem dX2_add_8 : decode cX2_add 8 = .ok (.arraylength, 1) := by decide +kernel
theorem dX2_add_9 : decode cX2_add 9 = .ok (.if_icmp .ge 23, 3) := by decide +kernel
theorem dX2_add_12 : decode cX2_add 12 = .ok (.aload_n 0, 1) := by decide +kernel
theorem dX2_add_13 : decode cX2_add 13 = .ok (.getfield 9, 3) := by decide +kernel
theorem dX2_add_16 : decode cX2_add 16 = .ok (.aload_n 0, 1) := by decide +kernel
theorem dX2_add_17 : decode cX2_add 17 = .ok (.getfield 15, 3) := by decide +kernel
theorem dX2_add_20 : decode cX2_add 20 = .ok (.iload_n 1, 1) := by decide +kernel
theorem dX2_add_21 : decode cX2_add 21 = .ok (.iastore, 1) := by decide +kernel
theorem dX2_add_22 : decode cX2_add 22 = .ok (.aload_n 0, 1) := by decide +kernel
theorem dX2_add_23 : decode cX2_add 23 = .ok (.dup, 1) := by decide +kernel
theorem dX2_add_24 : decode cX2_add 24 = .ok (.getfield 15, 3) := by decide +kernel
theorem dX2_add_27 : decode cX2_add 27 = .ok (.iconst 1, 1) := by decide +kernel
theorem dX2_add_28 : decode cX2_add 28 = .ok (.iadd, 1) := by decide +kernel
theorem dX2_add_29 : decode cX2_add 29 = .ok (.putfield 15, 3) := by decide +kernel
theorem dX2_add_32 : decode cX2_add 32 = .ok (.return_, 1) := by decide +kernel
theorem dX2_addPart_0 : decode cX2_addPart 0 = .ok (.iload_n 2, 1) := by decide +kernel
theorem dX2_addPart_1 : decode cX2_addPart 1 = .ok (.istore 4, 2) := by decide +kernel
theorem dX2_addPart_3 : decode cX2_addPart 3 = .ok (.iload 4, 2) := by decide +kernel
theorem dX2_addPart_5 : decode cX2_addPart 5 = .ok (.iload_n 3, 1) := by decide +kernel
theorem dX2_addPart_6 : decode cX2_addPart 6 = .ok (.if_icmp .ge 28, 3) := by decide +kernel
theorem dX2_addPart_9 : decode cX2_addPart 9 = .ok (.iload 4, 2) := by decide +kernel
theorem dX2_addPart_11 : decode cX2_addPart 11 = .ok (.aload_n 1, 1) := by decide +kernel
theorem dX2_addPart_12 : decode cX2_addPart 12 = .ok (.getfield 15, 3) := by decide +kernel
theorem dX2_addPart_15 : decode cX2_addPart 15 = .ok (.if_icmp .ge 19, 3) := by decide +kernel
theorem dX2_addPart_18 : decode cX2_addPart 18 = .ok (.aload_n 0, 1) := by decide +kernel
theorem dX2_addPart_19 : decode cX2_addPart 19 = .ok (.aload_n 1, 1) := by decide +kernel
theorem dX2_addPart_20 : decode cX2_addPart 20 = .ok (.iload 4, 2) := by decide +kernel
theorem dX2_addPart_22 : decode cX2_addPart 22 = .ok (.invokevirtual 19, 3) := by decide +kernel
theorem dX2_addPart_25 : decode cX2_addPart 25 = .ok (.invokevirtual 36, 3) := by decide +kernel
theorem dX2_addPart_28 : decode cX2_addPart 28 = .ok (.iinc 4 1, 3) := by decide +kernel
theorem dX2_addPart_31 : decode cX2_addPart 31 = .ok (.goto (-28), 3) := by decide +kernel
theorem dX2_addPart_34 : decode cX2_addPart 34 = .ok (.return_, 1) := by decide +kernel
theorem dX2_become_0 : decode cX2_become 0 = .ok (.aload_n 0, 1) := by decide +kernel
theorem dX2_become_1 : decode cX2_become 1 = .ok (.iconst 0, 1) := by decide +kernel
theorem dX2_become_2 : decode cX2_become 2 = .ok (.putfield 15, 3) := by decide +kernel
theorem dX2_become_5 : decode cX2_become 5 = .ok (.iconst 0, 1) := by decide +kernel
theorem dX2_become_6 : decode cX2_become 6 = .ok (.istore_n 2, 1) := by decide +kernel
theorem dX2_become_7 : decode cX2_become 7 = .ok (.iload_n 2, 1) := by decide +kernel
theorem dX2_become_8 : decode cX2_become 8 = .ok (.aload_n 1, 1) := by decide +kernel
theorem dX2_become_9 : decode cX2_become 9 = .ok (.getfield 15, 3) := by decide +kernel
theorem dX2_become_12 : decode cX2_become 12 = .ok (.if_icmp .ge 19, 3) := by decide +kernel
theorem dX2_become_15 : decode cX2_become 15 = .ok (.aload_n 0, 1) := by decide +kernel
theorem dX2_become_16 : decode cX2_become 16 = .ok (.aload_n 1, 1) := by decide +kernel
theorem dX2_become_17 : decode cX2_become 17 = .ok (.getfield 9, 3) := by decide +kernel
theorem dX2_become_20 : decode cX2_become 20 = .ok (.iload_n 2, 1) := by decide +kernel
theorem dX2_become_21 : decode cX2_become 21 = .ok (.iaload, 1) := by decide +kernel
theorem dX2_become_22 : decode cX2_become 22 = .ok (.invokevirtual 36, 3) := by decide +kernel
theorem dX2_become_25 : decode cX2_become 25 = .ok (.iinc 2 1, 3) := by decide +kernel
theorem dX2_become_28 : decode cX2_become 28 = .ok (.goto (-21), 3) := by decide +kernel
theorem dX2_become_31 : decode cX2_become 31 = .ok (.return_, 1) := by decide +kernel
theorem dX2_becomeWithout_0 : decode cX2_becomeWithout 0 = .ok (.aload_n 0, 1) := by decide +kernel
theorem dX2_becomeWithout_1 : decode cX2_becomeWithout 1 = .ok (.iconst 0, 1) := by decide +kernel
theorem dX2_becomeWithout_2 : decode cX2_becomeWithout 2 = .ok (.putfield 15, 3) := by decide +kernel
theorem dX2_becomeWithout_5 : decode cX2_becomeWithout 5 = .ok (.iconst 0, 1) := by decide +kernel
theorem dX2_becomeWithout_6 : decode cX2_becomeWithout 6 = .ok (.istore_n 3, 1) := by decide +kernel
theorem dX2_becomeWithout_7 : decode cX2_becomeWithout 7 = .ok (.iload_n 3, 1) := by decide +kernel
theorem dX2_becomeWithout_8 : decode cX2_becomeWithout 8 = .ok (.aload_n 1, 1) := by decide +kernel
theorem dX2_becomeWithout_9 : decode cX2_becomeWithout 9 = .ok (.getfield 15, 3) := by decide +kernel
theorem dX2_becomeWithout_12 : decode cX2_becomeWithout 12 = .ok (.if_icmp .ge 30, 3) := by decide +kernel
theorem dX2_becomeWithout_15 : decode cX2_becomeWithout 15 = .ok (.aload_n 1, 1) := by decide +kernel
theorem dX2_becomeWithout_16 : decode cX2_becomeWithout 16 = .ok (.iload_n 3, 1) := by decide +kernel
theorem dX2_becomeWithout_17 : decode cX2_becomeWithout 17 = .ok (.invokevirtual 19, 3) := by decide +kernel
theorem dX2_becomeWithout_20 : decode cX2_becomeWithout 20 = .ok (.invokestatic 23, 3) := by decide +kernel
theorem dX2_becomeWithout_23 : decode cX2_becomeWithout 23 = .ok (.iload_n 2, 1) := by decide +kernel
theorem dX2_becomeWithout_24 : decode cX2_becomeWithout 24 = .ok (.if_icmp .eq 12, 3) := by decide +kernel
theorem dX2_becomeWithout_27 : decode cX2_becomeWithout 27 = .ok (.aload_n 0, 1) := by decide +kernel
theorem dX2_becomeWithout_28 : decode cX2_becomeWithout 28 = .ok (.aload_n 1, 1) := by decide +kernel
theorem dX2_becomeWithout_29 : decode cX2_becomeWithout 29 = .ok (.iload_n 3, 1) := by decide +kernel
theorem dX2_becomeWithout_30 : decode cX2_becomeWithout 30 = .ok (.invokevirtual 19, 3) := by decide +kernel
theorem dX2_becomeWithout_33 : decode cX2_becomeWithout 33 = .ok (.invokevirtual 36, 3) := by decide +kernel
theorem dX2_becomeWithout_36 : decode cX2_becomeWithout 36 = .ok (.iinc 3 1, 3) := by decide +kernel
theorem dX2_becomeWithout_39 : decode cX2_becomeWithout 39 = .ok (.goto (-32), 3) := by decide +kernel
theorem dX2_becomeWithout_42 : decode cX2_becomeWithout 42 = .ok (.return_, 1) := by decide +kernel
theorem dX2_becomeWith_0 : decode cX2_becomeWith 0 = .ok (.aload_n 0, 1) := by decide +kernel
theorem dX2_becomeWith_1 : decode cX2_becomeWith 1 = .ok (.iconst 0, 1) := by decide +kernel
theorem dX2_becomeWith_2 : decode cX2_becomeWith 2 = .ok (.putfield 15, 3) := by decide +kernel
theorem dX2_becomeWith_5 : decode cX2_becomeWith 5 = .ok (.aload_n 0, 1) := by decide +kernel
theorem dX2_becomeWith_6 : decode cX2_becomeWith 6 = .ok (.aload_n 1, 1) := by decide +kernel
theorem dX2_becomeWith_7 : decode cX2_becomeWith 7 = .ok (.iconst 0, 1) := by decide +kernel
theorem dX2_becomeWith_8 : decode cX2_becomeWith 8 = .ok (.iload_n 3, 1) := by decide +kernel
theorem dX2_becomeWith_9 : decode cX2_becomeWith 9 = .ok (.invokevirtual 40, 3) := by decide +kernel
theorem dX2_becomeWith_12 : decode cX2_becomeWith 12 = .ok (.aload_n 0, 1) := by decide +kernel
theorem dX2_becomeWith_13 : decode cX2_becomeWith 13 = .ok (.iload_n 2, 1) := by decide +kernel
theorem dX2_becomeWith_14 : decode cX2_becomeWith 14 = .ok (.invokestatic 44, 3) := by decide +kernel
theorem dX2_becomeWith_17 : decode cX2_becomeWith 17 = .ok (.invokevirtual 36, 3) := by decide +kernel
theorem dX2_becomeWith_20 : decode cX2_becomeWith 20 = .ok (.aload_n 0, 1) := by decide +kernel
theorem dX2_becomeWith_21 : decode cX2_becomeWith 21 = .ok (.aload_n 1, 1) := by decide +kernel
theorem dX2_becomeWith_22 : decode cX2_becomeWith 22 = .ok (.iload_n 3, 1) := by decide +kernel
theorem dX2_becomeWith_23 : decode cX2_becomeWith 23 = .ok (.iload 4, 2) := by decide +kernel
theorem dX2_becomeWith_25 : decode cX2_becomeWith 25 = .ok (.iconst 1, 1) := by decide +kernel
theorem dX2_becomeWith_26 : decode cX2_becomeWith 26 = .ok (.isub, 1) := by decide +kernel
theorem dX2_becomeWith_27 : decode cX2_becomeWith 27 = .ok (.invokevirtual 40, 3) := by decide +kernel
theorem dX2_becomeWith_30 : decode cX2_becomeWith 30 = .ok (.aload_n 0, 1) := by decide +kernel
theorem dX2_becomeWith_31 : decode cX2_becomeWith 31 = .ok (.iload_n 2, 1) := by decide +kernel
theorem dX2_becomeWith_32 : decode cX2_becomeWith 32 = .ok (.invokestatic 26, 3) := by decide +kernel
theorem dX2_becomeWith_35 : decode cX2_becomeWith 35 = .ok (.invokevirtual 36, 3) := by decide +kernel
theorem dX2_becomeWith_38 : decode cX2_becomeWith 38 = .ok (.aload_n 0, 1) := by decide +kernel
theorem dX2_becomeWith_39 : decode cX2_becomeWith 39 = .ok (.aload_n 1, 1) := by decide +kernel
theorem dX2_becomeWith_40 : decode cX2_becomeWith 40 = .ok (.iload 4, 2) := by decide +kernel
theorem dX2_becomeWith_42 : decode cX2_becomeWith 42 = .ok (.iconst 1, 1) := by decide +kernel
theorem dX2_becomeWith_43 : decode cX2_becomeWith 43 = .ok (.isub, 1) := by decide +kernel
theorem dX2_becomeWith_44 : decode cX2_becomeWith 44 = .ok (.aload_n 1, 1) := by decide +kernel
theorem dX2_becomeWith_45 : decode cX2_becomeWith 45 = .ok (.getfield 15, 3) := by decide +kernel
theorem dX2_becomeWith_48 : decode cX2_becomeWith 48 = .ok (.invokevirtual 40, 3) := by decide +kernel
theorem dX2_becomeWith_51 : decode cX2_becomeWith 51 = .ok (.return_, 1) := by decide +kernel
theorem dX2_becomeSwapped_0 : decode cX2_becomeSwapped 0 = .ok (.aload_n 0, 1) := by decide +kernel
theorem dX2_becomeSwapped_1 : decode cX2_becomeSwapped 1 = .ok (.iconst 0, 1) := by decide +kernel
theorem dX2_becomeSwapped_2 : decode cX2_becomeSwapped 2 = .ok (.putfield 15, 3) := by decide +kernel
theorem dX2_becomeSwapped_5 : decode cX2_becomeSwapped 5 = .ok (.iconst 0, 1) := by decide +kernel
theorem dX2_becomeSwapped_6 : decode cX2_becomeSwapped 6 = .ok (.istore 4, 2) := by decide +kernel
theorem dX2_becomeSwapped_8 : decode cX2_becomeSwapped 8 = .ok (.iload 4, 2) := by decide +kernel
theorem dX2_becomeSwapped_10 : decode cX2_becomeSwapped 10 = .ok (.aload_n 1, 1) := by decide +kernel
theorem dX2_becomeSwapped_11 : decode cX2_becomeSwapped 11 = .ok (.getfield 15, 3) := by decide +kernel
theorem dX2_becomeSwapped_14 : decode cX2_becomeSwapped 14 = .ok (.if_icmp .ge 73, 3) := by decide +kernel
theorem dX2_becomeSwapped_17 : decode cX2_becomeSwapped 17 = .ok (.aload_n 1, 1) := by decide +kernel
theorem dX2_becomeSwapped_18 : decode cX2_becomeSwapped 18 = .ok (.iload 4, 2) := by decide +kernel
theorem dX2_becomeSwapped_20 : decode cX2_becomeSwapped 20 = .ok (.invokevirtual 19, 3) := by decide +kernel
theorem dX2_becomeSwapped_23 : decode cX2_becomeSwapped 23 = .ok (.istore 5, 2) := by decide +kernel
theorem dX2_becomeSwapped_25 : decode cX2_becomeSwapped 25 = .ok (.iload 5, 2) := by decide +kernel
theorem dX2_becomeSwapped_27 : decode cX2_becomeSwapped 27 = .ok (.invokestatic 23, 3) := by decide +kernel
theorem dX2_becomeSwapped_30 : decode cX2_becomeSwapped 30 = .ok (.istore 6, 2) := by decide +kernel
theorem dX2_becomeSwapped_32 : decode cX2_becomeSwapped 32 = .ok (.iload 6, 2) := by decide +kernel
theorem dX2_becomeSwapped_34 : decode cX2_becomeSwapped 34 = .ok (.iload_n 2, 1) := by decide +kernel
theorem dX2_becomeSwapped_35 : decode cX2_becomeSwapped 35 = .ok (.if_icmp .ne 7, 3) := by decide +kernel
theorem dX2_becomeSwapped_38 : decode cX2_becomeSwapped 38 = .ok (.iload_n 3, 1) := by decide +kernel
theorem dX2_becomeSwapped_39 : decode cX2_becomeSwapped 39 = .ok (.goto 15, 3) := by decide +kernel
theorem dX2_becomeSwapped_42 : decode cX2_becomeSwapped 42 = .ok (.iload 6, 2) := by decide +kernel
theorem dX2_becomeSwapped_44 : decode cX2_becomeSwapped 44 = .ok (.iload_n 3, 1) := by decide +kernel
theorem dX2_becomeSwapped_45 : decode cX2_becomeSwapped 45 = .ok (.if_icmp .ne 7, 3) := by decide +kernel
theorem dX2_becomeSwapped_48 : decode cX2_becomeSwapped 48 = .ok (.iload_n 2, 1) := by decide +kernel
theorem dX2_becomeSwapped_49 : decode cX2_becomeSwapped 49 = .ok (.goto 5, 3) := by decide +kernel
theorem dX2_becomeSwapped_52 : decode cX2_becomeSwapped 52 = .ok (.iload 6, 2) := by decide +kernel
theorem dX2_becomeSwapped_54 : decode cX2_becomeSwapped 54 = .ok (.istore 7, 2) := by decide +kernel
theorem dX2_becomeSwapped_56 : decode cX2_becomeSwapped 56 = .ok (.aload_n 0, 1) := by decide +kernel
theorem dX2_becomeSwapped_57 : decode cX2_becomeSwapped 57 = .ok (.iload 5, 2) := by decide +kernel
theorem dX2_becomeSwapped_59 : decode cX2_becomeSwapped 59 = .ok (.invokestatic 32, 3) := by decide +kernel
theorem dX2_becomeSwapped_62 : decode cX2_becomeSwapped 62 = .ok (.ifCond .eq 11, 3) := by decide +kernel
theorem dX2_becomeSwapped_65 : decode cX2_becomeSwapped 65 = .ok (.iload 7, 2) := by decide +kernel
theorem dX2_becomeSwapped_67 : decode cX2_becomeSwapped 67 = .ok (.invokestatic 44, 3) := by decide +kernel
theorem dX2_becomeSwapped_70 : decode cX2_becomeSwapped 70 = .ok (.goto 8, 3) := by decide +kernel
theorem dX2_becomeSwapped_73 : decode cX2_becomeSwapped 73 = .ok (.iload 7, 2) := by decide +kernel
theorem dX2_becomeSwapped_75 : decode cX2_becomeSwapped 75 = .ok (.invokestatic 26, 3) := by decide +kernel
theorem dX2_becomeSwapped_78 : decode cX2_becomeSwapped 78 = .ok (.invokevirtual 36, 3) := by decide +kernel
theorem dX2_becomeSwapped_81 : decode cX2_becomeSwapped 81 = .ok (.iinc 4 1, 3) := by decide +kernel
theorem dX2_becomeSwapped_84 : decode cX2_becomeSwapped 84 = .ok (.goto (-76), 3) := by decide +kernel
theorem dX2_becomeSwapped_87 : decode cX2_becomeSwapped 87 = .ok (.return_, 1) := by decide +kernel
theorem dX2_becomeTurned_0 : decode cX2_becomeTurned 0 = .ok (.aload_n 0, 1) := by decide +kernel
theorem dX2_becomeTurned_1 : decode cX2_becomeTurned 1 = .ok (.iconst 0, 1) := by decide +kernel
theorem dX2_becomeTurned_2 : decode cX2_becomeTurned 2 = .ok (.putfield 15, 3) := by decide +kernel
theorem dX2_becomeTurned_5 : decode cX2_becomeTurned 5 = .ok (.aload_n 0, 1) := by decide +kernel
theorem dX2_becomeTurned_6 : decode cX2_becomeTurned 6 = .ok (.aload_n 1, 1) := by decide +kernel
theorem dX2_becomeTurned_7 : decode cX2_becomeTurned 7 = .ok (.iconst 0, 1) := by decide +kernel
theorem dX2_becomeTurned_8 : decode cX2_becomeTurned 8 = .ok (.iload_n 2, 1) := by decide +kernel
theorem dX2_becomeTurned_9 : decode cX2_becomeTurned 9 = .ok (.invokevirtual 40, 3) := by decide +kernel
theorem dX2_becomeTurned_12 : decode cX2_becomeTurned 12 = .ok (.iload_n 3, 1) := by decide +kernel
theorem dX2_becomeTurned_13 : decode cX2_becomeTurned 13 = .ok (.istore 4, 2) := by decide +kernel
theorem dX2_becomeTurned_15 : decode cX2_becomeTurned 15 = .ok (.iload 4, 2) := by decide +kernel
theorem dX2_becomeTurned_17 : decode cX2_becomeTurned 17 = .ok (.iload_n 2, 1) := by decide +kernel
theorem dX2_becomeTurned_18 : decode cX2_becomeTurned 18 = .ok (.if_icmp .lt 19, 3) := by decide +kernel
theorem dX2_becomeTurned_21 : decode cX2_becomeTurned 21 = .ok (.aload_n 0, 1) := by decide +kernel
theorem dX2_becomeTurned_22 : decode cX2_becomeTurned 22 = .ok (.aload_n 1, 1) := by decide +kernel
theorem dX2_becomeTurned_23 : decode cX2_becomeTurned 23 = .ok (.iload 4, 2) := by decide +kernel
theorem dX2_becomeTurned_25 : decode cX2_becomeTurned 25 = .ok (.invokevirtual 19, 3) := by decide +kernel
theorem dX2_becomeTurned_28 : decode cX2_becomeTurned 28 = .ok (.invokevirtual 36, 3) := by decide +kernel
theorem dX2_becomeTurned_31 : decode cX2_becomeTurned 31 = .ok (.iinc 4 (-1), 3) := by decide +kernel
theorem dX2_becomeTurned_34 : decode cX2_becomeTurned 34 = .ok (.goto (-19), 3) := by decide +kernel
theorem dX2_becomeTurned_37 : decode cX2_becomeTurned 37 = .ok (.aload_n 0, 1) := by decide +kernel
theorem dX2_becomeTurned_38 : decode cX2_becomeTurned 38 = .ok (.aload_n 1, 1) := by decide +kernel
theorem dX2_becomeTurned_39 : decode cX2_becomeTurned 39 = .ok (.iload_n 3, 1) := by decide +kernel
theorem dX2_becomeTurned_40 : decode cX2_becomeTurned 40 = .ok (.iconst 1, 1) := by decide +kernel
theorem dX2_becomeTurned_41 : decode cX2_becomeTurned 41 = .ok (.iadd, 1) := by decide +kernel
theorem dX2_becomeTurned_42 : decode cX2_becomeTurned 42 = .ok (.aload_n 1, 1) := by decide +kernel
theorem dX2_becomeTurned_43 : decode cX2_becomeTurned 43 = .ok (.getfield 15, 3) := by decide +kernel
theorem dX2_becomeTurned_46 : decode cX2_becomeTurned 46 = .ok (.invokevirtual 40, 3) := by decide +kernel
theorem dX2_becomeTurned_49 : decode cX2_becomeTurned 49 = .ok (.return_, 1) := by decide +kernel
theorem dX2_becomeJoined_0 : decode cX2_becomeJoined 0 = .ok (.aload_n 0, 1) := by decide +kernel
theorem dX2_becomeJoined_1 : decode cX2_becomeJoined 1 = .ok (.iconst 0, 1) := by decide +kernel
theorem dX2_becomeJoined_2 : decode cX2_becomeJoined 2 = .ok (.putfield 15, 3) := by decide +kernel
theorem dX2_becomeJoined_5 : decode cX2_becomeJoined 5 = .ok (.aload_n 0, 1) := by decide +kernel
theorem dX2_becomeJoined_6 : decode cX2_becomeJoined 6 = .ok (.aload_n 1, 1) := by decide +kernel
theorem dX2_becomeJoined_7 : decode cX2_becomeJoined 7 = .ok (.iconst 0, 1) := by decide +kernel
theorem dX2_becomeJoined_8 : decode cX2_becomeJoined 8 = .ok (.iload_n 2, 1) := by decide +kernel
theorem dX2_becomeJoined_9 : decode cX2_becomeJoined 9 = .ok (.invokevirtual 40, 3) := by decide +kernel
theorem dX2_becomeJoined_12 : decode cX2_becomeJoined 12 = .ok (.aload_n 0, 1) := by decide +kernel
theorem dX2_becomeJoined_13 : decode cX2_becomeJoined 13 = .ok (.aload_n 3, 1) := by decide +kernel
theorem dX2_becomeJoined_14 : decode cX2_becomeJoined 14 = .ok (.iload 4, 2) := by decide +kernel
theorem dX2_becomeJoined_16 : decode cX2_becomeJoined 16 = .ok (.aload_n 3, 1) := by decide +kernel
theorem dX2_becomeJoined_17 : decode cX2_becomeJoined 17 = .ok (.getfield 15, 3) := by decide +kernel
theorem dX2_becomeJoined_20 : decode cX2_becomeJoined 20 = .ok (.invokevirtual 40, 3) := by decide +kernel
theorem dX2_becomeJoined_23 : decode cX2_becomeJoined 23 = .ok (.return_, 1) := by decide +kernel
theorem dX3_init_0 : decode cX3_init 0 = .ok (.aload_n 0, 1) := by decide +kernel
theorem dX3_init_1 : decode cX3_init 1 = .ok (.invokespecial 1, 3) := by decide +kernel
theorem dX3_init_4 : decode cX3_init 4 = .ok (.return_, 1) := by decide +kernel
theorem dX3_start_0 : decode cX3_start 0 = .ok (.aload_n 0, 1) := by decide +kernel
theorem dX3_start_1 : decode cX3_start 1 = .ok (.aload_n 1, 1) := by decide +kernel
theorem dX3_start_2 : decode cX3_start 2 = .ok (.getfield 7, 3) := by decide +kernel
theorem dX3_start_5 : decode cX3_start 5 = .ok (.putfield 13, 3) := by decide +kernel
theorem dX3_start_8 : decode cX3_start 8 = .ok (.aload_n 0, 1) := by decide +kernel
theorem dX3_start_9 : decode cX3_start 9 = .ok (.aload_n 1, 1) := by decide +kernel
theorem dX3_start_10 : decode cX3_start 10 = .ok (.getfield 18, 3) := by decide +kernel
theorem dX3_start_13 : decode cX3_start 13 = .ok (.putfield 21, 3) := by decide +kernel
theorem dX3_start_16 : decode cX3_start 16 = .ok (.aload_n 0, 1) := by decide +kernel
theorem dX3_start_17 : decode cX3_start 17 = .ok (.aload_n 1, 1) := by decide +kernel
theorem dX3_start_18 : decode cX3_start 18 = .ok (.getfield 18, 3) := by decide +kernel
theorem dX3_start_21 : decode cX3_start 21 = .ok (.putfield 24, 3) := by decide +kernel
theorem dX3_start_24 : decode cX3_start 24 = .ok (.aload_n 0, 1) := by decide +kernel
theorem dX3_start_25 : decode cX3_start 25 = .ok (.aload_n 1, 1) := by decide +kernel
theorem dX3_start_26 : decode cX3_start 26 = .ok (.getfield 18, 3) := by decide +kernel
theorem dX3_start_29 : decode cX3_start 29 = .ok (.putfield 27, 3) := by decide +kernel
theorem dX3_start_32 : decode cX3_start 32 = .ok (.aload_n 0, 1) := by decide +kernel
theorem dX3_start_33 : decode cX3_start 33 = .ok (.iconst 0, 1) := by decide +kernel
theorem dX3_start_34 : decode cX3_start 34 = .ok (.putfield 30, 3) := by decide +kernel
theorem dX3_start_37 : decode cX3_start 37 = .ok (.aload_n 0, 1) := by decide +kernel
theorem dX3_start_38 : decode cX3_start 38 = .ok (.iconst 0, 1) := by decide +kernel
theorem dX3_start_39 : decode cX3_start 39 = .ok (.putfield 33, 3) := by decide +kernel
theorem dX3_start_42 : decode cX3_start 42 = .ok (.aload_n 0, 1) := by decide +kernel
theorem dX3_start_43 : decode cX3_start 43 = .ok (.iconst 0, 1) := by decide +kernel
theorem dX3_start_44 : decode cX3_start 44 = .ok (.putfield 36, 3) := by decide +kernel
theorem dX3_start_47 : decode cX3_start 47 = .ok (.aload_n 0, 1) := by decide +kernel
theorem dX3_start_48 : decode cX3_start 48 = .ok (.iconst 0, 1) := by decide +kernel
theorem dX3_start_49 : decode cX3_start 49 = .ok (.putfield 39, 3) := by decide +kernel
theorem dX3_start_52 : decode cX3_start 52 = .ok (.aload_n 0, 1) := by decide +kernel
theorem dX3_start_53 : decode cX3_start 53 = .ok (.iconst 0, 1) := by decide +kernel
theorem dX3_start_54 : decode cX3_start 54 = .ok (.putfield 42, 3) := by decide +kernel
theorem dX3_start_57 : decode cX3_start 57 = .ok (.aload_n 0, 1) := by decide +kernel
theorem dX3_start_58 : decode cX3_start 58 = .ok (.iconst 1, 1) := by decide +kernel
theorem dX3_start_59 : decode cX3_start 59 = .ok (.putfield 45, 3) := by decide +kernel
theorem dX3_start_62 : decode cX3_start 62 = .ok (.return_, 1) := by decide +kernel
theorem dX3_goOn_0 : decode cX3_goOn 0 = .ok (.aload_n 0, 1) := by decide +kernel
theorem dX3_goOn_1 : decode cX3_goOn 1 = .ok (.aload_n 0, 1) := by decide +kernel
theorem dX3_goOn_2 : decode cX3_goOn 2 = .ok (.getfield 27, 3) := by decide +kernel
theorem dX3_goOn_5 : decode cX3_goOn 5 = .ok (.iload_n 1, 1) := by decide +kernel
theorem dX3_goOn_6 : decode cX3_goOn 6 = .ok (.iadd, 1) := by decide +kernel
theorem dX3_goOn_7 : decode cX3_goOn 7 = .ok (.putfield 21, 3) := by decide +kernel
theorem dX3_goOn_10 : decode cX3_goOn 10 = .ok (.aload_n 0, 1) := by decide +kernel
theorem dX3_goOn_11 : decode cX3_goOn 11 = .ok (.dup, 1) := by decide +kernel
theorem dX3_goOn_12 : decode cX3_goOn 12 = .ok (.getfield 39, 3) := by decide +kernel
theorem dX3_goOn_15 : decode cX3_goOn 15 = .ok (.iload_n 1, 1) := by decide +kernel
theorem dX3_goOn_16 : decode cX3_goOn 16 = .ok (.iadd, 1) := by decide +kernel
theorem dX3_goOn_17 : decode cX3_goOn 17 = .ok (.putfield 39, 3) := by decide +kernel
theorem dX3_goOn_20 : decode cX3_goOn 20 = .ok (.aload_n 0, 1) := by decide +kernel
theorem dX3_goOn_21 : decode cX3_goOn 21 = .ok (.dup, 1) := by decide +kernel
theorem dX3_goOn_22 : decode cX3_goOn 22 = .ok (.getfield 42, 3) := by decide +kernel
theorem dX3_goOn_25 : decode cX3_goOn 25 = .ok (.iload_n 1, 1) := by decide +kernel
theorem dX3_goOn_26 : decode cX3_goOn 26 = .ok (.aload_n 0, 1) := by decide +kernel
theorem dX3_goOn_27 : decode cX3_goOn 27 = .ok (.getfield 30, 3) := by decide +kernel
theorem dX3_goOn_30 : decode cX3_goOn 30 = .ok (.imul, 1) := by decide +kernel
theorem dX3_goOn_31 : decode cX3_goOn 31 = .ok (.iadd, 1) := by decide +kernel
theorem dX3_goOn_32 : decode cX3_goOn 32 = .ok (.putfield 42, 3) := by decide +kernel
theorem dX3_goOn_35 : decode cX3_goOn 35 = .ok (.aload_n 0, 1) := by decide +kernel
theorem dX3_goOn_36 : decode cX3_goOn 36 = .ok (.iload_n 2, 1) := by decide +kernel
theorem dX3_goOn_37 : decode cX3_goOn 37 = .ok (.putfield 13, 3) := by decide +kernel
theorem dX3_goOn_40 : decode cX3_goOn 40 = .ok (.return_, 1) := by decide +kernel
theorem dX3_visit_0 : decode cX3_visit 0 = .ok (.aload_n 1, 1) := by decide +kernel
theorem dX3_visit_1 : decode cX3_visit 1 = .ok (.iload_n 3, 1) := by decide +kernel
theorem dX3_visit_2 : decode cX3_visit 2 = .ok (.invokevirtual 49, 3) := by decide +kernel
theorem dX3_visit_5 : decode cX3_visit 5 = .ok (.ifCond .ne 4, 3) := by decide +kernel
theorem dX3_visit_8 : decode cX3_visit 8 = .ok (.return_, 1) := by decide +kernel
theorem dX3_visit_9 : decode cX3_visit 9 = .ok (.aload_n 0, 1) := by decide +kernel
theorem dX3_visit_10 : decode cX3_visit 10 = .ok (.getfield 27, 3) := by decide +kernel
theorem dX3_visit_13 : decode cX3_visit 13 = .ok (.aload_n 1, 1) := by decide +kernel
theorem dX3_visit_14 : decode cX3_visit 14 = .ok (.getfield 55, 3) := by decide +kernel
theorem dX3_visit_17 : decode cX3_visit 17 = .ok (.if_icmp .ge 13, 3) := by decide +kernel
theorem dX3_visit_20 : decode cX3_visit 20 = .ok (.aload_n 0, 1) := by decide +kernel
theorem dX3_visit_21 : decode cX3_visit 21 = .ok (.dup, 1) := by decide +kernel
theorem dX3_visit_22 : decode cX3_visit 22 = .ok (.getfield 33, 3) := by decide +kernel
theorem dX3_visit_25 : decode cX3_visit 25 = .ok (.iconst 1, 1) := by decide +kernel
theorem dX3_visit_26 : decode cX3_visit 26 = .ok (.iadd, 1) := by decide +kernel
theorem dX3_visit_27 : decode cX3_visit 27 = .ok (.putfield 33, 3) := by decide +kernel
theorem dX3_visit_30 : decode cX3_visit 30 = .ok (.aload_n 1, 1) := by decide +kernel
theorem dX3_visit_31 : decode cX3_visit 31 = .ok (.getfield 58, 3) := by decide +kernel
theorem dX3_visit_34 : decode cX3_visit 34 = .ok (.iload_n 3, 1) := by decide +kernel
theorem dX3_visit_35 : decode cX3_visit 35 = .ok (.iaload, 1) := by decide +kernel
theorem dX3_visit_36 : decode cX3_visit 36 = .ok (.istore 4, 2) := by decide +kernel
theorem dX3_visit_38 : decode cX3_visit 38 = .ok (.aload_n 0, 1) := by decide +kernel
theorem dX3_visit_39 : decode cX3_visit 39 = .ok (.aload_n 1, 1) := by decide +kernel
theorem dX3_visit_40 : decode cX3_visit 40 = .ok (.aload_n 0, 1) := by decide +kernel
theorem dX3_visit_41 : decode cX3_visit 41 = .ok (.getfield 13, 3) := by decide +kernel
theorem dX3_visit_44 : decode cX3_visit 44 = .ok (.iload 4, 2) := by decide +kernel
theorem dX3_visit_46 : decode cX3_visit 46 = .ok (.invokevirtual 62, 3) := by decide +kernel
theorem dX3_visit_49 : decode cX3_visit 49 = .ok (.iload 4, 2) := by decide +kernel
theorem dX3_visit_51 : decode cX3_visit 51 = .ok (.invokevirtual 66, 3) := by decide +kernel
theorem dX3_visit_54 : decode cX3_visit 54 = .ok (.aload_n 0, 1) := by decide +kernel
theorem dX3_visit_55 : decode cX3_visit 55 = .ok (.aload_n 0, 1) := by decide +kernel
theorem dX3_visit_56 : decode cX3_visit 56 = .ok (.getfield 21, 3) := by decide +kernel
theorem dX3_visit_59 : decode cX3_visit 59 = .ok (.aload_n 1, 1) := by decide +kernel
theorem dX3_visit_60 : decode cX3_visit 60 = .ok (.getfield 70, 3) := by decide +kernel
theorem dX3_visit_63 : decode cX3_visit 63 = .ok (.iload_n 3, 1) := by decide +kernel
theorem dX3_visit_64 : decode cX3_visit 64 = .ok (.iaload, 1) := by decide +kernel
theorem dX3_visit_65 : decode cX3_visit 65 = .ok (.invokestatic 73, 3) := by decide +kernel
theorem dX3_visit_68 : decode cX3_visit 68 = .ok (.putfield 24, 3) := by decide +kernel
theorem dX3_visit_71 : decode cX3_visit 71 = .ok (.aload_n 0, 1) := by decide +kernel
theorem dX3_visit_72 : decode cX3_visit 72 = .ok (.dup, 1) := by decide +kernel
theorem dX3_visit_73 : decode cX3_visit 73 = .ok (.getfield 36, 3) := by decide +kernel
theorem dX3_visit_76 : decode cX3_visit 76 = .ok (.aload_n 0, 1) := by decide +kernel
theorem dX3_visit_77 : decode cX3_visit 77 = .ok (.getfield 24, 3) := by decide +kernel
theorem dX3_visit_80 : decode cX3_visit 80 = .ok (.aload_n 0, 1) := by decide +kernel
theorem dX3_visit_81 : decode cX3_visit 81 = .ok (.getfield 21, 3) := by decide +kernel
theorem dX3_visit_84 : decode cX3_visit 84 = .ok (.isub, 1) := by decide +kernel
theorem dX3_visit_85 : decode cX3_visit 85 = .ok (.iadd, 1) := by decide +kernel
theorem dX3_visit_86 : decode cX3_visit 86 = .ok (.putfield 36, 3) := by decide +kernel
theorem dX3_visit_89 : decode cX3_visit 89 = .ok (.aload_n 0, 1) := by decide +kernel
theorem dX3_visit_90 : decode cX3_visit 90 = .ok (.aload_n 0, 1) := by decide +kernel
theorem dX3_visit_91 : decode cX3_visit 91 = .ok (.getfield 24, 3) := by decide +kernel
theorem dX3_visit_94 : decode cX3_visit 94 = .ok (.aload_n 1, 1) := by decide +kernel
theorem dX3_visit_95 : decode cX3_visit 95 = .ok (.getfield 78, 3) := by decide +kernel
theorem dX3_visit_98 : decode cX3_visit 98 = .ok (.iload_n 3, 1) := by decide +kernel
theorem dX3_visit_99 : decode cX3_visit 99 = .ok (.iaload, 1) := by decide +kernel
theorem dX3_visit_100 : decode cX3_visit 100 = .ok (.iadd, 1) := by decide +kernel
theorem dX3_visit_101 : decode cX3_visit 101 = .ok (.putfield 27, 3) := by decide +kernel
theorem dX3_visit_104 : decode cX3_visit 104 = .ok (.aload_n 0, 1) := by decide +kernel
theorem dX3_visit_105 : decode cX3_visit 105 = .ok (.dup, 1) := by decide +kernel
theorem dX3_visit_106 : decode cX3_visit 106 = .ok (.getfield 30, 3) := by decide +kernel
theorem dX3_visit_109 : decode cX3_visit 109 = .ok (.aload_n 1, 1) := by decide +kernel
theorem dX3_visit_110 : decode cX3_visit 110 = .ok (.getfield 81, 3) := by decide +kernel
theorem dX3_visit_113 : decode cX3_visit 113 = .ok (.iload_n 3, 1) := by decide +kernel
theorem dX3_visit_114 : decode cX3_visit 114 = .ok (.iaload, 1) := by decide +kernel
theorem dX3_visit_115 : decode cX3_visit 115 = .ok (.iadd, 1) := by decide +kernel
theorem dX3_visit_116 : decode cX3_visit 116 = .ok (.putfield 30, 3) := by decide +kernel
theorem dX3_visit_119 : decode cX3_visit 119 = .ok (.aload_n 0, 1) := by decide +kernel
theorem dX3_visit_120 : decode cX3_visit 120 = .ok (.getfield 24, 3) := by decide +kernel
theorem dX3_visit_123 : decode cX3_visit 123 = .ok (.aload_n 1, 1) := by decide +kernel
theorem dX3_visit_124 : decode cX3_visit 124 = .ok (.getfield 84, 3) := by decide +kernel
theorem dX3_visit_127 : decode cX3_visit 127 = .ok (.iload_n 3, 1) := by decide +kernel
theorem dX3_visit_128 : decode cX3_visit 128 = .ok (.iaload, 1) := by decide +kernel
theorem dX3_visit_129 : decode cX3_visit 129 = .ok (.if_icmp .gt 14, 3) := by decide +kernel
theorem dX3_visit_132 : decode cX3_visit 132 = .ok (.aload_n 0, 1) := by decide +kernel
theorem dX3_visit_133 : decode cX3_visit 133 = .ok (.getfield 30, 3) := by decide +kernel
theorem dX3_visit_136 : decode cX3_visit 136 = .ok (.aload_n 2, 1) := by decide +kernel
theorem dX3_visit_137 : decode cX3_visit 137 = .ok (.getfield 87, 3) := by decide +kernel
theorem dX3_visit_140 : decode cX3_visit 140 = .ok (.if_icmp .le 8, 3) := by decide +kernel
theorem dX3_visit_143 : decode cX3_visit 143 = .ok (.aload_n 0, 1) := by decide +kernel
theorem dX3_visit_144 : decode cX3_visit 144 = .ok (.iconst 0, 1) := by decide +kernel
theorem dX3_visit_145 : decode cX3_visit 145 = .ok (.putfield 45, 3) := by decide +kernel
theorem dX3_visit_148 : decode cX3_visit 148 = .ok (.return_, 1) := by decide +kernel
theorem dX3_goHome_0 : decode cX3_goHome 0 = .ok (.aload_n 0, 1) := by decide +kernel
theorem dX3_goHome_1 : decode cX3_goHome 1 = .ok (.aload_n 1, 1) := by decide +kernel
theorem dX3_goHome_2 : decode cX3_goHome 2 = .ok (.aload_n 0, 1) := by decide +kernel
theorem dX3_goHome_3 : decode cX3_goHome 3 = .ok (.getfield 13, 3) := by decide +kernel
theorem dX3_goHome_6 : decode cX3_goHome 6 = .ok (.aload_n 2, 1) := by decide +kernel
theorem dX3_goHome_7 : decode cX3_goHome 7 = .ok (.getfield 7, 3) := by decide +kernel
theorem dX3_goHome_10 : decode cX3_goHome 10 = .ok (.invokevirtual 62, 3) := by decide +kernel
theorem dX3_goHome_13 : decode cX3_goHome 13 = .ok (.aload_n 2, 1) := by decide +kernel
theorem dX3_goHome_14 : decode cX3_goHome 14 = .ok (.getfield 7, 3) := by decide +kernel
theorem dX3_goHome_17 : decode cX3_goHome 17 = .ok (.invokevirtual 66, 3) := by decide +kernel
theorem dX3_goHome_20 : decode cX3_goHome 20 = .ok (.aload_n 0, 1) := by decide +kernel
theorem dX3_goHome_21 : decode cX3_goHome 21 = .ok (.getfield 21, 3) := by decide +kernel
theorem dX3_goHome_24 : decode cX3_goHome 24 = .ok (.aload_n 2, 1) := by decide +kernel
theorem dX3_goHome_25 : decode cX3_goHome 25 = .ok (.getfield 90, 3) := by decide +kernel
theorem dX3_goHome_28 : decode cX3_goHome 28 = .ok (.if_icmp .le 8, 3) := by decide +kernel
theorem dX3_goHome_31 : decode cX3_goHome 31 = .ok (.aload_n 0, 1) := by decide +kernel
theorem dX3_goHome_32 : decode cX3_goHome 32 = .ok (.iconst 0, 1) := by decide +kernel
theorem dX3_goHome_33 : decode cX3_goHome 33 = .ok (.putfield 45, 3) := by decide +kernel
theorem dX3_goHome_36 : decode cX3_goHome 36 = .ok (.return_, 1) := by decide +kernel
theorem dX3_ride_0 : decode cX3_ride 0 = .ok (.aload_n 0, 1) := by decide +kernel
theorem dX3_ride_1 : decode cX3_ride 1 = .ok (.aload_n 2, 1) := by decide +kernel
theorem dX3_ride_2 : decode cX3_ride 2 = .ok (.invokevirtual 93, 3) := by decide +kernel
theorem dX3_ride_5 : decode cX3_ride 5 = .ok (.iconst 0, 1) := by decide +kernel
theorem dX3_ride_6 : decode cX3_ride 6 = .ok (.istore 4, 2) := by decide +kernel
theorem dX3_ride_8 : decode cX3_ride 8 = .ok (.iload 4, 2) := by decide +kernel
theorem dX3_ride_10 : decode cX3_ride 10 = .ok (.aload_n 3, 1) := by decide +kernel
theorem dX3_ride_11 : decode cX3_ride 11 = .ok (.getfield 97, 3) := by decide +kernel
theorem dX3_ride_14 : decode cX3_ride 14 = .ok (.if_icmp .ge 21, 3) := by decide +kernel
theorem dX3_ride_17 : decode cX3_ride 17 = .ok (.aload_n 0, 1) := by decide +kernel
theorem dX3_ride_18 : decode cX3_ride 18 = .ok (.aload_n 1, 1) := by decide +kernel
theorem dX3_ride_19 : decode cX3_ride 19 = .ok (.aload_n 2, 1) := by decide +kernel
theorem dX3_ride_20 : decode cX3_ride 20 = .ok (.aload_n 3, 1) := by decide +kernel
theorem dX3_ride_21 : decode cX3_ride 21 = .ok (.iload 4, 2) := by decide +kernel
theorem dX3_ride_23 : decode cX3_ride 23 = .ok (.invokevirtual 102, 3) := by decide +kernel
theorem dX3_ride_26 : decode cX3_ride 26 = .ok (.invokevirtual 106, 3) := by decide +kernel
theorem dX3_ride_29 : decode cX3_ride 29 = .ok (.iinc 4 1, 3) := by decide +kernel
theorem dX3_ride_32 : decode cX3_ride 32 = .ok (.goto (-24), 3) := by decide +kernel
theorem dX3_ride_35 : decode cX3_ride 35 = .ok (.aload_n 0, 1) := by decide +kernel
theorem dX3_ride_36 : decode cX3_ride 36 = .ok (.aload_n 1, 1) := by decide +kernel
theorem dX3_ride_37 : decode cX3_ride 37 = .ok (.aload_n 2, 1) := by decide +kernel
theorem dX3_ride_38 : decode cX3_ride 38 = .ok (.invokevirtual 110, 3) := by decide +kernel
theorem dX3_ride_41 : decode cX3_ride 41 = .ok (.aload_n 3, 1) := by decide +kernel
theorem dX3_ride_42 : decode cX3_ride 42 = .ok (.getfield 97, 3) := by decide +kernel
theorem dX3_ride_45 : decode cX3_ride 45 = .ok (.ifCond .ne 7, 3) := by decide +kernel
theorem dX3_ride_48 : decode cX3_ride 48 = .ok (.iconst 0, 1) := by decide +kernel
theorem dX3_ride_49 : decode cX3_ride 49 = .ok (.goto 17, 3) := by decide +kernel
theorem dX3_ride_52 : decode cX3_ride 52 = .ok (.aload_n 2, 1) := by decide +kernel
theorem dX3_ride_53 : decode cX3_ride 53 = .ok (.getfield 114, 3) := by decide +kernel
theorem dX3_ride_56 : decode cX3_ride 56 = .ok (.aload_n 2, 1) := by decide +kernel
theorem dX3_ride_57 : decode cX3_ride 57 = .ok (.getfield 117, 3) := by decide +kernel
theorem dX3_ride_60 : decode cX3_ride 60 = .ok (.aload_n 0, 1) := by decide +kernel
theorem dX3_ride_61 : decode cX3_ride 61 = .ok (.getfield 39, 3) := by decide +kernel
theorem dX3_ride_64 : decode cX3_ride 64 = .ok (.imul, 1) := by decide +kernel
theorem dX3_ride_65 : decode cX3_ride 65 = .ok (.iadd, 1) := by decide +kernel
theorem dX3_ride_66 : decode cX3_ride 66 = .ok (.ireturn, 1) := by decide +kernel
theorem dX3_isRideRight_0 : decode cX3_isRideRight 0 = .ok (.aload_n 0, 1) := by decide +kernel
theorem dX3_isRideRight_1 : decode cX3_isRideRight 1 = .ok (.aload_n 2, 1) := by decide +kernel
theorem dX3_isRideRight_2 : decode cX3_isRideRight 2 = .ok (.invokevirtual 93, 3) := by decide +kernel
theorem dX3_isRideRight_5 : decode cX3_isRideRight 5 = .ok (.iconst 0, 1) := by decide +kernel
theorem dX3_isRideRight_6 : decode cX3_isRideRight 6 = .ok (.istore 4, 2) := by decide +kernel
theorem dX3_isRideRight_8 : decode cX3_isRideRight 8 = .ok (.iload 4, 2) := by decide +kernel
theorem dX3_isRideRight_10 : decode cX3_isRideRight 10 = .ok (.aload_n 3, 1) := by decide +kernel
theorem dX3_isRideRight_11 : decode cX3_isRideRight 11 = .ok (.getfield 97, 3) := by decide +kernel
theorem dX3_isRideRight_14 : decode cX3_isRideRight 14 = .ok (.if_icmp .ge 28, 3) := by decide +kernel
theorem dX3_isRideRight_17 : decode cX3_isRideRight 17 = .ok (.aload_n 0, 1) := by decide +kernel
theorem dX3_isRideRight_18 : decode cX3_isRideRight 18 = .ok (.getfield 45, 3) := by decide +kernel
theorem dX3_isRideRight_21 : decode cX3_isRideRight 21 = .ok (.ifCond .eq 21, 3) := by decide +kernel
theorem dX3_isRideRight_24 : decode cX3_isRideRight 24 = .ok (.aload_n 0, 1) := by decide +kernel
theorem dX3_isRideRight_25 : decode cX3_isRideRight 25 = .ok (.aload_n 1, 1) := by decide +kernel
theorem dX3_isRideRight_26 : decode cX3_isRideRight 26 = .ok (.aload_n 2, 1) := by decide +kernel
theorem dX3_isRideRight_27 : decode cX3_isRideRight 27 = .ok (.aload_n 3, 1) := by decide +kernel
theorem dX3_isRideRight_28 : decode cX3_isRideRight 28 = .ok (.iload 4, 2) := by decide +kernel
theorem dX3_isRideRight_30 : decode cX3_isRideRight 30 = .ok (.invokevirtual 102, 3) := by decide +kernel
theorem dX3_isRideRight_33 : decode cX3_isRideRight 33 = .ok (.invokevirtual 106, 3) := by decide +kernel
theorem dX3_isRideRight_36 : decode cX3_isRideRight 36 = .ok (.iinc 4 1, 3) := by decide +kernel
theorem dX3_isRideRight_39 : decode cX3_isRideRight 39 = .ok (.goto (-31), 3) := by decide +kernel
theorem dX3_isRideRight_42 : decode cX3_isRideRight 42 = .ok (.aload_n 0, 1) := by decide +kernel
theorem dX3_isRideRight_43 : decode cX3_isRideRight 43 = .ok (.aload_n 1, 1) := by decide +kernel
theorem dX3_isRideRight_44 : decode cX3_isRideRight 44 = .ok (.aload_n 2, 1) := by decide +kernel
theorem dX3_isRideRight_45 : decode cX3_isRideRight 45 = .ok (.invokevirtual 110, 3) := by decide +kernel
theorem dX3_isRideRight_48 : decode cX3_isRideRight 48 = .ok (.aload_n 0, 1) := by decide +kernel
theorem dX3_isRideRight_49 : decode cX3_isRideRight 49 = .ok (.getfield 45, 3) := by decide +kernel
theorem dX3_isRideRight_52 : decode cX3_isRideRight 52 = .ok (.ireturn, 1) := by decide +kernel
theorem dX3_isAllowed_0 : decode cX3_isAllowed 0 = .ok (.aload_n 0, 1) := by decide +kernel
theorem dX3_isAllowed_1 : decode cX3_isAllowed 1 = .ok (.getfield 45, 3) := by decide +kernel
theorem dX3_isAllowed_4 : decode cX3_isAllowed 4 = .ok (.ifCond .eq 18, 3) := by decide +kernel
theorem dX3_isAllowed_7 : decode cX3_isAllowed 7 = .ok (.aload_n 0, 1) := by decide +kernel
theorem dX3_isAllowed_8 : decode cX3_isAllowed 8 = .ok (.getfield 33, 3) := by decide +kernel
theorem dX3_isAllowed_11 : decode cX3_isAllowed 11 = .ok (.aload_n 1, 1) := by decide +kernel
theorem dX3_isAllowed_12 : decode cX3_isAllowed 12 = .ok (.getfield 120, 3) := by decide +kernel
theorem dX3_isAllowed_15 : decode cX3_isAllowed 15 = .ok (.if_icmp .ne 7, 3) := by decide +kernel
theorem dX3_isAllowed_18 : decode cX3_isAllowed 18 = .ok (.iconst 1, 1) := by decide +kernel
theorem dX3_isAllowed_19 : decode cX3_isAllowed 19 = .ok (.goto 4, 3) := by decide +kernel
theorem dX3_isAllowed_22 : decode cX3_isAllowed 22 = .ok (.iconst 0, 1) := by decide +kernel
theorem dX3_isAllowed_23 : decode cX3_isAllowed 23 = .ok (.ireturn, 1) := by decide +kernel
theorem dX4_init_0 : decode cX4_init 0 = .ok (.aload_n 0, 1) := by decide +kernel
theorem dX4_init_1 : decode cX4_init 1 = .ok (.invokespecial 1, 3) := by decide +kernel
theorem dX4_init_4 : decode cX4_init 4 = .ok (.aload_n 0, 1) := by decide +kernel
theorem dX4_init_5 : decode cX4_init 5 = .ok (.new 7, 3) := by decide +kernel
theorem dX4_init_8 : decode cX4_init 8 = .ok (.dup, 1) := by decide +kernel
theorem dX4_init_9 : decode cX4_init 9 = .ok (.invokespecial 9, 3) := by decide +kernel
theorem dX4_init_12 : decode cX4_init 12 = .ok (.putfield 10, 3) := by decide +kernel
theorem dX4_init_15 : decode cX4_init 15 = .ok (.aload_n 0, 1) := by decide +kernel
theorem dX4_init_16 : decode cX4_init 16 = .ok (.new 7, 3) := by decide +kernel
theorem dX4_init_19 : decode cX4_init 19 = .ok (.dup, 1) := by decide +kernel
theorem dX4_init_20 : decode cX4_init 20 = .ok (.invokespecial 9, 3) := by decide +kernel
theorem dX4_init_23 : decode cX4_init 23 = .ok (.putfield 16, 3) := by decide +kernel
theorem dX4_init_26 : decode cX4_init 26 = .ok (.aload_n 0, 1) := by decide +kernel
theorem dX4_init_27 : decode cX4_init 27 = .ok (.new 7, 3) := by decide +kernel
theorem dX4_init_30 : decode cX4_init 30 = .ok (.dup, 1) := by decide +kernel
theorem dX4_init_31 : decode cX4_init 31 = .ok (.invokespecial 9, 3) := by decide +kernel
theorem dX4_init_34 : decode cX4_init 34 = .ok (.putfield 19, 3) := by decide +kernel
theorem dX4_init_37 : decode cX4_init 37 = .ok (.return_, 1) := by decide +kernel
theorem dX5_init_0 : decode cX5_init 0 = .ok (.aload_n 0, 1) := by decide +kernel
theorem dX5_init_1 : decode cX5_init 1 = .ok (.invokespecial 3, 3) := by decide +kernel
theorem dX5_init_4 : decode cX5_init 4 = .ok (.aload_n 0, 1) := by decide +kernel
theorem dX5_init_5 : decode cX5_init 5 = .ok (.new 9, 3) := by decide +kernel
theorem dX5_init_8 : decode cX5_init 8 = .ok (.dup, 1) := by decide +kernel
theorem dX5_init_9 : decode cX5_init 9 = .ok (.invokespecial 11, 3) := by decide +kernel
theorem dX5_init_12 : decode cX5_init 12 = .ok (.putfield 12, 3) := by decide +kernel
theorem dX5_init_15 : decode cX5_init 15 = .ok (.aload_n 0, 1) := by decide +kernel
theorem dX5_init_16 : decode cX5_init 16 = .ok (.iconst 3, 1) := by decide +kernel
theorem dX5_init_17 : decode cX5_init 17 = .ok (.anewarray 16, 3) := by decide +kernel
theorem dX5_init_20 : decode cX5_init 20 = .ok (.putfield 18, 3) := by decide +kernel
theorem dX5_init_23 : decode cX5_init 23 = .ok (.iconst 0, 1) := by decide +kernel
theorem dX5_init_24 : decode cX5_init 24 = .ok (.istore_n 1, 1) := by decide +kernel
theorem dX5_init_25 : decode cX5_init 25 = .ok (.iload_n 1, 1) := by decide +kernel
theorem dX5_init_26 : decode cX5_init 26 = .ok (.aload_n 0, 1) := by decide +kernel
theorem dX5_init_27 : decode cX5_init 27 = .ok (.getfield 18, 3) := by decide +kernel
theorem dX5_init_30 : decode cX5_init 30 = .ok (.arraylength, 1) := by decide +kernel
theorem dX5_init_31 : decode cX5_init 31 = .ok (.if_icmp .ge 22, 3) := by decide +kernel
theorem dX5_init_34 : decode cX5_init 34 = .ok (.aload_n 0, 1) := by decide +kernel
theorem dX5_init_35 : decode cX5_init 35 = .ok (.getfield 18, 3) := by decide +kernel
theorem dX5_init_38 : decode cX5_init 38 = .ok (.iload_n 1, 1) := by decide +kernel
theorem dX5_init_39 : decode cX5_init 39 = .ok (.new 16, 3) := by decide +kernel
theorem dX5_init_42 : decode cX5_init 42 = .ok (.dup, 1) := by decide +kernel
theorem dX5_init_43 : decode cX5_init 43 = .ok (.invokespecial 22, 3) := by decide +kernel
theorem dX5_init_46 : decode cX5_init 46 = .ok (.aastore, 1) := by decide +kernel
theorem dX5_init_47 : decode cX5_init 47 = .ok (.iinc 1 1, 3) := by decide +kernel
theorem dX5_init_50 : decode cX5_init 50 = .ok (.goto (-25), 3) := by decide +kernel
theorem dX5_init_53 : decode cX5_init 53 = .ok (.aload_n 0, 1) := by decide +kernel
theorem dX5_init_54 : decode cX5_init 54 = .ok (.new 23, 3) := by decide +kernel
theorem dX5_init_57 : decode cX5_init 57 = .ok (.dup, 1) := by decide +kernel
theorem dX5_init_58 : decode cX5_init 58 = .ok (.invokespecial 25, 3) := by decide +kernel
theorem dX5_init_61 : decode cX5_init 61 = .ok (.putfield 26, 3) := by decide +kernel
theorem dX5_init_64 : decode cX5_init 64 = .ok (.aload_n 0, 1) := by decide +kernel
theorem dX5_init_65 : decode cX5_init 65 = .ok (.new 30, 3) := by decide +kernel
theorem dX5_init_68 : decode cX5_init 68 = .ok (.dup, 1) := by decide +kernel
theorem dX5_init_69 : decode cX5_init 69 = .ok (.invokespecial 32, 3) := by decide +kernel
theorem dX5_init_72 : decode cX5_init 72 = .ok (.putfield 33, 3) := by decide +kernel
theorem dX5_init_75 : decode cX5_init 75 = .ok (.aload_n 0, 1) := by decide +kernel
theorem dX5_init_76 : decode cX5_init 76 = .ok (.new 37, 3) := by decide +kernel
theorem dX5_init_79 : decode cX5_init 79 = .ok (.dup, 1) := by decide +kernel
theorem dX5_init_80 : decode cX5_init 80 = .ok (.invokespecial 39, 3) := by decide +kernel
theorem dX5_init_83 : decode cX5_init 83 = .ok (.putfield 40, 3) := by decide +kernel
theorem dX5_init_86 : decode cX5_init 86 = .ok (.aload_n 0, 1) := by decide +kernel
theorem dX5_init_87 : decode cX5_init 87 = .ok (.new 37, 3) := by decide +kernel
theorem dX5_init_90 : decode cX5_init 90 = .ok (.dup, 1) := by decide +kernel
theorem dX5_init_91 : decode cX5_init 91 = .ok (.invokespecial 39, 3) := by decide +kernel
theorem dX5_init_94 : decode cX5_init 94 = .ok (.putfield 44, 3) := by decide +kernel
theorem dX5_init_97 : decode cX5_init 97 = .ok (.aload_n 0, 1) := by decide +kernel
theorem dX5_init_98 : decode cX5_init 98 = .ok (.new 37, 3) := by decide +kernel
theorem dX5_init_101 : decode cX5_init 101 = .ok (.dup, 1) := by decide +kernel
theorem dX5_init_102 : decode cX5_init 102 = .ok (.invokespecial 39, 3) := by decide +kernel
theorem dX5_init_105 : decode cX5_init 105 = .ok (.putfield 47, 3) := by decide +kernel
theorem dX5_init_108 : decode cX5_init 108 = .ok (.return_, 1) := by decide +kernel
theorem dX5_addPlace_0 : decode cX5_addPlace 0 = .ok (.iload_n 1, 1) := by decide +kernel
theorem dX5_addPlace_1 : decode cX5_addPlace 1 = .ok (.iconst 0, 1) := by decide +kernel
theorem dX5_addPlace_2 : decode cX5_addPlace 2 = .ok (.bipush 60, 2) := by decide +kernel
theorem dX5_addPlace_4 : decode cX5_addPlace 4 = .ok (.invokestatic 50, 3) := by decide +kernel
theorem dX5_addPlace_7 : decode cX5_addPlace 7 = .ok (.ifCond .ne 13, 3) := by decide +kernel
theorem dX5_addPlace_10 : decode cX5_addPlace 10 = .ok (.iload_n 2, 1) := by decide +kernel
theorem dX5_addPlace_11 : decode cX5_addPlace 11 = .ok (.iconst 0, 1) := by decide +kernel
theorem dX5_addPlace_12 : decode cX5_addPlace 12 = .ok (.bipush 60, 2) := by decide +kernel
theorem dX5_addPlace_14 : decode cX5_addPlace 14 = .ok (.invokestatic 50, 3) := by decide +kernel
theorem dX5_addPlace_17 : decode cX5_addPlace 17 = .ok (.ifCond .eq 13, 3) := by decide +kernel
theorem dX5_addPlace_20 : decode cX5_addPlace 20 = .ok (.new 54, 3) := by decide +kernel
theorem dX5_addPlace_23 : decode cX5_addPlace 23 = .ok (.dup, 1) := by decide +kernel
theorem dX5_addPlace_24 : decode cX5_addPlace 24 = .ok (.ldc 56, 2) := by decide +kernel
theorem dX5_addPlace_26 : decode cX5_addPlace 26 = .ok (.invokespecial 58, 3) := by decide +kernel
theorem dX5_addPlace_29 : decode cX5_addPlace 29 = .ok (.athrow, 1) := by decide +kernel
theorem dX5_addPlace_30 : decode cX5_addPlace 30 = .ok (.aload_n 0, 1) := by decide +kernel
theorem dX5_addPlace_31 : decode cX5_addPlace 31 = .ok (.getfield 12, 3) := by decide +kernel
theorem dX5_addPlace_34 : decode cX5_addPlace 34 = .ok (.getfield 61, 3) := by decide +kernel
theorem dX5_addPlace_37 : decode cX5_addPlace 37 = .ok (.bipush 12, 2) := by decide +kernel
theorem dX5_addPlace_39 : decode cX5_addPlace 39 = .ok (.if_icmp .lt 13, 3) := by decide +kernel
theorem dX5_addPlace_42 : decode cX5_addPlace 42 = .ok (.new 65, 3) := by decide +kernel
theorem dX5_addPlace_45 : decode cX5_addPlace 45 = .ok (.dup, 1) := by decide +kernel
theorem dX5_addPlace_46 : decode cX5_addPlace 46 = .ok (.ldc 67, 2) := by decide +kernel
theorem dX5_addPlace_48 : decode cX5_addPlace 48 = .ok (.invokespecial 69, 3) := by decide +kernel
theorem dX5_addPlace_51 : decode cX5_addPlace 51 = .ok (.athrow, 1) := by decide +kernel
theorem dX5_addPlace_52 : decode cX5_addPlace 52 = .ok (.aload_n 0, 1) := by decide +kernel
theorem dX5_addPlace_53 : decode cX5_addPlace 53 = .ok (.getfield 12, 3) := by decide +kernel
theorem dX5_addPlace_56 : decode cX5_addPlace 56 = .ok (.iload_n 1, 1) := by decide +kernel
theorem dX5_addPlace_57 : decode cX5_addPlace 57 = .ok (.iload_n 2, 1) := by decide +kernel
theorem dX5_addPlace_58 : decode cX5_addPlace 58 = .ok (.invokevirtual 70, 3) := by decide +kernel
theorem dX5_addPlace_61 : decode cX5_addPlace 61 = .ok (.ireturn, 1) := by decide +kernel
theorem dX5_addVehicle_0 : decode cX5_addVehicle 0 = .ok (.aload_n 0, 1) := by decide +kernel
theorem dX5_addVehicle_1 : decode cX5_addVehicle 1 = .ok (.iload_n 1, 1) := by decide +kernel
theorem dX5_addVehicle_2 : decode cX5_addVehicle 2 = .ok (.invokevirtual 74, 3) := by decide +kernel
theorem dX5_addVehicle_5 : decode cX5_addVehicle 5 = .ok (.iload_n 2, 1) := by decide +kernel
theorem dX5_addVehicle_6 : decode cX5_addVehicle 6 = .ok (.iconst 1, 1) := by decide +kernel
theorem dX5_addVehicle_7 : decode cX5_addVehicle 7 = .ok (.bipush 50, 2) := by decide +kernel
theorem dX5_addVehicle_9 : decode cX5_addVehicle 9 = .ok (.invokestatic 50, 3) := by decide +kernel
theorem dX5_addVehicle_12 : decode cX5_addVehicle 12 = .ok (.ifCond .eq 13, 3) := by decide +kernel
theorem dX5_addVehicle_15 : decode cX5_addVehicle 15 = .ok (.new 54, 3) := by decide +kernel
theorem dX5_addVehicle_18 : decode cX5_addVehicle 18 = .ok (.dup, 1) := by decide +kernel
theorem dX5_addVehicle_19 : decode cX5_addVehicle 19 = .ok (.ldc 78, 2) := by decide +kernel
theorem dX5_addVehicle_21 : decode cX5_addVehicle 21 = .ok (.invokespecial 58, 3) := by decide +kernel
theorem dX5_addVehicle_24 : decode cX5_addVehicle 24 = .ok (.athrow, 1) := by decide +kernel
theorem dX5_addVehicle_25 : decode cX5_addVehicle 25 = .ok (.iload_n 3, 1) := by decide +kernel
theorem dX5_addVehicle_26 : decode cX5_addVehicle 26 = .ok (.iload 4, 2) := by decide +kernel
theorem dX5_addVehicle_28 : decode cX5_addVehicle 28 = .ok (.invokestatic 80, 3) := by decide +kernel
theorem dX5_addVehicle_31 : decode cX5_addVehicle 31 = .ok (.iload 5, 2) := by decide +kernel
theorem dX5_addVehicle_33 : decode cX5_addVehicle 33 = .ok (.iconst 1, 1) := by decide +kernel
theorem dX5_addVehicle_34 : decode cX5_addVehicle 34 = .ok (.bipush 9, 2) := by decide +kernel
theorem dX5_addVehicle_36 : decode cX5_addVehicle 36 = .ok (.invokestatic 50, 3) := by decide +kernel
theorem dX5_addVehicle_39 : decode cX5_addVehicle 39 = .ok (.ifCond .ne 15, 3) := by decide +kernel
theorem dX5_addVehicle_42 : decode cX5_addVehicle 42 = .ok (.iload 6, 2) := by decide +kernel
theorem dX5_addVehicle_44 : decode cX5_addVehicle 44 = .ok (.iconst 0, 1) := by decide +kernel
theorem dX5_addVehicle_45 : decode cX5_addVehicle 45 = .ok (.sipush 200, 3) := by decide +kernel
theorem dX5_addVehicle_48 : decode cX5_addVehicle 48 = .ok (.invokestatic 50, 3) := by decide +kernel
theorem dX5_addVehicle_51 : decode cX5_addVehicle 51 = .ok (.ifCond .eq 13, 3) := by decide +kernel
theorem dX5_addVehicle_54 : decode cX5_addVehicle 54 = .ok (.new 54, 3) := by decide +kernel
theorem dX5_addVehicle_57 : decode cX5_addVehicle 57 = .ok (.dup, 1) := by decide +kernel
theorem dX5_addVehicle_58 : decode cX5_addVehicle 58 = .ok (.ldc 84, 2) := by decide +kernel
theorem dX5_addVehicle_60 : decode cX5_addVehicle 60 = .ok (.invokespecial 58, 3) := by decide +kernel
theorem dX5_addVehicle_63 : decode cX5_addVehicle 63 = .ok (.athrow, 1) := by decide +kernel
theorem dX5_addVehicle_64 : decode cX5_addVehicle 64 = .ok (.aload_n 0, 1) := by decide +kernel
theorem dX5_addVehicle_65 : decode cX5_addVehicle 65 = .ok (.getfield 86, 3) := by decide +kernel
theorem dX5_addVehicle_68 : decode cX5_addVehicle 68 = .ok (.aload_n 0, 1) := by decide +kernel
theorem dX5_addVehicle_69 : decode cX5_addVehicle 69 = .ok (.getfield 18, 3) := by decide +kernel
theorem dX5_addVehicle_72 : decode cX5_addVehicle 72 = .ok (.arraylength, 1) := by decide +kernel
theorem dX5_addVehicle_73 : decode cX5_addVehicle 73 = .ok (.if_icmp .lt 13, 3) := by decide +kernel
theorem dX5_addVehicle_76 : decode cX5_addVehicle 76 = .ok (.new 65, 3) := by decide +kernel
theorem dX5_addVehicle_79 : decode cX5_addVehicle 79 = .ok (.dup, 1) := by decide +kernel
theorem dX5_addVehicle_80 : decode cX5_addVehicle 80 = .ok (.ldc 89, 2) := by decide +kernel
theorem dX5_addVehicle_82 : decode cX5_addVehicle 82 = .ok (.invokespecial 69, 3) := by decide +kernel
theorem dX5_addVehicle_85 : decode cX5_addVehicle 85 = .ok (.athrow, 1) := by decide +kernel
theorem dX5_addVehicle_86 : decode cX5_addVehicle 86 = .ok (.aload_n 0, 1) := by decide +kernel
theorem dX5_addVehicle_87 : decode cX5_addVehicle 87 = .ok (.getfield 18, 3) := by decide +kernel
theorem dX5_addVehicle_90 : decode cX5_addVehicle 90 = .ok (.aload_n 0, 1) := by decide +kernel
theorem dX5_addVehicle_91 : decode cX5_addVehicle 91 = .ok (.getfield 86, 3) := by decide +kernel
theorem dX5_addVehicle_94 : decode cX5_addVehicle 94 = .ok (.aaload, 1) := by decide +kernel
theorem dX5_addVehicle_95 : decode cX5_addVehicle 95 = .ok (.astore 7, 2) := by decide +kernel
theorem dX5_addVehicle_97 : decode cX5_addVehicle 97 = .ok (.aload 7, 2) := by decide +kernel
theorem dX5_addVehicle_99 : decode cX5_addVehicle 99 = .ok (.iload_n 1, 1) := by decide +kernel
theorem dX5_addVehicle_100 : decode cX5_addVehicle 100 = .ok (.putfield 91, 3) := by decide +kernel
theorem dX5_addVehicle_103 : decode cX5_addVehicle 103 = .ok (.aload 7, 2) := by decide +kernel
theorem dX5_addVehicle_105 : decode cX5_addVehicle 105 = .ok (.iload_n 2, 1) := by decide +kernel
theorem dX5_addVehicle_106 : decode cX5_addVehicle 106 = .ok (.putfield 94, 3) := by decide +kernel
theorem dX5_addVehicle_109 : decode cX5_addVehicle 109 = .ok (.aload 7, 2) := by decide +kernel
theorem dX5_addVehicle_111 : decode cX5_addVehicle 111 = .ok (.iload_n 3, 1) := by decide +kernel
theorem dX5_addVehicle_112 : decode cX5_addVehicle 112 = .ok (.putfield 97, 3) := by decide +kernel
theorem dX5_addVehicle_115 : decode cX5_addVehicle 115 = .ok (.aload 7, 2) := by decide +kernel
theorem dX5_addVehicle_117 : decode cX5_addVehicle 117 = .ok (.iload 4, 2) := by decide +kernel
theorem dX5_addVehicle_119 : decode cX5_addVehicle 119 = .ok (.putfield 100, 3) := by decide +kernel
theorem dX5_addVehicle_122 : decode cX5_addVehicle 122 = .ok (.aload 7, 2) := by decide +kernel
theorem dX5_addVehicle_124 : decode cX5_addVehicle 124 = .ok (.iload 5, 2) := by decide +kernel
theorem dX5_addVehicle_126 : decode cX5_addVehicle 126 = .ok (.putfield 103, 3) := by decide +kernel
theorem dX5_addVehicle_129 : decode cX5_addVehicle 129 = .ok (.aload 7, 2) := by decide +kernel
theorem dX5_addVehicle_131 : decode cX5_addVehicle 131 = .ok (.iload 6, 2) := by decide +kernel
theorem dX5_addVehicle_133 : decode cX5_addVehicle 133 = .ok (.putfield 106, 3) := by decide +kernel
theorem dX5_addVehicle_136 : decode cX5_addVehicle 136 = .ok (.aload_n 0, 1) := by decide +kernel
theorem dX5_addVehicle_137 : decode cX5_addVehicle 137 = .ok (.dup, 1) := by decide +kernel
theorem dX5_addVehicle_138 : decode cX5_addVehicle 138 = .ok (.getfield 86, 3) := by decide +kernel
theorem dX5_addVehicle_141 : decode cX5_addVehicle 141 = .ok (.iconst 1, 1) := by decide +kernel
theorem dX5_addVehicle_142 : decode cX5_addVehicle 142 = .ok (.iadd, 1) := by decide +kernel
theorem dX5_addVehicle_143 : decode cX5_addVehicle 143 = .ok (.putfield 86, 3) := by decide +kernel
theorem dX5_addVehicle_146 : decode cX5_addVehicle 146 = .ok (.aload_n 0, 1) := by decide +kernel
theorem dX5_addVehicle_147 : decode cX5_addVehicle 147 = .ok (.getfield 86, 3) := by decide +kernel
theorem dX5_addVehicle_150 : decode cX5_addVehicle 150 = .ok (.iconst 1, 1) := by decide +kernel
theorem dX5_addVehicle_151 : decode cX5_addVehicle 151 = .ok (.isub, 1) := by decide +kernel
theorem dX5_addVehicle_152 : decode cX5_addVehicle 152 = .ok (.ireturn, 1) := by decide +kernel
theorem dX5_addJob_0 : decode cX5_addJob 0 = .ok (.aload_n 0, 1) := by decide +kernel
theorem dX5_addJob_1 : decode cX5_addJob 1 = .ok (.iload_n 1, 1) := by decide +kernel
theorem dX5_addJob_2 : decode cX5_addJob 2 = .ok (.invokevirtual 74, 3) := by decide +kernel
theorem dX5_addJob_5 : decode cX5_addJob 5 = .ok (.aload_n 0, 1) := by decide +kernel
theorem dX5_addJob_6 : decode cX5_addJob 6 = .ok (.iload_n 2, 1) := by decide +kernel
theorem dX5_addJob_7 : decode cX5_addJob 7 = .ok (.invokevirtual 74, 3) := by decide +kernel
theorem dX5_addJob_10 : decode cX5_addJob 10 = .ok (.iload_n 3, 1) := by decide +kernel
theorem dX5_addJob_11 : decode cX5_addJob 11 = .ok (.iconst 1, 1) := by decide +kernel
theorem dX5_addJob_12 : decode cX5_addJob 12 = .ok (.bipush 20, 2) := by decide +kernel
theorem dX5_addJob_14 : decode cX5_addJob 14 = .ok (.invokestatic 50, 3) := by decide +kernel
theorem dX5_addJob_17 : decode cX5_addJob 17 = .ok (.ifCond .ne 26, 3) := by decide +kernel
theorem dX5_addJob_20 : decode cX5_addJob 20 = .ok (.iload 4, 2) := by decide +kernel
theorem dX5_addJob_22 : decode cX5_addJob 22 = .ok (.iconst 0, 1) := by decide +kernel
theorem dX5_addJob_23 : decode cX5_addJob 23 = .ok (.bipush 30, 2) := by decide +kernel
theorem dX5_addJob_25 : decode cX5_addJob 25 = .ok (.invokestatic 50, 3) := by decide +kernel
theorem dX5_addJob_28 : decode cX5_addJob 28 = .ok (.ifCond .ne 15, 3) := by decide +kernel
theorem dX5_addJob_31 : decode cX5_addJob 31 = .ok (.iload 5, 2) := by decide +kernel
theorem dX5_addJob_33 : decode cX5_addJob 33 = .ok (.iconst 0, 1) := by decide +kernel
theorem dX5_addJob_34 : decode cX5_addJob 34 = .ok (.sipush 999, 3) := by decide +kernel
theorem dX5_addJob_37 : decode cX5_addJob 37 = .ok (.invokestatic 50, 3) := by decide +kernel
theorem dX5_addJob_40 : decode cX5_addJob 40 = .ok (.ifCond .eq 13, 3) := by decide +kernel
theorem dX5_addJob_43 : decode cX5_addJob 43 = .ok (.new 54, 3) := by decide +kernel
theorem dX5_addJob_46 : decode cX5_addJob 46 = .ok (.dup, 1) := by decide +kernel
theorem dX5_addJob_47 : decode cX5_addJob 47 = .ok (.ldc 109, 2) := by decide +kernel
theorem dX5_addJob_49 : decode cX5_addJob 49 = .ok (.invokespecial 58, 3) := by decide +kernel
theorem dX5_addJob_52 : decode cX5_addJob 52 = .ok (.athrow, 1) := by decide +kernel
theorem dX5_addJob_53 : decode cX5_addJob 53 = .ok (.aload_n 0, 1) := by decide +kernel
theorem dX5_addJob_54 : decode cX5_addJob 54 = .ok (.getfield 12, 3) := by decide +kernel
theorem dX5_addJob_57 : decode cX5_addJob 57 = .ok (.getfield 111, 3) := by decide +kernel
theorem dX5_addJob_60 : decode cX5_addJob 60 = .ok (.bipush 9, 2) := by decide +kernel
theorem dX5_addJob_62 : decode cX5_addJob 62 = .ok (.if_icmp .lt 13, 3) := by decide +kernel
theorem dX5_addJob_65 : decode cX5_addJob 65 = .ok (.new 65, 3) := by decide +kernel
theorem dX5_addJob_68 : decode cX5_addJob 68 = .ok (.dup, 1) := by decide +kernel
theorem dX5_addJob_69 : decode cX5_addJob 69 = .ok (.ldc 114, 2) := by decide +kernel
theorem dX5_addJob_71 : decode cX5_addJob 71 = .ok (.invokespecial 69, 3) := by decide +kernel
theorem dX5_addJob_74 : decode cX5_addJob 74 = .ok (.athrow, 1) := by decide +kernel
theorem dX5_addJob_75 : decode cX5_addJob 75 = .ok (.aload_n 0, 1) := by decide +kernel
theorem dX5_addJob_76 : decode cX5_addJob 76 = .ok (.getfield 12, 3) := by decide +kernel
theorem dX5_addJob_79 : decode cX5_addJob 79 = .ok (.iload_n 1, 1) := by decide +kernel
theorem dX5_addJob_80 : decode cX5_addJob 80 = .ok (.iload_n 2, 1) := by decide +kernel
theorem dX5_addJob_81 : decode cX5_addJob 81 = .ok (.iload_n 3, 1) := by decide +kernel
theorem dX5_addJob_82 : decode cX5_addJob 82 = .ok (.iload 4, 2) := by decide +kernel
theorem dX5_addJob_84 : decode cX5_addJob 84 = .ok (.iload 5, 2) := by decide +kernel
theorem dX5_addJob_86 : decode cX5_addJob 86 = .ok (.invokevirtual 116, 3) := by decide +kernel
theorem dX5_addJob_89 : decode cX5_addJob 89 = .ok (.ireturn, 1) := by decide +kernel
theorem dX5_setHours_0 : decode cX5_setHours 0 = .ok (.aload_n 0, 1) := by decide +kernel
theorem dX5_setHours_1 : decode cX5_setHours 1 = .ok (.iload_n 1, 1) := by decide +kernel
theorem dX5_setHours_2 : decode cX5_setHours 2 = .ok (.invokevirtual 120, 3) := by decide +kernel
theorem dX5_setHours_5 : decode cX5_setHours 5 = .ok (.iload_n 3, 1) := by decide +kernel
theorem dX5_setHours_6 : decode cX5_setHours 6 = .ok (.iload 4, 2) := by decide +kernel
theorem dX5_setHours_8 : decode cX5_setHours 8 = .ok (.invokestatic 80, 3) := by decide +kernel
theorem dX5_setHours_11 : decode cX5_setHours 11 = .ok (.aload_n 0, 1) := by decide +kernel
theorem dX5_setHours_12 : decode cX5_setHours 12 = .ok (.iload_n 1, 1) := by decide +kernel
theorem dX5_setHours_13 : decode cX5_setHours 13 = .ok (.invokevirtual 123, 3) := by decide +kernel
theorem dX5_setHours_16 : decode cX5_setHours 16 = .ok (.ifCond .eq 13, 3) := by decide +kernel
theorem dX5_setHours_19 : decode cX5_setHours 19 = .ok (.new 65, 3) := by decide +kernel
theorem dX5_setHours_22 : decode cX5_setHours 22 = .ok (.dup, 1) := by decide +kernel
theorem dX5_setHours_23 : decode cX5_setHours 23 = .ok (.ldc 127, 2) := by decide +kernel
theorem dX5_setHours_25 : decode cX5_setHours 25 = .ok (.invokespecial 69, 3) := by decide +kernel
theorem dX5_setHours_28 : decode cX5_setHours 28 = .ok (.athrow, 1) := by decide +kernel
theorem dX5_setHours_29 : decode cX5_setHours 29 = .ok (.aload_n 0, 1) := by decide +kernel
theorem dX5_setHours_30 : decode cX5_setHours 30 = .ok (.getfield 12, 3) := by decide +kernel
theorem dX5_setHours_33 : decode cX5_setHours 33 = .ok (.iload_n 2, 1) := by decide +kernel
theorem dX5_setHours_34 : decode cX5_setHours 34 = .ok (.ifCond .eq 10, 3) := by decide +kernel
theorem dX5_setHours_37 : decode cX5_setHours 37 = .ok (.iload_n 1, 1) := by decide +kernel
theorem dX5_setHours_38 : decode cX5_setHours 38 = .ok (.invokestatic 129, 3) := by decide +kernel
theorem dX5_setHours_41 : decode cX5_setHours 41 = .ok (.goto 7, 3) := by decide +kernel
theorem dX5_setHours_44 : decode cX5_setHours 44 = .ok (.iload_n 1, 1) := by decide +kernel
theorem dX5_setHours_45 : decode cX5_setHours 45 = .ok (.invokestatic 133, 3) := by decide +kernel
theorem dX5_setHours_48 : decode cX5_setHours 48 = .ok (.iload_n 3, 1) := by decide +kernel
theorem dX5_setHours_49 : decode cX5_setHours 49 = .ok (.iload 4, 2) := by decide +kernel
theorem dX5_setHours_51 : decode cX5_setHours 51 = .ok (.invokevirtual 136, 3) := by decide +kernel
theorem dX5_setHours_54 : decode cX5_setHours 54 = .ok (.aload_n 0, 1) := by decide +kernel
theorem dX5_setHours_55 : decode cX5_setHours 55 = .ok (.invokevirtual 140, 3) := by decide +kernel
theorem dX5_setHours_58 : decode cX5_setHours 58 = .ok (.ireturn, 1) := by decide +kernel
theorem dX5_insert_0 : decode cX5_insert 0 = .ok (.aload_n 0, 1) := by decide +kernel
theorem dX5_insert_1 : decode cX5_insert 1 = .ok (.iload_n 1, 1) := by decide +kernel
theorem dX5_insert_2 : decode cX5_insert 2 = .ok (.invokevirtual 120, 3) := by decide +kernel
theorem dX5_insert_5 : decode cX5_insert 5 = .ok (.aload_n 0, 1) := by decide +kernel
theorem dX5_insert_6 : decode cX5_insert 6 = .ok (.iload_n 1, 1) := by decide +kernel
theorem dX5_insert_7 : decode cX5_insert 7 = .ok (.invokevirtual 144, 3) := by decide +kernel
theorem dX5_insert_10 : decode cX5_insert 10 = .ok (.aload_n 0, 1) := by decide +kernel
theorem dX5_insert_11 : decode cX5_insert 11 = .ok (.iload_n 1, 1) := by decide +kernel
theorem dX5_insert_12 : decode cX5_insert 12 = .ok (.invokevirtual 147, 3) := by decide +kernel
theorem dX5_insert_15 : decode cX5_insert 15 = .ok (.aload_n 0, 1) := by decide +kernel
theorem dX5_insert_16 : decode cX5_insert 16 = .ok (.aload_n 0, 1) := by decide +kernel
theorem dX5_insert_17 : decode cX5_insert 17 = .ok (.getfield 44, 3) := by decide +kernel
theorem dX5_insert_20 : decode cX5_insert 20 = .ok (.invokevirtual 150, 3) := by decide +kernel
theorem dX5_insert_23 : decode cX5_insert 23 = .ok (.aload_n 0, 1) := by decide +kernel
theorem dX5_insert_24 : decode cX5_insert 24 = .ok (.getfield 44, 3) := by decide +kernel
theorem dX5_insert_27 : decode cX5_insert 27 = .ok (.getfield 154, 3) := by decide +kernel
theorem dX5_insert_30 : decode cX5_insert 30 = .ok (.ireturn, 1) := by decide +kernel
theorem dX5_insertAt_0 : decode cX5_insertAt 0 = .ok (.aload_n 0, 1) := by decide +kernel
theorem dX5_insertAt_1 : decode cX5_insertAt 1 = .ok (.iload_n 1, 1) := by decide +kernel
theorem dX5_insertAt_2 : decode cX5_insertAt 2 = .ok (.invokevirtual 120, 3) := by decide +kernel
theorem dX5_insertAt_5 : decode cX5_insertAt 5 = .ok (.aload_n 0, 1) := by decide +kernel
theorem dX5_insertAt_6 : decode cX5_insertAt 6 = .ok (.iload_n 2, 1) := by decide +kernel
theorem dX5_insertAt_7 : decode cX5_insertAt 7 = .ok (.invokevirtual 157, 3) := by decide +kernel
theorem dX5_insertAt_10 : decode cX5_insertAt 10 = .ok (.aload_n 0, 1) := by decide +kernel
theorem dX5_insertAt_11 : decode cX5_insertAt 11 = .ok (.getfield 18, 3) := by decide +kernel
theorem dX5_insertAt_14 : decode cX5_insertAt 14 = .ok (.iload_n 2, 1) := by decide +kernel
theorem dX5_insertAt_15 : decode cX5_insertAt 15 = .ok (.aaload, 1) := by decide +kernel
theorem dX5_insertAt_16 : decode cX5_insertAt 16 = .ok (.astore 5, 2) := by decide +kernel
theorem dX5_insertAt_18 : decode cX5_insertAt 18 = .ok (.iload_n 3, 1) := by decide +kernel
theorem dX5_insertAt_19 : decode cX5_insertAt 19 = .ok (.ifCond .lt 24, 3) := by decide +kernel
theorem dX5_insertAt_22 : decode cX5_insertAt 22 = .ok (.iload 4, 2) := by decide +kernel
theorem dX5_insertAt_24 : decode cX5_insertAt 24 = .ok (.iload_n 3, 1) := by decide +kernel
theorem dX5_insertAt_25 : decode cX5_insertAt 25 = .ok (.if_icmp .le 18, 3) := by decide +kernel
theorem dX5_insertAt_28 : decode cX5_insertAt 28 = .ok (.iload 4, 2) := by decide +kernel
theorem dX5_insertAt_30 : decode cX5_insertAt 30 = .ok (.aload 5, 2) := by decide +kernel
theorem dX5_insertAt_32 : decode cX5_insertAt 32 = .ok (.getfield 160, 3) := by decide +kernel
theorem dX5_insertAt_35 : decode cX5_insertAt 35 = .ok (.getfield 163, 3) := by decide +kernel
theorem dX5_insertAt_38 : decode cX5_insertAt 38 = .ok (.iconst 1, 1) := by decide +kernel
theorem dX5_insertAt_39 : decode cX5_insertAt 39 = .ok (.iadd, 1) := by decide +kernel
theorem dX5_insertAt_40 : decode cX5_insertAt 40 = .ok (.if_icmp .le 13, 3) := by decide +kernel
theorem dX5_insertAt_43 : decode cX5_insertAt 43 = .ok (.new 54, 3) := by decide +kernel
theorem dX5_insertAt_46 : decode cX5_insertAt 46 = .ok (.dup, 1) := by decide +kernel
theorem dX5_insertAt_47 : decode cX5_insertAt 47 = .ok (.ldc 166, 2) := by decide +kernel
theorem dX5_insertAt_49 : decode cX5_insertAt 49 = .ok (.invokespecial 58, 3) := by decide +kernel
theorem dX5_insertAt_52 : decode cX5_insertAt 52 = .ok (.athrow, 1) := by decide +kernel
theorem dX5_insertAt_53 : decode cX5_insertAt 53 = .ok (.aload_n 0, 1) := by decide +kernel
theorem dX5_insertAt_54 : decode cX5_insertAt 54 = .ok (.iload_n 1, 1) := by decide +kernel
theorem dX5_insertAt_55 : decode cX5_insertAt 55 = .ok (.invokevirtual 144, 3) := by decide +kernel
theorem dX5_insertAt_58 : decode cX5_insertAt 58 = .ok (.aload 5, 2) := by decide +kernel
theorem dX5_insertAt_60 : decode cX5_insertAt 60 = .ok (.getfield 168, 3) := by decide +kernel
theorem dX5_insertAt_63 : decode cX5_insertAt 63 = .ok (.aload 5, 2) := by decide +kernel
theorem dX5_insertAt_65 : decode cX5_insertAt 65 = .ok (.getfield 160, 3) := by decide +kernel
theorem dX5_insertAt_68 : decode cX5_insertAt 68 = .ok (.iload_n 1, 1) := by decide +kernel
theorem dX5_insertAt_69 : decode cX5_insertAt 69 = .ok (.iload_n 3, 1) := by decide +kernel
theorem dX5_insertAt_70 : decode cX5_insertAt 70 = .ok (.iload 4, 2) := by decide +kernel
theorem dX5_insertAt_72 : decode cX5_insertAt 72 = .ok (.invokevirtual 171, 3) := by decide +kernel
theorem dX5_insertAt_75 : decode cX5_insertAt 75 = .ok (.aload_n 0, 1) := by decide +kernel
theorem dX5_insertAt_76 : decode cX5_insertAt 76 = .ok (.getfield 26, 3) := by decide +kernel
theorem dX5_insertAt_79 : decode cX5_insertAt 79 = .ok (.aload_n 0, 1) := by decide +kernel
theorem dX5_insertAt_80 : decode cX5_insertAt 80 = .ok (.getfield 12, 3) := by decide +kernel
theorem dX5_insertAt_83 : decode cX5_insertAt 83 = .ok (.aload 5, 2) := by decide +kernel
theorem dX5_insertAt_85 : decode cX5_insertAt 85 = .ok (.aload 5, 2) := by decide +kernel
theorem dX5_insertAt_87 : decode cX5_insertAt 87 = .ok (.getfield 168, 3) := by decide +kernel
theorem dX5_insertAt_90 : decode cX5_insertAt 90 = .ok (.invokevirtual 175, 3) := by decide +kernel
theorem dX5_insertAt_93 : decode cX5_insertAt 93 = .ok (.pop, 1) := by decide +kernel
theorem dX5_insertAt_94 : decode cX5_insertAt 94 = .ok (.iload_n 3, 1) := by decide +kernel
theorem dX5_insertAt_95 : decode cX5_insertAt 95 = .ok (.aload 5, 2) := by decide +kernel
theorem dX5_insertAt_97 : decode cX5_insertAt 97 = .ok (.getfield 179, 3) := by decide +kernel
theorem dX5_insertAt_100 : decode cX5_insertAt 100 = .ok (.if_icmp .lt 15, 3) := by decide +kernel
theorem dX5_insertAt_103 : decode cX5_insertAt 103 = .ok (.aload_n 0, 1) := by decide +kernel
theorem dX5_insertAt_104 : decode cX5_insertAt 104 = .ok (.getfield 26, 3) := by decide +kernel
theorem dX5_insertAt_107 : decode cX5_insertAt 107 = .ok (.aload 5, 2) := by decide +kernel
theorem dX5_insertAt_109 : decode cX5_insertAt 109 = .ok (.invokevirtual 182, 3) := by decide +kernel
theorem dX5_insertAt_112 : decode cX5_insertAt 112 = .ok (.ifCond .ne 5, 3) := by decide +kernel
theorem dX5_insertAt_115 : decode cX5_insertAt 115 = .ok (.iconst (-1), 1) := by decide +kernel
theorem dX5_insertAt_116 : decode cX5_insertAt 116 = .ok (.ireturn, 1) := by decide +kernel
theorem dX5_insertAt_117 : decode cX5_insertAt 117 = .ok (.aload_n 0, 1) := by decide +kernel
theorem dX5_insertAt_118 : decode cX5_insertAt 118 = .ok (.aload 5, 2) := by decide +kernel
theorem dX5_insertAt_120 : decode cX5_insertAt 120 = .ok (.aload 5, 2) := by decide +kernel
theorem dX5_insertAt_122 : decode cX5_insertAt 122 = .ok (.getfield 160, 3) := by decide +kernel
theorem dX5_insertAt_125 : decode cX5_insertAt 125 = .ok (.iload_n 1, 1) := by decide +kernel
theorem dX5_insertAt_126 : decode cX5_insertAt 126 = .ok (.iload_n 3, 1) := by decide +kernel
theorem dX5_insertAt_127 : decode cX5_insertAt 127 = .ok (.iload 4, 2) := by decide +kernel
theorem dX5_insertAt_129 : decode cX5_insertAt 129 = .ok (.invokevirtual 186, 3) := by decide +kernel
theorem dX5_insertAt_132 : decode cX5_insertAt 132 = .ok (.istore 6, 2) := by decide +kernel
theorem dX5_insertAt_134 : decode cX5_insertAt 134 = .ok (.aload 5, 2) := by decide +kernel
theorem dX5_insertAt_136 : decode cX5_insertAt 136 = .ok (.getfield 160, 3) := by decide +kernel
theorem dX5_insertAt_139 : decode cX5_insertAt 139 = .ok (.aload 5, 2) := by decide +kernel
theorem dX5_insertAt_141 : decode cX5_insertAt 141 = .ok (.getfield 168, 3) := by decide +kernel
theorem dX5_insertAt_144 : decode cX5_insertAt 144 = .ok (.invokevirtual 190, 3) := by decide +kernel
theorem dX5_insertAt_147 : decode cX5_insertAt 147 = .ok (.iload 6, 2) := by decide +kernel
theorem dX5_insertAt_149 : decode cX5_insertAt 149 = .ok (.ireturn, 1) := by decide +kernel
theorem dX5_take_0 : decode cX5_take 0 = .ok (.aload_n 0, 1) := by decide +kernel
theorem dX5_take_1 : decode cX5_take 1 = .ok (.iload_n 1, 1) := by decide +kernel
theorem dX5_take_2 : decode cX5_take 2 = .ok (.invokevirtual 120, 3) := by decide +kernel
theorem dX5_take_5 : decode cX5_take 5 = .ok (.aload_n 0, 1) := by decide +kernel
theorem dX5_take_6 : decode cX5_take 6 = .ok (.iload_n 1, 1) := by decide +kernel
theorem dX5_take_7 : decode cX5_take 7 = .ok (.invokevirtual 194, 3) := by decide +kernel
theorem dX5_take_10 : decode cX5_take 10 = .ok (.iconst (-1), 1) := by decide +kernel
theorem dX5_take_11 : decode cX5_take 11 = .ok (.if_icmp .eq 11, 3) := by decide +kernel
theorem dX5_take_14 : decode cX5_take 14 = .ok (.aload_n 0, 1) := by decide +kernel
theorem dX5_take_15 : decode cX5_take 15 = .ok (.iload_n 1, 1) := by decide +kernel
theorem dX5_take_16 : decode cX5_take 16 = .ok (.invokevirtual 123, 3) := by decide +kernel
theorem dX5_take_19 : decode cX5_take 19 = .ok (.ifCond .eq 13, 3) := by decide +kernel
theorem dX5_take_22 : decode cX5_take 22 = .ok (.new 65, 3) := by decide +kernel
theorem dX5_take_25 : decode cX5_take 25 = .ok (.dup, 1) := by decide +kernel
theorem dX5_take_26 : decode cX5_take 26 = .ok (.ldc 197, 2) := by decide +kernel
theorem dX5_take_28 : decode cX5_take 28 = .ok (.invokespecial 69, 3) := by decide +kernel
theorem dX5_take_31 : decode cX5_take 31 = .ok (.athrow, 1) := by decide +kernel
theorem dX5_take_32 : decode cX5_take 32 = .ok (.aload_n 0, 1) := by decide +kernel
theorem dX5_take_33 : decode cX5_take 33 = .ok (.iload_n 1, 1) := by decide +kernel
theorem dX5_take_34 : decode cX5_take 34 = .ok (.invokevirtual 199, 3) := by decide +kernel
theorem dX5_take_37 : decode cX5_take 37 = .ok (.istore_n 2, 1) := by decide +kernel
theorem dX5_take_38 : decode cX5_take 38 = .ok (.aload_n 0, 1) := by decide +kernel
theorem dX5_take_39 : decode cX5_take 39 = .ok (.iload_n 1, 1) := by decide +kernel
theorem dX5_take_40 : decode cX5_take 40 = .ok (.invokevirtual 202, 3) := by decide +kernel
theorem dX5_take_43 : decode cX5_take 43 = .ok (.iload_n 2, 1) := by decide +kernel
theorem dX5_take_44 : decode cX5_take 44 = .ok (.ireturn, 1) := by decide +kernel
theorem dX5_rebuild_0 : decode cX5_rebuild 0 = .ok (.iconst 0, 1) := by decide +kernel
theorem dX5_rebuild_1 : decode cX5_rebuild 1 = .ok (.istore_n 1, 1) := by decide +kernel
theorem dX5_rebuild_2 : decode cX5_rebuild 2 = .ok (.iload_n 1, 1) := by decide +kernel
theorem dX5_rebuild_3 : decode cX5_rebuild 3 = .ok (.bipush 9, 2) := by decide +kernel
theorem dX5_rebuild_5 : decode cX5_rebuild 5 = .ok (.if_icmp .ge 24, 3) := by decide +kernel
theorem dX5_rebuild_8 : decode cX5_rebuild 8 = .ok (.aload_n 0, 1) := by decide +kernel
theorem dX5_rebuild_9 : decode cX5_rebuild 9 = .ok (.invokevirtual 205, 3) := by decide +kernel
theorem dX5_rebuild_12 : decode cX5_rebuild 12 = .ok (.ifCond .eq 17, 3) := by decide +kernel
theorem dX5_rebuild_15 : decode cX5_rebuild 15 = .ok (.aload_n 0, 1) := by decide +kernel
theorem dX5_rebuild_16 : decode cX5_rebuild 16 = .ok (.aload_n 0, 1) := by decide +kernel
theorem dX5_rebuild_17 : decode cX5_rebuild 17 = .ok (.getfield 47, 3) := by decide +kernel
theorem dX5_rebuild_20 : decode cX5_rebuild 20 = .ok (.invokevirtual 150, 3) := by decide +kernel
theorem dX5_rebuild_23 : decode cX5_rebuild 23 = .ok (.iinc 1 1, 3) := by decide +kernel
theorem dX5_rebuild_26 : decode cX5_rebuild 26 = .ok (.goto (-24), 3) := by decide +kernel
theorem dX5_rebuild_29 : decode cX5_rebuild 29 = .ok (.iload_n 1, 1) := by decide +kernel
theorem dX5_rebuild_30 : decode cX5_rebuild 30 = .ok (.ireturn, 1) := by decide +kernel
theorem dX5_ruin_0 : decode cX5_ruin 0 = .ok (.iload_n 1, 1) := by decide +kernel
theorem dX5_ruin_1 : decode cX5_ruin 1 = .ok (.iconst 1, 1) := by decide +kernel
theorem dX5_ruin_2 : decode cX5_ruin 2 = .ok (.bipush 9, 2) := by decide +kernel
theorem dX5_ruin_4 : decode cX5_ruin 4 = .ok (.invokestatic 50, 3) := by decide +kernel
theorem dX5_ruin_7 : decode cX5_ruin 7 = .ok (.ifCond .eq 13, 3) := by decide +kernel
theorem dX5_ruin_10 : decode cX5_ruin 10 = .ok (.new 54, 3) := by decide +kernel
theorem dX5_ruin_13 : decode cX5_ruin 13 = .ok (.dup, 1) := by decide +kernel
theorem dX5_ruin_14 : decode cX5_ruin 14 = .ok (.ldc 208, 2) := by decide +kernel
theorem dX5_ruin_16 : decode cX5_ruin 16 = .ok (.invokespecial 58, 3) := by decide +kernel
theorem dX5_ruin_19 : decode cX5_ruin 19 = .ok (.athrow, 1) := by decide +kernel
theorem dX5_ruin_20 : decode cX5_ruin 20 = .ok (.iconst 0, 1) := by decide +kernel
theorem dX5_ruin_21 : decode cX5_ruin 21 = .ok (.istore_n 2, 1) := by decide +kernel
theorem dX5_ruin_22 : decode cX5_ruin 22 = .ok (.aload_n 0, 1) := by decide +kernel
theorem dX5_ruin_23 : decode cX5_ruin 23 = .ok (.invokevirtual 210, 3) := by decide +kernel
theorem dX5_ruin_26 : decode cX5_ruin 26 = .ok (.istore_n 3, 1) := by decide +kernel
theorem dX5_ruin_27 : decode cX5_ruin 27 = .ok (.iload_n 2, 1) := by decide +kernel
theorem dX5_ruin_28 : decode cX5_ruin 28 = .ok (.iload_n 1, 1) := by decide +kernel
theorem dX5_ruin_29 : decode cX5_ruin 29 = .ok (.if_icmp .ge 24, 3) := by decide +kernel
theorem dX5_ruin_32 : decode cX5_ruin 32 = .ok (.iload_n 3, 1) := by decide +kernel
theorem dX5_ruin_33 : decode cX5_ruin 33 = .ok (.iconst (-1), 1) := by decide +kernel
theorem dX5_ruin_34 : decode cX5_ruin 34 = .ok (.if_icmp .eq 19, 3) := by decide +kernel
theorem dX5_ruin_37 : decode cX5_ruin 37 = .ok (.aload_n 0, 1) := by decide +kernel
theorem dX5_ruin_38 : decode cX5_ruin 38 = .ok (.iload_n 3, 1) := by decide +kernel
theorem dX5_ruin_39 : decode cX5_ruin 39 = .ok (.invokevirtual 202, 3) := by decide +kernel
theorem dX5_ruin_42 : decode cX5_ruin 42 = .ok (.iinc 2 1, 3) := by decide +kernel
theorem dX5_ruin_45 : decode cX5_ruin 45 = .ok (.aload_n 0, 1) := by decide +kernel
theorem dX5_ruin_46 : decode cX5_ruin 46 = .ok (.invokevirtual 210, 3) := by decide +kernel
theorem dX5_ruin_49 : decode cX5_ruin 49 = .ok (.istore_n 3, 1) := by decide +kernel
theorem dX5_ruin_50 : decode cX5_ruin 50 = .ok (.goto (-23), 3) := by decide +kernel
theorem dX5_ruin_53 : decode cX5_ruin 53 = .ok (.iload_n 2, 1) := by decide +kernel
theorem dX5_ruin_54 : decode cX5_ruin 54 = .ok (.ireturn, 1) := by decide +kernel
theorem dX5_change_0 : decode cX5_change 0 = .ok (.iload_n 1, 1) := by decide +kernel
theorem dX5_change_1 : decode cX5_change 1 = .ok (.invokestatic 214, 3) := by decide +kernel
theorem dX5_change_4 : decode cX5_change 4 = .ok (.aload_n 0, 1) := by decide +kernel
theorem dX5_change_5 : decode cX5_change 5 = .ok (.invokevirtual 217, 3) := by decide +kernel
theorem dX5_change_8 : decode cX5_change 8 = .ok (.aload_n 0, 1) := by decide +kernel
theorem dX5_change_9 : decode cX5_change 9 = .ok (.iload_n 1, 1) := by decide +kernel
theorem dX5_change_10 : decode cX5_change 10 = .ok (.invokevirtual 220, 3) := by decide +kernel
theorem dX5_change_13 : decode cX5_change 13 = .ok (.aload_n 0, 1) := by decide +kernel
theorem dX5_change_14 : decode cX5_change 14 = .ok (.invokevirtual 223, 3) := by decide +kernel
theorem dX5_change_17 : decode cX5_change 17 = .ok (.aload_n 0, 1) := by decide +kernel
theorem dX5_change_18 : decode cX5_change 18 = .ok (.getfield 226, 3) := by decide +kernel
theorem dX5_change_21 : decode cX5_change 21 = .ok (.ireturn, 1) := by decide +kernel
theorem dX5_improve_0 : decode cX5_improve 0 = .ok (.iload_n 1, 1) := by decide +kernel
theorem dX5_improve_1 : decode cX5_improve 1 = .ok (.iconst 1, 1) := by decide +kernel
theorem dX5_improve_2 : decode cX5_improve 2 = .ok (.bipush 10, 2) := by decide +kernel
theorem dX5_improve_4 : decode cX5_improve 4 = .ok (.invokestatic 50, 3) := by decide +kernel
theorem dX5_improve_7 : decode cX5_improve 7 = .ok (.ifCond .eq 13, 3) := by decide +kernel
theorem dX5_improve_10 : decode cX5_improve 10 = .ok (.new 54, 3) := by decide +kernel
theorem dX5_improve_13 : decode cX5_improve 13 = .ok (.dup, 1) := by decide +kernel
theorem dX5_improve_14 : decode cX5_improve 14 = .ok (.ldc 229, 2) := by decide +kernel
theorem dX5_improve_16 : decode cX5_improve 16 = .ok (.invokespecial 58, 3) := by decide +kernel
theorem dX5_improve_19 : decode cX5_improve 19 = .ok (.athrow, 1) := by decide +kernel
theorem dX5_improve_20 : decode cX5_improve 20 = .ok (.iconst 0, 1) := by decide +kernel
theorem dX5_improve_21 : decode cX5_improve 21 = .ok (.istore_n 2, 1) := by decide +kernel
theorem dX5_improve_22 : decode cX5_improve 22 = .ok (.iconst 0, 1) := by decide +kernel
theorem dX5_improve_23 : decode cX5_improve 23 = .ok (.istore_n 3, 1) := by decide +kernel
theorem dX5_improve_24 : decode cX5_improve 24 = .ok (.iload_n 3, 1) := by decide +kernel
theorem dX5_improve_25 : decode cX5_improve 25 = .ok (.iload_n 1, 1) := by decide +kernel
theorem dX5_improve_26 : decode cX5_improve 26 = .ok (.if_icmp .ge 55, 3) := by decide +kernel
theorem dX5_improve_29 : decode cX5_improve 29 = .ok (.aload_n 0, 1) := by decide +kernel
theorem dX5_improve_30 : decode cX5_improve 30 = .ok (.invokevirtual 217, 3) := by decide +kernel
theorem dX5_improve_33 : decode cX5_improve 33 = .ok (.iconst 0, 1) := by decide +kernel
theorem dX5_improve_34 : decode cX5_improve 34 = .ok (.istore 4, 2) := by decide +kernel
theorem dX5_improve_36 : decode cX5_improve 36 = .ok (.iload 4, 2) := by decide +kernel
theorem dX5_improve_38 : decode cX5_improve 38 = .ok (.iconst 4, 1) := by decide +kernel
theorem dX5_improve_39 : decode cX5_improve 39 = .ok (.if_icmp .ge 15, 3) := by decide +kernel
theorem dX5_improve_42 : decode cX5_improve 42 = .ok (.aload_n 0, 1) := by decide +kernel
theorem dX5_improve_43 : decode cX5_improve 43 = .ok (.iload 4, 2) := by decide +kernel
theorem dX5_improve_45 : decode cX5_improve 45 = .ok (.invokevirtual 220, 3) := by decide +kernel
theorem dX5_improve_48 : decode cX5_improve 48 = .ok (.iinc 4 1, 3) := by decide +kernel
theorem dX5_improve_51 : decode cX5_improve 51 = .ok (.goto (-15), 3) := by decide +kernel
theorem dX5_improve_54 : decode cX5_improve 54 = .ok (.aload_n 0, 1) := by decide +kernel
theorem dX5_improve_55 : decode cX5_improve 55 = .ok (.getfield 226, 3) := by decide +kernel
theorem dX5_improve_58 : decode cX5_improve 58 = .ok (.ifCond .ne 6, 3) := by decide +kernel
theorem dX5_improve_61 : decode cX5_improve 61 = .ok (.goto 20, 3) := by decide +kernel
theorem dX5_improve_64 : decode cX5_improve 64 = .ok (.aload_n 0, 1) := by decide +kernel
theorem dX5_improve_65 : decode cX5_improve 65 = .ok (.invokevirtual 223, 3) := by decide +kernel
theorem dX5_improve_68 : decode cX5_improve 68 = .ok (.iload_n 2, 1) := by decide +kernel
theorem dX5_improve_69 : decode cX5_improve 69 = .ok (.aload_n 0, 1) := by decide +kernel
theorem dX5_improve_70 : decode cX5_improve 70 = .ok (.getfield 226, 3) := by decide +kernel
theorem dX5_improve_73 : decode cX5_improve 73 = .ok (.iadd, 1) := by decide +kernel
theorem dX5_improve_74 : decode cX5_improve 74 = .ok (.istore_n 2, 1) := by decide +kernel
theorem dX5_improve_75 : decode cX5_improve 75 = .ok (.iinc 3 1, 3) := by decide +kernel
theorem dX5_improve_78 : decode cX5_improve 78 = .ok (.goto (-54), 3) := by decide +kernel
theorem dX5_improve_81 : decode cX5_improve 81 = .ok (.iload_n 2, 1) := by decide +kernel
theorem dX5_improve_82 : decode cX5_improve 82 = .ok (.ireturn, 1) := by decide +kernel
theorem dX5_repair_0 : decode cX5_repair 0 = .ok (.aload_n 0, 1) := by decide +kernel
theorem dX5_repair_1 : decode cX5_repair 1 = .ok (.iload_n 1, 1) := by decide +kernel
theorem dX5_repair_2 : decode cX5_repair 2 = .ok (.invokevirtual 157, 3) := by decide +kernel
theorem dX5_repair_5 : decode cX5_repair 5 = .ok (.aload_n 0, 1) := by decide +kernel
theorem dX5_repair_6 : decode cX5_repair 6 = .ok (.getfield 18, 3) := by decide +kernel
theorem dX5_repair_9 : decode cX5_repair 9 = .ok (.iload_n 1, 1) := by decide +kernel
theorem dX5_repair_10 : decode cX5_repair 10 = .ok (.aaload, 1) := by decide +kernel
theorem dX5_repair_11 : decode cX5_repair 11 = .ok (.astore_n 2, 1) := by decide +kernel
theorem dX5_repair_12 : decode cX5_repair 12 = .ok (.iconst 0, 1) := by decide +kernel
theorem dX5_repair_13 : decode cX5_repair 13 = .ok (.istore_n 3, 1) := by decide +kernel
theorem dX5_repair_14 : decode cX5_repair 14 = .ok (.iload_n 3, 1) := by decide +kernel
theorem dX5_repair_15 : decode cX5_repair 15 = .ok (.bipush 9, 2) := by decide +kernel
theorem dX5_repair_17 : decode cX5_repair 17 = .ok (.if_icmp .ge 50, 3) := by decide +kernel
theorem dX5_repair_20 : decode cX5_repair 20 = .ok (.aload_n 0, 1) := by decide +kernel
theorem dX5_repair_21 : decode cX5_repair 21 = .ok (.getfield 26, 3) := by decide +kernel
theorem dX5_repair_24 : decode cX5_repair 24 = .ok (.aload_n 0, 1) := by decide +kernel
theorem dX5_repair_25 : decode cX5_repair 25 = .ok (.getfield 12, 3) := by decide +kernel
theorem dX5_repair_28 : decode cX5_repair 28 = .ok (.aload_n 2, 1) := by decide +kernel
theorem dX5_repair_29 : decode cX5_repair 29 = .ok (.aload_n 2, 1) := by decide +kernel
theorem dX5_repair_30 : decode cX5_repair 30 = .ok (.getfield 160, 3) := by decide +kernel
theorem dX5_repair_33 : decode cX5_repair 33 = .ok (.invokevirtual 231, 3) := by decide +kernel
theorem dX5_repair_36 : decode cX5_repair 36 = .ok (.ifCond .ne 31, 3) := by decide +kernel
theorem dX5_repair_39 : decode cX5_repair 39 = .ok (.aload_n 0, 1) := by decide +kernel
theorem dX5_repair_40 : decode cX5_repair 40 = .ok (.aload_n 2, 1) := by decide +kernel
theorem dX5_repair_41 : decode cX5_repair 41 = .ok (.invokevirtual 235, 3) := by decide +kernel
theorem dX5_repair_44 : decode cX5_repair 44 = .ok (.istore 4, 2) := by decide +kernel
theorem dX5_repair_46 : decode cX5_repair 46 = .ok (.iload 4, 2) := by decide +kernel
theorem dX5_repair_48 : decode cX5_repair 48 = .ok (.iconst (-1), 1) := by decide +kernel
theorem dX5_repair_49 : decode cX5_repair 49 = .ok (.if_icmp .ne 6, 3) := by decide +kernel
theorem dX5_repair_52 : decode cX5_repair 52 = .ok (.goto 15, 3) := by decide +kernel
theorem dX5_repair_55 : decode cX5_repair 55 = .ok (.aload_n 0, 1) := by decide +kernel
theorem dX5_repair_56 : decode cX5_repair 56 = .ok (.iload 4, 2) := by decide +kernel
