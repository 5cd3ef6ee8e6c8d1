theorem dX5_repair_58 : decode cX5_repair 58 = .ok (.invokevirtual 202, 3) := by decide +kernel
theorem dX5_repair_61 : decode cX5_repair 61 = .ok (.iinc 3 1, 3) := by decide +kernel
theorem dX5_repair_64 : decode cX5_repair 64 = .ok (.goto (-50), 3) := by decide +kernel
theorem dX5_repair_67 : decode cX5_repair 67 = .ok (.iload_n 3, 1) := by decide +kernel
theorem dX5_repair_68 : decode cX5_repair 68 = .ok (.ireturn, 1) := by decide +kernel
theorem dX5_advance_0 : decode cX5_advance 0 = .ok (.iload_n 1, 1) := by decide +kernel
theorem dX5_advance_1 : decode cX5_advance 1 = .ok (.iconst 1, 1) := by decide +kernel
theorem dX5_advance_2 : decode cX5_advance 2 = .ok (.sipush 1440, 3) := by decide +kernel
theorem dX5_advance_5 : decode cX5_advance 5 = .ok (.invokestatic 50, 3) := by decide +kernel
theorem dX5_advance_8 : decode cX5_advance 8 = .ok (.ifCond .eq 13, 3) := by decide +kernel
theorem dX5_advance_11 : decode cX5_advance 11 = .ok (.new 54, 3) := by decide +kernel
theorem dX5_advance_14 : decode cX5_advance 14 = .ok (.dup, 1) := by decide +kernel
theorem dX5_advance_15 : decode cX5_advance 15 = .ok (.ldc 239, 2) := by decide +kernel
theorem dX5_advance_17 : decode cX5_advance 17 = .ok (.invokespecial 58, 3) := by decide +kernel
theorem dX5_advance_20 : decode cX5_advance 20 = .ok (.athrow, 1) := by decide +kernel
theorem dX5_advance_21 : decode cX5_advance 21 = .ok (.aload_n 0, 1) := by decide +kernel
theorem dX5_advance_22 : decode cX5_advance 22 = .ok (.getfield 12, 3) := by decide +kernel
theorem dX5_advance_25 : decode cX5_advance 25 = .ok (.getfield 241, 3) := by decide +kernel
theorem dX5_advance_28 : decode cX5_advance 28 = .ok (.iload_n 1, 1) := by decide +kernel
theorem dX5_advance_29 : decode cX5_advance 29 = .ok (.iadd, 1) := by decide +kernel
theorem dX5_advance_30 : decode cX5_advance 30 = .ok (.sipush 1440, 3) := by decide +kernel
theorem dX5_advance_33 : decode cX5_advance 33 = .ok (.if_icmp .gt 10, 3) := by decide +kernel
theorem dX5_advance_36 : decode cX5_advance 36 = .ok (.aload_n 0, 1) := by decide +kernel
theorem dX5_advance_37 : decode cX5_advance 37 = .ok (.invokevirtual 140, 3) := by decide +kernel
theorem dX5_advance_40 : decode cX5_advance 40 = .ok (.ifCond .ne 13, 3) := by decide +kernel
theorem dX5_advance_43 : decode cX5_advance 43 = .ok (.new 65, 3) := by decide +kernel
theorem dX5_advance_46 : decode cX5_advance 46 = .ok (.dup, 1) := by decide +kernel
theorem dX5_advance_47 : decode cX5_advance 47 = .ok (.ldc 244, 2) := by decide +kernel
theorem dX5_advance_49 : decode cX5_advance 49 = .ok (.invokespecial 69, 3) := by decide +kernel
theorem dX5_advance_52 : decode cX5_advance 52 = .ok (.athrow, 1) := by decide +kernel
theorem dX5_advance_53 : decode cX5_advance 53 = .ok (.aload_n 0, 1) := by decide +kernel
theorem dX5_advance_54 : decode cX5_advance 54 = .ok (.getfield 12, 3) := by decide +kernel
theorem dX5_advance_57 : decode cX5_advance 57 = .ok (.dup, 1) := by decide +kernel
theorem dX5_advance_58 : decode cX5_advance 58 = .ok (.getfield 241, 3) := by decide +kernel
theorem dX5_advance_61 : decode cX5_advance 61 = .ok (.iload_n 1, 1) := by decide +kernel
theorem dX5_advance_62 : decode cX5_advance 62 = .ok (.iadd, 1) := by decide +kernel
theorem dX5_advance_63 : decode cX5_advance 63 = .ok (.putfield 241, 3) := by decide +kernel
theorem dX5_advance_66 : decode cX5_advance 66 = .ok (.iconst 0, 1) := by decide +kernel
theorem dX5_advance_67 : decode cX5_advance 67 = .ok (.istore_n 2, 1) := by decide +kernel
theorem dX5_advance_68 : decode cX5_advance 68 = .ok (.iconst 0, 1) := by decide +kernel
theorem dX5_advance_69 : decode cX5_advance 69 = .ok (.istore_n 3, 1) := by decide +kernel
theorem dX5_advance_70 : decode cX5_advance 70 = .ok (.iload_n 3, 1) := by decide +kernel
theorem dX5_advance_71 : decode cX5_advance 71 = .ok (.aload_n 0, 1) := by decide +kernel
theorem dX5_advance_72 : decode cX5_advance 72 = .ok (.getfield 86, 3) := by decide +kernel
theorem dX5_advance_75 : decode cX5_advance 75 = .ok (.if_icmp .ge 64, 3) := by decide +kernel
theorem dX5_advance_78 : decode cX5_advance 78 = .ok (.aload_n 0, 1) := by decide +kernel
theorem dX5_advance_79 : decode cX5_advance 79 = .ok (.getfield 18, 3) := by decide +kernel
theorem dX5_advance_82 : decode cX5_advance 82 = .ok (.iload_n 3, 1) := by decide +kernel
theorem dX5_advance_83 : decode cX5_advance 83 = .ok (.aaload, 1) := by decide +kernel
theorem dX5_advance_84 : decode cX5_advance 84 = .ok (.astore 4, 2) := by decide +kernel
theorem dX5_advance_86 : decode cX5_advance 86 = .ok (.aload_n 0, 1) := by decide +kernel
theorem dX5_advance_87 : decode cX5_advance 87 = .ok (.getfield 26, 3) := by decide +kernel
theorem dX5_advance_90 : decode cX5_advance 90 = .ok (.aload_n 0, 1) := by decide +kernel
theorem dX5_advance_91 : decode cX5_advance 91 = .ok (.getfield 12, 3) := by decide +kernel
theorem dX5_advance_94 : decode cX5_advance 94 = .ok (.aload 4, 2) := by decide +kernel
theorem dX5_advance_96 : decode cX5_advance 96 = .ok (.aload 4, 2) := by decide +kernel
theorem dX5_advance_98 : decode cX5_advance 98 = .ok (.getfield 160, 3) := by decide +kernel
theorem dX5_advance_101 : decode cX5_advance 101 = .ok (.invokevirtual 175, 3) := by decide +kernel
theorem dX5_advance_104 : decode cX5_advance 104 = .ok (.pop, 1) := by decide +kernel
theorem dX5_advance_105 : decode cX5_advance 105 = .ok (.iload_n 2, 1) := by decide +kernel
theorem dX5_advance_106 : decode cX5_advance 106 = .ok (.aload_n 0, 1) := by decide +kernel
theorem dX5_advance_107 : decode cX5_advance 107 = .ok (.getfield 26, 3) := by decide +kernel
theorem dX5_advance_110 : decode cX5_advance 110 = .ok (.getfield 246, 3) := by decide +kernel
theorem dX5_advance_113 : decode cX5_advance 113 = .ok (.aload 4, 2) := by decide +kernel
theorem dX5_advance_115 : decode cX5_advance 115 = .ok (.getfield 179, 3) := by decide +kernel
theorem dX5_advance_118 : decode cX5_advance 118 = .ok (.isub, 1) := by decide +kernel
theorem dX5_advance_119 : decode cX5_advance 119 = .ok (.iadd, 1) := by decide +kernel
theorem dX5_advance_120 : decode cX5_advance 120 = .ok (.istore_n 2, 1) := by decide +kernel
theorem dX5_advance_121 : decode cX5_advance 121 = .ok (.aload 4, 2) := by decide +kernel
theorem dX5_advance_123 : decode cX5_advance 123 = .ok (.aload_n 0, 1) := by decide +kernel
theorem dX5_advance_124 : decode cX5_advance 124 = .ok (.getfield 26, 3) := by decide +kernel
theorem dX5_advance_127 : decode cX5_advance 127 = .ok (.getfield 246, 3) := by decide +kernel
theorem dX5_advance_130 : decode cX5_advance 130 = .ok (.putfield 179, 3) := by decide +kernel
theorem dX5_advance_133 : decode cX5_advance 133 = .ok (.iinc 3 1, 3) := by decide +kernel
theorem dX5_advance_136 : decode cX5_advance 136 = .ok (.goto (-66), 3) := by decide +kernel
theorem dX5_advance_139 : decode cX5_advance 139 = .ok (.iload_n 2, 1) := by decide +kernel
theorem dX5_advance_140 : decode cX5_advance 140 = .ok (.ireturn, 1) := by decide +kernel
theorem dX5_vehicles_0 : decode cX5_vehicles 0 = .ok (.aload_n 0, 1) := by decide +kernel
theorem dX5_vehicles_1 : decode cX5_vehicles 1 = .ok (.getfield 86, 3) := by decide +kernel
theorem dX5_vehicles_4 : decode cX5_vehicles 4 = .ok (.ireturn, 1) := by decide +kernel
theorem dX5_jobs_0 : decode cX5_jobs 0 = .ok (.aload_n 0, 1) := by decide +kernel
theorem dX5_jobs_1 : decode cX5_jobs 1 = .ok (.getfield 12, 3) := by decide +kernel
theorem dX5_jobs_4 : decode cX5_jobs 4 = .ok (.getfield 111, 3) := by decide +kernel
theorem dX5_jobs_7 : decode cX5_jobs 7 = .ok (.ireturn, 1) := by decide +kernel
theorem dX5_vehicleOf_0 : decode cX5_vehicleOf 0 = .ok (.aload_n 0, 1) := by decide +kernel
theorem dX5_vehicleOf_1 : decode cX5_vehicleOf 1 = .ok (.iload_n 1, 1) := by decide +kernel
theorem dX5_vehicleOf_2 : decode cX5_vehicleOf 2 = .ok (.invokevirtual 120, 3) := by decide +kernel
theorem dX5_vehicleOf_5 : decode cX5_vehicleOf 5 = .ok (.aload_n 0, 1) := by decide +kernel
theorem dX5_vehicleOf_6 : decode cX5_vehicleOf 6 = .ok (.iload_n 1, 1) := by decide +kernel
theorem dX5_vehicleOf_7 : decode cX5_vehicleOf 7 = .ok (.invokevirtual 194, 3) := by decide +kernel
theorem dX5_vehicleOf_10 : decode cX5_vehicleOf 10 = .ok (.ireturn, 1) := by decide +kernel
theorem dX5_isSet_0 : decode cX5_isSet 0 = .ok (.aload_n 0, 1) := by decide +kernel
theorem dX5_isSet_1 : decode cX5_isSet 1 = .ok (.iload_n 1, 1) := by decide +kernel
theorem dX5_isSet_2 : decode cX5_isSet 2 = .ok (.invokevirtual 120, 3) := by decide +kernel
theorem dX5_isSet_5 : decode cX5_isSet 5 = .ok (.aload_n 0, 1) := by decide +kernel
theorem dX5_isSet_6 : decode cX5_isSet 6 = .ok (.iload_n 1, 1) := by decide +kernel
theorem dX5_isSet_7 : decode cX5_isSet 7 = .ok (.invokevirtual 123, 3) := by decide +kernel
theorem dX5_isSet_10 : decode cX5_isSet 10 = .ok (.ireturn, 1) := by decide +kernel
theorem dX5_stops_0 : decode cX5_stops 0 = .ok (.aload_n 0, 1) := by decide +kernel
theorem dX5_stops_1 : decode cX5_stops 1 = .ok (.iload_n 1, 1) := by decide +kernel
theorem dX5_stops_2 : decode cX5_stops 2 = .ok (.invokevirtual 157, 3) := by decide +kernel
theorem dX5_stops_5 : decode cX5_stops 5 = .ok (.aload_n 0, 1) := by decide +kernel
theorem dX5_stops_6 : decode cX5_stops 6 = .ok (.getfield 18, 3) := by decide +kernel
theorem dX5_stops_9 : decode cX5_stops 9 = .ok (.iload_n 1, 1) := by decide +kernel
theorem dX5_stops_10 : decode cX5_stops 10 = .ok (.aaload, 1) := by decide +kernel
theorem dX5_stops_11 : decode cX5_stops 11 = .ok (.getfield 160, 3) := by decide +kernel
theorem dX5_stops_14 : decode cX5_stops 14 = .ok (.getfield 163, 3) := by decide +kernel
theorem dX5_stops_17 : decode cX5_stops 17 = .ok (.ireturn, 1) := by decide +kernel
theorem dX5_setStops_0 : decode cX5_setStops 0 = .ok (.aload_n 0, 1) := by decide +kernel
theorem dX5_setStops_1 : decode cX5_setStops 1 = .ok (.iload_n 1, 1) := by decide +kernel
theorem dX5_setStops_2 : decode cX5_setStops 2 = .ok (.invokevirtual 157, 3) := by decide +kernel
theorem dX5_setStops_5 : decode cX5_setStops 5 = .ok (.aload_n 0, 1) := by decide +kernel
theorem dX5_setStops_6 : decode cX5_setStops 6 = .ok (.getfield 18, 3) := by decide +kernel
theorem dX5_setStops_9 : decode cX5_setStops 9 = .ok (.iload_n 1, 1) := by decide +kernel
theorem dX5_setStops_10 : decode cX5_setStops 10 = .ok (.aaload, 1) := by decide +kernel
theorem dX5_setStops_11 : decode cX5_setStops 11 = .ok (.getfield 179, 3) := by decide +kernel
theorem dX5_setStops_14 : decode cX5_setStops 14 = .ok (.ireturn, 1) := by decide +kernel
theorem dX5_jobAt_0 : decode cX5_jobAt 0 = .ok (.aload_n 0, 1) := by decide +kernel
theorem dX5_jobAt_1 : decode cX5_jobAt 1 = .ok (.iload_n 1, 1) := by decide +kernel
theorem dX5_jobAt_2 : decode cX5_jobAt 2 = .ok (.iload_n 2, 1) := by decide +kernel
theorem dX5_jobAt_3 : decode cX5_jobAt 3 = .ok (.invokevirtual 250, 3) := by decide +kernel
theorem dX5_jobAt_6 : decode cX5_jobAt 6 = .ok (.aload_n 0, 1) := by decide +kernel
theorem dX5_jobAt_7 : decode cX5_jobAt 7 = .ok (.getfield 18, 3) := by decide +kernel
theorem dX5_jobAt_10 : decode cX5_jobAt 10 = .ok (.iload_n 1, 1) := by decide +kernel
theorem dX5_jobAt_11 : decode cX5_jobAt 11 = .ok (.aaload, 1) := by decide +kernel
theorem dX5_jobAt_12 : decode cX5_jobAt 12 = .ok (.getfield 160, 3) := by decide +kernel
theorem dX5_jobAt_15 : decode cX5_jobAt 15 = .ok (.iload_n 2, 1) := by decide +kernel
theorem dX5_jobAt_16 : decode cX5_jobAt 16 = .ok (.invokevirtual 253, 3) := by decide +kernel
theorem dX5_jobAt_19 : decode cX5_jobAt 19 = .ok (.invokestatic 256, 3) := by decide +kernel
theorem dX5_jobAt_22 : decode cX5_jobAt 22 = .ok (.ireturn, 1) := by decide +kernel
theorem dX5_isFetched_0 : decode cX5_isFetched 0 = .ok (.aload_n 0, 1) := by decide +kernel
theorem dX5_isFetched_1 : decode cX5_isFetched 1 = .ok (.iload_n 1, 1) := by decide +kernel
theorem dX5_isFetched_2 : decode cX5_isFetched 2 = .ok (.iload_n 2, 1) := by decide +kernel
theorem dX5_isFetched_3 : decode cX5_isFetched 3 = .ok (.invokevirtual 250, 3) := by decide +kernel
theorem dX5_isFetched_6 : decode cX5_isFetched 6 = .ok (.aload_n 0, 1) := by decide +kernel
theorem dX5_isFetched_7 : decode cX5_isFetched 7 = .ok (.getfield 18, 3) := by decide +kernel
theorem dX5_isFetched_10 : decode cX5_isFetched 10 = .ok (.iload_n 1, 1) := by decide +kernel
theorem dX5_isFetched_11 : decode cX5_isFetched 11 = .ok (.aaload, 1) := by decide +kernel
theorem dX5_isFetched_12 : decode cX5_isFetched 12 = .ok (.getfield 160, 3) := by decide +kernel
theorem dX5_isFetched_15 : decode cX5_isFetched 15 = .ok (.iload_n 2, 1) := by decide +kernel
theorem dX5_isFetched_16 : decode cX5_isFetched 16 = .ok (.invokevirtual 253, 3) := by decide +kernel
theorem dX5_isFetched_19 : decode cX5_isFetched 19 = .ok (.invokestatic 259, 3) := by decide +kernel
theorem dX5_isFetched_22 : decode cX5_isFetched 22 = .ok (.ireturn, 1) := by decide +kernel
theorem dX5_arrives_0 : decode cX5_arrives 0 = .ok (.aload_n 0, 1) := by decide +kernel
theorem dX5_arrives_1 : decode cX5_arrives 1 = .ok (.iload_n 1, 1) := by decide +kernel
theorem dX5_arrives_2 : decode cX5_arrives 2 = .ok (.iload_n 2, 1) := by decide +kernel
theorem dX5_arrives_3 : decode cX5_arrives 3 = .ok (.invokevirtual 250, 3) := by decide +kernel
theorem dX5_arrives_6 : decode cX5_arrives 6 = .ok (.aload_n 0, 1) := by decide +kernel
theorem dX5_arrives_7 : decode cX5_arrives 7 = .ok (.aload_n 0, 1) := by decide +kernel
theorem dX5_arrives_8 : decode cX5_arrives 8 = .ok (.getfield 18, 3) := by decide +kernel
theorem dX5_arrives_11 : decode cX5_arrives 11 = .ok (.iload_n 1, 1) := by decide +kernel
theorem dX5_arrives_12 : decode cX5_arrives 12 = .ok (.aaload, 1) := by decide +kernel
theorem dX5_arrives_13 : decode cX5_arrives 13 = .ok (.iload_n 2, 1) := by decide +kernel
theorem dX5_arrives_14 : decode cX5_arrives 14 = .ok (.invokevirtual 262, 3) := by decide +kernel
theorem dX5_arrives_17 : decode cX5_arrives 17 = .ok (.aload_n 0, 1) := by decide +kernel
theorem dX5_arrives_18 : decode cX5_arrives 18 = .ok (.getfield 26, 3) := by decide +kernel
theorem dX5_arrives_21 : decode cX5_arrives 21 = .ok (.getfield 266, 3) := by decide +kernel
theorem dX5_arrives_24 : decode cX5_arrives 24 = .ok (.ireturn, 1) := by decide +kernel
theorem dX5_begins_0 : decode cX5_begins 0 = .ok (.aload_n 0, 1) := by decide +kernel
theorem dX5_begins_1 : decode cX5_begins 1 = .ok (.iload_n 1, 1) := by decide +kernel
theorem dX5_begins_2 : decode cX5_begins 2 = .ok (.iload_n 2, 1) := by decide +kernel
theorem dX5_begins_3 : decode cX5_begins 3 = .ok (.invokevirtual 250, 3) := by decide +kernel
theorem dX5_begins_6 : decode cX5_begins 6 = .ok (.aload_n 0, 1) := by decide +kernel
theorem dX5_begins_7 : decode cX5_begins 7 = .ok (.aload_n 0, 1) := by decide +kernel
theorem dX5_begins_8 : decode cX5_begins 8 = .ok (.getfield 18, 3) := by decide +kernel
theorem dX5_begins_11 : decode cX5_begins 11 = .ok (.iload_n 1, 1) := by decide +kernel
theorem dX5_begins_12 : decode cX5_begins 12 = .ok (.aaload, 1) := by decide +kernel
theorem dX5_begins_13 : decode cX5_begins 13 = .ok (.iload_n 2, 1) := by decide +kernel
theorem dX5_begins_14 : decode cX5_begins 14 = .ok (.invokevirtual 262, 3) := by decide +kernel
theorem dX5_begins_17 : decode cX5_begins 17 = .ok (.aload_n 0, 1) := by decide +kernel
theorem dX5_begins_18 : decode cX5_begins 18 = .ok (.getfield 26, 3) := by decide +kernel
theorem dX5_begins_21 : decode cX5_begins 21 = .ok (.getfield 269, 3) := by decide +kernel
theorem dX5_begins_24 : decode cX5_begins 24 = .ok (.ireturn, 1) := by decide +kernel
theorem dX5_loadBehind_0 : decode cX5_loadBehind 0 = .ok (.aload_n 0, 1) := by decide +kernel
theorem dX5_loadBehind_1 : decode cX5_loadBehind 1 = .ok (.iload_n 1, 1) := by decide +kernel
theorem dX5_loadBehind_2 : decode cX5_loadBehind 2 = .ok (.iload_n 2, 1) := by decide +kernel
theorem dX5_loadBehind_3 : decode cX5_loadBehind 3 = .ok (.invokevirtual 250, 3) := by decide +kernel
theorem dX5_loadBehind_6 : decode cX5_loadBehind 6 = .ok (.aload_n 0, 1) := by decide +kernel
theorem dX5_loadBehind_7 : decode cX5_loadBehind 7 = .ok (.aload_n 0, 1) := by decide +kernel
theorem dX5_loadBehind_8 : decode cX5_loadBehind 8 = .ok (.getfield 18, 3) := by decide +kernel
theorem dX5_loadBehind_11 : decode cX5_loadBehind 11 = .ok (.iload_n 1, 1) := by decide +kernel
theorem dX5_loadBehind_12 : decode cX5_loadBehind 12 = .ok (.aaload, 1) := by decide +kernel
theorem dX5_loadBehind_13 : decode cX5_loadBehind 13 = .ok (.iload_n 2, 1) := by decide +kernel
theorem dX5_loadBehind_14 : decode cX5_loadBehind 14 = .ok (.invokevirtual 262, 3) := by decide +kernel
theorem dX5_loadBehind_17 : decode cX5_loadBehind 17 = .ok (.aload_n 0, 1) := by decide +kernel
theorem dX5_loadBehind_18 : decode cX5_loadBehind 18 = .ok (.getfield 26, 3) := by decide +kernel
theorem dX5_loadBehind_21 : decode cX5_loadBehind 21 = .ok (.getfield 272, 3) := by decide +kernel
theorem dX5_loadBehind_24 : decode cX5_loadBehind 24 = .ok (.ireturn, 1) := by decide +kernel
theorem dX5_slack_0 : decode cX5_slack 0 = .ok (.aload_n 0, 1) := by decide +kernel
theorem dX5_slack_1 : decode cX5_slack 1 = .ok (.iload_n 1, 1) := by decide +kernel
theorem dX5_slack_2 : decode cX5_slack 2 = .ok (.iload_n 2, 1) := by decide +kernel
theorem dX5_slack_3 : decode cX5_slack 3 = .ok (.invokevirtual 250, 3) := by decide +kernel
theorem dX5_slack_6 : decode cX5_slack 6 = .ok (.aload_n 0, 1) := by decide +kernel
theorem dX5_slack_7 : decode cX5_slack 7 = .ok (.aload_n 0, 1) := by decide +kernel
theorem dX5_slack_8 : decode cX5_slack 8 = .ok (.getfield 18, 3) := by decide +kernel
theorem dX5_slack_11 : decode cX5_slack 11 = .ok (.iload_n 1, 1) := by decide +kernel
theorem dX5_slack_12 : decode cX5_slack 12 = .ok (.aaload, 1) := by decide +kernel
theorem dX5_slack_13 : decode cX5_slack 13 = .ok (.iload_n 2, 1) := by decide +kernel
theorem dX5_slack_14 : decode cX5_slack 14 = .ok (.invokevirtual 262, 3) := by decide +kernel
theorem dX5_slack_17 : decode cX5_slack 17 = .ok (.aload_n 0, 1) := by decide +kernel
theorem dX5_slack_18 : decode cX5_slack 18 = .ok (.aload_n 0, 1) := by decide +kernel
theorem dX5_slack_19 : decode cX5_slack 19 = .ok (.getfield 18, 3) := by decide +kernel
theorem dX5_slack_22 : decode cX5_slack 22 = .ok (.iload_n 1, 1) := by decide +kernel
theorem dX5_slack_23 : decode cX5_slack 23 = .ok (.aaload, 1) := by decide +kernel
theorem dX5_slack_24 : decode cX5_slack 24 = .ok (.iload_n 2, 1) := by decide +kernel
theorem dX5_slack_25 : decode cX5_slack 25 = .ok (.aload_n 0, 1) := by decide +kernel
theorem dX5_slack_26 : decode cX5_slack 26 = .ok (.getfield 26, 3) := by decide +kernel
theorem dX5_slack_29 : decode cX5_slack 29 = .ok (.getfield 266, 3) := by decide +kernel
theorem dX5_slack_32 : decode cX5_slack 32 = .ok (.invokevirtual 275, 3) := by decide +kernel
theorem dX5_slack_35 : decode cX5_slack 35 = .ok (.ireturn, 1) := by decide +kernel
theorem dX5_back_0 : decode cX5_back 0 = .ok (.aload_n 0, 1) := by decide +kernel
theorem dX5_back_1 : decode cX5_back 1 = .ok (.iload_n 1, 1) := by decide +kernel
theorem dX5_back_2 : decode cX5_back 2 = .ok (.invokevirtual 157, 3) := by decide +kernel
theorem dX5_back_5 : decode cX5_back 5 = .ok (.aload_n 0, 1) := by decide +kernel
theorem dX5_back_6 : decode cX5_back 6 = .ok (.aload_n 0, 1) := by decide +kernel
theorem dX5_back_7 : decode cX5_back 7 = .ok (.getfield 18, 3) := by decide +kernel
theorem dX5_back_10 : decode cX5_back 10 = .ok (.iload_n 1, 1) := by decide +kernel
theorem dX5_back_11 : decode cX5_back 11 = .ok (.aaload, 1) := by decide +kernel
theorem dX5_back_12 : decode cX5_back 12 = .ok (.invokevirtual 279, 3) := by decide +kernel
theorem dX5_back_15 : decode cX5_back 15 = .ok (.aload_n 0, 1) := by decide +kernel
theorem dX5_back_16 : decode cX5_back 16 = .ok (.getfield 26, 3) := by decide +kernel
theorem dX5_back_19 : decode cX5_back 19 = .ok (.getfield 266, 3) := by decide +kernel
theorem dX5_back_22 : decode cX5_back 22 = .ok (.ireturn, 1) := by decide +kernel
theorem dX5_waits_0 : decode cX5_waits 0 = .ok (.aload_n 0, 1) := by decide +kernel
theorem dX5_waits_1 : decode cX5_waits 1 = .ok (.iload_n 1, 1) := by decide +kernel
theorem dX5_waits_2 : decode cX5_waits 2 = .ok (.invokevirtual 157, 3) := by decide +kernel
theorem dX5_waits_5 : decode cX5_waits 5 = .ok (.aload_n 0, 1) := by decide +kernel
theorem dX5_waits_6 : decode cX5_waits 6 = .ok (.aload_n 0, 1) := by decide +kernel
theorem dX5_waits_7 : decode cX5_waits 7 = .ok (.getfield 18, 3) := by decide +kernel
theorem dX5_waits_10 : decode cX5_waits 10 = .ok (.iload_n 1, 1) := by decide +kernel
theorem dX5_waits_11 : decode cX5_waits 11 = .ok (.aaload, 1) := by decide +kernel
theorem dX5_waits_12 : decode cX5_waits 12 = .ok (.invokevirtual 279, 3) := by decide +kernel
theorem dX5_waits_15 : decode cX5_waits 15 = .ok (.aload_n 0, 1) := by decide +kernel
theorem dX5_waits_16 : decode cX5_waits 16 = .ok (.getfield 26, 3) := by decide +kernel
theorem dX5_waits_19 : decode cX5_waits 19 = .ok (.getfield 283, 3) := by decide +kernel
theorem dX5_waits_22 : decode cX5_waits 22 = .ok (.ireturn, 1) := by decide +kernel
theorem dX5_isRight_0 : decode cX5_isRight 0 = .ok (.aload_n 0, 1) := by decide +kernel
theorem dX5_isRight_1 : decode cX5_isRight 1 = .ok (.iload_n 1, 1) := by decide +kernel
theorem dX5_isRight_2 : decode cX5_isRight 2 = .ok (.invokevirtual 157, 3) := by decide +kernel
theorem dX5_isRight_5 : decode cX5_isRight 5 = .ok (.aload_n 0, 1) := by decide +kernel
theorem dX5_isRight_6 : decode cX5_isRight 6 = .ok (.aload_n 0, 1) := by decide +kernel
theorem dX5_isRight_7 : decode cX5_isRight 7 = .ok (.getfield 18, 3) := by decide +kernel
theorem dX5_isRight_10 : decode cX5_isRight 10 = .ok (.iload_n 1, 1) := by decide +kernel
theorem dX5_isRight_11 : decode cX5_isRight 11 = .ok (.aaload, 1) := by decide +kernel
theorem dX5_isRight_12 : decode cX5_isRight 12 = .ok (.invokevirtual 279, 3) := by decide +kernel
theorem dX5_isRight_15 : decode cX5_isRight 15 = .ok (.aload_n 0, 1) := by decide +kernel
theorem dX5_isRight_16 : decode cX5_isRight 16 = .ok (.getfield 26, 3) := by decide +kernel
theorem dX5_isRight_19 : decode cX5_isRight 19 = .ok (.getfield 286, 3) := by decide +kernel
theorem dX5_isRight_22 : decode cX5_isRight 22 = .ok (.ireturn, 1) := by decide +kernel
theorem dX5_costOf_0 : decode cX5_costOf 0 = .ok (.aload_n 0, 1) := by decide +kernel
theorem dX5_costOf_1 : decode cX5_costOf 1 = .ok (.iload_n 1, 1) := by decide +kernel
theorem dX5_costOf_2 : decode cX5_costOf 2 = .ok (.invokevirtual 157, 3) := by decide +kernel
theorem dX5_costOf_5 : decode cX5_costOf 5 = .ok (.aload_n 0, 1) := by decide +kernel
theorem dX5_costOf_6 : decode cX5_costOf 6 = .ok (.getfield 26, 3) := by decide +kernel
theorem dX5_costOf_9 : decode cX5_costOf 9 = .ok (.aload_n 0, 1) := by decide +kernel
theorem dX5_costOf_10 : decode cX5_costOf 10 = .ok (.getfield 12, 3) := by decide +kernel
theorem dX5_costOf_13 : decode cX5_costOf 13 = .ok (.aload_n 0, 1) := by decide +kernel
theorem dX5_costOf_14 : decode cX5_costOf 14 = .ok (.getfield 18, 3) := by decide +kernel
theorem dX5_costOf_17 : decode cX5_costOf 17 = .ok (.iload_n 1, 1) := by decide +kernel
theorem dX5_costOf_18 : decode cX5_costOf 18 = .ok (.aaload, 1) := by decide +kernel
theorem dX5_costOf_19 : decode cX5_costOf 19 = .ok (.aload_n 0, 1) := by decide +kernel
theorem dX5_costOf_20 : decode cX5_costOf 20 = .ok (.getfield 18, 3) := by decide +kernel
theorem dX5_costOf_23 : decode cX5_costOf 23 = .ok (.iload_n 1, 1) := by decide +kernel
theorem dX5_costOf_24 : decode cX5_costOf 24 = .ok (.aaload, 1) := by decide +kernel
theorem dX5_costOf_25 : decode cX5_costOf 25 = .ok (.getfield 160, 3) := by decide +kernel
theorem dX5_costOf_28 : decode cX5_costOf 28 = .ok (.invokevirtual 175, 3) := by decide +kernel
theorem dX5_costOf_31 : decode cX5_costOf 31 = .ok (.ireturn, 1) := by decide +kernel
theorem dX5_cost_0 : decode cX5_cost 0 = .ok (.aload_n 0, 1) := by decide +kernel
theorem dX5_cost_1 : decode cX5_cost 1 = .ok (.invokevirtual 293, 3) := by decide +kernel
theorem dX5_cost_4 : decode cX5_cost 4 = .ok (.ireturn, 1) := by decide +kernel
theorem dX5_fullness_0 : decode cX5_fullness 0 = .ok (.iconst 0, 1) := by decide +kernel
theorem dX5_fullness_1 : decode cX5_fullness 1 = .ok (.istore_n 1, 1) := by decide +kernel
theorem dX5_fullness_2 : decode cX5_fullness 2 = .ok (.iconst 0, 1) := by decide +kernel
theorem dX5_fullness_3 : decode cX5_fullness 3 = .ok (.istore_n 2, 1) := by decide +kernel
theorem dX5_fullness_4 : decode cX5_fullness 4 = .ok (.iconst 0, 1) := by decide +kernel
theorem dX5_fullness_5 : decode cX5_fullness 5 = .ok (.istore_n 3, 1) := by decide +kernel
theorem dX5_fullness_6 : decode cX5_fullness 6 = .ok (.iload_n 3, 1) := by decide +kernel
theorem dX5_fullness_7 : decode cX5_fullness 7 = .ok (.aload_n 0, 1) := by decide +kernel
theorem dX5_fullness_8 : decode cX5_fullness 8 = .ok (.getfield 86, 3) := by decide +kernel
theorem dX5_fullness_11 : decode cX5_fullness 11 = .ok (.if_icmp .ge 49, 3) := by decide +kernel
theorem dX5_fullness_14 : decode cX5_fullness 14 = .ok (.aload_n 0, 1) := by decide +kernel
theorem dX5_fullness_15 : decode cX5_fullness 15 = .ok (.getfield 18, 3) := by decide +kernel
theorem dX5_fullness_18 : decode cX5_fullness 18 = .ok (.iload_n 3, 1) := by decide +kernel
theorem dX5_fullness_19 : decode cX5_fullness 19 = .ok (.aaload, 1) := by decide +kernel
theorem dX5_fullness_20 : decode cX5_fullness 20 = .ok (.astore 4, 2) := by decide +kernel
theorem dX5_fullness_22 : decode cX5_fullness 22 = .ok (.aload_n 0, 1) := by decide +kernel
theorem dX5_fullness_23 : decode cX5_fullness 23 = .ok (.aload 4, 2) := by decide +kernel
theorem dX5_fullness_25 : decode cX5_fullness 25 = .ok (.invokevirtual 279, 3) := by decide +kernel
theorem dX5_fullness_28 : decode cX5_fullness 28 = .ok (.iload_n 1, 1) := by decide +kernel
theorem dX5_fullness_29 : decode cX5_fullness 29 = .ok (.aload_n 0, 1) := by decide +kernel
theorem dX5_fullness_30 : decode cX5_fullness 30 = .ok (.getfield 26, 3) := by decide +kernel
theorem dX5_fullness_33 : decode cX5_fullness 33 = .ok (.getfield 296, 3) := by decide +kernel
theorem dX5_fullness_36 : decode cX5_fullness 36 = .ok (.iadd, 1) := by decide +kernel
theorem dX5_fullness_37 : decode cX5_fullness 37 = .ok (.istore_n 1, 1) := by decide +kernel
theorem dX5_fullness_38 : decode cX5_fullness 38 = .ok (.iload_n 2, 1) := by decide +kernel
theorem dX5_fullness_39 : decode cX5_fullness 39 = .ok (.aload_n 0, 1) := by decide +kernel
theorem dX5_fullness_40 : decode cX5_fullness 40 = .ok (.getfield 26, 3) := by decide +kernel
theorem dX5_fullness_43 : decode cX5_fullness 43 = .ok (.getfield 290, 3) := by decide +kernel
theorem dX5_fullness_46 : decode cX5_fullness 46 = .ok (.aload 4, 2) := by decide +kernel
theorem dX5_fullness_48 : decode cX5_fullness 48 = .ok (.getfield 94, 3) := by decide +kernel
theorem dX5_fullness_51 : decode cX5_fullness 51 = .ok (.imul, 1) := by decide +kernel
theorem dX5_fullness_52 : decode cX5_fullness 52 = .ok (.iadd, 1) := by decide +kernel
theorem dX5_fullness_53 : decode cX5_fullness 53 = .ok (.istore_n 2, 1) := by decide +kernel
theorem dX5_fullness_54 : decode cX5_fullness 54 = .ok (.iinc 3 1, 3) := by decide +kernel
theorem dX5_fullness_57 : decode cX5_fullness 57 = .ok (.goto (-51), 3) := by decide +kernel
theorem dX5_fullness_60 : decode cX5_fullness 60 = .ok (.iload_n 2, 1) := by decide +kernel
theorem dX5_fullness_61 : decode cX5_fullness 61 = .ok (.ifCond .ne 7, 3) := by decide +kernel
theorem dX5_fullness_64 : decode cX5_fullness 64 = .ok (.dconst 0, 1) := by decide +kernel
theorem dX5_fullness_65 : decode cX5_fullness 65 = .ok (.goto 8, 3) := by decide +kernel
theorem dX5_fullness_68 : decode cX5_fullness 68 = .ok (.iload_n 1, 1) := by decide +kernel
theorem dX5_fullness_69 : decode cX5_fullness 69 = .ok (.i2d, 1) := by decide +kernel
theorem dX5_fullness_70 : decode cX5_fullness 70 = .ok (.iload_n 2, 1) := by decide +kernel
theorem dX5_fullness_71 : decode cX5_fullness 71 = .ok (.i2d, 1) := by decide +kernel
theorem dX5_fullness_72 : decode cX5_fullness 72 = .ok (.ddiv, 1) := by decide +kernel
theorem dX5_fullness_73 : decode cX5_fullness 73 = .ok (.dreturn, 1) := by decide +kernel
theorem dX5_gain_0 : decode cX5_gain 0 = .ok (.iload_n 1, 1) := by decide +kernel
theorem dX5_gain_1 : decode cX5_gain 1 = .ok (.invokestatic 214, 3) := by decide +kernel
theorem dX5_gain_4 : decode cX5_gain 4 = .ok (.aload_n 0, 1) := by decide +kernel
theorem dX5_gain_5 : decode cX5_gain 5 = .ok (.invokevirtual 217, 3) := by decide +kernel
theorem dX5_gain_8 : decode cX5_gain 8 = .ok (.aload_n 0, 1) := by decide +kernel
theorem dX5_gain_9 : decode cX5_gain 9 = .ok (.iload_n 1, 1) := by decide +kernel
theorem dX5_gain_10 : decode cX5_gain 10 = .ok (.invokevirtual 220, 3) := by decide +kernel
theorem dX5_gain_13 : decode cX5_gain 13 = .ok (.aload_n 0, 1) := by decide +kernel
theorem dX5_gain_14 : decode cX5_gain 14 = .ok (.getfield 226, 3) := by decide +kernel
theorem dX5_gain_17 : decode cX5_gain 17 = .ok (.ireturn, 1) := by decide +kernel
theorem dX5_costWithout_0 : decode cX5_costWithout 0 = .ok (.aload_n 0, 1) := by decide +kernel
theorem dX5_costWithout_1 : decode cX5_costWithout 1 = .ok (.iload_n 1, 1) := by decide +kernel
theorem dX5_costWithout_2 : decode cX5_costWithout 2 = .ok (.invokevirtual 120, 3) := by decide +kernel
theorem dX5_costWithout_5 : decode cX5_costWithout 5 = .ok (.aload_n 0, 1) := by decide +kernel
theorem dX5_costWithout_6 : decode cX5_costWithout 6 = .ok (.iload_n 1, 1) := by decide +kernel
theorem dX5_costWithout_7 : decode cX5_costWithout 7 = .ok (.invokevirtual 194, 3) := by decide +kernel
theorem dX5_costWithout_10 : decode cX5_costWithout 10 = .ok (.iconst (-1), 1) := by decide +kernel
theorem dX5_costWithout_11 : decode cX5_costWithout 11 = .ok (.if_icmp .ne 15, 3) := by decide +kernel
theorem dX5_costWithout_14 : decode cX5_costWithout 14 = .ok (.aload_n 0, 1) := by decide +kernel
theorem dX5_costWithout_15 : decode cX5_costWithout 15 = .ok (.getfield 12, 3) := by decide +kernel
theorem dX5_costWithout_18 : decode cX5_costWithout 18 = .ok (.getfield 310, 3) := by decide +kernel
theorem dX5_costWithout_21 : decode cX5_costWithout 21 = .ok (.iload_n 1, 1) := by decide +kernel
theorem dX5_costWithout_22 : decode cX5_costWithout 22 = .ok (.iaload, 1) := by decide +kernel
theorem dX5_costWithout_23 : decode cX5_costWithout 23 = .ok (.goto 8, 3) := by decide +kernel
theorem dX5_costWithout_26 : decode cX5_costWithout 26 = .ok (.aload_n 0, 1) := by decide +kernel
theorem dX5_costWithout_27 : decode cX5_costWithout 27 = .ok (.iload_n 1, 1) := by decide +kernel
theorem dX5_costWithout_28 : decode cX5_costWithout 28 = .ok (.invokevirtual 199, 3) := by decide +kernel
theorem dX5_costWithout_31 : decode cX5_costWithout 31 = .ok (.istore_n 2, 1) := by decide +kernel
theorem dX5_costWithout_32 : decode cX5_costWithout 32 = .ok (.aload_n 0, 1) := by decide +kernel
theorem dX5_costWithout_33 : decode cX5_costWithout 33 = .ok (.invokevirtual 293, 3) := by decide +kernel
theorem dX5_costWithout_36 : decode cX5_costWithout 36 = .ok (.iload_n 2, 1) := by decide +kernel
theorem dX5_costWithout_37 : decode cX5_costWithout 37 = .ok (.isub, 1) := by decide +kernel
theorem dX5_costWithout_38 : decode cX5_costWithout 38 = .ok (.ireturn, 1) := by decide +kernel
theorem dX5_digest_0 : decode cX5_digest 0 = .ok (.ldc2_w 314, 3) := by decide +kernel
theorem dX5_digest_3 : decode cX5_digest 3 = .ok (.lstore_n 1, 1) := by decide +kernel
theorem dX5_digest_4 : decode cX5_digest 4 = .ok (.lload_n 1, 1) := by decide +kernel
theorem dX5_digest_5 : decode cX5_digest 5 = .ok (.ldc2_w 316, 3) := by decide +kernel
theorem dX5_digest_8 : decode cX5_digest 8 = .ok (.lmul, 1) := by decide +kernel
theorem dX5_digest_9 : decode cX5_digest 9 = .ok (.aload_n 0, 1) := by decide +kernel
theorem dX5_digest_10 : decode cX5_digest 10 = .ok (.getfield 12, 3) := by decide +kernel
theorem dX5_digest_13 : decode cX5_digest 13 = .ok (.getfield 241, 3) := by decide +kernel
theorem dX5_digest_16 : decode cX5_digest 16 = .ok (.i2l, 1) := by decide +kernel
theorem dX5_digest_17 : decode cX5_digest 17 = .ok (.ladd, 1) := by decide +kernel
theorem dX5_digest_18 : decode cX5_digest 18 = .ok (.lstore_n 1, 1) := by decide +kernel
theorem dX5_digest_19 : decode cX5_digest 19 = .ok (.lload_n 1, 1) := by decide +kernel
theorem dX5_digest_20 : decode cX5_digest 20 = .ok (.ldc2_w 316, 3) := by decide +kernel
theorem dX5_digest_23 : decode cX5_digest 23 = .ok (.lmul, 1) := by decide +kernel
theorem dX5_digest_24 : decode cX5_digest 24 = .ok (.aload_n 0, 1) := by decide +kernel
theorem dX5_digest_25 : decode cX5_digest 25 = .ok (.getfield 12, 3) := by decide +kernel
theorem dX5_digest_28 : decode cX5_digest 28 = .ok (.getfield 61, 3) := by decide +kernel
theorem dX5_digest_31 : decode cX5_digest 31 = .ok (.i2l, 1) := by decide +kernel
theorem dX5_digest_32 : decode cX5_digest 32 = .ok (.ladd, 1) := by decide +kernel
theorem dX5_digest_33 : decode cX5_digest 33 = .ok (.lstore_n 1, 1) := by decide +kernel
theorem dX5_digest_34 : decode cX5_digest 34 = .ok (.lload_n 1, 1) := by decide +kernel
theorem dX5_digest_35 : decode cX5_digest 35 = .ok (.ldc2_w 316, 3) := by decide +kernel
theorem dX5_digest_38 : decode cX5_digest 38 = .ok (.lmul, 1) := by decide +kernel
theorem dX5_digest_39 : decode cX5_digest 39 = .ok (.aload_n 0, 1) := by decide +kernel
theorem dX5_digest_40 : decode cX5_digest 40 = .ok (.getfield 86, 3) := by decide +kernel
theorem dX5_digest_43 : decode cX5_digest 43 = .ok (.i2l, 1) := by decide +kernel
theorem dX5_digest_44 : decode cX5_digest 44 = .ok (.ladd, 1) := by decide +kernel
theorem dX5_digest_45 : decode cX5_digest 45 = .ok (.lstore_n 1, 1) := by decide +kernel
theorem dX5_digest_46 : decode cX5_digest 46 = .ok (.lload_n 1, 1) := by decide +kernel
theorem dX5_digest_47 : decode cX5_digest 47 = .ok (.ldc2_w 316, 3) := by decide +kernel
theorem dX5_digest_50 : decode cX5_digest 50 = .ok (.lmul, 1) := by decide +kernel
theorem dX5_digest_51 : decode cX5_digest 51 = .ok (.aload_n 0, 1) := by decide +kernel
theorem dX5_digest_52 : decode cX5_digest 52 = .ok (.getfield 12, 3) := by decide +kernel
theorem dX5_digest_55 : decode cX5_digest 55 = .ok (.getfield 111, 3) := by decide +kernel
theorem dX5_digest_58 : decode cX5_digest 58 = .ok (.i2l, 1) := by decide +kernel
theorem dX5_digest_59 : decode cX5_digest 59 = .ok (.ladd, 1) := by decide +kernel
theorem dX5_digest_60 : decode cX5_digest 60 = .ok (.lstore_n 1, 1) := by decide +kernel
theorem dX5_digest_61 : decode cX5_digest 61 = .ok (.lload_n 1, 1) := by decide +kernel
theorem dX5_digest_62 : decode cX5_digest 62 = .ok (.ldc2_w 316, 3) := by decide +kernel
theorem dX5_digest_65 : decode cX5_digest 65 = .ok (.lmul, 1) := by decide +kernel
theorem dX5_digest_66 : decode cX5_digest 66 = .ok (.aload_n 0, 1) := by decide +kernel
theorem dX5_digest_67 : decode cX5_digest 67 = .ok (.invokevirtual 293, 3) := by decide +kernel
theorem dX5_digest_70 : decode cX5_digest 70 = .ok (.i2l, 1) := by decide +kernel
theorem dX5_digest_71 : decode cX5_digest 71 = .ok (.ladd, 1) := by decide +kernel
theorem dX5_digest_72 : decode cX5_digest 72 = .ok (.lstore_n 1, 1) := by decide +kernel
theorem dX5_digest_73 : decode cX5_digest 73 = .ok (.iconst 0, 1) := by decide +kernel
theorem dX5_digest_74 : decode cX5_digest 74 = .ok (.istore_n 3, 1) := by decide +kernel
theorem dX5_digest_75 : decode cX5_digest 75 = .ok (.iload_n 3, 1) := by decide +kernel
theorem dX5_digest_76 : decode cX5_digest 76 = .ok (.aload_n 0, 1) := by decide +kernel
theorem dX5_digest_77 : decode cX5_digest 77 = .ok (.getfield 86, 3) := by decide +kernel
theorem dX5_digest_80 : decode cX5_digest 80 = .ok (.if_icmp .ge 21, 3) := by decide +kernel
theorem dX5_digest_83 : decode cX5_digest 83 = .ok (.aload_n 0, 1) := by decide +kernel
theorem dX5_digest_84 : decode cX5_digest 84 = .ok (.lload_n 1, 1) := by decide +kernel
theorem dX5_digest_85 : decode cX5_digest 85 = .ok (.aload_n 0, 1) := by decide +kernel
theorem dX5_digest_86 : decode cX5_digest 86 = .ok (.getfield 18, 3) := by decide +kernel
theorem dX5_digest_89 : decode cX5_digest 89 = .ok (.iload_n 3, 1) := by decide +kernel
theorem dX5_digest_90 : decode cX5_digest 90 = .ok (.aaload, 1) := by decide +kernel
theorem dX5_digest_91 : decode cX5_digest 91 = .ok (.invokevirtual 318, 3) := by decide +kernel
theorem dX5_digest_94 : decode cX5_digest 94 = .ok (.lstore_n 1, 1) := by decide +kernel
theorem dX5_digest_95 : decode cX5_digest 95 = .ok (.iinc 3 1, 3) := by decide +kernel
theorem dX5_digest_98 : decode cX5_digest 98 = .ok (.goto (-23), 3) := by decide +kernel
theorem dX5_digest_101 : decode cX5_digest 101 = .ok (.iconst 0, 1) := by decide +kernel
theorem dX5_digest_102 : decode cX5_digest 102 = .ok (.istore_n 3, 1) := by decide +kernel
theorem dX5_digest_103 : decode cX5_digest 103 = .ok (.iload_n 3, 1) := by decide +kernel
theorem dX5_digest_104 : decode cX5_digest 104 = .ok (.aload_n 0, 1) := by decide +kernel
theorem dX5_digest_105 : decode cX5_digest 105 = .ok (.getfield 12, 3) := by decide +kernel
theorem dX5_digest_108 : decode cX5_digest 108 = .ok (.getfield 111, 3) := by decide +kernel
theorem dX5_digest_111 : decode cX5_digest 111 = .ok (.if_icmp .ge 43, 3) := by decide +kernel
theorem dX5_digest_114 : decode cX5_digest 114 = .ok (.lload_n 1, 1) := by decide +kernel
theorem dX5_digest_115 : decode cX5_digest 115 = .ok (.ldc2_w 316, 3) := by decide +kernel
theorem dX5_digest_118 : decode cX5_digest 118 = .ok (.lmul, 1) := by decide +kernel
theorem dX5_digest_119 : decode cX5_digest 119 = .ok (.aload_n 0, 1) := by decide +kernel
theorem dX5_digest_120 : decode cX5_digest 120 = .ok (.iload_n 3, 1) := by decide +kernel
theorem dX5_digest_121 : decode cX5_digest 121 = .ok (.invokevirtual 194, 3) := by decide +kernel
theorem dX5_digest_124 : decode cX5_digest 124 = .ok (.i2l, 1) := by decide +kernel
theorem dX5_digest_125 : decode cX5_digest 125 = .ok (.ladd, 1) := by decide +kernel
theorem dX5_digest_126 : decode cX5_digest 126 = .ok (.lstore_n 1, 1) := by decide +kernel
theorem dX5_digest_127 : decode cX5_digest 127 = .ok (.lload_n 1, 1) := by decide +kernel
theorem dX5_digest_128 : decode cX5_digest 128 = .ok (.ldc2_w 316, 3) := by decide +kernel
theorem dX5_digest_131 : decode cX5_digest 131 = .ok (.lmul, 1) := by decide +kernel
theorem dX5_digest_132 : decode cX5_digest 132 = .ok (.aload_n 0, 1) := by decide +kernel
theorem dX5_digest_133 : decode cX5_digest 133 = .ok (.iload_n 3, 1) := by decide +kernel
theorem dX5_digest_134 : decode cX5_digest 134 = .ok (.invokevirtual 123, 3) := by decide +kernel
theorem dX5_digest_137 : decode cX5_digest 137 = .ok (.ifCond .eq 7, 3) := by decide +kernel
theorem dX5_digest_140 : decode cX5_digest 140 = .ok (.iconst 1, 1) := by decide +kernel
theorem dX5_digest_141 : decode cX5_digest 141 = .ok (.goto 4, 3) := by decide +kernel
theorem dX5_digest_144 : decode cX5_digest 144 = .ok (.iconst 0, 1) := by decide +kernel
theorem dX5_digest_145 : decode cX5_digest 145 = .ok (.i2l, 1) := by decide +kernel
theorem dX5_digest_146 : decode cX5_digest 146 = .ok (.ladd, 1) := by decide +kernel
theorem dX5_digest_147 : decode cX5_digest 147 = .ok (.lstore_n 1, 1) := by decide +kernel
theorem dX5_digest_148 : decode cX5_digest 148 = .ok (.iinc 3 1, 3) := by decide +kernel
theorem dX5_digest_151 : decode cX5_digest 151 = .ok (.goto (-48), 3) := by decide +kernel
theorem dX5_digest_154 : decode cX5_digest 154 = .ok (.iconst 0, 1) := by decide +kernel
theorem dX5_digest_155 : decode cX5_digest 155 = .ok (.istore_n 3, 1) := by decide +kernel
theorem dX5_digest_156 : decode cX5_digest 156 = .ok (.iload_n 3, 1) := by decide +kernel
theorem dX5_digest_157 : decode cX5_digest 157 = .ok (.iconst 4, 1) := by decide +kernel
theorem dX5_digest_158 : decode cX5_digest 158 = .ok (.if_icmp .ge 30, 3) := by decide +kernel
theorem dX5_digest_161 : decode cX5_digest 161 = .ok (.aload_n 0, 1) := by decide +kernel
theorem dX5_digest_162 : decode cX5_digest 162 = .ok (.invokevirtual 217, 3) := by decide +kernel
theorem dX5_digest_165 : decode cX5_digest 165 = .ok (.aload_n 0, 1) := by decide +kernel
theorem dX5_digest_166 : decode cX5_digest 166 = .ok (.iload_n 3, 1) := by decide +kernel
theorem dX5_digest_167 : decode cX5_digest 167 = .ok (.invokevirtual 220, 3) := by decide +kernel
theorem dX5_digest_170 : decode cX5_digest 170 = .ok (.lload_n 1, 1) := by decide +kernel
theorem dX5_digest_171 : decode cX5_digest 171 = .ok (.ldc2_w 316, 3) := by decide +kernel
theorem dX5_digest_174 : decode cX5_digest 174 = .ok (.lmul, 1) := by decide +kernel
theorem dX5_digest_175 : decode cX5_digest 175 = .ok (.aload_n 0, 1) := by decide +kernel
theorem dX5_digest_176 : decode cX5_digest 176 = .ok (.getfield 226, 3) := by decide +kernel
theorem dX5_digest_179 : decode cX5_digest 179 = .ok (.i2l, 1) := by decide +kernel
theorem dX5_digest_180 : decode cX5_digest 180 = .ok (.ladd, 1) := by decide +kernel
theorem dX5_digest_181 : decode cX5_digest 181 = .ok (.lstore_n 1, 1) := by decide +kernel
theorem dX5_digest_182 : decode cX5_digest 182 = .ok (.iinc 3 1, 3) := by decide +kernel
theorem dX5_digest_185 : decode cX5_digest 185 = .ok (.goto (-29), 3) := by decide +kernel
theorem dX5_digest_188 : decode cX5_digest 188 = .ok (.lload_n 1, 1) := by decide +kernel
theorem dX5_digest_189 : decode cX5_digest 189 = .ok (.lreturn, 1) := by decide +kernel
theorem dX5_digestOfVehicle_0 : decode cX5_digestOfVehicle 0 = .ok (.aload_n 0, 1) := by decide +kernel
theorem dX5_digestOfVehicle_1 : decode cX5_digestOfVehicle 1 = .ok (.getfield 26, 3) := by decide +kernel
theorem dX5_digestOfVehicle_4 : decode cX5_digestOfVehicle 4 = .ok (.aload_n 0, 1) := by decide +kernel
theorem dX5_digestOfVehicle_5 : decode cX5_digestOfVehicle 5 = .ok (.getfield 12, 3) := by decide +kernel
theorem dX5_digestOfVehicle_8 : decode cX5_digestOfVehicle 8 = .ok (.aload_n 3, 1) := by decide +kernel
theorem dX5_digestOfVehicle_9 : decode cX5_digestOfVehicle 9 = .ok (.aload_n 3, 1) := by decide +kernel
theorem dX5_digestOfVehicle_10 : decode cX5_digestOfVehicle 10 = .ok (.getfield 160, 3) := by decide +kernel
theorem dX5_digestOfVehicle_13 : decode cX5_digestOfVehicle 13 = .ok (.invokevirtual 175, 3) := by decide +kernel
theorem dX5_digestOfVehicle_16 : decode cX5_digestOfVehicle 16 = .ok (.istore 4, 2) := by decide +kernel
theorem dX5_digestOfVehicle_18 : decode cX5_digestOfVehicle 18 = .ok (.lload_n 1, 1) := by decide +kernel
theorem dX5_digestOfVehicle_19 : decode cX5_digestOfVehicle 19 = .ok (.lstore 5, 2) := by decide +kernel
theorem dX5_digestOfVehicle_21 : decode cX5_digestOfVehicle 21 = .ok (.lload 5, 2) := by decide +kernel
theorem dX5_digestOfVehicle_23 : decode cX5_digestOfVehicle 23 = .ok (.ldc2_w 316, 3) := by decide +kernel
theorem dX5_digestOfVehicle_26 : decode cX5_digestOfVehicle 26 = .ok (.lmul, 1) := by decide +kernel
theorem dX5_digestOfVehicle_27 : decode cX5_digestOfVehicle 27 = .ok (.aload_n 3, 1) := by decide +kernel
theorem dX5_digestOfVehicle_28 : decode cX5_digestOfVehicle 28 = .ok (.getfield 160, 3) := by decide +kernel
theorem dX5_digestOfVehicle_31 : decode cX5_digestOfVehicle 31 = .ok (.getfield 163, 3) := by decide +kernel
theorem dX5_digestOfVehicle_34 : decode cX5_digestOfVehicle 34 = .ok (.i2l, 1) := by decide +kernel
theorem dX5_digestOfVehicle_35 : decode cX5_digestOfVehicle 35 = .ok (.ladd, 1) := by decide +kernel
theorem dX5_digestOfVehicle_36 : decode cX5_digestOfVehicle 36 = .ok (.lstore 5, 2) := by decide +kernel
theorem dX5_digestOfVehicle_38 : decode cX5_digestOfVehicle 38 = .ok (.lload 5, 2) := by decide +kernel
theorem dX5_digestOfVehicle_40 : decode cX5_digestOfVehicle 40 = .ok (.ldc2_w 316, 3) := by decide +kernel
theorem dX5_digestOfVehicle_43 : decode cX5_digestOfVehicle 43 = .ok (.lmul, 1) := by decide +kernel
theorem dX5_digestOfVehicle_44 : decode cX5_digestOfVehicle 44 = .ok (.aload_n 3, 1) := by decide +kernel
theorem dX5_digestOfVehicle_45 : decode cX5_digestOfVehicle 45 = .ok (.getfield 179, 3) := by decide +kernel
theorem dX5_digestOfVehicle_48 : decode cX5_digestOfVehicle 48 = .ok (.i2l, 1) := by decide +kernel
theorem dX5_digestOfVehicle_49 : decode cX5_digestOfVehicle 49 = .ok (.ladd, 1) := by decide +kernel
theorem dX5_digestOfVehicle_50 : decode cX5_digestOfVehicle 50 = .ok (.lstore 5, 2) := by decide +kernel
theorem dX5_digestOfVehicle_52 : decode cX5_digestOfVehicle 52 = .ok (.lload 5, 2) := by decide +kernel
theorem dX5_digestOfVehicle_54 : decode cX5_digestOfVehicle 54 = .ok (.ldc2_w 316, 3) := by decide +kernel
theorem dX5_digestOfVehicle_57 : decode cX5_digestOfVehicle 57 = .ok (.lmul, 1) := by decide +kernel
theorem dX5_digestOfVehicle_58 : decode cX5_digestOfVehicle 58 = .ok (.aload_n 0, 1) := by decide +kernel
theorem dX5_digestOfVehicle_59 : decode cX5_digestOfVehicle 59 = .ok (.getfield 26, 3) := by decide +kernel
theorem dX5_digestOfVehicle_62 : decode cX5_digestOfVehicle 62 = .ok (.getfield 266, 3) := by decide +kernel
theorem dX5_digestOfVehicle_65 : decode cX5_digestOfVehicle 65 = .ok (.i2l, 1) := by decide +kernel
theorem dX5_digestOfVehicle_66 : decode cX5_digestOfVehicle 66 = .ok (.ladd, 1) := by decide +kernel
theorem dX5_digestOfVehicle_67 : decode cX5_digestOfVehicle 67 = .ok (.lstore 5, 2) := by decide +kernel
theorem dX5_digestOfVehicle_69 : decode cX5_digestOfVehicle 69 = .ok (.lload 5, 2) := by decide +kernel
theorem dX5_digestOfVehicle_71 : decode cX5_digestOfVehicle 71 = .ok (.ldc2_w 316, 3) := by decide +kernel
theorem dX5_digestOfVehicle_74 : decode cX5_digestOfVehicle 74 = .ok (.lmul, 1) := by decide +kernel
theorem dX5_digestOfVehicle_75 : decode cX5_digestOfVehicle 75 = .ok (.aload_n 0, 1) := by decide +kernel
theorem dX5_digestOfVehicle_76 : decode cX5_digestOfVehicle 76 = .ok (.getfield 26, 3) := by decide +kernel
theorem dX5_digestOfVehicle_79 : decode cX5_digestOfVehicle 79 = .ok (.getfield 283, 3) := by decide +kernel
theorem dX5_digestOfVehicle_82 : decode cX5_digestOfVehicle 82 = .ok (.i2l, 1) := by decide +kernel
theorem dX5_digestOfVehicle_83 : decode cX5_digestOfVehicle 83 = .ok (.ladd, 1) := by decide +kernel
theorem dX5_digestOfVehicle_84 : decode cX5_digestOfVehicle 84 = .ok (.lstore 5, 2) := by decide +kernel
theorem dX5_digestOfVehicle_86 : decode cX5_digestOfVehicle 86 = .ok (.lload 5, 2) := by decide +kernel
theorem dX5_digestOfVehicle_88 : decode cX5_digestOfVehicle 88 = .ok (.ldc2_w 316, 3) := by decide +kernel
theorem dX5_digestOfVehicle_91 : decode cX5_digestOfVehicle 91 = .ok (.lmul, 1) := by decide +kernel
theorem dX5_digestOfVehicle_92 : decode cX5_digestOfVehicle 92 = .ok (.aload_n 0, 1) := by decide +kernel
theorem dX5_digestOfVehicle_93 : decode cX5_digestOfVehicle 93 = .ok (.getfield 26, 3) := by decide +kernel
theorem dX5_digestOfVehicle_96 : decode cX5_digestOfVehicle 96 = .ok (.getfield 286, 3) := by decide +kernel
theorem dX5_digestOfVehicle_99 : decode cX5_digestOfVehicle 99 = .ok (.ifCond .eq 7, 3) := by decide +kernel
theorem dX5_digestOfVehicle_102 : decode cX5_digestOfVehicle 102 = .ok (.iconst 1, 1) := by decide +kernel
theorem dX5_digestOfVehicle_103 : decode cX5_digestOfVehicle 103 = .ok (.goto 4, 3) := by decide +kernel
theorem dX5_digestOfVehicle_106 : decode cX5_digestOfVehicle 106 = .ok (.iconst 0, 1) := by decide +kernel
theorem dX5_digestOfVehicle_107 : decode cX5_digestOfVehicle 107 = .ok (.i2l, 1) := by decide +kernel
theorem dX5_digestOfVehicle_108 : decode cX5_digestOfVehicle 108 = .ok (.ladd, 1) := by decide +kernel
theorem dX5_digestOfVehicle_109 : decode cX5_digestOfVehicle 109 = .ok (.lstore 5, 2) := by decide +kernel
theorem dX5_digestOfVehicle_111 : decode cX5_digestOfVehicle 111 = .ok (.lload 5, 2) := by decide +kernel
theorem dX5_digestOfVehicle_113 : decode cX5_digestOfVehicle 113 = .ok (.ldc2_w 316, 3) := by decide +kernel
theorem dX5_digestOfVehicle_116 : decode cX5_digestOfVehicle 116 = .ok (.lmul, 1) := by decide +kernel
theorem dX5_digestOfVehicle_117 : decode cX5_digestOfVehicle 117 = .ok (.aload_n 0, 1) := by decide +kernel
theorem dX5_digestOfVehicle_118 : decode cX5_digestOfVehicle 118 = .ok (.getfield 26, 3) := by decide +kernel
theorem dX5_digestOfVehicle_121 : decode cX5_digestOfVehicle 121 = .ok (.getfield 290, 3) := by decide +kernel
theorem dX5_digestOfVehicle_124 : decode cX5_digestOfVehicle 124 = .ok (.i2l, 1) := by decide +kernel
theorem dX5_digestOfVehicle_125 : decode cX5_digestOfVehicle 125 = .ok (.ladd, 1) := by decide +kernel
theorem dX5_digestOfVehicle_126 : decode cX5_digestOfVehicle 126 = .ok (.lstore 5, 2) := by decide +kernel
theorem dX5_digestOfVehicle_128 : decode cX5_digestOfVehicle 128 = .ok (.lload 5, 2) := by decide +kernel
theorem dX5_digestOfVehicle_130 : decode cX5_digestOfVehicle 130 = .ok (.ldc2_w 316, 3) := by decide +kernel
theorem dX5_digestOfVehicle_133 : decode cX5_digestOfVehicle 133 = .ok (.lmul, 1) := by decide +kernel
theorem dX5_digestOfVehicle_134 : decode cX5_digestOfVehicle 134 = .ok (.iload 4, 2) := by decide +kernel
theorem dX5_digestOfVehicle_136 : decode cX5_digestOfVehicle 136 = .ok (.i2l, 1) := by decide +kernel
theorem dX5_digestOfVehicle_137 : decode cX5_digestOfVehicle 137 = .ok (.ladd, 1) := by decide +kernel
theorem dX5_digestOfVehicle_138 : decode cX5_digestOfVehicle 138 = .ok (.lstore 5, 2) := by decide +kernel
theorem dX5_digestOfVehicle_140 : decode cX5_digestOfVehicle 140 = .ok (.aload_n 0, 1) := by decide +kernel
theorem dX5_digestOfVehicle_141 : decode cX5_digestOfVehicle 141 = .ok (.getfield 26, 3) := by decide +kernel
theorem dX5_digestOfVehicle_144 : decode cX5_digestOfVehicle 144 = .ok (.aload_n 3, 1) := by decide +kernel
theorem dX5_digestOfVehicle_145 : decode cX5_digestOfVehicle 145 = .ok (.invokevirtual 322, 3) := by decide +kernel
theorem dX5_digestOfVehicle_148 : decode cX5_digestOfVehicle 148 = .ok (.iconst 0, 1) := by decide +kernel
theorem dX5_digestOfVehicle_149 : decode cX5_digestOfVehicle 149 = .ok (.istore 7, 2) := by decide +kernel
theorem dX5_digestOfVehicle_151 : decode cX5_digestOfVehicle 151 = .ok (.iload 7, 2) := by decide +kernel
theorem dX5_digestOfVehicle_153 : decode cX5_digestOfVehicle 153 = .ok (.aload_n 3, 1) := by decide +kernel
theorem dX5_digestOfVehicle_154 : decode cX5_digestOfVehicle 154 = .ok (.getfield 160, 3) := by decide +kernel
theorem dX5_digestOfVehicle_157 : decode cX5_digestOfVehicle 157 = .ok (.getfield 163, 3) := by decide +kernel
theorem dX5_digestOfVehicle_160 : decode cX5_digestOfVehicle 160 = .ok (.if_icmp .ge 147, 3) := by decide +kernel
theorem dX5_digestOfVehicle_163 : decode cX5_digestOfVehicle 163 = .ok (.aload_n 3, 1) := by decide +kernel
theorem dX5_digestOfVehicle_164 : decode cX5_digestOfVehicle 164 = .ok (.getfield 160, 3) := by decide +kernel
theorem dX5_digestOfVehicle_167 : decode cX5_digestOfVehicle 167 = .ok (.iload 7, 2) := by decide +kernel
theorem dX5_digestOfVehicle_169 : decode cX5_digestOfVehicle 169 = .ok (.invokevirtual 253, 3) := by decide +kernel
theorem dX5_digestOfVehicle_172 : decode cX5_digestOfVehicle 172 = .ok (.istore 8, 2) := by decide +kernel
theorem dX5_digestOfVehicle_174 : decode cX5_digestOfVehicle 174 = .ok (.aload_n 0, 1) := by decide +kernel
theorem dX5_digestOfVehicle_175 : decode cX5_digestOfVehicle 175 = .ok (.getfield 26, 3) := by decide +kernel
theorem dX5_digestOfVehicle_178 : decode cX5_digestOfVehicle 178 = .ok (.aload_n 0, 1) := by decide +kernel
theorem dX5_digestOfVehicle_179 : decode cX5_digestOfVehicle 179 = .ok (.getfield 12, 3) := by decide +kernel
theorem dX5_digestOfVehicle_182 : decode cX5_digestOfVehicle 182 = .ok (.aload_n 3, 1) := by decide +kernel
theorem dX5_digestOfVehicle_183 : decode cX5_digestOfVehicle 183 = .ok (.iload 8, 2) := by decide +kernel
theorem dX5_digestOfVehicle_185 : decode cX5_digestOfVehicle 185 = .ok (.invokevirtual 325, 3) := by decide +kernel
theorem dX5_digestOfVehicle_188 : decode cX5_digestOfVehicle 188 = .ok (.lload 5, 2) := by decide +kernel
theorem dX5_digestOfVehicle_190 : decode cX5_digestOfVehicle 190 = .ok (.ldc2_w 316, 3) := by decide +kernel
theorem dX5_digestOfVehicle_193 : decode cX5_digestOfVehicle 193 = .ok (.lmul, 1) := by decide +kernel
theorem dX5_digestOfVehicle_194 : decode cX5_digestOfVehicle 194 = .ok (.iload 8, 2) := by decide +kernel
theorem dX5_digestOfVehicle_196 : decode cX5_digestOfVehicle 196 = .ok (.invokestatic 256, 3) := by decide +kernel
theorem dX5_digestOfVehicle_199 : decode cX5_digestOfVehicle 199 = .ok (.i2l, 1) := by decide +kernel
theorem dX5_digestOfVehicle_200 : decode cX5_digestOfVehicle 200 = .ok (.ladd, 1) := by decide +kernel
theorem dX5_digestOfVehicle_201 : decode cX5_digestOfVehicle 201 = .ok (.lstore 5, 2) := by decide +kernel
theorem dX5_digestOfVehicle_203 : decode cX5_digestOfVehicle 203 = .ok (.lload 5, 2) := by decide +kernel
theorem dX5_digestOfVehicle_205 : decode cX5_digestOfVehicle 205 = .ok (.ldc2_w 316, 3) := by decide +kernel
theorem dX5_digestOfVehicle_208 : decode cX5_digestOfVehicle 208 = .ok (.lmul, 1) := by decide +kernel
theorem dX5_digestOfVehicle_209 : decode cX5_digestOfVehicle 209 = .ok (.iload 8, 2) := by decide +kernel
theorem dX5_digestOfVehicle_211 : decode cX5_digestOfVehicle 211 = .ok (.invokestatic 259, 3) := by decide +kernel
theorem dX5_digestOfVehicle_214 : decode cX5_digestOfVehicle 214 = .ok (.ifCond .eq 7, 3) := by decide +kernel
theorem dX5_digestOfVehicle_217 : decode cX5_digestOfVehicle 217 = .ok (.iconst 1, 1) := by decide +kernel
theorem dX5_digestOfVehicle_218 : decode cX5_digestOfVehicle 218 = .ok (.goto 4, 3) := by decide +kernel
theorem dX5_digestOfVehicle_221 : decode cX5_digestOfVehicle 221 = .ok (.iconst 0, 1) := by decide +kernel
theorem dX5_digestOfVehicle_222 : decode cX5_digestOfVehicle 222 = .ok (.i2l, 1) := by decide +kernel
theorem dX5_digestOfVehicle_223 : decode cX5_digestOfVehicle 223 = .ok (.ladd, 1) := by decide +kernel
theorem dX5_digestOfVehicle_224 : decode cX5_digestOfVehicle 224 = .ok (.lstore 5, 2) := by decide +kernel
theorem dX5_digestOfVehicle_226 : decode cX5_digestOfVehicle 226 = .ok (.lload 5, 2) := by decide +kernel
theorem dX5_digestOfVehicle_228 : decode cX5_digestOfVehicle 228 = .ok (.ldc2_w 316, 3) := by decide +kernel
theorem dX5_digestOfVehicle_231 : decode cX5_digestOfVehicle 231 = .ok (.lmul, 1) := by decide +kernel
theorem dX5_digestOfVehicle_232 : decode cX5_digestOfVehicle 232 = .ok (.aload_n 0, 1) := by decide +kernel
theorem dX5_digestOfVehicle_233 : decode cX5_digestOfVehicle 233 = .ok (.getfield 26, 3) := by decide +kernel
theorem dX5_digestOfVehicle_236 : decode cX5_digestOfVehicle 236 = .ok (.getfield 266, 3) := by decide +kernel
theorem dX5_digestOfVehicle_239 : decode cX5_digestOfVehicle 239 = .ok (.i2l, 1) := by decide +kernel
theorem dX5_digestOfVehicle_240 : decode cX5_digestOfVehicle 240 = .ok (.ladd, 1) := by decide +kernel
theorem dX5_digestOfVehicle_241 : decode cX5_digestOfVehicle 241 = .ok (.lstore 5, 2) := by decide +kernel
theorem dX5_digestOfVehicle_243 : decode cX5_digestOfVehicle 243 = .ok (.lload 5, 2) := by decide +kernel
theorem dX5_digestOfVehicle_245 : decode cX5_digestOfVehicle 245 = .ok (.ldc2_w 316, 3) := by decide +kernel
theorem dX5_digestOfVehicle_248 : decode cX5_digestOfVehicle 248 = .ok (.lmul, 1) := by decide +kernel
theorem dX5_digestOfVehicle_249 : decode cX5_digestOfVehicle 249 = .ok (.aload_n 0, 1) := by decide +kernel
theorem dX5_digestOfVehicle_250 : decode cX5_digestOfVehicle 250 = .ok (.getfield 26, 3) := by decide +kernel
theorem dX5_digestOfVehicle_253 : decode cX5_digestOfVehicle 253 = .ok (.getfield 269, 3) := by decide +kernel
theorem dX5_digestOfVehicle_256 : decode cX5_digestOfVehicle 256 = .ok (.i2l, 1) := by decide +kernel
theorem dX5_digestOfVehicle_257 : decode cX5_digestOfVehicle 257 = .ok (.ladd, 1) := by decide +kernel
theorem dX5_digestOfVehicle_258 : decode cX5_digestOfVehicle 258 = .ok (.lstore 5, 2) := by decide +kernel
theorem dX5_digestOfVehicle_260 : decode cX5_digestOfVehicle 260 = .ok (.lload 5, 2) := by decide +kernel
theorem dX5_digestOfVehicle_262 : decode cX5_digestOfVehicle 262 = .ok (.ldc2_w 316, 3) := by decide +kernel
theorem dX5_digestOfVehicle_265 : decode cX5_digestOfVehicle 265 = .ok (.lmul, 1) := by decide +kernel
theorem dX5_digestOfVehicle_266 : decode cX5_digestOfVehicle 266 = .ok (.aload_n 0, 1) := by decide +kernel
theorem dX5_digestOfVehicle_267 : decode cX5_digestOfVehicle 267 = .ok (.getfield 26, 3) := by decide +kernel
theorem dX5_digestOfVehicle_270 : decode cX5_digestOfVehicle 270 = .ok (.getfield 272, 3) := by decide +kernel
theorem dX5_digestOfVehicle_273 : decode cX5_digestOfVehicle 273 = .ok (.i2l, 1) := by decide +kernel
theorem dX5_digestOfVehicle_274 : decode cX5_digestOfVehicle 274 = .ok (.ladd, 1) := by decide +kernel
theorem dX5_digestOfVehicle_275 : decode cX5_digestOfVehicle 275 = .ok (.lstore 5, 2) := by decide +kernel
theorem dX5_digestOfVehicle_277 : decode cX5_digestOfVehicle 277 = .ok (.lload 5, 2) := by decide +kernel
theorem dX5_digestOfVehicle_279 : decode cX5_digestOfVehicle 279 = .ok (.ldc2_w 316, 3) := by decide +kernel
theorem dX5_digestOfVehicle_282 : decode cX5_digestOfVehicle 282 = .ok (.lmul, 1) := by decide +kernel
theorem dX5_digestOfVehicle_283 : decode cX5_digestOfVehicle 283 = .ok (.aload_n 0, 1) := by decide +kernel
theorem dX5_digestOfVehicle_284 : decode cX5_digestOfVehicle 284 = .ok (.aload_n 3, 1) := by decide +kernel
theorem dX5_digestOfVehicle_285 : decode cX5_digestOfVehicle 285 = .ok (.iload 7, 2) := by decide +kernel
theorem dX5_digestOfVehicle_287 : decode cX5_digestOfVehicle 287 = .ok (.aload_n 0, 1) := by decide +kernel
theorem dX5_digestOfVehicle_288 : decode cX5_digestOfVehicle 288 = .ok (.getfield 26, 3) := by decide +kernel
theorem dX5_digestOfVehicle_291 : decode cX5_digestOfVehicle 291 = .ok (.getfield 266, 3) := by decide +kernel
theorem dX5_digestOfVehicle_294 : decode cX5_digestOfVehicle 294 = .ok (.invokevirtual 275, 3) := by decide +kernel
theorem dX5_digestOfVehicle_297 : decode cX5_digestOfVehicle 297 = .ok (.i2l, 1) := by decide +kernel
theorem dX5_digestOfVehicle_298 : decode cX5_digestOfVehicle 298 = .ok (.ladd, 1) := by decide +kernel
theorem dX5_digestOfVehicle_299 : decode cX5_digestOfVehicle 299 = .ok (.lstore 5, 2) := by decide +kernel
theorem dX5_digestOfVehicle_301 : decode cX5_digestOfVehicle 301 = .ok (.iinc 7 1, 3) := by decide +kernel
theorem dX5_digestOfVehicle_304 : decode cX5_digestOfVehicle 304 = .ok (.goto (-153), 3) := by decide +kernel
theorem dX5_digestOfVehicle_307 : decode cX5_digestOfVehicle 307 = .ok (.lload 5, 2) := by decide +kernel
theorem dX5_digestOfVehicle_309 : decode cX5_digestOfVehicle 309 = .ok (.lreturn, 1) := by decide +kernel
theorem dX5_isOutside_0 : decode cX5_isOutside 0 = .ok (.iload_n 0, 1) := by decide +kernel
theorem dX5_isOutside_1 : decode cX5_isOutside 1 = .ok (.iload_n 1, 1) := by decide +kernel
theorem dX5_isOutside_2 : decode cX5_isOutside 2 = .ok (.if_icmp .lt 8, 3) := by decide +kernel
theorem dX5_isOutside_5 : decode cX5_isOutside 5 = .ok (.iload_n 0, 1) := by decide +kernel
theorem dX5_isOutside_6 : decode cX5_isOutside 6 = .ok (.iload_n 2, 1) := by decide +kernel
theorem dX5_isOutside_7 : decode cX5_isOutside 7 = .ok (.if_icmp .le 7, 3) := by decide +kernel
theorem dX5_isOutside_10 : decode cX5_isOutside 10 = .ok (.iconst 1, 1) := by decide +kernel
theorem dX5_isOutside_11 : decode cX5_isOutside 11 = .ok (.goto 4, 3) := by decide +kernel
theorem dX5_isOutside_14 : decode cX5_isOutside 14 = .ok (.iconst 0, 1) := by decide +kernel
theorem dX5_isOutside_15 : decode cX5_isOutside 15 = .ok (.ireturn, 1) := by decide +kernel
theorem dX5_checkHours_0 : decode cX5_checkHours 0 = .ok (.iload_n 0, 1) := by decide +kernel
theorem dX5_checkHours_1 : decode cX5_checkHours 1 = .ok (.iconst 0, 1) := by decide +kernel
theorem dX5_checkHours_2 : decode cX5_checkHours 2 = .ok (.sipush 1440, 3) := by decide +kernel
theorem dX5_checkHours_5 : decode cX5_checkHours 5 = .ok (.invokestatic 50, 3) := by decide +kernel
theorem dX5_checkHours_8 : decode cX5_checkHours 8 = .ok (.ifCond .ne 14, 3) := by decide +kernel
theorem dX5_checkHours_11 : decode cX5_checkHours 11 = .ok (.iload_n 1, 1) := by decide +kernel
theorem dX5_checkHours_12 : decode cX5_checkHours 12 = .ok (.iload_n 0, 1) := by decide +kernel
theorem dX5_checkHours_13 : decode cX5_checkHours 13 = .ok (.sipush 1440, 3) := by decide +kernel
theorem dX5_checkHours_16 : decode cX5_checkHours 16 = .ok (.invokestatic 50, 3) := by decide +kernel
theorem dX5_checkHours_19 : decode cX5_checkHours 19 = .ok (.ifCond .eq 14, 3) := by decide +kernel
theorem dX5_checkHours_22 : decode cX5_checkHours 22 = .ok (.new 54, 3) := by decide +kernel
theorem dX5_checkHours_25 : decode cX5_checkHours 25 = .ok (.dup, 1) := by decide +kernel
theorem dX5_checkHours_26 : decode cX5_checkHours 26 = .ok (.ldc_w 329, 3) := by decide +kernel
theorem dX5_checkHours_29 : decode cX5_checkHours 29 = .ok (.invokespecial 58, 3) := by decide +kernel
theorem dX5_checkHours_32 : decode cX5_checkHours 32 = .ok (.athrow, 1) := by decide +kernel
theorem dX5_checkHours_33 : decode cX5_checkHours 33 = .ok (.return_, 1) := by decide +kernel
theorem dX5_checkKind_0 : decode cX5_checkKind 0 = .ok (.iload_n 0, 1) := by decide +kernel
theorem dX5_checkKind_1 : decode cX5_checkKind 1 = .ok (.iconst 0, 1) := by decide +kernel
theorem dX5_checkKind_2 : decode cX5_checkKind 2 = .ok (.iconst 3, 1) := by decide +kernel
theorem dX5_checkKind_3 : decode cX5_checkKind 3 = .ok (.invokestatic 50, 3) := by decide +kernel
theorem dX5_checkKind_6 : decode cX5_checkKind 6 = .ok (.ifCond .eq 14, 3) := by decide +kernel
theorem dX5_checkKind_9 : decode cX5_checkKind 9 = .ok (.new 54, 3) := by decide +kernel
theorem dX5_checkKind_12 : decode cX5_checkKind 12 = .ok (.dup, 1) := by decide +kernel
theorem dX5_checkKind_13 : decode cX5_checkKind 13 = .ok (.ldc_w 331, 3) := by decide +kernel
theorem dX5_checkKind_16 : decode cX5_checkKind 16 = .ok (.invokespecial 58, 3) := by decide +kernel
theorem dX5_checkKind_19 : decode cX5_checkKind 19 = .ok (.athrow, 1) := by decide +kernel
theorem dX5_checkKind_20 : decode cX5_checkKind 20 = .ok (.return_, 1) := by decide +kernel
theorem dX5_checkPlace_0 : decode cX5_checkPlace 0 = .ok (.aload_n 0, 1) := by decide +kernel
theorem dX5_checkPlace_1 : decode cX5_checkPlace 1 = .ok (.getfield 12, 3) := by decide +kernel
theorem dX5_checkPlace_4 : decode cX5_checkPlace 4 = .ok (.iload_n 1, 1) := by decide +kernel
theorem dX5_checkPlace_5 : decode cX5_checkPlace 5 = .ok (.invokevirtual 333, 3) := by decide +kernel
theorem dX5_checkPlace_8 : decode cX5_checkPlace 8 = .ok (.ifCond .ne 14, 3) := by decide +kernel
theorem dX5_checkPlace_11 : decode cX5_checkPlace 11 = .ok (.new 336, 3) := by decide +kernel
theorem dX5_checkPlace_14 : decode cX5_checkPlace 14 = .ok (.dup, 1) := by decide +kernel
theorem dX5_checkPlace_15 : decode cX5_checkPlace 15 = .ok (.ldc_w 338, 3) := by decide +kernel
theorem dX5_checkPlace_18 : decode cX5_checkPlace 18 = .ok (.invokespecial 340, 3) := by decide +kernel
theorem dX5_checkPlace_21 : decode cX5_checkPlace 21 = .ok (.athrow, 1) := by decide +kernel
theorem dX5_checkPlace_22 : decode cX5_checkPlace 22 = .ok (.return_, 1) := by decide +kernel
theorem dX5_checkVehicle_0 : decode cX5_checkVehicle 0 = .ok (.iload_n 1, 1) := by decide +kernel
theorem dX5_checkVehicle_1 : decode cX5_checkVehicle 1 = .ok (.ifCond .lt 11, 3) := by decide +kernel
theorem dX5_checkVehicle_4 : decode cX5_checkVehicle 4 = .ok (.iload_n 1, 1) := by decide +kernel
theorem dX5_checkVehicle_5 : decode cX5_checkVehicle 5 = .ok (.aload_n 0, 1) := by decide +kernel
theorem dX5_checkVehicle_6 : decode cX5_checkVehicle 6 = .ok (.getfield 86, 3) := by decide +kernel
theorem dX5_checkVehicle_9 : decode cX5_checkVehicle 9 = .ok (.if_icmp .lt 14, 3) := by decide +kernel
theorem dX5_checkVehicle_12 : decode cX5_checkVehicle 12 = .ok (.new 336, 3) := by decide +kernel
theorem dX5_checkVehicle_15 : decode cX5_checkVehicle 15 = .ok (.dup, 1) := by decide +kernel
theorem dX5_checkVehicle_16 : decode cX5_checkVehicle 16 = .ok (.ldc_w 341, 3) := by decide +kernel
theorem dX5_checkVehicle_19 : decode cX5_checkVehicle 19 = .ok (.invokespecial 340, 3) := by decide +kernel
theorem dX5_checkVehicle_22 : decode cX5_checkVehicle 22 = .ok (.athrow, 1) := by decide +kernel
theorem dX5_checkVehicle_23 : decode cX5_checkVehicle 23 = .ok (.return_, 1) := by decide +kernel
theorem dX5_checkStop_0 : decode cX5_checkStop 0 = .ok (.aload_n 0, 1) := by decide +kernel
theorem dX5_checkStop_1 : decode cX5_checkStop 1 = .ok (.iload_n 1, 1) := by decide +kernel
theorem dX5_checkStop_2 : decode cX5_checkStop 2 = .ok (.invokevirtual 157, 3) := by decide +kernel
theorem dX5_checkStop_5 : decode cX5_checkStop 5 = .ok (.iload_n 2, 1) := by decide +kernel
theorem dX5_checkStop_6 : decode cX5_checkStop 6 = .ok (.ifCond .lt 19, 3) := by decide +kernel
theorem dX5_checkStop_9 : decode cX5_checkStop 9 = .ok (.iload_n 2, 1) := by decide +kernel
theorem dX5_checkStop_10 : decode cX5_checkStop 10 = .ok (.aload_n 0, 1) := by decide +kernel
theorem dX5_checkStop_11 : decode cX5_checkStop 11 = .ok (.getfield 18, 3) := by decide +kernel
theorem dX5_checkStop_14 : decode cX5_checkStop 14 = .ok (.iload_n 1, 1) := by decide +kernel
theorem dX5_checkStop_15 : decode cX5_checkStop 15 = .ok (.aaload, 1) := by decide +kernel
theorem dX5_checkStop_16 : decode cX5_checkStop 16 = .ok (.getfield 160, 3) := by decide +kernel
theorem dX5_checkStop_19 : decode cX5_checkStop 19 = .ok (.getfield 163, 3) := by decide +kernel
theorem dX5_checkStop_22 : decode cX5_checkStop 22 = .ok (.if_icmp .lt 14, 3) := by decide +kernel
theorem dX5_checkStop_25 : decode cX5_checkStop 25 = .ok (.new 336, 3) := by decide +kernel
theorem dX5_checkStop_28 : decode cX5_checkStop 28 = .ok (.dup, 1) := by decide +kernel
theorem dX5_checkStop_29 : decode cX5_checkStop 29 = .ok (.ldc_w 343, 3) := by decide +kernel
theorem dX5_checkStop_32 : decode cX5_checkStop 32 = .ok (.invokespecial 340, 3) := by decide +kernel
theorem dX5_checkStop_35 : decode cX5_checkStop 35 = .ok (.athrow, 1) := by decide +kernel
theorem dX5_checkStop_36 : decode cX5_checkStop 36 = .ok (.return_, 1) := by decide +kernel
theorem dX5_checkJob_0 : decode cX5_checkJob 0 = .ok (.iload_n 1, 1) := by decide +kernel
theorem dX5_checkJob_1 : decode cX5_checkJob 1 = .ok (.ifCond .lt 14, 3) := by decide +kernel
theorem dX5_checkJob_4 : decode cX5_checkJob 4 = .ok (.iload_n 1, 1) := by decide +kernel
theorem dX5_checkJob_5 : decode cX5_checkJob 5 = .ok (.aload_n 0, 1) := by decide +kernel
theorem dX5_checkJob_6 : decode cX5_checkJob 6 = .ok (.getfield 12, 3) := by decide +kernel
theorem dX5_checkJob_9 : decode cX5_checkJob 9 = .ok (.getfield 111, 3) := by decide +kernel
theorem dX5_checkJob_12 : decode cX5_checkJob 12 = .ok (.if_icmp .lt 14, 3) := by decide +kernel
theorem dX5_checkJob_15 : decode cX5_checkJob 15 = .ok (.new 336, 3) := by decide +kernel
theorem dX5_checkJob_18 : decode cX5_checkJob 18 = .ok (.dup, 1) := by decide +kernel
theorem dX5_checkJob_19 : decode cX5_checkJob 19 = .ok (.ldc_w 345, 3) := by decide +kernel
theorem dX5_checkJob_22 : decode cX5_checkJob 22 = .ok (.invokespecial 340, 3) := by decide +kernel
theorem dX5_checkJob_25 : decode cX5_checkJob 25 = .ok (.athrow, 1) := by decide +kernel
theorem dX5_checkJob_26 : decode cX5_checkJob 26 = .ok (.return_, 1) := by decide +kernel
theorem dX5_checkOpen_0 : decode cX5_checkOpen 0 = .ok (.aload_n 0, 1) := by decide +kernel
theorem dX5_checkOpen_1 : decode cX5_checkOpen 1 = .ok (.iload_n 1, 1) := by decide +kernel
theorem dX5_checkOpen_2 : decode cX5_checkOpen 2 = .ok (.invokevirtual 194, 3) := by decide +kernel
theorem dX5_checkOpen_5 : decode cX5_checkOpen 5 = .ok (.iconst (-1), 1) := by decide +kernel
theorem dX5_checkOpen_6 : decode cX5_checkOpen 6 = .ok (.if_icmp .eq 14, 3) := by decide +kernel
theorem dX5_checkOpen_9 : decode cX5_checkOpen 9 = .ok (.new 65, 3) := by decide +kernel
theorem dX5_checkOpen_12 : decode cX5_checkOpen 12 = .ok (.dup, 1) := by decide +kernel
theorem dX5_checkOpen_13 : decode cX5_checkOpen 13 = .ok (.ldc_w 347, 3) := by decide +kernel
theorem dX5_checkOpen_16 : decode cX5_checkOpen 16 = .ok (.invokespecial 69, 3) := by decide +kernel
theorem dX5_checkOpen_19 : decode cX5_checkOpen 19 = .ok (.athrow, 1) := by decide +kernel
theorem dX5_checkOpen_20 : decode cX5_checkOpen 20 = .ok (.return_, 1) := by decide +kernel
theorem dX5_fetchOf_0 : decode cX5_fetchOf 0 = .ok (.iconst 2, 1) := by decide +kernel
theorem dX5_fetchOf_1 : decode cX5_fetchOf 1 = .ok (.iload_n 0, 1) := by decide +kernel
theorem dX5_fetchOf_2 : decode cX5_fetchOf 2 = .ok (.imul, 1) := by decide +kernel
theorem dX5_fetchOf_3 : decode cX5_fetchOf 3 = .ok (.ireturn, 1) := by decide +kernel
theorem dX5_bringOf_0 : decode cX5_bringOf 0 = .ok (.iconst 2, 1) := by decide +kernel
theorem dX5_bringOf_1 : decode cX5_bringOf 1 = .ok (.iload_n 0, 1) := by decide +kernel
theorem dX5_bringOf_2 : decode cX5_bringOf 2 = .ok (.imul, 1) := by decide +kernel
theorem dX5_bringOf_3 : decode cX5_bringOf 3 = .ok (.iconst 1, 1) := by decide +kernel
theorem dX5_bringOf_4 : decode cX5_bringOf 4 = .ok (.iadd, 1) := by decide +kernel
theorem dX5_bringOf_5 : decode cX5_bringOf 5 = .ok (.ireturn, 1) := by decide +kernel
theorem dX5_jobOf_0 : decode cX5_jobOf 0 = .ok (.iload_n 0, 1) := by decide +kernel
theorem dX5_jobOf_1 : decode cX5_jobOf 1 = .ok (.iconst 1, 1) := by decide +kernel
theorem dX5_jobOf_2 : decode cX5_jobOf 2 = .ok (.ishr, 1) := by decide +kernel
theorem dX5_jobOf_3 : decode cX5_jobOf 3 = .ok (.ireturn, 1) := by decide +kernel
theorem dX5_isFetch_0 : decode cX5_isFetch 0 = .ok (.iload_n 0, 1) := by decide +kernel
theorem dX5_isFetch_1 : decode cX5_isFetch 1 = .ok (.iconst 1, 1) := by decide +kernel
theorem dX5_isFetch_2 : decode cX5_isFetch 2 = .ok (.iand, 1) := by decide +kernel
theorem dX5_isFetch_3 : decode cX5_isFetch 3 = .ok (.ifCond .ne 7, 3) := by decide +kernel
theorem dX5_isFetch_6 : decode cX5_isFetch 6 = .ok (.iconst 1, 1) := by decide +kernel
theorem dX5_isFetch_7 : decode cX5_isFetch 7 = .ok (.goto 4, 3) := by decide +kernel
theorem dX5_isFetch_10 : decode cX5_isFetch 10 = .ok (.iconst 0, 1) := by decide +kernel
theorem dX5_isFetch_11 : decode cX5_isFetch 11 = .ok (.ireturn, 1) := by decide +kernel
theorem dX5_carrierOf_0 : decode cX5_carrierOf 0 = .ok (.iconst 0, 1) := by decide +kernel
theorem dX5_carrierOf_1 : decode cX5_carrierOf 1 = .ok (.istore_n 2, 1) := by decide +kernel
theorem dX5_carrierOf_2 : decode cX5_carrierOf 2 = .ok (.iload_n 2, 1) := by decide +kernel
theorem dX5_carrierOf_3 : decode cX5_carrierOf 3 = .ok (.aload_n 0, 1) := by decide +kernel
theorem dX5_carrierOf_4 : decode cX5_carrierOf 4 = .ok (.getfield 86, 3) := by decide +kernel
theorem dX5_carrierOf_7 : decode cX5_carrierOf 7 = .ok (.if_icmp .ge 31, 3) := by decide +kernel
theorem dX5_carrierOf_10 : decode cX5_carrierOf 10 = .ok (.aload_n 0, 1) := by decide +kernel
theorem dX5_carrierOf_11 : decode cX5_carrierOf 11 = .ok (.getfield 18, 3) := by decide +kernel
theorem dX5_carrierOf_14 : decode cX5_carrierOf 14 = .ok (.iload_n 2, 1) := by decide +kernel
theorem dX5_carrierOf_15 : decode cX5_carrierOf 15 = .ok (.aaload, 1) := by decide +kernel
theorem dX5_carrierOf_16 : decode cX5_carrierOf 16 = .ok (.getfield 160, 3) := by decide +kernel
theorem dX5_carrierOf_19 : decode cX5_carrierOf 19 = .ok (.iload_n 1, 1) := by decide +kernel
theorem dX5_carrierOf_20 : decode cX5_carrierOf 20 = .ok (.invokestatic 129, 3) := by decide +kernel
theorem dX5_carrierOf_23 : decode cX5_carrierOf 23 = .ok (.invokevirtual 349, 3) := by decide +kernel
theorem dX5_carrierOf_26 : decode cX5_carrierOf 26 = .ok (.iconst (-1), 1) := by decide +kernel
theorem dX5_carrierOf_27 : decode cX5_carrierOf 27 = .ok (.if_icmp .eq 5, 3) := by decide +kernel
theorem dX5_carrierOf_30 : decode cX5_carrierOf 30 = .ok (.iload_n 2, 1) := by decide +kernel
theorem dX5_carrierOf_31 : decode cX5_carrierOf 31 = .ok (.ireturn, 1) := by decide +kernel
theorem dX5_carrierOf_32 : decode cX5_carrierOf 32 = .ok (.iinc 2 1, 3) := by decide +kernel
theorem dX5_carrierOf_35 : decode cX5_carrierOf 35 = .ok (.goto (-33), 3) := by decide +kernel
theorem dX5_carrierOf_38 : decode cX5_carrierOf 38 = .ok (.iconst (-1), 1) := by decide +kernel
theorem dX5_carrierOf_39 : decode cX5_carrierOf 39 = .ok (.ireturn, 1) := by decide +kernel
theorem dX5_isBound_0 : decode cX5_isBound 0 = .ok (.iconst 0, 1) := by decide +kernel
theorem dX5_isBound_1 : decode cX5_isBound 1 = .ok (.istore_n 2, 1) := by decide +kernel
theorem dX5_isBound_2 : decode cX5_isBound 2 = .ok (.iload_n 2, 1) := by decide +kernel
theorem dX5_isBound_3 : decode cX5_isBound 3 = .ok (.aload_n 0, 1) := by decide +kernel
theorem dX5_isBound_4 : decode cX5_isBound 4 = .ok (.getfield 86, 3) := by decide +kernel
theorem dX5_isBound_7 : decode cX5_isBound 7 = .ok (.if_icmp .ge 50, 3) := by decide +kernel
theorem dX5_isBound_10 : decode cX5_isBound 10 = .ok (.aload_n 0, 1) := by decide +kernel
theorem dX5_isBound_11 : decode cX5_isBound 11 = .ok (.getfield 18, 3) := by decide +kernel
theorem dX5_isBound_14 : decode cX5_isBound 14 = .ok (.iload_n 2, 1) := by decide +kernel
theorem dX5_isBound_15 : decode cX5_isBound 15 = .ok (.aaload, 1) := by decide +kernel
theorem dX5_isBound_16 : decode cX5_isBound 16 = .ok (.getfield 160, 3) := by decide +kernel
theorem dX5_isBound_19 : decode cX5_isBound 19 = .ok (.iload_n 1, 1) := by decide +kernel
theorem dX5_isBound_20 : decode cX5_isBound 20 = .ok (.invokestatic 129, 3) := by decide +kernel
theorem dX5_isBound_23 : decode cX5_isBound 23 = .ok (.invokevirtual 349, 3) := by decide +kernel
theorem dX5_isBound_26 : decode cX5_isBound 26 = .ok (.istore_n 3, 1) := by decide +kernel
theorem dX5_isBound_27 : decode cX5_isBound 27 = .ok (.iload_n 3, 1) := by decide +kernel
theorem dX5_isBound_28 : decode cX5_isBound 28 = .ok (.iconst (-1), 1) := by decide +kernel
theorem dX5_isBound_29 : decode cX5_isBound 29 = .ok (.if_icmp .eq 22, 3) := by decide +kernel
theorem dX5_isBound_32 : decode cX5_isBound 32 = .ok (.iload_n 3, 1) := by decide +kernel
theorem dX5_isBound_33 : decode cX5_isBound 33 = .ok (.aload_n 0, 1) := by decide +kernel
theorem dX5_isBound_34 : decode cX5_isBound 34 = .ok (.getfield 18, 3) := by decide +kernel
theorem dX5_isBound_37 : decode cX5_isBound 37 = .ok (.iload_n 2, 1) := by decide +kernel
theorem dX5_isBound_38 : decode cX5_isBound 38 = .ok (.aaload, 1) := by decide +kernel
theorem dX5_isBound_39 : decode cX5_isBound 39 = .ok (.getfield 179, 3) := by decide +kernel
theorem dX5_isBound_42 : decode cX5_isBound 42 = .ok (.if_icmp .ge 7, 3) := by decide +kernel
theorem dX5_isBound_45 : decode cX5_isBound 45 = .ok (.iconst 1, 1) := by decide +kernel
theorem dX5_isBound_46 : decode cX5_isBound 46 = .ok (.goto 4, 3) := by decide +kernel
theorem dX5_isBound_49 : decode cX5_isBound 49 = .ok (.iconst 0, 1) := by decide +kernel
theorem dX5_isBound_50 : decode cX5_isBound 50 = .ok (.ireturn, 1) := by decide +kernel
theorem dX5_isBound_51 : decode cX5_isBound 51 = .ok (.iinc 2 1, 3) := by decide +kernel
theorem dX5_isBound_54 : decode cX5_isBound 54 = .ok (.goto (-52), 3) := by decide +kernel
theorem dX5_isBound_57 : decode cX5_isBound 57 = .ok (.iconst 0, 1) := by decide +kernel
theorem dX5_isBound_58 : decode cX5_isBound 58 = .ok (.ireturn, 1) := by decide +kernel
theorem dX5_isMovable_0 : decode cX5_isMovable 0 = .ok (.aload_n 0, 1) := by decide +kernel
theorem dX5_isMovable_1 : decode cX5_isMovable 1 = .ok (.iload_n 1, 1) := by decide +kernel
theorem dX5_isMovable_2 : decode cX5_isMovable 2 = .ok (.invokevirtual 194, 3) := by decide +kernel
theorem dX5_isMovable_5 : decode cX5_isMovable 5 = .ok (.iconst (-1), 1) := by decide +kernel
theorem dX5_isMovable_6 : decode cX5_isMovable 6 = .ok (.if_icmp .eq 15, 3) := by decide +kernel
theorem dX5_isMovable_9 : decode cX5_isMovable 9 = .ok (.aload_n 0, 1) := by decide +kernel
theorem dX5_isMovable_10 : decode cX5_isMovable 10 = .ok (.iload_n 1, 1) := by decide +kernel
theorem dX5_isMovable_11 : decode cX5_isMovable 11 = .ok (.invokevirtual 123, 3) := by decide +kernel
theorem dX5_isMovable_14 : decode cX5_isMovable 14 = .ok (.ifCond .ne 7, 3) := by decide +kernel
theorem dX5_isMovable_17 : decode cX5_isMovable 17 = .ok (.iconst 1, 1) := by decide +kernel
theorem dX5_isMovable_18 : decode cX5_isMovable 18 = .ok (.goto 4, 3) := by decide +kernel
theorem dX5_isMovable_21 : decode cX5_isMovable 21 = .ok (.iconst 0, 1) := by decide +kernel
theorem dX5_isMovable_22 : decode cX5_isMovable 22 = .ok (.ireturn, 1) := by decide +kernel
theorem dX5_takeOut_0 : decode cX5_takeOut 0 = .ok (.iconst 0, 1) := by decide +kernel
theorem dX5_takeOut_1 : decode cX5_takeOut 1 = .ok (.istore_n 2, 1) := by decide +kernel
theorem dX5_takeOut_2 : decode cX5_takeOut 2 = .ok (.iload_n 2, 1) := by decide +kernel
theorem dX5_takeOut_3 : decode cX5_takeOut 3 = .ok (.aload_n 0, 1) := by decide +kernel
theorem dX5_takeOut_4 : decode cX5_takeOut 4 = .ok (.getfield 86, 3) := by decide +kernel
theorem dX5_takeOut_7 : decode cX5_takeOut 7 = .ok (.if_icmp .ge 54, 3) := by decide +kernel
theorem dX5_takeOut_10 : decode cX5_takeOut 10 = .ok (.aload_n 0, 1) := by decide +kernel
theorem dX5_takeOut_11 : decode cX5_takeOut 11 = .ok (.getfield 18, 3) := by decide +kernel
theorem dX5_takeOut_14 : decode cX5_takeOut 14 = .ok (.iload_n 2, 1) := by decide +kernel
theorem dX5_takeOut_15 : decode cX5_takeOut 15 = .ok (.aaload, 1) := by decide +kernel
theorem dX5_takeOut_16 : decode cX5_takeOut 16 = .ok (.astore_n 3, 1) := by decide +kernel
theorem dX5_takeOut_17 : decode cX5_takeOut 17 = .ok (.aload_n 3, 1) := by decide +kernel
theorem dX5_takeOut_18 : decode cX5_takeOut 18 = .ok (.getfield 160, 3) := by decide +kernel
theorem dX5_takeOut_21 : decode cX5_takeOut 21 = .ok (.iload_n 1, 1) := by decide +kernel
theorem dX5_takeOut_22 : decode cX5_takeOut 22 = .ok (.invokestatic 129, 3) := by decide +kernel
theorem dX5_takeOut_25 : decode cX5_takeOut 25 = .ok (.invokevirtual 349, 3) := by decide +kernel
theorem dX5_takeOut_28 : decode cX5_takeOut 28 = .ok (.iconst (-1), 1) := by decide +kernel
theorem dX5_takeOut_29 : decode cX5_takeOut 29 = .ok (.if_icmp .eq 26, 3) := by decide +kernel
theorem dX5_takeOut_32 : decode cX5_takeOut 32 = .ok (.aload_n 3, 1) := by decide +kernel
theorem dX5_takeOut_33 : decode cX5_takeOut 33 = .ok (.getfield 168, 3) := by decide +kernel
theorem dX5_takeOut_36 : decode cX5_takeOut 36 = .ok (.aload_n 3, 1) := by decide +kernel
theorem dX5_takeOut_37 : decode cX5_takeOut 37 = .ok (.getfield 160, 3) := by decide +kernel
theorem dX5_takeOut_40 : decode cX5_takeOut 40 = .ok (.iload_n 1, 1) := by decide +kernel
theorem dX5_takeOut_41 : decode cX5_takeOut 41 = .ok (.invokevirtual 352, 3) := by decide +kernel
theorem dX5_takeOut_44 : decode cX5_takeOut 44 = .ok (.aload_n 3, 1) := by decide +kernel
theorem dX5_takeOut_45 : decode cX5_takeOut 45 = .ok (.getfield 160, 3) := by decide +kernel
theorem dX5_takeOut_48 : decode cX5_takeOut 48 = .ok (.aload_n 3, 1) := by decide +kernel
theorem dX5_takeOut_49 : decode cX5_takeOut 49 = .ok (.getfield 168, 3) := by decide +kernel
theorem dX5_takeOut_52 : decode cX5_takeOut 52 = .ok (.invokevirtual 190, 3) := by decide +kernel
theorem dX5_takeOut_55 : decode cX5_takeOut 55 = .ok (.iinc 2 1, 3) := by decide +kernel
theorem dX5_takeOut_58 : decode cX5_takeOut 58 = .ok (.goto (-56), 3) := by decide +kernel
theorem dX5_takeOut_61 : decode cX5_takeOut 61 = .ok (.return_, 1) := by decide +kernel
theorem dX5_rideWhole_0 : decode cX5_rideWhole 0 = .ok (.aload_n 0, 1) := by decide +kernel
theorem dX5_rideWhole_1 : decode cX5_rideWhole 1 = .ok (.getfield 26, 3) := by decide +kernel
theorem dX5_rideWhole_4 : decode cX5_rideWhole 4 = .ok (.aload_n 0, 1) := by decide +kernel
theorem dX5_rideWhole_5 : decode cX5_rideWhole 5 = .ok (.getfield 12, 3) := by decide +kernel
theorem dX5_rideWhole_8 : decode cX5_rideWhole 8 = .ok (.aload_n 1, 1) := by decide +kernel
theorem dX5_rideWhole_9 : decode cX5_rideWhole 9 = .ok (.aload_n 1, 1) := by decide +kernel
theorem dX5_rideWhole_10 : decode cX5_rideWhole 10 = .ok (.getfield 160, 3) := by decide +kernel
theorem dX5_rideWhole_13 : decode cX5_rideWhole 13 = .ok (.invokevirtual 175, 3) := by decide +kernel
theorem dX5_rideWhole_16 : decode cX5_rideWhole 16 = .ok (.pop, 1) := by decide +kernel
theorem dX5_rideWhole_17 : decode cX5_rideWhole 17 = .ok (.return_, 1) := by decide +kernel
theorem dX5_rideTo_0 : decode cX5_rideTo 0 = .ok (.aload_n 0, 1) := by decide +kernel
theorem dX5_rideTo_1 : decode cX5_rideTo 1 = .ok (.getfield 26, 3) := by decide +kernel
theorem dX5_rideTo_4 : decode cX5_rideTo 4 = .ok (.aload_n 1, 1) := by decide +kernel
theorem dX5_rideTo_5 : decode cX5_rideTo 5 = .ok (.invokevirtual 322, 3) := by decide +kernel
theorem dX5_rideTo_8 : decode cX5_rideTo 8 = .ok (.iconst 0, 1) := by decide +kernel
theorem dX5_rideTo_9 : decode cX5_rideTo 9 = .ok (.istore_n 3, 1) := by decide +kernel
theorem dX5_rideTo_10 : decode cX5_rideTo 10 = .ok (.iload_n 3, 1) := by decide +kernel
theorem dX5_rideTo_11 : decode cX5_rideTo 11 = .ok (.iload_n 2, 1) := by decide +kernel
theorem dX5_rideTo_12 : decode cX5_rideTo 12 = .ok (.if_icmp .gt 29, 3) := by decide +kernel
theorem dX5_rideTo_15 : decode cX5_rideTo 15 = .ok (.aload_n 0, 1) := by decide +kernel
theorem dX5_rideTo_16 : decode cX5_rideTo 16 = .ok (.getfield 26, 3) := by decide +kernel
theorem dX5_rideTo_19 : decode cX5_rideTo 19 = .ok (.aload_n 0, 1) := by decide +kernel
theorem dX5_rideTo_20 : decode cX5_rideTo 20 = .ok (.getfield 12, 3) := by decide +kernel
theorem dX5_rideTo_23 : decode cX5_rideTo 23 = .ok (.aload_n 1, 1) := by decide +kernel
theorem dX5_rideTo_24 : decode cX5_rideTo 24 = .ok (.aload_n 1, 1) := by decide +kernel
theorem dX5_rideTo_25 : decode cX5_rideTo 25 = .ok (.getfield 160, 3) := by decide +kernel
theorem dX5_rideTo_28 : decode cX5_rideTo 28 = .ok (.iload_n 3, 1) := by decide +kernel
theorem dX5_rideTo_29 : decode cX5_rideTo 29 = .ok (.invokevirtual 253, 3) := by decide +kernel
theorem dX5_rideTo_32 : decode cX5_rideTo 32 = .ok (.invokevirtual 325, 3) := by decide +kernel
theorem dX5_rideTo_35 : decode cX5_rideTo 35 = .ok (.iinc 3 1, 3) := by decide +kernel
theorem dX5_rideTo_38 : decode cX5_rideTo 38 = .ok (.goto (-28), 3) := by decide +kernel
theorem dX5_rideTo_41 : decode cX5_rideTo 41 = .ok (.return_, 1) := by decide +kernel
theorem dX5_areAllRight_0 : decode cX5_areAllRight 0 = .ok (.iconst 0, 1) := by decide +kernel
theorem dX5_areAllRight_1 : decode cX5_areAllRight 1 = .ok (.istore_n 1, 1) := by decide +kernel
theorem dX5_areAllRight_2 : decode cX5_areAllRight 2 = .ok (.iload_n 1, 1) := by decide +kernel
theorem dX5_areAllRight_3 : decode cX5_areAllRight 3 = .ok (.aload_n 0, 1) := by decide +kernel
theorem dX5_areAllRight_4 : decode cX5_areAllRight 4 = .ok (.getfield 86, 3) := by decide +kernel
theorem dX5_areAllRight_7 : decode cX5_areAllRight 7 = .ok (.if_icmp .ge 40, 3) := by decide +kernel
theorem dX5_areAllRight_10 : decode cX5_areAllRight 10 = .ok (.aload_n 0, 1) := by decide +kernel
theorem dX5_areAllRight_11 : decode cX5_areAllRight 11 = .ok (.getfield 26, 3) := by decide +kernel
theorem dX5_areAllRight_14 : decode cX5_areAllRight 14 = .ok (.aload_n 0, 1) := by decide +kernel
theorem dX5_areAllRight_15 : decode cX5_areAllRight 15 = .ok (.getfield 12, 3) := by decide +kernel
theorem dX5_areAllRight_18 : decode cX5_areAllRight 18 = .ok (.aload_n 0, 1) := by decide +kernel
theorem dX5_areAllRight_19 : decode cX5_areAllRight 19 = .ok (.getfield 18, 3) := by decide +kernel
theorem dX5_areAllRight_22 : decode cX5_areAllRight 22 = .ok (.iload_n 1, 1) := by decide +kernel
theorem dX5_areAllRight_23 : decode cX5_areAllRight 23 = .ok (.aaload, 1) := by decide +kernel
theorem dX5_areAllRight_24 : decode cX5_areAllRight 24 = .ok (.aload_n 0, 1) := by decide +kernel
theorem dX5_areAllRight_25 : decode cX5_areAllRight 25 = .ok (.getfield 18, 3) := by decide +kernel
theorem dX5_areAllRight_28 : decode cX5_areAllRight 28 = .ok (.iload_n 1, 1) := by decide +kernel
theorem dX5_areAllRight_29 : decode cX5_areAllRight 29 = .ok (.aaload, 1) := by decide +kernel
theorem dX5_areAllRight_30 : decode cX5_areAllRight 30 = .ok (.getfield 160, 3) := by decide +kernel
theorem dX5_areAllRight_33 : decode cX5_areAllRight 33 = .ok (.invokevirtual 231, 3) := by decide +kernel
theorem dX5_areAllRight_36 : decode cX5_areAllRight 36 = .ok (.ifCond .ne 5, 3) := by decide +kernel
theorem dX5_areAllRight_39 : decode cX5_areAllRight 39 = .ok (.iconst 0, 1) := by decide +kernel
theorem dX5_areAllRight_40 : decode cX5_areAllRight 40 = .ok (.ireturn, 1) := by decide +kernel
theorem dX5_areAllRight_41 : decode cX5_areAllRight 41 = .ok (.iinc 1 1, 3) := by decide +kernel
theorem dX5_areAllRight_44 : decode cX5_areAllRight 44 = .ok (.goto (-42), 3) := by decide +kernel
theorem dX5_areAllRight_47 : decode cX5_areAllRight 47 = .ok (.iconst 1, 1) := by decide +kernel
theorem dX5_areAllRight_48 : decode cX5_areAllRight 48 = .ok (.ireturn, 1) := by decide +kernel
theorem dX5_costOfAll_0 : decode cX5_costOfAll 0 = .ok (.iconst 0, 1) := by decide +kernel
theorem dX5_costOfAll_1 : decode cX5_costOfAll 1 = .ok (.istore_n 1, 1) := by decide +kernel
theorem dX5_costOfAll_2 : decode cX5_costOfAll 2 = .ok (.iconst 0, 1) := by decide +kernel
theorem dX5_costOfAll_3 : decode cX5_costOfAll 3 = .ok (.istore_n 2, 1) := by decide +kernel
theorem dX5_costOfAll_4 : decode cX5_costOfAll 4 = .ok (.iload_n 2, 1) := by decide +kernel
theorem dX5_costOfAll_5 : decode cX5_costOfAll 5 = .ok (.aload_n 0, 1) := by decide +kernel
theorem dX5_costOfAll_6 : decode cX5_costOfAll 6 = .ok (.getfield 86, 3) := by decide +kernel
theorem dX5_costOfAll_9 : decode cX5_costOfAll 9 = .ok (.if_icmp .ge 38, 3) := by decide +kernel
theorem dX5_costOfAll_12 : decode cX5_costOfAll 12 = .ok (.iload_n 1, 1) := by decide +kernel
theorem dX5_costOfAll_13 : decode cX5_costOfAll 13 = .ok (.aload_n 0, 1) := by decide +kernel
theorem dX5_costOfAll_14 : decode cX5_costOfAll 14 = .ok (.getfield 26, 3) := by decide +kernel
theorem dX5_costOfAll_17 : decode cX5_costOfAll 17 = .ok (.aload_n 0, 1) := by decide +kernel
theorem dX5_costOfAll_18 : decode cX5_costOfAll 18 = .ok (.getfield 12, 3) := by decide +kernel
theorem dX5_costOfAll_21 : decode cX5_costOfAll 21 = .ok (.aload_n 0, 1) := by decide +kernel
theorem dX5_costOfAll_22 : decode cX5_costOfAll 22 = .ok (.getfield 18, 3) := by decide +kernel
theorem dX5_costOfAll_25 : decode cX5_costOfAll 25 = .ok (.iload_n 2, 1) := by decide +kernel
theorem dX5_costOfAll_26 : decode cX5_costOfAll 26 = .ok (.aaload, 1) := by decide +kernel
theorem dX5_costOfAll_27 : decode cX5_costOfAll 27 = .ok (.aload_n 0, 1) := by decide +kernel
theorem dX5_costOfAll_28 : decode cX5_costOfAll 28 = .ok (.getfield 18, 3) := by decide +kernel
theorem dX5_costOfAll_31 : decode cX5_costOfAll 31 = .ok (.iload_n 2, 1) := by decide +kernel
theorem dX5_costOfAll_32 : decode cX5_costOfAll 32 = .ok (.aaload, 1) := by decide +kernel
theorem dX5_costOfAll_33 : decode cX5_costOfAll 33 = .ok (.getfield 160, 3) := by decide +kernel
theorem dX5_costOfAll_36 : decode cX5_costOfAll 36 = .ok (.invokevirtual 175, 3) := by decide +kernel
theorem dX5_costOfAll_39 : decode cX5_costOfAll 39 = .ok (.iadd, 1) := by decide +kernel
theorem dX5_costOfAll_40 : decode cX5_costOfAll 40 = .ok (.istore_n 1, 1) := by decide +kernel
theorem dX5_costOfAll_41 : decode cX5_costOfAll 41 = .ok (.iinc 2 1, 3) := by decide +kernel
theorem dX5_costOfAll_44 : decode cX5_costOfAll 44 = .ok (.goto (-40), 3) := by decide +kernel
theorem dX5_costOfAll_47 : decode cX5_costOfAll 47 = .ok (.iconst 0, 1) := by decide +kernel
theorem dX5_costOfAll_48 : decode cX5_costOfAll 48 = .ok (.istore_n 2, 1) := by decide +kernel
theorem dX5_costOfAll_49 : decode cX5_costOfAll 49 = .ok (.iload_n 2, 1) := by decide +kernel
theorem dX5_costOfAll_50 : decode cX5_costOfAll 50 = .ok (.aload_n 0, 1) := by decide +kernel
theorem dX5_costOfAll_51 : decode cX5_costOfAll 51 = .ok (.getfield 12, 3) := by decide +kernel
theorem dX5_costOfAll_54 : decode cX5_costOfAll 54 = .ok (.getfield 111, 3) := by decide +kernel
theorem dX5_costOfAll_57 : decode cX5_costOfAll 57 = .ok (.if_icmp .ge 30, 3) := by decide +kernel
theorem dX5_costOfAll_60 : decode cX5_costOfAll 60 = .ok (.aload_n 0, 1) := by decide +kernel
theorem dX5_costOfAll_61 : decode cX5_costOfAll 61 = .ok (.iload_n 2, 1) := by decide +kernel
theorem dX5_costOfAll_62 : decode cX5_costOfAll 62 = .ok (.invokevirtual 194, 3) := by decide +kernel
theorem dX5_costOfAll_65 : decode cX5_costOfAll 65 = .ok (.iconst (-1), 1) := by decide +kernel
theorem dX5_costOfAll_66 : decode cX5_costOfAll 66 = .ok (.if_icmp .ne 15, 3) := by decide +kernel
theorem dX5_costOfAll_69 : decode cX5_costOfAll 69 = .ok (.iload_n 1, 1) := by decide +kernel
theorem dX5_costOfAll_70 : decode cX5_costOfAll 70 = .ok (.aload_n 0, 1) := by decide +kernel
theorem dX5_costOfAll_71 : decode cX5_costOfAll 71 = .ok (.getfield 12, 3) := by decide +kernel
theorem dX5_costOfAll_74 : decode cX5_costOfAll 74 = .ok (.getfield 310, 3) := by decide +kernel
theorem dX5_costOfAll_77 : decode cX5_costOfAll 77 = .ok (.iload_n 2, 1) := by decide +kernel
theorem dX5_costOfAll_78 : decode cX5_costOfAll 78 = .ok (.iaload, 1) := by decide +kernel
theorem dX5_costOfAll_79 : decode cX5_costOfAll 79 = .ok (.iadd, 1) := by decide +kernel
theorem dX5_costOfAll_80 : decode cX5_costOfAll 80 = .ok (.istore_n 1, 1) := by decide +kernel
theorem dX5_costOfAll_81 : decode cX5_costOfAll 81 = .ok (.iinc 2 1, 3) := by decide +kernel
theorem dX5_costOfAll_84 : decode cX5_costOfAll 84 = .ok (.goto (-35), 3) := by decide +kernel
theorem dX5_costOfAll_87 : decode cX5_costOfAll 87 = .ok (.iload_n 1, 1) := by decide +kernel
theorem dX5_costOfAll_88 : decode cX5_costOfAll 88 = .ok (.ireturn, 1) := by decide +kernel
theorem dX5_savedWithout_0 : decode cX5_savedWithout 0 = .ok (.iconst 0, 1) := by decide +kernel
theorem dX5_savedWithout_1 : decode cX5_savedWithout 1 = .ok (.istore_n 2, 1) := by decide +kernel
theorem dX5_savedWithout_2 : decode cX5_savedWithout 2 = .ok (.iload_n 2, 1) := by decide +kernel
theorem dX5_savedWithout_3 : decode cX5_savedWithout 3 = .ok (.aload_n 0, 1) := by decide +kernel
theorem dX5_savedWithout_4 : decode cX5_savedWithout 4 = .ok (.getfield 86, 3) := by decide +kernel
theorem dX5_savedWithout_7 : decode cX5_savedWithout 7 = .ok (.if_icmp .ge 77, 3) := by decide +kernel
theorem dX5_savedWithout_10 : decode cX5_savedWithout 10 = .ok (.aload_n 0, 1) := by decide +kernel
theorem dX5_savedWithout_11 : decode cX5_savedWithout 11 = .ok (.getfield 18, 3) := by decide +kernel
theorem dX5_savedWithout_14 : decode cX5_savedWithout 14 = .ok (.iload_n 2, 1) := by decide +kernel
theorem dX5_savedWithout_15 : decode cX5_savedWithout 15 = .ok (.aaload, 1) := by decide +kernel
theorem dX5_savedWithout_16 : decode cX5_savedWithout 16 = .ok (.astore_n 3, 1) := by decide +kernel
theorem dX5_savedWithout_17 : decode cX5_savedWithout 17 = .ok (.aload_n 3, 1) := by decide +kernel
theorem dX5_savedWithout_18 : decode cX5_savedWithout 18 = .ok (.getfield 160, 3) := by decide +kernel
theorem dX5_savedWithout_21 : decode cX5_savedWithout 21 = .ok (.iload_n 1, 1) := by decide +kernel
theorem dX5_savedWithout_22 : decode cX5_savedWithout 22 = .ok (.invokestatic 129, 3) := by decide +kernel
theorem dX5_savedWithout_25 : decode cX5_savedWithout 25 = .ok (.invokevirtual 349, 3) := by decide +kernel
theorem dX5_savedWithout_28 : decode cX5_savedWithout 28 = .ok (.iconst (-1), 1) := by decide +kernel
theorem dX5_savedWithout_29 : decode cX5_savedWithout 29 = .ok (.if_icmp .eq 49, 3) := by decide +kernel
theorem dX5_savedWithout_32 : decode cX5_savedWithout 32 = .ok (.aload_n 0, 1) := by decide +kernel
theorem dX5_savedWithout_33 : decode cX5_savedWithout 33 = .ok (.getfield 33, 3) := by decide +kernel
theorem dX5_savedWithout_36 : decode cX5_savedWithout 36 = .ok (.aload_n 3, 1) := by decide +kernel
theorem dX5_savedWithout_37 : decode cX5_savedWithout 37 = .ok (.getfield 160, 3) := by decide +kernel
theorem dX5_savedWithout_40 : decode cX5_savedWithout 40 = .ok (.iload_n 1, 1) := by decide +kernel
theorem dX5_savedWithout_41 : decode cX5_savedWithout 41 = .ok (.invokevirtual 352, 3) := by decide +kernel
theorem dX5_savedWithout_44 : decode cX5_savedWithout 44 = .ok (.aload_n 0, 1) := by decide +kernel
theorem dX5_savedWithout_45 : decode cX5_savedWithout 45 = .ok (.getfield 26, 3) := by decide +kernel
theorem dX5_savedWithout_48 : decode cX5_savedWithout 48 = .ok (.aload_n 0, 1) := by decide +kernel
theorem dX5_savedWithout_49 : decode cX5_savedWithout 49 = .ok (.getfield 12, 3) := by decide +kernel
theorem dX5_savedWithout_52 : decode cX5_savedWithout 52 = .ok (.aload_n 3, 1) := by decide +kernel
theorem dX5_savedWithout_53 : decode cX5_savedWithout 53 = .ok (.aload_n 3, 1) := by decide +kernel
theorem dX5_savedWithout_54 : decode cX5_savedWithout 54 = .ok (.getfield 160, 3) := by decide +kernel
theorem dX5_savedWithout_57 : decode cX5_savedWithout 57 = .ok (.invokevirtual 175, 3) := by decide +kernel
theorem dX5_savedWithout_60 : decode cX5_savedWithout 60 = .ok (.aload_n 0, 1) := by decide +kernel
theorem dX5_savedWithout_61 : decode cX5_savedWithout 61 = .ok (.getfield 26, 3) := by decide +kernel
theorem dX5_savedWithout_64 : decode cX5_savedWithout 64 = .ok (.aload_n 0, 1) := by decide +kernel
theorem dX5_savedWithout_65 : decode cX5_savedWithout 65 = .ok (.getfield 12, 3) := by decide +kernel
theorem dX5_savedWithout_68 : decode cX5_savedWithout 68 = .ok (.aload_n 3, 1) := by decide +kernel
theorem dX5_savedWithout_69 : decode cX5_savedWithout 69 = .ok (.aload_n 0, 1) := by decide +kernel
theorem dX5_savedWithout_70 : decode cX5_savedWithout 70 = .ok (.getfield 33, 3) := by decide +kernel
theorem dX5_savedWithout_73 : decode cX5_savedWithout 73 = .ok (.invokevirtual 175, 3) := by decide +kernel
theorem dX5_savedWithout_76 : decode cX5_savedWithout 76 = .ok (.isub, 1) := by decide +kernel
theorem dX5_savedWithout_77 : decode cX5_savedWithout 77 = .ok (.ireturn, 1) := by decide +kernel
theorem dX5_savedWithout_78 : decode cX5_savedWithout 78 = .ok (.iinc 2 1, 3) := by decide +kernel
theorem dX5_savedWithout_81 : decode cX5_savedWithout 81 = .ok (.goto (-79), 3) := by decide +kernel
theorem dX5_savedWithout_84 : decode cX5_savedWithout 84 = .ok (.iconst 0, 1) := by decide +kernel
theorem dX5_savedWithout_85 : decode cX5_savedWithout 85 = .ok (.ireturn, 1) := by decide +kernel
theorem dX5_slackBehind_0 : decode cX5_slackBehind 0 = .ok (.aload_n 1, 1) := by decide +kernel
theorem dX5_slackBehind_1 : decode cX5_slackBehind 1 = .ok (.getfield 100, 3) := by decide +kernel
theorem dX5_slackBehind_4 : decode cX5_slackBehind 4 = .ok (.istore 4, 2) := by decide +kernel
theorem dX5_slackBehind_6 : decode cX5_slackBehind 6 = .ok (.aload_n 1, 1) := by decide +kernel
theorem dX5_slackBehind_7 : decode cX5_slackBehind 7 = .ok (.getfield 91, 3) := by decide +kernel
theorem dX5_slackBehind_10 : decode cX5_slackBehind 10 = .ok (.istore 5, 2) := by decide +kernel
theorem dX5_slackBehind_12 : decode cX5_slackBehind 12 = .ok (.aload_n 1, 1) := by decide +kernel
theorem dX5_slackBehind_13 : decode cX5_slackBehind 13 = .ok (.getfield 160, 3) := by decide +kernel
theorem dX5_slackBehind_16 : decode cX5_slackBehind 16 = .ok (.getfield 163, 3) := by decide +kernel
theorem dX5_slackBehind_19 : decode cX5_slackBehind 19 = .ok (.iconst 1, 1) := by decide +kernel
theorem dX5_slackBehind_20 : decode cX5_slackBehind 20 = .ok (.isub, 1) := by decide +kernel
theorem dX5_slackBehind_21 : decode cX5_slackBehind 21 = .ok (.istore 6, 2) := by decide +kernel
theorem dX5_slackBehind_23 : decode cX5_slackBehind 23 = .ok (.iload 6, 2) := by decide +kernel
theorem dX5_slackBehind_25 : decode cX5_slackBehind 25 = .ok (.iload_n 2, 1) := by decide +kernel
theorem dX5_slackBehind_26 : decode cX5_slackBehind 26 = .ok (.if_icmp .lt 115, 3) := by decide +kernel
theorem dX5_slackBehind_29 : decode cX5_slackBehind 29 = .ok (.aload_n 1, 1) := by decide +kernel
theorem dX5_slackBehind_30 : decode cX5_slackBehind 30 = .ok (.getfield 160, 3) := by decide +kernel
theorem dX5_slackBehind_33 : decode cX5_slackBehind 33 = .ok (.iload 6, 2) := by decide +kernel
theorem dX5_slackBehind_35 : decode cX5_slackBehind 35 = .ok (.invokevirtual 253, 3) := by decide +kernel
theorem dX5_slackBehind_38 : decode cX5_slackBehind 38 = .ok (.istore 7, 2) := by decide +kernel
theorem dX5_slackBehind_40 : decode cX5_slackBehind 40 = .ok (.aload_n 0, 1) := by decide +kernel
theorem dX5_slackBehind_41 : decode cX5_slackBehind 41 = .ok (.getfield 12, 3) := by decide +kernel
theorem dX5_slackBehind_44 : decode cX5_slackBehind 44 = .ok (.iload 7, 2) := by decide +kernel
theorem dX5_slackBehind_46 : decode cX5_slackBehind 46 = .ok (.invokevirtual 356, 3) := by decide +kernel
theorem dX5_slackBehind_49 : decode cX5_slackBehind 49 = .ok (.ifCond .ne 5, 3) := by decide +kernel
theorem dX5_slackBehind_52 : decode cX5_slackBehind 52 = .ok (.iconst (-1), 1) := by decide +kernel
theorem dX5_slackBehind_53 : decode cX5_slackBehind 53 = .ok (.ireturn, 1) := by decide +kernel
theorem dX5_slackBehind_54 : decode cX5_slackBehind 54 = .ok (.iload 4, 2) := by decide +kernel
theorem dX5_slackBehind_56 : decode cX5_slackBehind 56 = .ok (.aload_n 0, 1) := by decide +kernel
theorem dX5_slackBehind_57 : decode cX5_slackBehind 57 = .ok (.getfield 12, 3) := by decide +kernel
theorem dX5_slackBehind_60 : decode cX5_slackBehind 60 = .ok (.aload_n 0, 1) := by decide +kernel
theorem dX5_slackBehind_61 : decode cX5_slackBehind 61 = .ok (.getfield 12, 3) := by decide +kernel
theorem dX5_slackBehind_64 : decode cX5_slackBehind 64 = .ok (.getfield 359, 3) := by decide +kernel
theorem dX5_slackBehind_67 : decode cX5_slackBehind 67 = .ok (.iload 7, 2) := by decide +kernel
theorem dX5_slackBehind_69 : decode cX5_slackBehind 69 = .ok (.iaload, 1) := by decide +kernel
theorem dX5_slackBehind_70 : decode cX5_slackBehind 70 = .ok (.iload 5, 2) := by decide +kernel
theorem dX5_slackBehind_72 : decode cX5_slackBehind 72 = .ok (.invokevirtual 247, 3) := by decide +kernel
theorem dX5_slackBehind_75 : decode cX5_slackBehind 75 = .ok (.isub, 1) := by decide +kernel
theorem dX5_slackBehind_76 : decode cX5_slackBehind 76 = .ok (.istore 8, 2) := by decide +kernel
theorem dX5_slackBehind_78 : decode cX5_slackBehind 78 = .ok (.aload_n 0, 1) := by decide +kernel
theorem dX5_slackBehind_79 : decode cX5_slackBehind 79 = .ok (.getfield 12, 3) := by decide +kernel
theorem dX5_slackBehind_82 : decode cX5_slackBehind 82 = .ok (.getfield 362, 3) := by decide +kernel
theorem dX5_slackBehind_85 : decode cX5_slackBehind 85 = .ok (.iload 7, 2) := by decide +kernel
theorem dX5_slackBehind_87 : decode cX5_slackBehind 87 = .ok (.iaload, 1) := by decide +kernel
theorem dX5_slackBehind_88 : decode cX5_slackBehind 88 = .ok (.iload 8, 2) := by decide +kernel
theorem dX5_slackBehind_90 : decode cX5_slackBehind 90 = .ok (.aload_n 0, 1) := by decide +kernel
theorem dX5_slackBehind_91 : decode cX5_slackBehind 91 = .ok (.getfield 12, 3) := by decide +kernel
theorem dX5_slackBehind_94 : decode cX5_slackBehind 94 = .ok (.getfield 365, 3) := by decide +kernel
theorem dX5_slackBehind_97 : decode cX5_slackBehind 97 = .ok (.iload 7, 2) := by decide +kernel
theorem dX5_slackBehind_99 : decode cX5_slackBehind 99 = .ok (.iaload, 1) := by decide +kernel
theorem dX5_slackBehind_100 : decode cX5_slackBehind 100 = .ok (.isub, 1) := by decide +kernel
theorem dX5_slackBehind_101 : decode cX5_slackBehind 101 = .ok (.invokestatic 368, 3) := by decide +kernel
theorem dX5_slackBehind_104 : decode cX5_slackBehind 104 = .ok (.istore 4, 2) := by decide +kernel
theorem dX5_slackBehind_106 : decode cX5_slackBehind 106 = .ok (.iload 4, 2) := by decide +kernel
theorem dX5_slackBehind_108 : decode cX5_slackBehind 108 = .ok (.aload_n 0, 1) := by decide +kernel
theorem dX5_slackBehind_109 : decode cX5_slackBehind 109 = .ok (.getfield 12, 3) := by decide +kernel
theorem dX5_slackBehind_112 : decode cX5_slackBehind 112 = .ok (.getfield 373, 3) := by decide +kernel
theorem dX5_slackBehind_115 : decode cX5_slackBehind 115 = .ok (.iload 7, 2) := by decide +kernel
theorem dX5_slackBehind_117 : decode cX5_slackBehind 117 = .ok (.iaload, 1) := by decide +kernel
theorem dX5_slackBehind_118 : decode cX5_slackBehind 118 = .ok (.if_icmp .ge 5, 3) := by decide +kernel
theorem dX5_slackBehind_121 : decode cX5_slackBehind 121 = .ok (.iconst (-1), 1) := by decide +kernel
theorem dX5_slackBehind_122 : decode cX5_slackBehind 122 = .ok (.ireturn, 1) := by decide +kernel
theorem dX5_slackBehind_123 : decode cX5_slackBehind 123 = .ok (.aload_n 0, 1) := by decide +kernel
theorem dX5_slackBehind_124 : decode cX5_slackBehind 124 = .ok (.getfield 12, 3) := by decide +kernel
theorem dX5_slackBehind_127 : decode cX5_slackBehind 127 = .ok (.getfield 359, 3) := by decide +kernel
theorem dX5_slackBehind_130 : decode cX5_slackBehind 130 = .ok (.iload 7, 2) := by decide +kernel
theorem dX5_slackBehind_132 : decode cX5_slackBehind 132 = .ok (.iaload, 1) := by decide +kernel
theorem dX5_slackBehind_133 : decode cX5_slackBehind 133 = .ok (.istore 5, 2) := by decide +kernel
theorem dX5_slackBehind_135 : decode cX5_slackBehind 135 = .ok (.iinc 6 (-1), 3) := by decide +kernel
theorem dX5_slackBehind_138 : decode cX5_slackBehind 138 = .ok (.goto (-115), 3) := by decide +kernel
theorem dX5_slackBehind_141 : decode cX5_slackBehind 141 = .ok (.iload 4, 2) := by decide +kernel
theorem dX5_slackBehind_143 : decode cX5_slackBehind 143 = .ok (.iload_n 3, 1) := by decide +kernel
theorem dX5_slackBehind_144 : decode cX5_slackBehind 144 = .ok (.if_icmp .ge 7, 3) := by decide +kernel
theorem dX5_slackBehind_147 : decode cX5_slackBehind 147 = .ok (.iconst (-1), 1) := by decide +kernel
theorem dX5_slackBehind_148 : decode cX5_slackBehind 148 = .ok (.goto 7, 3) := by decide +kernel
theorem dX5_slackBehind_151 : decode cX5_slackBehind 151 = .ok (.iload 4, 2) := by decide +kernel
theorem dX5_slackBehind_153 : decode cX5_slackBehind 153 = .ok (.iload_n 3, 1) := by decide +kernel
theorem dX5_slackBehind_154 : decode cX5_slackBehind 154 = .ok (.isub, 1) := by decide +kernel
theorem dX5_slackBehind_155 : decode cX5_slackBehind 155 = .ok (.ireturn, 1) := by decide +kernel
theorem dX5_detour_0 : decode cX5_detour 0 = .ok (.aload_n 0, 1) := by decide +kernel
theorem dX5_detour_1 : decode cX5_detour 1 = .ok (.getfield 12, 3) := by decide +kernel
theorem dX5_detour_4 : decode cX5_detour 4 = .ok (.iload_n 1, 1) := by decide +kernel
theorem dX5_detour_5 : decode cX5_detour 5 = .ok (.iload_n 2, 1) := by decide +kernel
theorem dX5_detour_6 : decode cX5_detour 6 = .ok (.invokevirtual 247, 3) := by decide +kernel
theorem dX5_detour_9 : decode cX5_detour 9 = .ok (.aload_n 0, 1) := by decide +kernel
theorem dX5_detour_10 : decode cX5_detour 10 = .ok (.getfield 12, 3) := by decide +kernel
theorem dX5_detour_13 : decode cX5_detour 13 = .ok (.iload_n 2, 1) := by decide +kernel
theorem dX5_detour_14 : decode cX5_detour 14 = .ok (.iload_n 3, 1) := by decide +kernel
theorem dX5_detour_15 : decode cX5_detour 15 = .ok (.invokevirtual 247, 3) := by decide +kernel
theorem dX5_detour_18 : decode cX5_detour 18 = .ok (.iadd, 1) := by decide +kernel
theorem dX5_detour_19 : decode cX5_detour 19 = .ok (.aload_n 0, 1) := by decide +kernel
theorem dX5_detour_20 : decode cX5_detour 20 = .ok (.getfield 12, 3) := by decide +kernel
theorem dX5_detour_23 : decode cX5_detour 23 = .ok (.iload_n 1, 1) := by decide +kernel
theorem dX5_detour_24 : decode cX5_detour 24 = .ok (.iload_n 3, 1) := by decide +kernel
theorem dX5_detour_25 : decode cX5_detour 25 = .ok (.invokevirtual 247, 3) := by decide +kernel
theorem dX5_detour_28 : decode cX5_detour 28 = .ok (.isub, 1) := by decide +kernel
theorem dX5_detour_29 : decode cX5_detour 29 = .ok (.ireturn, 1) := by decide +kernel
theorem dX5_placeAt_0 : decode cX5_placeAt 0 = .ok (.aload_n 2, 1) := by decide +kernel
theorem dX5_placeAt_1 : decode cX5_placeAt 1 = .ok (.iload_n 3, 1) := by decide +kernel
theorem dX5_placeAt_2 : decode cX5_placeAt 2 = .ok (.invokevirtual 253, 3) := by decide +kernel
theorem dX5_placeAt_5 : decode cX5_placeAt 5 = .ok (.istore 4, 2) := by decide +kernel
theorem dX5_placeAt_7 : decode cX5_placeAt 7 = .ok (.aload_n 0, 1) := by decide +kernel
theorem dX5_placeAt_8 : decode cX5_placeAt 8 = .ok (.getfield 12, 3) := by decide +kernel
theorem dX5_placeAt_11 : decode cX5_placeAt 11 = .ok (.iload 4, 2) := by decide +kernel
theorem dX5_placeAt_13 : decode cX5_placeAt 13 = .ok (.invokevirtual 356, 3) := by decide +kernel
theorem dX5_placeAt_16 : decode cX5_placeAt 16 = .ok (.ifCond .eq 16, 3) := by decide +kernel
theorem dX5_placeAt_19 : decode cX5_placeAt 19 = .ok (.aload_n 0, 1) := by decide +kernel
theorem dX5_placeAt_20 : decode cX5_placeAt 20 = .ok (.getfield 12, 3) := by decide +kernel
theorem dX5_placeAt_23 : decode cX5_placeAt 23 = .ok (.getfield 359, 3) := by decide +kernel
theorem dX5_placeAt_26 : decode cX5_placeAt 26 = .ok (.iload 4, 2) := by decide +kernel
theorem dX5_placeAt_28 : decode cX5_placeAt 28 = .ok (.iaload, 1) := by decide +kernel
theorem dX5_placeAt_29 : decode cX5_placeAt 29 = .ok (.goto 7, 3) := by decide +kernel
theorem dX5_placeAt_32 : decode cX5_placeAt 32 = .ok (.aload_n 1, 1) := by decide +kernel
theorem dX5_placeAt_33 : decode cX5_placeAt 33 = .ok (.getfield 91, 3) := by decide +kernel
theorem dX5_placeAt_36 : decode cX5_placeAt 36 = .ok (.ireturn, 1) := by decide +kernel
theorem dX5_addsAt_0 : decode cX5_addsAt 0 = .ok (.iload_n 3, 1) := by decide +kernel
theorem dX5_addsAt_1 : decode cX5_addsAt 1 = .ok (.invokestatic 129, 3) := by decide +kernel
theorem dX5_addsAt_4 : decode cX5_addsAt 4 = .ok (.istore 6, 2) := by decide +kernel
theorem dX5_addsAt_6 : decode cX5_addsAt 6 = .ok (.iload_n 3, 1) := by decide +kernel
theorem dX5_addsAt_7 : decode cX5_addsAt 7 = .ok (.invokestatic 133, 3) := by decide +kernel
theorem dX5_addsAt_10 : decode cX5_addsAt 10 = .ok (.istore 7, 2) := by decide +kernel
theorem dX5_addsAt_12 : decode cX5_addsAt 12 = .ok (.aload_n 0, 1) := by decide +kernel
theorem dX5_addsAt_13 : decode cX5_addsAt 13 = .ok (.getfield 12, 3) := by decide +kernel
theorem dX5_addsAt_16 : decode cX5_addsAt 16 = .ok (.iload 7, 2) := by decide +kernel
theorem dX5_addsAt_18 : decode cX5_addsAt 18 = .ok (.invokevirtual 356, 3) := by decide +kernel
theorem dX5_addsAt_21 : decode cX5_addsAt 21 = .ok (.ifCond .ne 5, 3) := by decide +kernel
theorem dX5_addsAt_24 : decode cX5_addsAt 24 = .ok (.iconst 0, 1) := by decide +kernel
theorem dX5_addsAt_25 : decode cX5_addsAt 25 = .ok (.ireturn, 1) := by decide +kernel
theorem dX5_addsAt_26 : decode cX5_addsAt 26 = .ok (.aload_n 0, 1) := by decide +kernel
theorem dX5_addsAt_27 : decode cX5_addsAt 27 = .ok (.getfield 12, 3) := by decide +kernel
theorem dX5_addsAt_30 : decode cX5_addsAt 30 = .ok (.getfield 359, 3) := by decide +kernel
theorem dX5_addsAt_33 : decode cX5_addsAt 33 = .ok (.iload 6, 2) := by decide +kernel
theorem dX5_addsAt_35 : decode cX5_addsAt 35 = .ok (.iaload, 1) := by decide +kernel
theorem dX5_addsAt_36 : decode cX5_addsAt 36 = .ok (.istore 8, 2) := by decide +kernel
theorem dX5_addsAt_38 : decode cX5_addsAt 38 = .ok (.aload_n 0, 1) := by decide +kernel
theorem dX5_addsAt_39 : decode cX5_addsAt 39 = .ok (.getfield 12, 3) := by decide +kernel
theorem dX5_addsAt_42 : decode cX5_addsAt 42 = .ok (.getfield 359, 3) := by decide +kernel
theorem dX5_addsAt_45 : decode cX5_addsAt 45 = .ok (.iload 7, 2) := by decide +kernel
theorem dX5_addsAt_47 : decode cX5_addsAt 47 = .ok (.iaload, 1) := by decide +kernel
theorem dX5_addsAt_48 : decode cX5_addsAt 48 = .ok (.istore 9, 2) := by decide +kernel
theorem dX5_addsAt_50 : decode cX5_addsAt 50 = .ok (.aload_n 0, 1) := by decide +kernel
theorem dX5_addsAt_51 : decode cX5_addsAt 51 = .ok (.aload_n 1, 1) := by decide +kernel
theorem dX5_addsAt_52 : decode cX5_addsAt 52 = .ok (.aload_n 2, 1) := by decide +kernel
theorem dX5_addsAt_53 : decode cX5_addsAt 53 = .ok (.iload 4, 2) := by decide +kernel
theorem dX5_addsAt_55 : decode cX5_addsAt 55 = .ok (.iconst 1, 1) := by decide +kernel
theorem dX5_addsAt_56 : decode cX5_addsAt 56 = .ok (.isub, 1) := by decide +kernel
theorem dX5_addsAt_57 : decode cX5_addsAt 57 = .ok (.invokevirtual 376, 3) := by decide +kernel
theorem dX5_addsAt_60 : decode cX5_addsAt 60 = .ok (.istore 10, 2) := by decide +kernel
theorem dX5_addsAt_62 : decode cX5_addsAt 62 = .ok (.aload_n 0, 1) := by decide +kernel
theorem dX5_addsAt_63 : decode cX5_addsAt 63 = .ok (.aload_n 1, 1) := by decide +kernel
theorem dX5_addsAt_64 : decode cX5_addsAt 64 = .ok (.aload_n 2, 1) := by decide +kernel
theorem dX5_addsAt_65 : decode cX5_addsAt 65 = .ok (.iload 4, 2) := by decide +kernel
theorem dX5_addsAt_67 : decode cX5_addsAt 67 = .ok (.invokevirtual 376, 3) := by decide +kernel
theorem dX5_addsAt_70 : decode cX5_addsAt 70 = .ok (.istore 11, 2) := by decide +kernel
theorem dX5_addsAt_72 : decode cX5_addsAt 72 = .ok (.iload 5, 2) := by decide +kernel
theorem dX5_addsAt_74 : decode cX5_addsAt 74 = .ok (.iload 4, 2) := by decide +kernel
theorem dX5_addsAt_76 : decode cX5_addsAt 76 = .ok (.iconst 1, 1) := by decide +kernel
theorem dX5_addsAt_77 : decode cX5_addsAt 77 = .ok (.iadd, 1) := by decide +kernel
theorem dX5_addsAt_78 : decode cX5_addsAt 78 = .ok (.if_icmp .ne 29, 3) := by decide +kernel
theorem dX5_addsAt_81 : decode cX5_addsAt 81 = .ok (.aload_n 0, 1) := by decide +kernel
theorem dX5_addsAt_82 : decode cX5_addsAt 82 = .ok (.iload 10, 2) := by decide +kernel
theorem dX5_addsAt_84 : decode cX5_addsAt 84 = .ok (.iload 8, 2) := by decide +kernel
theorem dX5_addsAt_86 : decode cX5_addsAt 86 = .ok (.iload 11, 2) := by decide +kernel
theorem dX5_addsAt_88 : decode cX5_addsAt 88 = .ok (.invokevirtual 380, 3) := by decide +kernel
theorem dX5_addsAt_91 : decode cX5_addsAt 91 = .ok (.aload_n 0, 1) := by decide +kernel
theorem dX5_addsAt_92 : decode cX5_addsAt 92 = .ok (.iload 8, 2) := by decide +kernel
theorem dX5_addsAt_94 : decode cX5_addsAt 94 = .ok (.iload 9, 2) := by decide +kernel
theorem dX5_addsAt_96 : decode cX5_addsAt 96 = .ok (.iload 11, 2) := by decide +kernel
theorem dX5_addsAt_98 : decode cX5_addsAt 98 = .ok (.invokevirtual 380, 3) := by decide +kernel
theorem dX5_addsAt_101 : decode cX5_addsAt 101 = .ok (.iadd, 1) := by decide +kernel
theorem dX5_addsAt_102 : decode cX5_addsAt 102 = .ok (.istore 12, 2) := by decide +kernel
theorem dX5_addsAt_104 : decode cX5_addsAt 104 = .ok (.goto 42, 3) := by decide +kernel
theorem dX5_addsAt_107 : decode cX5_addsAt 107 = .ok (.aload_n 0, 1) := by decide +kernel
theorem dX5_addsAt_108 : decode cX5_addsAt 108 = .ok (.iload 10, 2) := by decide +kernel
theorem dX5_addsAt_110 : decode cX5_addsAt 110 = .ok (.iload 8, 2) := by decide +kernel
theorem dX5_addsAt_112 : decode cX5_addsAt 112 = .ok (.iload 11, 2) := by decide +kernel
theorem dX5_addsAt_114 : decode cX5_addsAt 114 = .ok (.invokevirtual 380, 3) := by decide +kernel
theorem dX5_addsAt_117 : decode cX5_addsAt 117 = .ok (.aload_n 0, 1) := by decide +kernel
theorem dX5_addsAt_118 : decode cX5_addsAt 118 = .ok (.aload_n 0, 1) := by decide +kernel
theorem dX5_addsAt_119 : decode cX5_addsAt 119 = .ok (.aload_n 1, 1) := by decide +kernel
theorem dX5_addsAt_120 : decode cX5_addsAt 120 = .ok (.aload_n 2, 1) := by decide +kernel
theorem dX5_addsAt_121 : decode cX5_addsAt 121 = .ok (.iload 5, 2) := by decide +kernel
theorem dX5_addsAt_123 : decode cX5_addsAt 123 = .ok (.iconst 2, 1) := by decide +kernel
theorem dX5_addsAt_124 : decode cX5_addsAt 124 = .ok (.isub, 1) := by decide +kernel
theorem dX5_addsAt_125 : decode cX5_addsAt 125 = .ok (.invokevirtual 376, 3) := by decide +kernel
theorem dX5_addsAt_128 : decode cX5_addsAt 128 = .ok (.iload 9, 2) := by decide +kernel
theorem dX5_addsAt_130 : decode cX5_addsAt 130 = .ok (.aload_n 0, 1) := by decide +kernel
theorem dX5_addsAt_131 : decode cX5_addsAt 131 = .ok (.aload_n 1, 1) := by decide +kernel
theorem dX5_addsAt_132 : decode cX5_addsAt 132 = .ok (.aload_n 2, 1) := by decide +kernel
theorem dX5_addsAt_133 : decode cX5_addsAt 133 = .ok (.iload 5, 2) := by decide +kernel
theorem dX5_addsAt_135 : decode cX5_addsAt 135 = .ok (.iconst 1, 1) := by decide +kernel
theorem dX5_addsAt_136 : decode cX5_addsAt 136 = .ok (.isub, 1) := by decide +kernel
theorem dX5_addsAt_137 : decode cX5_addsAt 137 = .ok (.invokevirtual 376, 3) := by decide +kernel
theorem dX5_addsAt_140 : decode cX5_addsAt 140 = .ok (.invokevirtual 380, 3) := by decide +kernel
theorem dX5_addsAt_143 : decode cX5_addsAt 143 = .ok (.iadd, 1) := by decide +kernel
theorem dX5_addsAt_144 : decode cX5_addsAt 144 = .ok (.istore 12, 2) := by decide +kernel
theorem dX5_addsAt_146 : decode cX5_addsAt 146 = .ok (.aload_n 1, 1) := by decide +kernel
theorem dX5_addsAt_147 : decode cX5_addsAt 147 = .ok (.getfield 103, 3) := by decide +kernel
theorem dX5_addsAt_150 : decode cX5_addsAt 150 = .ok (.iload 12, 2) := by decide +kernel
theorem dX5_addsAt_152 : decode cX5_addsAt 152 = .ok (.imul, 1) := by decide +kernel
theorem dX5_addsAt_153 : decode cX5_addsAt 153 = .ok (.aload_n 2, 1) := by decide +kernel
theorem dX5_addsAt_154 : decode cX5_addsAt 154 = .ok (.getfield 163, 3) := by decide +kernel
theorem dX5_addsAt_157 : decode cX5_addsAt 157 = .ok (.ifCond .ne 10, 3) := by decide +kernel
theorem dX5_addsAt_160 : decode cX5_addsAt 160 = .ok (.aload_n 1, 1) := by decide +kernel
theorem dX5_addsAt_161 : decode cX5_addsAt 161 = .ok (.getfield 106, 3) := by decide +kernel
theorem dX5_addsAt_164 : decode cX5_addsAt 164 = .ok (.goto 4, 3) := by decide +kernel
theorem dX5_addsAt_167 : decode cX5_addsAt 167 = .ok (.iconst 0, 1) := by decide +kernel
theorem dX5_addsAt_168 : decode cX5_addsAt 168 = .ok (.iadd, 1) := by decide +kernel
theorem dX5_addsAt_169 : decode cX5_addsAt 169 = .ok (.ireturn, 1) := by decide +kernel
theorem dX5_searchInsertion_0 : decode cX5_searchInsertion 0 = .ok (.aload_n 0, 1) := by decide +kernel
theorem dX5_searchInsertion_1 : decode cX5_searchInsertion 1 = .ok (.getfield 40, 3) := by decide +kernel
theorem dX5_searchInsertion_4 : decode cX5_searchInsertion 4 = .ok (.iconst (-1), 1) := by decide +kernel
theorem dX5_searchInsertion_5 : decode cX5_searchInsertion 5 = .ok (.putfield 154, 3) := by decide +kernel
theorem dX5_searchInsertion_8 : decode cX5_searchInsertion 8 = .ok (.iload 4, 2) := by decide +kernel
theorem dX5_searchInsertion_10 : decode cX5_searchInsertion 10 = .ok (.istore 5, 2) := by decide +kernel
theorem dX5_searchInsertion_12 : decode cX5_searchInsertion 12 = .ok (.aload_n 2, 1) := by decide +kernel
theorem dX5_searchInsertion_13 : decode cX5_searchInsertion 13 = .ok (.getfield 179, 3) := by decide +kernel
theorem dX5_searchInsertion_16 : decode cX5_searchInsertion 16 = .ok (.istore 6, 2) := by decide +kernel
theorem dX5_searchInsertion_18 : decode cX5_searchInsertion 18 = .ok (.iload 6, 2) := by decide +kernel
theorem dX5_searchInsertion_20 : decode cX5_searchInsertion 20 = .ok (.aload_n 3, 1) := by decide +kernel
theorem dX5_searchInsertion_21 : decode cX5_searchInsertion 21 = .ok (.getfield 163, 3) := by decide +kernel
theorem dX5_searchInsertion_24 : decode cX5_searchInsertion 24 = .ok (.if_icmp .gt 129, 3) := by decide +kernel
theorem dX5_searchInsertion_27 : decode cX5_searchInsertion 27 = .ok (.iload 6, 2) := by decide +kernel
theorem dX5_searchInsertion_29 : decode cX5_searchInsertion 29 = .ok (.iconst 1, 1) := by decide +kernel
theorem dX5_searchInsertion_30 : decode cX5_searchInsertion 30 = .ok (.iadd, 1) := by decide +kernel
theorem dX5_searchInsertion_31 : decode cX5_searchInsertion 31 = .ok (.istore 7, 2) := by decide +kernel
theorem dX5_searchInsertion_33 : decode cX5_searchInsertion 33 = .ok (.iload 7, 2) := by decide +kernel
theorem dX5_searchInsertion_35 : decode cX5_searchInsertion 35 = .ok (.aload_n 3, 1) := by decide +kernel
theorem dX5_searchInsertion_36 : decode cX5_searchInsertion 36 = .ok (.getfield 163, 3) := by decide +kernel
theorem dX5_searchInsertion_39 : decode cX5_searchInsertion 39 = .ok (.iconst 1, 1) := by decide +kernel
theorem dX5_searchInsertion_40 : decode cX5_searchInsertion 40 = .ok (.iadd, 1) := by decide +kernel
theorem dX5_searchInsertion_41 : decode cX5_searchInsertion 41 = .ok (.if_icmp .gt 106, 3) := by decide +kernel
theorem dX5_searchInsertion_44 : decode cX5_searchInsertion 44 = .ok (.aload_n 0, 1) := by decide +kernel
theorem dX5_searchInsertion_45 : decode cX5_searchInsertion 45 = .ok (.aload_n 2, 1) := by decide +kernel
theorem dX5_searchInsertion_46 : decode cX5_searchInsertion 46 = .ok (.aload_n 3, 1) := by decide +kernel
theorem dX5_searchInsertion_47 : decode cX5_searchInsertion 47 = .ok (.iload_n 1, 1) := by decide +kernel
theorem dX5_searchInsertion_48 : decode cX5_searchInsertion 48 = .ok (.iload 6, 2) := by decide +kernel
theorem dX5_searchInsertion_50 : decode cX5_searchInsertion 50 = .ok (.iload 7, 2) := by decide +kernel
theorem dX5_searchInsertion_52 : decode cX5_searchInsertion 52 = .ok (.invokevirtual 186, 3) := by decide +kernel
theorem dX5_searchInsertion_55 : decode cX5_searchInsertion 55 = .ok (.istore 8, 2) := by decide +kernel
theorem dX5_searchInsertion_57 : decode cX5_searchInsertion 57 = .ok (.iload 8, 2) := by decide +kernel
theorem dX5_searchInsertion_59 : decode cX5_searchInsertion 59 = .ok (.iload 5, 2) := by decide +kernel
theorem dX5_searchInsertion_61 : decode cX5_searchInsertion 61 = .ok (.if_icmp .lt 6, 3) := by decide +kernel
theorem dX5_searchInsertion_64 : decode cX5_searchInsertion 64 = .ok (.goto 77, 3) := by decide +kernel
theorem dX5_searchInsertion_67 : decode cX5_searchInsertion 67 = .ok (.aload_n 2, 1) := by decide +kernel
theorem dX5_searchInsertion_68 : decode cX5_searchInsertion 68 = .ok (.getfield 168, 3) := by decide +kernel
theorem dX5_searchInsertion_71 : decode cX5_searchInsertion 71 = .ok (.aload_n 3, 1) := by decide +kernel
theorem dX5_searchInsertion_72 : decode cX5_searchInsertion 72 = .ok (.iload_n 1, 1) := by decide +kernel
theorem dX5_searchInsertion_73 : decode cX5_searchInsertion 73 = .ok (.iload 6, 2) := by decide +kernel
theorem dX5_searchInsertion_75 : decode cX5_searchInsertion 75 = .ok (.iload 7, 2) := by decide +kernel
theorem dX5_searchInsertion_77 : decode cX5_searchInsertion 77 = .ok (.invokevirtual 171, 3) := by decide +kernel
theorem dX5_searchInsertion_80 : decode cX5_searchInsertion 80 = .ok (.aload_n 0, 1) := by decide +kernel
theorem dX5_searchInsertion_81 : decode cX5_searchInsertion 81 = .ok (.getfield 26, 3) := by decide +kernel
theorem dX5_searchInsertion_84 : decode cX5_searchInsertion 84 = .ok (.aload_n 0, 1) := by decide +kernel
theorem dX5_searchInsertion_85 : decode cX5_searchInsertion 85 = .ok (.getfield 12, 3) := by decide +kernel
theorem dX5_searchInsertion_88 : decode cX5_searchInsertion 88 = .ok (.aload_n 2, 1) := by decide +kernel
theorem dX5_searchInsertion_89 : decode cX5_searchInsertion 89 = .ok (.aload_n 2, 1) := by decide +kernel
theorem dX5_searchInsertion_90 : decode cX5_searchInsertion 90 = .ok (.getfield 168, 3) := by decide +kernel
theorem dX5_searchInsertion_93 : decode cX5_searchInsertion 93 = .ok (.invokevirtual 231, 3) := by decide +kernel
theorem dX5_searchInsertion_96 : decode cX5_searchInsertion 96 = .ok (.ifCond .eq 45, 3) := by decide +kernel
theorem dX5_searchInsertion_99 : decode cX5_searchInsertion 99 = .ok (.aload_n 0, 1) := by decide +kernel
theorem dX5_searchInsertion_100 : decode cX5_searchInsertion 100 = .ok (.getfield 26, 3) := by decide +kernel
theorem dX5_searchInsertion_103 : decode cX5_searchInsertion 103 = .ok (.aload_n 2, 1) := by decide +kernel
theorem dX5_searchInsertion_104 : decode cX5_searchInsertion 104 = .ok (.invokevirtual 182, 3) := by decide +kernel
theorem dX5_searchInsertion_107 : decode cX5_searchInsertion 107 = .ok (.ifCond .eq 34, 3) := by decide +kernel
theorem dX5_searchInsertion_110 : decode cX5_searchInsertion 110 = .ok (.iload 8, 2) := by decide +kernel
theorem dX5_searchInsertion_112 : decode cX5_searchInsertion 112 = .ok (.istore 5, 2) := by decide +kernel
theorem dX5_searchInsertion_114 : decode cX5_searchInsertion 114 = .ok (.aload_n 0, 1) := by decide +kernel
theorem dX5_searchInsertion_115 : decode cX5_searchInsertion 115 = .ok (.getfield 40, 3) := by decide +kernel
theorem dX5_searchInsertion_118 : decode cX5_searchInsertion 118 = .ok (.iload 8, 2) := by decide +kernel
theorem dX5_searchInsertion_120 : decode cX5_searchInsertion 120 = .ok (.putfield 154, 3) := by decide +kernel
theorem dX5_searchInsertion_123 : decode cX5_searchInsertion 123 = .ok (.aload_n 0, 1) := by decide +kernel
theorem dX5_searchInsertion_124 : decode cX5_searchInsertion 124 = .ok (.getfield 40, 3) := by decide +kernel
theorem dX5_searchInsertion_127 : decode cX5_searchInsertion 127 = .ok (.iload 6, 2) := by decide +kernel
theorem dX5_searchInsertion_129 : decode cX5_searchInsertion 129 = .ok (.putfield 384, 3) := by decide +kernel
theorem dX5_searchInsertion_132 : decode cX5_searchInsertion 132 = .ok (.aload_n 0, 1) := by decide +kernel
theorem dX5_searchInsertion_133 : decode cX5_searchInsertion 133 = .ok (.getfield 40, 3) := by decide +kernel
theorem dX5_searchInsertion_136 : decode cX5_searchInsertion 136 = .ok (.iload 7, 2) := by decide +kernel
theorem dX5_searchInsertion_138 : decode cX5_searchInsertion 138 = .ok (.putfield 387, 3) := by decide +kernel
theorem dX5_searchInsertion_141 : decode cX5_searchInsertion 141 = .ok (.iinc 7 1, 3) := by decide +kernel
theorem dX5_searchInsertion_144 : decode cX5_searchInsertion 144 = .ok (.goto (-111), 3) := by decide +kernel
theorem dX5_searchInsertion_147 : decode cX5_searchInsertion 147 = .ok (.iinc 6 1, 3) := by decide +kernel
theorem dX5_searchInsertion_150 : decode cX5_searchInsertion 150 = .ok (.goto (-132), 3) := by decide +kernel
theorem dX5_searchInsertion_153 : decode cX5_searchInsertion 153 = .ok (.return_, 1) := by decide +kernel
theorem dX5_searchAllVehicles_0 : decode cX5_searchAllVehicles 0 = .ok (.ldc_w 299, 3) := by decide +kernel
theorem dX5_searchAllVehicles_3 : decode cX5_searchAllVehicles 3 = .ok (.istore_n 2, 1) := by decide +kernel
theorem dX5_searchAllVehicles_4 : decode cX5_searchAllVehicles 4 = .ok (.ldc_w 299, 3) := by decide +kernel
theorem dX5_searchAllVehicles_7 : decode cX5_searchAllVehicles 7 = .ok (.istore_n 3, 1) := by decide +kernel
theorem dX5_searchAllVehicles_8 : decode cX5_searchAllVehicles 8 = .ok (.aload_n 0, 1) := by decide +kernel
theorem dX5_searchAllVehicles_9 : decode cX5_searchAllVehicles 9 = .ok (.getfield 44, 3) := by decide +kernel
theorem dX5_searchAllVehicles_12 : decode cX5_searchAllVehicles 12 = .ok (.iload_n 1, 1) := by decide +kernel
theorem dX5_searchAllVehicles_13 : decode cX5_searchAllVehicles 13 = .ok (.putfield 390, 3) := by decide +kernel
theorem dX5_searchAllVehicles_16 : decode cX5_searchAllVehicles 16 = .ok (.aload_n 0, 1) := by decide +kernel
theorem dX5_searchAllVehicles_17 : decode cX5_searchAllVehicles 17 = .ok (.getfield 44, 3) := by decide +kernel
theorem dX5_searchAllVehicles_20 : decode cX5_searchAllVehicles 20 = .ok (.iconst (-1), 1) := by decide +kernel
