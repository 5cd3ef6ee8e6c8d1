theorem dX6_advance_1 : decode cX6_advance 1 = .ok (.iconst 0, 1) := by decide +kernel
theorem dX6_advance_2 : decode cX6_advance 2 = .ok (.putfield 24, 3) := by decide +kernel
theorem dX6_advance_5 : decode cX6_advance 5 = .ok (.iload_n 1, 1) := by decide +kernel
theorem dX6_advance_6 : decode cX6_advance 6 = .ok (.iconst 1, 1) := by decide +kernel
theorem dX6_advance_7 : decode cX6_advance 7 = .ok (.sipush 1440, 3) := by decide +kernel
theorem dX6_advance_10 : decode cX6_advance 10 = .ok (.invokestatic 31, 3) := by decide +kernel
theorem dX6_advance_13 : decode cX6_advance 13 = .ok (.ifCond .ne 9, 3) := by decide +kernel
theorem dX6_advance_16 : decode cX6_advance 16 = .ok (.aload_n 0, 1) := by decide +kernel
theorem dX6_advance_17 : decode cX6_advance 17 = .ok (.iconst 1, 1) := by decide +kernel
theorem dX6_advance_18 : decode cX6_advance 18 = .ok (.invokevirtual 171, 3) := by decide +kernel
theorem dX6_advance_21 : decode cX6_advance 21 = .ok (.ireturn, 1) := by decide +kernel
theorem dX6_advance_22 : decode cX6_advance 22 = .ok (.aload_n 0, 1) := by decide +kernel
theorem dX6_advance_23 : decode cX6_advance 23 = .ok (.getfield 73, 3) := by decide +kernel
theorem dX6_advance_26 : decode cX6_advance 26 = .ok (.iload_n 1, 1) := by decide +kernel
theorem dX6_advance_27 : decode cX6_advance 27 = .ok (.iadd, 1) := by decide +kernel
theorem dX6_advance_28 : decode cX6_advance 28 = .ok (.sipush 1440, 3) := by decide +kernel
theorem dX6_advance_31 : decode cX6_advance 31 = .ok (.if_icmp .gt 10, 3) := by decide +kernel
theorem dX6_advance_34 : decode cX6_advance 34 = .ok (.aload_n 0, 1) := by decide +kernel
theorem dX6_advance_35 : decode cX6_advance 35 = .ok (.invokevirtual 180, 3) := by decide +kernel
theorem dX6_advance_38 : decode cX6_advance 38 = .ok (.ifCond .ne 9, 3) := by decide +kernel
theorem dX6_advance_47 : decode cX6_advance 47 = .ok (.aload_n 0, 1) := by decide +kernel
theorem dX6_advance_48 : decode cX6_advance 48 = .ok (.invokevirtual 216, 3) := by decide +kernel
theorem dX6_advance_51 : decode cX6_advance 51 = .ok (.istore_n 2, 1) := by decide +kernel
theorem dX6_advance_52 : decode cX6_advance 52 = .ok (.aload_n 0, 1) := by decide +kernel
theorem dX6_advance_53 : decode cX6_advance 53 = .ok (.dup, 1) := by decide +kernel
theorem dX6_advance_54 : decode cX6_advance 54 = .ok (.getfield 73, 3) := by decide +kernel
theorem dX6_advance_57 : decode cX6_advance 57 = .ok (.iload_n 1, 1) := by decide +kernel
theorem dX6_advance_58 : decode cX6_advance 58 = .ok (.iadd, 1) := by decide +kernel
theorem dX6_advance_59 : decode cX6_advance 59 = .ok (.putfield 73, 3) := by decide +kernel
theorem dX6_advance_62 : decode cX6_advance 62 = .ok (.aload_n 0, 1) := by decide +kernel
theorem dX6_advance_63 : decode cX6_advance 63 = .ok (.invokevirtual 216, 3) := by decide +kernel
theorem dX6_advance_66 : decode cX6_advance 66 = .ok (.iload_n 2, 1) := by decide +kernel
theorem dX6_advance_67 : decode cX6_advance 67 = .ok (.isub, 1) := by decide +kernel
theorem dX6_advance_68 : decode cX6_advance 68 = .ok (.ireturn, 1) := by decide +kernel
theorem dX6_clock_0 : decode cX6_clock 0 = .ok (.aload_n 0, 1) := by decide +kernel
theorem dX6_clock_1 : decode cX6_clock 1 = .ok (.iconst 0, 1) := by decide +kernel
theorem dX6_clock_2 : decode cX6_clock 2 = .ok (.putfield 24, 3) := by decide +kernel
theorem dX6_clock_5 : decode cX6_clock 5 = .ok (.aload_n 0, 1) := by decide +kernel
theorem dX6_clock_6 : decode cX6_clock 6 = .ok (.getfield 73, 3) := by decide +kernel
theorem dX6_clock_9 : decode cX6_clock 9 = .ok (.ireturn, 1) := by decide +kernel
theorem dX6_places_0 : decode cX6_places 0 = .ok (.aload_n 0, 1) := by decide +kernel
theorem dX6_places_1 : decode cX6_places 1 = .ok (.iconst 0, 1) := by decide +kernel
theorem dX6_places_2 : decode cX6_places 2 = .ok (.putfield 24, 3) := by decide +kernel
theorem dX6_places_5 : decode cX6_places 5 = .ok (.aload_n 0, 1) := by decide +kernel
theorem dX6_places_6 : decode cX6_places 6 = .ok (.getfield 28, 3) := by decide +kernel
theorem dX6_places_9 : decode cX6_places 9 = .ok (.ireturn, 1) := by decide +kernel
theorem dX6_vehicles_0 : decode cX6_vehicles 0 = .ok (.aload_n 0, 1) := by decide +kernel
theorem dX6_vehicles_1 : decode cX6_vehicles 1 = .ok (.iconst 0, 1) := by decide +kernel
theorem dX6_vehicles_2 : decode cX6_vehicles 2 = .ok (.putfield 24, 3) := by decide +kernel
theorem dX6_vehicles_5 : decode cX6_vehicles 5 = .ok (.aload_n 0, 1) := by decide +kernel
theorem dX6_vehicles_6 : decode cX6_vehicles 6 = .ok (.getfield 35, 3) := by decide +kernel
theorem dX6_vehicles_9 : decode cX6_vehicles 9 = .ok (.ireturn, 1) := by decide +kernel
theorem dX6_jobs_0 : decode cX6_jobs 0 = .ok (.aload_n 0, 1) := by decide +kernel
theorem dX6_jobs_1 : decode cX6_jobs 1 = .ok (.iconst 0, 1) := by decide +kernel
theorem dX6_jobs_2 : decode cX6_jobs 2 = .ok (.putfield 24, 3) := by decide +kernel
theorem dX6_jobs_5 : decode cX6_jobs 5 = .ok (.aload_n 0, 1) := by decide +kernel
theorem dX6_jobs_6 : decode cX6_jobs 6 = .ok (.getfield 38, 3) := by decide +kernel
theorem dX6_jobs_9 : decode cX6_jobs 9 = .ok (.ireturn, 1) := by decide +kernel
theorem dX6_way_0 : decode cX6_way 0 = .ok (.aload_n 0, 1) := by decide +kernel
theorem dX6_way_1 : decode cX6_way 1 = .ok (.iconst 0, 1) := by decide +kernel
theorem dX6_way_2 : decode cX6_way 2 = .ok (.putfield 24, 3) := by decide +kernel
theorem dX6_way_5 : decode cX6_way 5 = .ok (.aload_n 0, 1) := by decide +kernel
theorem dX6_way_6 : decode cX6_way 6 = .ok (.iload_n 1, 1) := by decide +kernel
theorem dX6_way_7 : decode cX6_way 7 = .ok (.invokevirtual 174, 3) := by decide +kernel
theorem dX6_way_10 : decode cX6_way 10 = .ok (.ifCond .eq 20, 3) := by decide +kernel
theorem dX6_way_30 : decode cX6_way 30 = .ok (.aload_n 0, 1) := by decide +kernel
theorem dX6_way_31 : decode cX6_way 31 = .ok (.iconst 1, 1) := by decide +kernel
theorem dX6_way_32 : decode cX6_way 32 = .ok (.invokevirtual 171, 3) := by decide +kernel
theorem dX6_way_35 : decode cX6_way 35 = .ok (.ireturn, 1) := by decide +kernel
theorem dX6_vehicleOf_0 : decode cX6_vehicleOf 0 = .ok (.aload_n 0, 1) := by decide +kernel
theorem dX6_vehicleOf_1 : decode cX6_vehicleOf 1 = .ok (.iconst 0, 1) := by decide +kernel
theorem dX6_vehicleOf_2 : decode cX6_vehicleOf 2 = .ok (.putfield 24, 3) := by decide +kernel
theorem dX6_vehicleOf_5 : decode cX6_vehicleOf 5 = .ok (.aload_n 0, 1) := by decide +kernel
theorem dX6_vehicleOf_6 : decode cX6_vehicleOf 6 = .ok (.iload_n 1, 1) := by decide +kernel
theorem dX6_vehicleOf_7 : decode cX6_vehicleOf 7 = .ok (.invokevirtual 177, 3) := by decide +kernel
theorem dX6_vehicleOf_10 : decode cX6_vehicleOf 10 = .ok (.ifCond .eq 11, 3) := by decide +kernel
theorem dX6_vehicleOf_21 : decode cX6_vehicleOf 21 = .ok (.aload_n 0, 1) := by decide +kernel
theorem dX6_vehicleOf_22 : decode cX6_vehicleOf 22 = .ok (.iconst 1, 1) := by decide +kernel
theorem dX6_vehicleOf_23 : decode cX6_vehicleOf 23 = .ok (.invokevirtual 171, 3) := by decide +kernel
theorem dX6_vehicleOf_26 : decode cX6_vehicleOf 26 = .ok (.ireturn, 1) := by decide +kernel
theorem dX6_isSet_0 : decode cX6_isSet 0 = .ok (.aload_n 0, 1) := by decide +kernel
theorem dX6_isSet_1 : decode cX6_isSet 1 = .ok (.aload_n 0, 1) := by decide +kernel
theorem dX6_isSet_2 : decode cX6_isSet 2 = .ok (.iload_n 1, 1) := by decide +kernel
theorem dX6_isSet_3 : decode cX6_isSet 3 = .ok (.invokevirtual 177, 3) := by decide +kernel
theorem dX6_isSet_6 : decode cX6_isSet 6 = .ok (.ifCond .eq 7, 3) := by decide +kernel
theorem dX6_isSet_13 : decode cX6_isSet 13 = .ok (.iconst 1, 1) := by decide +kernel
theorem dX6_isSet_14 : decode cX6_isSet 14 = .ok (.putfield 24, 3) := by decide +kernel
theorem dX6_isSet_17 : decode cX6_isSet 17 = .ok (.aload_n 0, 1) := by decide +kernel
theorem dX6_isSet_18 : decode cX6_isSet 18 = .ok (.getfield 24, 3) := by decide +kernel
theorem dX6_isSet_21 : decode cX6_isSet 21 = .ok (.ifCond .ne 15, 3) := by decide +kernel
theorem dX6_isSet_36 : decode cX6_isSet 36 = .ok (.iconst 0, 1) := by decide +kernel
theorem dX6_isSet_37 : decode cX6_isSet 37 = .ok (.ireturn, 1) := by decide +kernel
theorem dX6_stops_0 : decode cX6_stops 0 = .ok (.aload_n 0, 1) := by decide +kernel
theorem dX6_stops_1 : decode cX6_stops 1 = .ok (.iconst 0, 1) := by decide +kernel
theorem dX6_stops_2 : decode cX6_stops 2 = .ok (.putfield 24, 3) := by decide +kernel
theorem dX6_stops_5 : decode cX6_stops 5 = .ok (.aload_n 0, 1) := by decide +kernel
theorem dX6_stops_6 : decode cX6_stops 6 = .ok (.iload_n 1, 1) := by decide +kernel
theorem dX6_stops_7 : decode cX6_stops 7 = .ok (.invokevirtual 191, 3) := by decide +kernel
theorem dX6_stops_10 : decode cX6_stops 10 = .ok (.ifCond .eq 13, 3) := by decide +kernel
theorem dX6_stops_23 : decode cX6_stops 23 = .ok (.aload_n 0, 1) := by decide +kernel
theorem dX6_stops_24 : decode cX6_stops 24 = .ok (.iconst 1, 1) := by decide +kernel
theorem dX6_stops_25 : decode cX6_stops 25 = .ok (.invokevirtual 171, 3) := by decide +kernel
theorem dX6_stops_28 : decode cX6_stops 28 = .ok (.ireturn, 1) := by decide +kernel
theorem dX6_setStops_0 : decode cX6_setStops 0 = .ok (.aload_n 0, 1) := by decide +kernel
theorem dX6_setStops_1 : decode cX6_setStops 1 = .ok (.iconst 0, 1) := by decide +kernel
theorem dX6_setStops_2 : decode cX6_setStops 2 = .ok (.putfield 24, 3) := by decide +kernel
theorem dX6_setStops_5 : decode cX6_setStops 5 = .ok (.aload_n 0, 1) := by decide +kernel
theorem dX6_setStops_6 : decode cX6_setStops 6 = .ok (.iload_n 1, 1) := by decide +kernel
theorem dX6_setStops_7 : decode cX6_setStops 7 = .ok (.invokevirtual 191, 3) := by decide +kernel
theorem dX6_setStops_10 : decode cX6_setStops 10 = .ok (.ifCond .eq 17, 3) := by decide +kernel
theorem dX6_setStops_27 : decode cX6_setStops 27 = .ok (.aload_n 0, 1) := by decide +kernel
theorem dX6_setStops_28 : decode cX6_setStops 28 = .ok (.iconst 1, 1) := by decide +kernel
theorem dX6_setStops_29 : decode cX6_setStops 29 = .ok (.invokevirtual 171, 3) := by decide +kernel
theorem dX6_setStops_32 : decode cX6_setStops 32 = .ok (.ireturn, 1) := by decide +kernel
theorem dX6_hasStop_0 : decode cX6_hasStop 0 = .ok (.aload_n 0, 1) := by decide +kernel
theorem dX6_hasStop_1 : decode cX6_hasStop 1 = .ok (.aload_n 0, 1) := by decide +kernel
theorem dX6_hasStop_2 : decode cX6_hasStop 2 = .ok (.iload_n 1, 1) := by decide +kernel
theorem dX6_hasStop_3 : decode cX6_hasStop 3 = .ok (.invokevirtual 191, 3) := by decide +kernel
theorem dX6_hasStop_6 : decode cX6_hasStop 6 = .ok (.ifCond .eq 24, 3) := by decide +kernel
theorem dX6_hasStop_30 : decode cX6_hasStop 30 = .ok (.iconst 1, 1) := by decide +kernel
theorem dX6_hasStop_31 : decode cX6_hasStop 31 = .ok (.putfield 24, 3) := by decide +kernel
theorem dX6_hasStop_34 : decode cX6_hasStop 34 = .ok (.aload_n 0, 1) := by decide +kernel
theorem dX6_hasStop_35 : decode cX6_hasStop 35 = .ok (.getfield 24, 3) := by decide +kernel
theorem dX6_hasStop_38 : decode cX6_hasStop 38 = .ok (.ifCond .ne 7, 3) := by decide +kernel
theorem dX6_hasStop_45 : decode cX6_hasStop 45 = .ok (.iconst 0, 1) := by decide +kernel
theorem dX6_hasStop_46 : decode cX6_hasStop 46 = .ok (.ireturn, 1) := by decide +kernel
theorem dX6_jobAt_0 : decode cX6_jobAt 0 = .ok (.aload_n 0, 1) := by decide +kernel
theorem dX6_jobAt_1 : decode cX6_jobAt 1 = .ok (.iload_n 1, 1) := by decide +kernel
theorem dX6_jobAt_2 : decode cX6_jobAt 2 = .ok (.iload_n 2, 1) := by decide +kernel
theorem dX6_jobAt_3 : decode cX6_jobAt 3 = .ok (.invokevirtual 220, 3) := by decide +kernel
theorem dX6_jobAt_6 : decode cX6_jobAt 6 = .ok (.ifCond .eq 16, 3) := by decide +kernel
theorem dX6_jobAt_22 : decode cX6_jobAt 22 = .ok (.iconst 0, 1) := by decide +kernel
theorem dX6_jobAt_23 : decode cX6_jobAt 23 = .ok (.ireturn, 1) := by decide +kernel
theorem dX6_isFetched_0 : decode cX6_isFetched 0 = .ok (.aload_n 0, 1) := by decide +kernel
theorem dX6_isFetched_1 : decode cX6_isFetched 1 = .ok (.iload_n 1, 1) := by decide +kernel
theorem dX6_isFetched_2 : decode cX6_isFetched 2 = .ok (.iload_n 2, 1) := by decide +kernel
theorem dX6_isFetched_3 : decode cX6_isFetched 3 = .ok (.invokevirtual 220, 3) := by decide +kernel
theorem dX6_isFetched_6 : decode cX6_isFetched 6 = .ok (.ifCond .eq 20, 3) := by decide +kernel
theorem dX6_isFetched_26 : decode cX6_isFetched 26 = .ok (.iconst 0, 1) := by decide +kernel
theorem dX6_isFetched_27 : decode cX6_isFetched 27 = .ok (.ireturn, 1) := by decide +kernel
theorem dX6_arrives_0 : decode cX6_arrives 0 = .ok (.aload_n 0, 1) := by decide +kernel
theorem dX6_arrives_1 : decode cX6_arrives 1 = .ok (.iload_n 1, 1) := by decide +kernel
theorem dX6_arrives_2 : decode cX6_arrives 2 = .ok (.iload_n 2, 1) := by decide +kernel
theorem dX6_arrives_3 : decode cX6_arrives 3 = .ok (.invokevirtual 220, 3) := by decide +kernel
theorem dX6_arrives_6 : decode cX6_arrives 6 = .ok (.ifCond .eq 21, 3) := by decide +kernel
theorem dX6_arrives_27 : decode cX6_arrives 27 = .ok (.iconst 0, 1) := by decide +kernel
theorem dX6_arrives_28 : decode cX6_arrives 28 = .ok (.ireturn, 1) := by decide +kernel
theorem dX6_begins_0 : decode cX6_begins 0 = .ok (.aload_n 0, 1) := by decide +kernel
theorem dX6_begins_1 : decode cX6_begins 1 = .ok (.iload_n 1, 1) := by decide +kernel
theorem dX6_begins_2 : decode cX6_begins 2 = .ok (.iload_n 2, 1) := by decide +kernel
theorem dX6_begins_3 : decode cX6_begins 3 = .ok (.invokevirtual 220, 3) := by decide +kernel
theorem dX6_begins_6 : decode cX6_begins 6 = .ok (.ifCond .eq 21, 3) := by decide +kernel
theorem dX6_begins_27 : decode cX6_begins 27 = .ok (.iconst 0, 1) := by decide +kernel
theorem dX6_begins_28 : decode cX6_begins 28 = .ok (.ireturn, 1) := by decide +kernel
theorem dX6_loadBehind_0 : decode cX6_loadBehind 0 = .ok (.aload_n 0, 1) := by decide +kernel
theorem dX6_loadBehind_1 : decode cX6_loadBehind 1 = .ok (.iload_n 1, 1) := by decide +kernel
theorem dX6_loadBehind_2 : decode cX6_loadBehind 2 = .ok (.iload_n 2, 1) := by decide +kernel
theorem dX6_loadBehind_3 : decode cX6_loadBehind 3 = .ok (.invokevirtual 220, 3) := by decide +kernel
theorem dX6_loadBehind_6 : decode cX6_loadBehind 6 = .ok (.ifCond .eq 21, 3) := by decide +kernel
theorem dX6_loadBehind_27 : decode cX6_loadBehind 27 = .ok (.iconst 0, 1) := by decide +kernel
theorem dX6_loadBehind_28 : decode cX6_loadBehind 28 = .ok (.ireturn, 1) := by decide +kernel
theorem dX6_slack_0 : decode cX6_slack 0 = .ok (.aload_n 0, 1) := by decide +kernel
theorem dX6_slack_1 : decode cX6_slack 1 = .ok (.iload_n 1, 1) := by decide +kernel
theorem dX6_slack_2 : decode cX6_slack 2 = .ok (.iload_n 2, 1) := by decide +kernel
theorem dX6_slack_3 : decode cX6_slack 3 = .ok (.invokevirtual 220, 3) := by decide +kernel
theorem dX6_slack_6 : decode cX6_slack 6 = .ok (.ifCond .eq 12, 3) := by decide +kernel
theorem dX6_slack_18 : decode cX6_slack 18 = .ok (.iconst 0, 1) := by decide +kernel
theorem dX6_slack_19 : decode cX6_slack 19 = .ok (.ireturn, 1) := by decide +kernel
theorem dX6_back_0 : decode cX6_back 0 = .ok (.aload_n 0, 1) := by decide +kernel
theorem dX6_back_1 : decode cX6_back 1 = .ok (.iconst 0, 1) := by decide +kernel
theorem dX6_back_2 : decode cX6_back 2 = .ok (.putfield 24, 3) := by decide +kernel
theorem dX6_back_5 : decode cX6_back 5 = .ok (.aload_n 0, 1) := by decide +kernel
theorem dX6_back_6 : decode cX6_back 6 = .ok (.iload_n 1, 1) := by decide +kernel
theorem dX6_back_7 : decode cX6_back 7 = .ok (.invokevirtual 191, 3) := by decide +kernel
theorem dX6_back_10 : decode cX6_back 10 = .ok (.ifCond .eq 17, 3) := by decide +kernel
theorem dX6_back_27 : decode cX6_back 27 = .ok (.aload_n 0, 1) := by decide +kernel
theorem dX6_back_28 : decode cX6_back 28 = .ok (.iconst 1, 1) := by decide +kernel
theorem dX6_back_29 : decode cX6_back 29 = .ok (.invokevirtual 171, 3) := by decide +kernel
theorem dX6_back_32 : decode cX6_back 32 = .ok (.ireturn, 1) := by decide +kernel
theorem dX6_waits_0 : decode cX6_waits 0 = .ok (.aload_n 0, 1) := by decide +kernel
theorem dX6_waits_1 : decode cX6_waits 1 = .ok (.iconst 0, 1) := by decide +kernel
theorem dX6_waits_2 : decode cX6_waits 2 = .ok (.putfield 24, 3) := by decide +kernel
theorem dX6_waits_5 : decode cX6_waits 5 = .ok (.aload_n 0, 1) := by decide +kernel
theorem dX6_waits_6 : decode cX6_waits 6 = .ok (.iload_n 1, 1) := by decide +kernel
theorem dX6_waits_7 : decode cX6_waits 7 = .ok (.invokevirtual 191, 3) := by decide +kernel
theorem dX6_waits_10 : decode cX6_waits 10 = .ok (.ifCond .eq 11, 3) := by decide +kernel
theorem dX6_waits_21 : decode cX6_waits 21 = .ok (.aload_n 0, 1) := by decide +kernel
theorem dX6_waits_22 : decode cX6_waits 22 = .ok (.iconst 1, 1) := by decide +kernel
theorem dX6_waits_23 : decode cX6_waits 23 = .ok (.invokevirtual 171, 3) := by decide +kernel
theorem dX6_waits_26 : decode cX6_waits 26 = .ok (.ireturn, 1) := by decide +kernel
theorem dX6_isRight_0 : decode cX6_isRight 0 = .ok (.aload_n 0, 1) := by decide +kernel
theorem dX6_isRight_1 : decode cX6_isRight 1 = .ok (.aload_n 0, 1) := by decide +kernel
theorem dX6_isRight_2 : decode cX6_isRight 2 = .ok (.iload_n 1, 1) := by decide +kernel
theorem dX6_isRight_3 : decode cX6_isRight 3 = .ok (.invokevirtual 191, 3) := by decide +kernel
theorem dX6_isRight_6 : decode cX6_isRight 6 = .ok (.ifCond .eq 7, 3) := by decide +kernel
theorem dX6_isRight_13 : decode cX6_isRight 13 = .ok (.iconst 1, 1) := by decide +kernel
theorem dX6_isRight_14 : decode cX6_isRight 14 = .ok (.putfield 24, 3) := by decide +kernel
theorem dX6_isRight_17 : decode cX6_isRight 17 = .ok (.aload_n 0, 1) := by decide +kernel
theorem dX6_isRight_18 : decode cX6_isRight 18 = .ok (.getfield 24, 3) := by decide +kernel
theorem dX6_isRight_21 : decode cX6_isRight 21 = .ok (.ifCond .ne 21, 3) := by decide +kernel
theorem dX6_isRight_42 : decode cX6_isRight 42 = .ok (.iconst 0, 1) := by decide +kernel
theorem dX6_isRight_43 : decode cX6_isRight 43 = .ok (.ireturn, 1) := by decide +kernel
theorem dX6_length_0 : decode cX6_length 0 = .ok (.aload_n 0, 1) := by decide +kernel
theorem dX6_length_1 : decode cX6_length 1 = .ok (.iconst 0, 1) := by decide +kernel
theorem dX6_length_2 : decode cX6_length 2 = .ok (.putfield 24, 3) := by decide +kernel
theorem dX6_length_5 : decode cX6_length 5 = .ok (.aload_n 0, 1) := by decide +kernel
theorem dX6_length_6 : decode cX6_length 6 = .ok (.iload_n 1, 1) := by decide +kernel
theorem dX6_length_7 : decode cX6_length 7 = .ok (.invokevirtual 191, 3) := by decide +kernel
theorem dX6_length_10 : decode cX6_length 10 = .ok (.ifCond .eq 17, 3) := by decide +kernel
theorem dX6_length_27 : decode cX6_length 27 = .ok (.aload_n 0, 1) := by decide +kernel
theorem dX6_length_28 : decode cX6_length 28 = .ok (.iconst 1, 1) := by decide +kernel
theorem dX6_length_29 : decode cX6_length 29 = .ok (.invokevirtual 171, 3) := by decide +kernel
theorem dX6_length_32 : decode cX6_length 32 = .ok (.ireturn, 1) := by decide +kernel
theorem dX6_costOf_0 : decode cX6_costOf 0 = .ok (.aload_n 0, 1) := by decide +kernel
theorem dX6_costOf_1 : decode cX6_costOf 1 = .ok (.iconst 0, 1) := by decide +kernel
theorem dX6_costOf_2 : decode cX6_costOf 2 = .ok (.putfield 24, 3) := by decide +kernel
theorem dX6_costOf_5 : decode cX6_costOf 5 = .ok (.aload_n 0, 1) := by decide +kernel
theorem dX6_costOf_6 : decode cX6_costOf 6 = .ok (.iload_n 1, 1) := by decide +kernel
theorem dX6_costOf_7 : decode cX6_costOf 7 = .ok (.invokevirtual 191, 3) := by decide +kernel
theorem dX6_costOf_10 : decode cX6_costOf 10 = .ok (.ifCond .eq 17, 3) := by decide +kernel
theorem dX6_costOf_27 : decode cX6_costOf 27 = .ok (.aload_n 0, 1) := by decide +kernel
theorem dX6_costOf_28 : decode cX6_costOf 28 = .ok (.iconst 1, 1) := by decide +kernel
theorem dX6_costOf_29 : decode cX6_costOf 29 = .ok (.invokevirtual 171, 3) := by decide +kernel
theorem dX6_costOf_32 : decode cX6_costOf 32 = .ok (.ireturn, 1) := by decide +kernel
theorem dX6_costAll_0 : decode cX6_costAll 0 = .ok (.aload_n 0, 1) := by decide +kernel
theorem dX6_costAll_1 : decode cX6_costAll 1 = .ok (.aload_n 0, 1) := by decide +kernel
theorem dX6_costAll_2 : decode cX6_costAll 2 = .ok (.getfield 21, 3) := by decide +kernel
theorem dX6_costAll_5 : decode cX6_costAll 5 = .ok (.invokevirtual 119, 3) := by decide +kernel
theorem dX6_costAll_8 : decode cX6_costAll 8 = .ok (.istore_n 1, 1) := by decide +kernel
theorem dX6_costAll_9 : decode cX6_costAll 9 = .ok (.iconst 0, 1) := by decide +kernel
theorem dX6_costAll_10 : decode cX6_costAll 10 = .ok (.istore_n 2, 1) := by decide +kernel
theorem dX6_costAll_11 : decode cX6_costAll 11 = .ok (.iload_n 2, 1) := by decide +kernel
theorem dX6_costAll_12 : decode cX6_costAll 12 = .ok (.aload_n 0, 1) := by decide +kernel
theorem dX6_costAll_13 : decode cX6_costAll 13 = .ok (.getfield 38, 3) := by decide +kernel
theorem dX6_costAll_16 : decode cX6_costAll 16 = .ok (.if_icmp .ge 33, 3) := by decide +kernel
theorem dX6_costAll_49 : decode cX6_costAll 49 = .ok (.iload_n 1, 1) := by decide +kernel
theorem dX6_costAll_50 : decode cX6_costAll 50 = .ok (.ireturn, 1) := by decide +kernel
theorem dX6_cost_0 : decode cX6_cost 0 = .ok (.aload_n 0, 1) := by decide +kernel
theorem dX6_cost_1 : decode cX6_cost 1 = .ok (.iconst 0, 1) := by decide +kernel
theorem dX6_cost_2 : decode cX6_cost 2 = .ok (.putfield 24, 3) := by decide +kernel
theorem dX6_cost_5 : decode cX6_cost 5 = .ok (.aload_n 0, 1) := by decide +kernel
theorem dX6_cost_6 : decode cX6_cost 6 = .ok (.invokevirtual 234, 3) := by decide +kernel
theorem dX6_cost_9 : decode cX6_cost 9 = .ok (.ireturn, 1) := by decide +kernel
theorem dX6_fullness_0 : decode cX6_fullness 0 = .ok (.aload_n 0, 1) := by decide +kernel
theorem dX6_fullness_1 : decode cX6_fullness 1 = .ok (.iconst 0, 1) := by decide +kernel
theorem dX6_fullness_2 : decode cX6_fullness 2 = .ok (.putfield 24, 3) := by decide +kernel
theorem dX6_fullness_5 : decode cX6_fullness 5 = .ok (.iconst 0, 1) := by decide +kernel
theorem dX6_fullness_6 : decode cX6_fullness 6 = .ok (.istore_n 1, 1) := by decide +kernel
theorem dX6_fullness_7 : decode cX6_fullness 7 = .ok (.iconst 0, 1) := by decide +kernel
theorem dX6_fullness_8 : decode cX6_fullness 8 = .ok (.istore_n 2, 1) := by decide +kernel
theorem dX6_fullness_9 : decode cX6_fullness 9 = .ok (.iconst 0, 1) := by decide +kernel
theorem dX6_fullness_10 : decode cX6_fullness 10 = .ok (.istore_n 3, 1) := by decide +kernel
theorem dX6_fullness_11 : decode cX6_fullness 11 = .ok (.iload_n 3, 1) := by decide +kernel
theorem dX6_fullness_12 : decode cX6_fullness 12 = .ok (.aload_n 0, 1) := by decide +kernel
theorem dX6_fullness_13 : decode cX6_fullness 13 = .ok (.getfield 35, 3) := by decide +kernel
theorem dX6_fullness_16 : decode cX6_fullness 16 = .ok (.if_icmp .ge 111, 3) := by decide +kernel
theorem dX6_fullness_127 : decode cX6_fullness 127 = .ok (.iload_n 2, 1) := by decide +kernel
theorem dX6_fullness_128 : decode cX6_fullness 128 = .ok (.ifCond .ne 7, 3) := by decide +kernel
theorem dX6_fullness_131 : decode cX6_fullness 131 = .ok (.dconst 0, 1) := by decide +kernel
theorem dX6_fullness_132 : decode cX6_fullness 132 = .ok (.goto 8, 3) := by decide +kernel
theorem dX6_fullness_140 : decode cX6_fullness 140 = .ok (.dreturn, 1) := by decide +kernel
theorem dX6_wouldAdd_0 : decode cX6_wouldAdd 0 = .ok (.aload_n 0, 1) := by decide +kernel
theorem dX6_wouldAdd_1 : decode cX6_wouldAdd 1 = .ok (.iconst 0, 1) := by decide +kernel
theorem dX6_wouldAdd_2 : decode cX6_wouldAdd 2 = .ok (.putfield 24, 3) := by decide +kernel
theorem dX6_wouldAdd_5 : decode cX6_wouldAdd 5 = .ok (.aload_n 0, 1) := by decide +kernel
theorem dX6_wouldAdd_6 : decode cX6_wouldAdd 6 = .ok (.iload_n 1, 1) := by decide +kernel
theorem dX6_wouldAdd_7 : decode cX6_wouldAdd 7 = .ok (.invokevirtual 177, 3) := by decide +kernel
theorem dX6_wouldAdd_10 : decode cX6_wouldAdd 10 = .ok (.ifCond .eq 11, 3) := by decide +kernel
theorem dX6_wouldAdd_21 : decode cX6_wouldAdd 21 = .ok (.aload_n 0, 1) := by decide +kernel
theorem dX6_wouldAdd_22 : decode cX6_wouldAdd 22 = .ok (.iconst 1, 1) := by decide +kernel
theorem dX6_wouldAdd_23 : decode cX6_wouldAdd 23 = .ok (.invokevirtual 171, 3) := by decide +kernel
theorem dX6_wouldAdd_26 : decode cX6_wouldAdd 26 = .ok (.ireturn, 1) := by decide +kernel
theorem dX6_gain_0 : decode cX6_gain 0 = .ok (.aload_n 0, 1) := by decide +kernel
theorem dX6_gain_1 : decode cX6_gain 1 = .ok (.iconst 0, 1) := by decide +kernel
theorem dX6_gain_2 : decode cX6_gain 2 = .ok (.putfield 24, 3) := by decide +kernel
theorem dX6_gain_5 : decode cX6_gain 5 = .ok (.iload_n 1, 1) := by decide +kernel
theorem dX6_gain_6 : decode cX6_gain 6 = .ok (.iconst 0, 1) := by decide +kernel
theorem dX6_gain_7 : decode cX6_gain 7 = .ok (.iconst 3, 1) := by decide +kernel
theorem dX6_gain_8 : decode cX6_gain 8 = .ok (.invokestatic 31, 3) := by decide +kernel
theorem dX6_gain_11 : decode cX6_gain 11 = .ok (.ifCond .eq 11, 3) := by decide +kernel
theorem dX6_gain_14 : decode cX6_gain 14 = .ok (.aload_n 0, 1) := by decide +kernel
theorem dX6_gain_15 : decode cX6_gain 15 = .ok (.iload_n 1, 1) := by decide +kernel
theorem dX6_gain_16 : decode cX6_gain 16 = .ok (.invokevirtual 168, 3) := by decide +kernel
theorem dX6_gain_19 : decode cX6_gain 19 = .ok (.goto 8, 3) := by decide +kernel
theorem dX6_gain_22 : decode cX6_gain 22 = .ok (.aload_n 0, 1) := by decide +kernel
theorem dX6_gain_23 : decode cX6_gain 23 = .ok (.iconst 1, 1) := by decide +kernel
theorem dX6_gain_24 : decode cX6_gain 24 = .ok (.invokevirtual 171, 3) := by decide +kernel
theorem dX6_gain_27 : decode cX6_gain 27 = .ok (.ireturn, 1) := by decide +kernel
theorem dX6_laterBack_0 : decode cX6_laterBack 0 = .ok (.aload_n 0, 1) := by decide +kernel
theorem dX6_laterBack_1 : decode cX6_laterBack 1 = .ok (.iload_n 1, 1) := by decide +kernel
theorem dX6_laterBack_2 : decode cX6_laterBack 2 = .ok (.iload_n 2, 1) := by decide +kernel
theorem dX6_laterBack_3 : decode cX6_laterBack 3 = .ok (.invokevirtual 220, 3) := by decide +kernel
theorem dX6_laterBack_6 : decode cX6_laterBack 6 = .ok (.ifCond .ne 5, 3) := by decide +kernel
theorem dX6_laterBack_9 : decode cX6_laterBack 9 = .ok (.iconst 0, 1) := by decide +kernel
theorem dX6_laterBack_10 : decode cX6_laterBack 10 = .ok (.ireturn, 1) := by decide +kernel
theorem dX6_costWithout_0 : decode cX6_costWithout 0 = .ok (.aload_n 0, 1) := by decide +kernel
theorem dX6_costWithout_1 : decode cX6_costWithout 1 = .ok (.iconst 0, 1) := by decide +kernel
theorem dX6_costWithout_2 : decode cX6_costWithout 2 = .ok (.putfield 24, 3) := by decide +kernel
theorem dX6_costWithout_5 : decode cX6_costWithout 5 = .ok (.aload_n 0, 1) := by decide +kernel
theorem dX6_costWithout_6 : decode cX6_costWithout 6 = .ok (.iload_n 1, 1) := by decide +kernel
theorem dX6_costWithout_7 : decode cX6_costWithout 7 = .ok (.invokevirtual 177, 3) := by decide +kernel
theorem dX6_costWithout_10 : decode cX6_costWithout 10 = .ok (.ifCond .ne 9, 3) := by decide +kernel
theorem dX6_costWithout_13 : decode cX6_costWithout 13 = .ok (.aload_n 0, 1) := by decide +kernel
theorem dX6_costWithout_14 : decode cX6_costWithout 14 = .ok (.iconst 1, 1) := by decide +kernel
theorem dX6_costWithout_15 : decode cX6_costWithout 15 = .ok (.invokevirtual 171, 3) := by decide +kernel
theorem dX6_costWithout_18 : decode cX6_costWithout 18 = .ok (.ireturn, 1) := by decide +kernel
theorem dX6_add_0 : decode cX6_add 0 = .ok (.aload_n 0, 1) := by decide +kernel
theorem dX6_add_1 : decode cX6_add 1 = .ok (.aload_n 0, 1) := by decide +kernel
theorem dX6_add_2 : decode cX6_add 2 = .ok (.getfield 237, 3) := by decide +kernel
theorem dX6_add_5 : decode cX6_add 5 = .ok (.ldc2_w 241, 3) := by decide +kernel
theorem dX6_add_8 : decode cX6_add 8 = .ok (.lmul, 1) := by decide +kernel
theorem dX6_add_9 : decode cX6_add 9 = .ok (.iload_n 1, 1) := by decide +kernel
theorem dX6_add_10 : decode cX6_add 10 = .ok (.i2l, 1) := by decide +kernel
theorem dX6_add_11 : decode cX6_add 11 = .ok (.ladd, 1) := by decide +kernel
theorem dX6_add_12 : decode cX6_add 12 = .ok (.putfield 237, 3) := by decide +kernel
theorem dX6_add_15 : decode cX6_add 15 = .ok (.return_, 1) := by decide +kernel
theorem dX6_digest_0 : decode cX6_digest 0 = .ok (.aload_n 0, 1) := by decide +kernel
theorem dX6_digest_1 : decode cX6_digest 1 = .ok (.iconst 0, 1) := by decide +kernel
theorem dX6_digest_2 : decode cX6_digest 2 = .ok (.putfield 24, 3) := by decide +kernel
theorem dX6_digest_5 : decode cX6_digest 5 = .ok (.aload_n 0, 1) := by decide +kernel
theorem dX6_digest_6 : decode cX6_digest 6 = .ok (.ldc2_w 247, 3) := by decide +kernel
theorem dX6_digest_9 : decode cX6_digest 9 = .ok (.putfield 237, 3) := by decide +kernel
theorem dX6_digest_12 : decode cX6_digest 12 = .ok (.iconst 5, 1) := by decide +kernel
theorem dX6_digest_13 : decode cX6_digest 13 = .ok (.newarray .int, 2) := by decide +kernel
theorem dX6_digest_15 : decode cX6_digest 15 = .ok (.dup, 1) := by decide +kernel
theorem dX6_digest_16 : decode cX6_digest 16 = .ok (.iconst 0, 1) := by decide +kernel
theorem dX6_digest_17 : decode cX6_digest 17 = .ok (.aload_n 0, 1) := by decide +kernel
theorem dX6_digest_18 : decode cX6_digest 18 = .ok (.getfield 73, 3) := by decide +kernel
theorem dX6_digest_21 : decode cX6_digest 21 = .ok (.iastore, 1) := by decide +kernel
theorem dX6_digest_22 : decode cX6_digest 22 = .ok (.dup, 1) := by decide +kernel
theorem dX6_digest_23 : decode cX6_digest 23 = .ok (.iconst 1, 1) := by decide +kernel
theorem dX6_digest_24 : decode cX6_digest 24 = .ok (.aload_n 0, 1) := by decide +kernel
theorem dX6_digest_25 : decode cX6_digest 25 = .ok (.getfield 28, 3) := by decide +kernel
theorem dX6_digest_28 : decode cX6_digest 28 = .ok (.iastore, 1) := by decide +kernel
theorem dX6_digest_29 : decode cX6_digest 29 = .ok (.dup, 1) := by decide +kernel
theorem dX6_digest_30 : decode cX6_digest 30 = .ok (.iconst 2, 1) := by decide +kernel
theorem dX6_digest_31 : decode cX6_digest 31 = .ok (.aload_n 0, 1) := by decide +kernel
theorem dX6_digest_32 : decode cX6_digest 32 = .ok (.getfield 35, 3) := by decide +kernel
theorem dX6_digest_35 : decode cX6_digest 35 = .ok (.iastore, 1) := by decide +kernel
theorem dX6_digest_36 : decode cX6_digest 36 = .ok (.dup, 1) := by decide +kernel
theorem dX6_digest_37 : decode cX6_digest 37 = .ok (.iconst 3, 1) := by decide +kernel
theorem dX6_digest_38 : decode cX6_digest 38 = .ok (.aload_n 0, 1) := by decide +kernel
theorem dX6_digest_39 : decode cX6_digest 39 = .ok (.getfield 38, 3) := by decide +kernel
theorem dX6_digest_42 : decode cX6_digest 42 = .ok (.iastore, 1) := by decide +kernel
theorem dX6_digest_43 : decode cX6_digest 43 = .ok (.dup, 1) := by decide +kernel
theorem dX6_digest_44 : decode cX6_digest 44 = .ok (.iconst 4, 1) := by decide +kernel
theorem dX6_digest_45 : decode cX6_digest 45 = .ok (.aload_n 0, 1) := by decide +kernel
theorem dX6_digest_46 : decode cX6_digest 46 = .ok (.invokevirtual 234, 3) := by decide +kernel
theorem dX6_digest_49 : decode cX6_digest 49 = .ok (.iastore, 1) := by decide +kernel
theorem dX6_digest_50 : decode cX6_digest 50 = .ok (.astore_n 1, 1) := by decide +kernel
theorem dX6_digest_51 : decode cX6_digest 51 = .ok (.aload_n 1, 1) := by decide +kernel
theorem dX6_digest_52 : decode cX6_digest 52 = .ok (.astore_n 2, 1) := by decide +kernel
theorem dX6_digest_53 : decode cX6_digest 53 = .ok (.aload_n 2, 1) := by decide +kernel
theorem dX6_digest_54 : decode cX6_digest 54 = .ok (.arraylength, 1) := by decide +kernel
theorem dX6_digest_55 : decode cX6_digest 55 = .ok (.istore_n 3, 1) := by decide +kernel
theorem dX6_digest_56 : decode cX6_digest 56 = .ok (.iconst 0, 1) := by decide +kernel
theorem dX6_digest_57 : decode cX6_digest 57 = .ok (.istore 4, 2) := by decide +kernel
theorem dX6_digest_59 : decode cX6_digest 59 = .ok (.iload 4, 2) := by decide +kernel
theorem dX6_digest_61 : decode cX6_digest 61 = .ok (.iload_n 3, 1) := by decide +kernel
theorem dX6_digest_62 : decode cX6_digest 62 = .ok (.if_icmp .ge 21, 3) := by decide +kernel
theorem dX6_digest_65 : decode cX6_digest 65 = .ok (.aload_n 2, 1) := by decide +kernel
theorem dX6_digest_66 : decode cX6_digest 66 = .ok (.iload 4, 2) := by decide +kernel
theorem dX6_digest_68 : decode cX6_digest 68 = .ok (.iaload, 1) := by decide +kernel
theorem dX6_digest_69 : decode cX6_digest 69 = .ok (.istore 5, 2) := by decide +kernel
theorem dX6_digest_71 : decode cX6_digest 71 = .ok (.aload_n 0, 1) := by decide +kernel
theorem dX6_digest_72 : decode cX6_digest 72 = .ok (.iload 5, 2) := by decide +kernel
theorem dX6_digest_74 : decode cX6_digest 74 = .ok (.invokevirtual 243, 3) := by decide +kernel
theorem dX6_digest_77 : decode cX6_digest 77 = .ok (.iinc 4 1, 3) := by decide +kernel
theorem dX6_digest_80 : decode cX6_digest 80 = .ok (.goto (-21), 3) := by decide +kernel
theorem dX6_digest_83 : decode cX6_digest 83 = .ok (.iconst 0, 1) := by decide +kernel
theorem dX6_digest_84 : decode cX6_digest 84 = .ok (.istore_n 2, 1) := by decide +kernel
theorem dX6_digest_85 : decode cX6_digest 85 = .ok (.iload_n 2, 1) := by decide +kernel
theorem dX6_digest_86 : decode cX6_digest 86 = .ok (.aload_n 0, 1) := by decide +kernel
theorem dX6_digest_87 : decode cX6_digest 87 = .ok (.getfield 35, 3) := by decide +kernel
theorem dX6_digest_90 : decode cX6_digest 90 = .ok (.if_icmp .ge 14, 3) := by decide +kernel
theorem dX6_digest_104 : decode cX6_digest 104 = .ok (.iconst 0, 1) := by decide +kernel
theorem dX6_digest_105 : decode cX6_digest 105 = .ok (.istore_n 2, 1) := by decide +kernel
theorem dX6_digest_106 : decode cX6_digest 106 = .ok (.iload_n 2, 1) := by decide +kernel
theorem dX6_digest_107 : decode cX6_digest 107 = .ok (.aload_n 0, 1) := by decide +kernel
theorem dX6_digest_108 : decode cX6_digest 108 = .ok (.getfield 38, 3) := by decide +kernel
theorem dX6_digest_111 : decode cX6_digest 111 = .ok (.if_icmp .ge 35, 3) := by decide +kernel
theorem dX6_digest_146 : decode cX6_digest 146 = .ok (.iconst 0, 1) := by decide +kernel
theorem dX6_digest_147 : decode cX6_digest 147 = .ok (.istore_n 2, 1) := by decide +kernel
theorem dX6_digest_148 : decode cX6_digest 148 = .ok (.iload_n 2, 1) := by decide +kernel
theorem dX6_digest_149 : decode cX6_digest 149 = .ok (.iconst 4, 1) := by decide +kernel
theorem dX6_digest_150 : decode cX6_digest 150 = .ok (.if_icmp .ge 18, 3) := by decide +kernel
theorem dX6_digest_153 : decode cX6_digest 153 = .ok (.aload_n 0, 1) := by decide +kernel
theorem dX6_digest_154 : decode cX6_digest 154 = .ok (.aload_n 0, 1) := by decide +kernel
theorem dX6_digest_155 : decode cX6_digest 155 = .ok (.iload_n 2, 1) := by decide +kernel
theorem dX6_digest_156 : decode cX6_digest 156 = .ok (.invokevirtual 168, 3) := by decide +kernel
theorem dX6_digest_159 : decode cX6_digest 159 = .ok (.invokevirtual 243, 3) := by decide +kernel
theorem dX6_digest_162 : decode cX6_digest 162 = .ok (.iinc 2 1, 3) := by decide +kernel
theorem dX6_digest_165 : decode cX6_digest 165 = .ok (.goto (-17), 3) := by decide +kernel
theorem dX6_digest_168 : decode cX6_digest 168 = .ok (.aload_n 0, 1) := by decide +kernel
theorem dX6_digest_169 : decode cX6_digest 169 = .ok (.getfield 237, 3) := by decide +kernel
theorem dX6_digest_172 : decode cX6_digest 172 = .ok (.lreturn, 1) := by decide +kernel
