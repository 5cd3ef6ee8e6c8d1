theorem dX5_searchAllVehicles_21 : decode cX5_searchAllVehicles 21 = .ok (.putfield 154, 3) := by decide +kernel
theorem dX5_searchAllVehicles_24 : decode cX5_searchAllVehicles 24 = .ok (.aload_n 0, 1) := by decide +kernel
theorem dX5_searchAllVehicles_25 : decode cX5_searchAllVehicles 25 = .ok (.getfield 44, 3) := by decide +kernel
theorem dX5_searchAllVehicles_28 : decode cX5_searchAllVehicles 28 = .ok (.iconst (-1), 1) := by decide +kernel
theorem dX5_searchAllVehicles_29 : decode cX5_searchAllVehicles 29 = .ok (.putfield 393, 3) := by decide +kernel
theorem dX5_searchAllVehicles_32 : decode cX5_searchAllVehicles 32 = .ok (.iconst 0, 1) := by decide +kernel
theorem dX5_searchAllVehicles_33 : decode cX5_searchAllVehicles 33 = .ok (.istore 4, 2) := by decide +kernel
theorem dX5_searchAllVehicles_35 : decode cX5_searchAllVehicles 35 = .ok (.iload 4, 2) := by decide +kernel
theorem dX5_searchAllVehicles_37 : decode cX5_searchAllVehicles 37 = .ok (.aload_n 0, 1) := by decide +kernel
theorem dX5_searchAllVehicles_38 : decode cX5_searchAllVehicles 38 = .ok (.getfield 86, 3) := by decide +kernel
theorem dX5_searchAllVehicles_41 : decode cX5_searchAllVehicles 41 = .ok (.if_icmp .ge 142, 3) := by decide +kernel
theorem dX5_searchAllVehicles_44 : decode cX5_searchAllVehicles 44 = .ok (.aload_n 0, 1) := by decide +kernel
theorem dX5_searchAllVehicles_45 : decode cX5_searchAllVehicles 45 = .ok (.iload_n 1, 1) := by decide +kernel
theorem dX5_searchAllVehicles_46 : decode cX5_searchAllVehicles 46 = .ok (.aload_n 0, 1) := by decide +kernel
theorem dX5_searchAllVehicles_47 : decode cX5_searchAllVehicles 47 = .ok (.getfield 18, 3) := by decide +kernel
theorem dX5_searchAllVehicles_50 : decode cX5_searchAllVehicles 50 = .ok (.iload 4, 2) := by decide +kernel
theorem dX5_searchAllVehicles_52 : decode cX5_searchAllVehicles 52 = .ok (.aaload, 1) := by decide +kernel
theorem dX5_searchAllVehicles_53 : decode cX5_searchAllVehicles 53 = .ok (.aload_n 0, 1) := by decide +kernel
theorem dX5_searchAllVehicles_54 : decode cX5_searchAllVehicles 54 = .ok (.getfield 18, 3) := by decide +kernel
theorem dX5_searchAllVehicles_57 : decode cX5_searchAllVehicles 57 = .ok (.iload 4, 2) := by decide +kernel
theorem dX5_searchAllVehicles_59 : decode cX5_searchAllVehicles 59 = .ok (.aaload, 1) := by decide +kernel
theorem dX5_searchAllVehicles_60 : decode cX5_searchAllVehicles 60 = .ok (.getfield 160, 3) := by decide +kernel
theorem dX5_searchAllVehicles_63 : decode cX5_searchAllVehicles 63 = .ok (.ldc_w 299, 3) := by decide +kernel
theorem dX5_searchAllVehicles_66 : decode cX5_searchAllVehicles 66 = .ok (.invokevirtual 300, 3) := by decide +kernel
theorem dX5_searchAllVehicles_69 : decode cX5_searchAllVehicles 69 = .ok (.aload_n 0, 1) := by decide +kernel
theorem dX5_searchAllVehicles_70 : decode cX5_searchAllVehicles 70 = .ok (.getfield 40, 3) := by decide +kernel
theorem dX5_searchAllVehicles_73 : decode cX5_searchAllVehicles 73 = .ok (.getfield 154, 3) := by decide +kernel
theorem dX5_searchAllVehicles_76 : decode cX5_searchAllVehicles 76 = .ok (.iconst (-1), 1) := by decide +kernel
theorem dX5_searchAllVehicles_77 : decode cX5_searchAllVehicles 77 = .ok (.if_icmp .ne 6, 3) := by decide +kernel
theorem dX5_searchAllVehicles_80 : decode cX5_searchAllVehicles 80 = .ok (.goto 97, 3) := by decide +kernel
theorem dX5_searchAllVehicles_83 : decode cX5_searchAllVehicles 83 = .ok (.aload_n 0, 1) := by decide +kernel
theorem dX5_searchAllVehicles_84 : decode cX5_searchAllVehicles 84 = .ok (.getfield 40, 3) := by decide +kernel
theorem dX5_searchAllVehicles_87 : decode cX5_searchAllVehicles 87 = .ok (.getfield 154, 3) := by decide +kernel
theorem dX5_searchAllVehicles_90 : decode cX5_searchAllVehicles 90 = .ok (.iload_n 2, 1) := by decide +kernel
theorem dX5_searchAllVehicles_91 : decode cX5_searchAllVehicles 91 = .ok (.if_icmp .ge 67, 3) := by decide +kernel
theorem dX5_searchAllVehicles_94 : decode cX5_searchAllVehicles 94 = .ok (.iload_n 2, 1) := by decide +kernel
theorem dX5_searchAllVehicles_95 : decode cX5_searchAllVehicles 95 = .ok (.istore_n 3, 1) := by decide +kernel
theorem dX5_searchAllVehicles_96 : decode cX5_searchAllVehicles 96 = .ok (.aload_n 0, 1) := by decide +kernel
theorem dX5_searchAllVehicles_97 : decode cX5_searchAllVehicles 97 = .ok (.getfield 40, 3) := by decide +kernel
theorem dX5_searchAllVehicles_100 : decode cX5_searchAllVehicles 100 = .ok (.getfield 154, 3) := by decide +kernel
theorem dX5_searchAllVehicles_103 : decode cX5_searchAllVehicles 103 = .ok (.istore_n 2, 1) := by decide +kernel
theorem dX5_searchAllVehicles_104 : decode cX5_searchAllVehicles 104 = .ok (.aload_n 0, 1) := by decide +kernel
theorem dX5_searchAllVehicles_105 : decode cX5_searchAllVehicles 105 = .ok (.getfield 44, 3) := by decide +kernel
theorem dX5_searchAllVehicles_108 : decode cX5_searchAllVehicles 108 = .ok (.iload 4, 2) := by decide +kernel
theorem dX5_searchAllVehicles_110 : decode cX5_searchAllVehicles 110 = .ok (.putfield 393, 3) := by decide +kernel
theorem dX5_searchAllVehicles_113 : decode cX5_searchAllVehicles 113 = .ok (.aload_n 0, 1) := by decide +kernel
theorem dX5_searchAllVehicles_114 : decode cX5_searchAllVehicles 114 = .ok (.getfield 44, 3) := by decide +kernel
theorem dX5_searchAllVehicles_117 : decode cX5_searchAllVehicles 117 = .ok (.aload_n 0, 1) := by decide +kernel
theorem dX5_searchAllVehicles_118 : decode cX5_searchAllVehicles 118 = .ok (.getfield 40, 3) := by decide +kernel
theorem dX5_searchAllVehicles_121 : decode cX5_searchAllVehicles 121 = .ok (.getfield 154, 3) := by decide +kernel
theorem dX5_searchAllVehicles_124 : decode cX5_searchAllVehicles 124 = .ok (.putfield 154, 3) := by decide +kernel
theorem dX5_searchAllVehicles_127 : decode cX5_searchAllVehicles 127 = .ok (.aload_n 0, 1) := by decide +kernel
theorem dX5_searchAllVehicles_128 : decode cX5_searchAllVehicles 128 = .ok (.getfield 44, 3) := by decide +kernel
theorem dX5_searchAllVehicles_131 : decode cX5_searchAllVehicles 131 = .ok (.aload_n 0, 1) := by decide +kernel
theorem dX5_searchAllVehicles_132 : decode cX5_searchAllVehicles 132 = .ok (.getfield 40, 3) := by decide +kernel
theorem dX5_searchAllVehicles_135 : decode cX5_searchAllVehicles 135 = .ok (.getfield 384, 3) := by decide +kernel
theorem dX5_searchAllVehicles_138 : decode cX5_searchAllVehicles 138 = .ok (.putfield 384, 3) := by decide +kernel
theorem dX5_searchAllVehicles_141 : decode cX5_searchAllVehicles 141 = .ok (.aload_n 0, 1) := by decide +kernel
theorem dX5_searchAllVehicles_142 : decode cX5_searchAllVehicles 142 = .ok (.getfield 44, 3) := by decide +kernel
theorem dX5_searchAllVehicles_145 : decode cX5_searchAllVehicles 145 = .ok (.aload_n 0, 1) := by decide +kernel
theorem dX5_searchAllVehicles_146 : decode cX5_searchAllVehicles 146 = .ok (.getfield 40, 3) := by decide +kernel
theorem dX5_searchAllVehicles_149 : decode cX5_searchAllVehicles 149 = .ok (.getfield 387, 3) := by decide +kernel
theorem dX5_searchAllVehicles_152 : decode cX5_searchAllVehicles 152 = .ok (.putfield 387, 3) := by decide +kernel
theorem dX5_searchAllVehicles_155 : decode cX5_searchAllVehicles 155 = .ok (.goto 22, 3) := by decide +kernel
theorem dX5_searchAllVehicles_158 : decode cX5_searchAllVehicles 158 = .ok (.aload_n 0, 1) := by decide +kernel
theorem dX5_searchAllVehicles_159 : decode cX5_searchAllVehicles 159 = .ok (.getfield 40, 3) := by decide +kernel
theorem dX5_searchAllVehicles_162 : decode cX5_searchAllVehicles 162 = .ok (.getfield 154, 3) := by decide +kernel
theorem dX5_searchAllVehicles_165 : decode cX5_searchAllVehicles 165 = .ok (.iload_n 3, 1) := by decide +kernel
theorem dX5_searchAllVehicles_166 : decode cX5_searchAllVehicles 166 = .ok (.if_icmp .ge 11, 3) := by decide +kernel
theorem dX5_searchAllVehicles_169 : decode cX5_searchAllVehicles 169 = .ok (.aload_n 0, 1) := by decide +kernel
theorem dX5_searchAllVehicles_170 : decode cX5_searchAllVehicles 170 = .ok (.getfield 40, 3) := by decide +kernel
theorem dX5_searchAllVehicles_173 : decode cX5_searchAllVehicles 173 = .ok (.getfield 154, 3) := by decide +kernel
theorem dX5_searchAllVehicles_176 : decode cX5_searchAllVehicles 176 = .ok (.istore_n 3, 1) := by decide +kernel
theorem dX5_searchAllVehicles_177 : decode cX5_searchAllVehicles 177 = .ok (.iinc 4 1, 3) := by decide +kernel
theorem dX5_searchAllVehicles_180 : decode cX5_searchAllVehicles 180 = .ok (.goto (-145), 3) := by decide +kernel
theorem dX5_searchAllVehicles_183 : decode cX5_searchAllVehicles 183 = .ok (.aload_n 0, 1) := by decide +kernel
theorem dX5_searchAllVehicles_184 : decode cX5_searchAllVehicles 184 = .ok (.getfield 44, 3) := by decide +kernel
theorem dX5_searchAllVehicles_187 : decode cX5_searchAllVehicles 187 = .ok (.iload_n 3, 1) := by decide +kernel
theorem dX5_searchAllVehicles_188 : decode cX5_searchAllVehicles 188 = .ok (.ldc_w 299, 3) := by decide +kernel
theorem dX5_searchAllVehicles_191 : decode cX5_searchAllVehicles 191 = .ok (.if_icmp .ne 9, 3) := by decide +kernel
theorem dX5_searchAllVehicles_194 : decode cX5_searchAllVehicles 194 = .ok (.sipush 9999, 3) := by decide +kernel
theorem dX5_searchAllVehicles_197 : decode cX5_searchAllVehicles 197 = .ok (.goto 6, 3) := by decide +kernel
theorem dX5_searchAllVehicles_200 : decode cX5_searchAllVehicles 200 = .ok (.iload_n 3, 1) := by decide +kernel
theorem dX5_searchAllVehicles_201 : decode cX5_searchAllVehicles 201 = .ok (.iload_n 2, 1) := by decide +kernel
theorem dX5_searchAllVehicles_202 : decode cX5_searchAllVehicles 202 = .ok (.isub, 1) := by decide +kernel
theorem dX5_searchAllVehicles_203 : decode cX5_searchAllVehicles 203 = .ok (.putfield 396, 3) := by decide +kernel
theorem dX5_searchAllVehicles_206 : decode cX5_searchAllVehicles 206 = .ok (.return_, 1) := by decide +kernel
theorem dX5_put_0 : decode cX5_put 0 = .ok (.aload_n 1, 1) := by decide +kernel
theorem dX5_put_1 : decode cX5_put 1 = .ok (.getfield 393, 3) := by decide +kernel
theorem dX5_put_4 : decode cX5_put 4 = .ok (.ifCond .lt 14, 3) := by decide +kernel
theorem dX5_put_7 : decode cX5_put 7 = .ok (.aload_n 1, 1) := by decide +kernel
theorem dX5_put_8 : decode cX5_put 8 = .ok (.getfield 393, 3) := by decide +kernel
theorem dX5_put_11 : decode cX5_put 11 = .ok (.aload_n 0, 1) := by decide +kernel
theorem dX5_put_12 : decode cX5_put 12 = .ok (.getfield 86, 3) := by decide +kernel
theorem dX5_put_15 : decode cX5_put 15 = .ok (.if_icmp .lt 4, 3) := by decide +kernel
theorem dX5_put_18 : decode cX5_put 18 = .ok (.return_, 1) := by decide +kernel
theorem dX5_put_19 : decode cX5_put 19 = .ok (.aload_n 0, 1) := by decide +kernel
theorem dX5_put_20 : decode cX5_put 20 = .ok (.getfield 18, 3) := by decide +kernel
theorem dX5_put_23 : decode cX5_put 23 = .ok (.aload_n 1, 1) := by decide +kernel
theorem dX5_put_24 : decode cX5_put 24 = .ok (.getfield 393, 3) := by decide +kernel
theorem dX5_put_27 : decode cX5_put 27 = .ok (.aaload, 1) := by decide +kernel
theorem dX5_put_28 : decode cX5_put 28 = .ok (.astore_n 2, 1) := by decide +kernel
theorem dX5_put_29 : decode cX5_put 29 = .ok (.aload_n 2, 1) := by decide +kernel
theorem dX5_put_30 : decode cX5_put 30 = .ok (.getfield 168, 3) := by decide +kernel
theorem dX5_put_33 : decode cX5_put 33 = .ok (.aload_n 2, 1) := by decide +kernel
theorem dX5_put_34 : decode cX5_put 34 = .ok (.getfield 160, 3) := by decide +kernel
theorem dX5_put_37 : decode cX5_put 37 = .ok (.aload_n 1, 1) := by decide +kernel
theorem dX5_put_38 : decode cX5_put 38 = .ok (.getfield 390, 3) := by decide +kernel
theorem dX5_put_41 : decode cX5_put 41 = .ok (.aload_n 1, 1) := by decide +kernel
theorem dX5_put_42 : decode cX5_put 42 = .ok (.getfield 384, 3) := by decide +kernel
theorem dX5_put_45 : decode cX5_put 45 = .ok (.aload_n 1, 1) := by decide +kernel
theorem dX5_put_46 : decode cX5_put 46 = .ok (.getfield 387, 3) := by decide +kernel
theorem dX5_put_49 : decode cX5_put 49 = .ok (.invokevirtual 171, 3) := by decide +kernel
theorem dX5_put_52 : decode cX5_put 52 = .ok (.aload_n 2, 1) := by decide +kernel
theorem dX5_put_53 : decode cX5_put 53 = .ok (.getfield 160, 3) := by decide +kernel
theorem dX5_put_56 : decode cX5_put 56 = .ok (.aload_n 2, 1) := by decide +kernel
theorem dX5_put_57 : decode cX5_put 57 = .ok (.getfield 168, 3) := by decide +kernel
theorem dX5_put_60 : decode cX5_put 60 = .ok (.invokevirtual 190, 3) := by decide +kernel
theorem dX5_put_63 : decode cX5_put 63 = .ok (.return_, 1) := by decide +kernel
theorem dX5_chooseByRegret_0 : decode cX5_chooseByRegret 0 = .ok (.iconst 0, 1) := by decide +kernel
theorem dX5_chooseByRegret_1 : decode cX5_chooseByRegret 1 = .ok (.istore_n 1, 1) := by decide +kernel
theorem dX5_chooseByRegret_2 : decode cX5_chooseByRegret 2 = .ok (.iconst 0, 1) := by decide +kernel
theorem dX5_chooseByRegret_3 : decode cX5_chooseByRegret 3 = .ok (.istore_n 2, 1) := by decide +kernel
theorem dX5_chooseByRegret_4 : decode cX5_chooseByRegret 4 = .ok (.iload_n 2, 1) := by decide +kernel
theorem dX5_chooseByRegret_5 : decode cX5_chooseByRegret 5 = .ok (.aload_n 0, 1) := by decide +kernel
theorem dX5_chooseByRegret_6 : decode cX5_chooseByRegret 6 = .ok (.getfield 12, 3) := by decide +kernel
theorem dX5_chooseByRegret_9 : decode cX5_chooseByRegret 9 = .ok (.getfield 111, 3) := by decide +kernel
theorem dX5_chooseByRegret_12 : decode cX5_chooseByRegret 12 = .ok (.if_icmp .ge 97, 3) := by decide +kernel
theorem dX5_chooseByRegret_15 : decode cX5_chooseByRegret 15 = .ok (.aload_n 0, 1) := by decide +kernel
theorem dX5_chooseByRegret_16 : decode cX5_chooseByRegret 16 = .ok (.iload_n 2, 1) := by decide +kernel
theorem dX5_chooseByRegret_17 : decode cX5_chooseByRegret 17 = .ok (.invokevirtual 194, 3) := by decide +kernel
theorem dX5_chooseByRegret_20 : decode cX5_chooseByRegret 20 = .ok (.iconst (-1), 1) := by decide +kernel
theorem dX5_chooseByRegret_21 : decode cX5_chooseByRegret 21 = .ok (.if_icmp .eq 6, 3) := by decide +kernel
theorem dX5_chooseByRegret_24 : decode cX5_chooseByRegret 24 = .ok (.goto 79, 3) := by decide +kernel
theorem dX5_chooseByRegret_27 : decode cX5_chooseByRegret 27 = .ok (.aload_n 0, 1) := by decide +kernel
theorem dX5_chooseByRegret_28 : decode cX5_chooseByRegret 28 = .ok (.iload_n 2, 1) := by decide +kernel
theorem dX5_chooseByRegret_29 : decode cX5_chooseByRegret 29 = .ok (.invokevirtual 147, 3) := by decide +kernel
theorem dX5_chooseByRegret_32 : decode cX5_chooseByRegret 32 = .ok (.aload_n 0, 1) := by decide +kernel
theorem dX5_chooseByRegret_33 : decode cX5_chooseByRegret 33 = .ok (.getfield 44, 3) := by decide +kernel
theorem dX5_chooseByRegret_36 : decode cX5_chooseByRegret 36 = .ok (.getfield 154, 3) := by decide +kernel
theorem dX5_chooseByRegret_39 : decode cX5_chooseByRegret 39 = .ok (.iconst (-1), 1) := by decide +kernel
theorem dX5_chooseByRegret_40 : decode cX5_chooseByRegret 40 = .ok (.if_icmp .eq 26, 3) := by decide +kernel
theorem dX5_chooseByRegret_43 : decode cX5_chooseByRegret 43 = .ok (.aload_n 0, 1) := by decide +kernel
theorem dX5_chooseByRegret_44 : decode cX5_chooseByRegret 44 = .ok (.getfield 44, 3) := by decide +kernel
theorem dX5_chooseByRegret_47 : decode cX5_chooseByRegret 47 = .ok (.getfield 154, 3) := by decide +kernel
theorem dX5_chooseByRegret_50 : decode cX5_chooseByRegret 50 = .ok (.aload_n 0, 1) := by decide +kernel
theorem dX5_chooseByRegret_51 : decode cX5_chooseByRegret 51 = .ok (.getfield 12, 3) := by decide +kernel
theorem dX5_chooseByRegret_54 : decode cX5_chooseByRegret 54 = .ok (.getfield 310, 3) := by decide +kernel
theorem dX5_chooseByRegret_57 : decode cX5_chooseByRegret 57 = .ok (.iload_n 2, 1) := by decide +kernel
theorem dX5_chooseByRegret_58 : decode cX5_chooseByRegret 58 = .ok (.iaload, 1) := by decide +kernel
theorem dX5_chooseByRegret_59 : decode cX5_chooseByRegret 59 = .ok (.if_icmp .ge 7, 3) := by decide +kernel
theorem dX5_chooseByRegret_62 : decode cX5_chooseByRegret 62 = .ok (.iconst 1, 1) := by decide +kernel
theorem dX5_chooseByRegret_63 : decode cX5_chooseByRegret 63 = .ok (.goto 4, 3) := by decide +kernel
theorem dX5_chooseByRegret_66 : decode cX5_chooseByRegret 66 = .ok (.iconst 0, 1) := by decide +kernel
theorem dX5_chooseByRegret_67 : decode cX5_chooseByRegret 67 = .ok (.istore_n 3, 1) := by decide +kernel
theorem dX5_chooseByRegret_68 : decode cX5_chooseByRegret 68 = .ok (.iload_n 3, 1) := by decide +kernel
theorem dX5_chooseByRegret_69 : decode cX5_chooseByRegret 69 = .ok (.ifCond .eq 34, 3) := by decide +kernel
theorem dX5_chooseByRegret_72 : decode cX5_chooseByRegret 72 = .ok (.iload_n 1, 1) := by decide +kernel
theorem dX5_chooseByRegret_73 : decode cX5_chooseByRegret 73 = .ok (.ifCond .eq 17, 3) := by decide +kernel
theorem dX5_chooseByRegret_76 : decode cX5_chooseByRegret 76 = .ok (.aload_n 0, 1) := by decide +kernel
theorem dX5_chooseByRegret_77 : decode cX5_chooseByRegret 77 = .ok (.getfield 44, 3) := by decide +kernel
theorem dX5_chooseByRegret_80 : decode cX5_chooseByRegret 80 = .ok (.aload_n 0, 1) := by decide +kernel
theorem dX5_chooseByRegret_81 : decode cX5_chooseByRegret 81 = .ok (.getfield 47, 3) := by decide +kernel
theorem dX5_chooseByRegret_84 : decode cX5_chooseByRegret 84 = .ok (.invokevirtual 399, 3) := by decide +kernel
theorem dX5_chooseByRegret_87 : decode cX5_chooseByRegret 87 = .ok (.ifCond .eq 16, 3) := by decide +kernel
theorem dX5_chooseByRegret_90 : decode cX5_chooseByRegret 90 = .ok (.aload_n 0, 1) := by decide +kernel
theorem dX5_chooseByRegret_91 : decode cX5_chooseByRegret 91 = .ok (.getfield 47, 3) := by decide +kernel
theorem dX5_chooseByRegret_94 : decode cX5_chooseByRegret 94 = .ok (.aload_n 0, 1) := by decide +kernel
theorem dX5_chooseByRegret_95 : decode cX5_chooseByRegret 95 = .ok (.getfield 44, 3) := by decide +kernel
theorem dX5_chooseByRegret_98 : decode cX5_chooseByRegret 98 = .ok (.invokevirtual 403, 3) := by decide +kernel
theorem dX5_chooseByRegret_101 : decode cX5_chooseByRegret 101 = .ok (.iconst 1, 1) := by decide +kernel
theorem dX5_chooseByRegret_102 : decode cX5_chooseByRegret 102 = .ok (.istore_n 1, 1) := by decide +kernel
theorem dX5_chooseByRegret_103 : decode cX5_chooseByRegret 103 = .ok (.iinc 2 1, 3) := by decide +kernel
theorem dX5_chooseByRegret_106 : decode cX5_chooseByRegret 106 = .ok (.goto (-102), 3) := by decide +kernel
theorem dX5_chooseByRegret_109 : decode cX5_chooseByRegret 109 = .ok (.iload_n 1, 1) := by decide +kernel
theorem dX5_chooseByRegret_110 : decode cX5_chooseByRegret 110 = .ok (.ireturn, 1) := by decide +kernel
theorem dX5_dearestJob_0 : decode cX5_dearestJob 0 = .ok (.iconst (-1), 1) := by decide +kernel
theorem dX5_dearestJob_1 : decode cX5_dearestJob 1 = .ok (.istore_n 1, 1) := by decide +kernel
theorem dX5_dearestJob_2 : decode cX5_dearestJob 2 = .ok (.iconst 0, 1) := by decide +kernel
theorem dX5_dearestJob_3 : decode cX5_dearestJob 3 = .ok (.istore_n 2, 1) := by decide +kernel
theorem dX5_dearestJob_4 : decode cX5_dearestJob 4 = .ok (.iconst 0, 1) := by decide +kernel
theorem dX5_dearestJob_5 : decode cX5_dearestJob 5 = .ok (.istore_n 3, 1) := by decide +kernel
theorem dX5_dearestJob_6 : decode cX5_dearestJob 6 = .ok (.iload_n 3, 1) := by decide +kernel
theorem dX5_dearestJob_7 : decode cX5_dearestJob 7 = .ok (.aload_n 0, 1) := by decide +kernel
theorem dX5_dearestJob_8 : decode cX5_dearestJob 8 = .ok (.getfield 12, 3) := by decide +kernel
theorem dX5_dearestJob_11 : decode cX5_dearestJob 11 = .ok (.getfield 111, 3) := by decide +kernel
theorem dX5_dearestJob_14 : decode cX5_dearestJob 14 = .ok (.if_icmp .ge 43, 3) := by decide +kernel
theorem dX5_dearestJob_17 : decode cX5_dearestJob 17 = .ok (.aload_n 0, 1) := by decide +kernel
theorem dX5_dearestJob_18 : decode cX5_dearestJob 18 = .ok (.iload_n 3, 1) := by decide +kernel
theorem dX5_dearestJob_19 : decode cX5_dearestJob 19 = .ok (.invokevirtual 405, 3) := by decide +kernel
theorem dX5_dearestJob_22 : decode cX5_dearestJob 22 = .ok (.ifCond .ne 6, 3) := by decide +kernel
theorem dX5_dearestJob_25 : decode cX5_dearestJob 25 = .ok (.goto 26, 3) := by decide +kernel
theorem dX5_dearestJob_28 : decode cX5_dearestJob 28 = .ok (.aload_n 0, 1) := by decide +kernel
theorem dX5_dearestJob_29 : decode cX5_dearestJob 29 = .ok (.iload_n 3, 1) := by decide +kernel
theorem dX5_dearestJob_30 : decode cX5_dearestJob 30 = .ok (.invokevirtual 199, 3) := by decide +kernel
theorem dX5_dearestJob_33 : decode cX5_dearestJob 33 = .ok (.istore 4, 2) := by decide +kernel
theorem dX5_dearestJob_35 : decode cX5_dearestJob 35 = .ok (.iload_n 1, 1) := by decide +kernel
theorem dX5_dearestJob_36 : decode cX5_dearestJob 36 = .ok (.iconst (-1), 1) := by decide +kernel
theorem dX5_dearestJob_37 : decode cX5_dearestJob 37 = .ok (.if_icmp .eq 9, 3) := by decide +kernel
theorem dX5_dearestJob_40 : decode cX5_dearestJob 40 = .ok (.iload 4, 2) := by decide +kernel
theorem dX5_dearestJob_42 : decode cX5_dearestJob 42 = .ok (.iload_n 2, 1) := by decide +kernel
theorem dX5_dearestJob_43 : decode cX5_dearestJob 43 = .ok (.if_icmp .le 8, 3) := by decide +kernel
theorem dX5_dearestJob_46 : decode cX5_dearestJob 46 = .ok (.iload_n 3, 1) := by decide +kernel
theorem dX5_dearestJob_47 : decode cX5_dearestJob 47 = .ok (.istore_n 1, 1) := by decide +kernel
theorem dX5_dearestJob_48 : decode cX5_dearestJob 48 = .ok (.iload 4, 2) := by decide +kernel
theorem dX5_dearestJob_50 : decode cX5_dearestJob 50 = .ok (.istore_n 2, 1) := by decide +kernel
theorem dX5_dearestJob_51 : decode cX5_dearestJob 51 = .ok (.iinc 3 1, 3) := by decide +kernel
theorem dX5_dearestJob_54 : decode cX5_dearestJob 54 = .ok (.goto (-48), 3) := by decide +kernel
theorem dX5_dearestJob_57 : decode cX5_dearestJob 57 = .ok (.iload_n 1, 1) := by decide +kernel
theorem dX5_dearestJob_58 : decode cX5_dearestJob 58 = .ok (.ireturn, 1) := by decide +kernel
theorem dX5_jobToRepair_0 : decode cX5_jobToRepair 0 = .ok (.iconst (-1), 1) := by decide +kernel
theorem dX5_jobToRepair_1 : decode cX5_jobToRepair 1 = .ok (.istore_n 2, 1) := by decide +kernel
theorem dX5_jobToRepair_2 : decode cX5_jobToRepair 2 = .ok (.iconst (-1), 1) := by decide +kernel
theorem dX5_jobToRepair_3 : decode cX5_jobToRepair 3 = .ok (.istore_n 3, 1) := by decide +kernel
theorem dX5_jobToRepair_4 : decode cX5_jobToRepair 4 = .ok (.iconst 0, 1) := by decide +kernel
theorem dX5_jobToRepair_5 : decode cX5_jobToRepair 5 = .ok (.istore 4, 2) := by decide +kernel
theorem dX5_jobToRepair_7 : decode cX5_jobToRepair 7 = .ok (.iconst 0, 1) := by decide +kernel
theorem dX5_jobToRepair_8 : decode cX5_jobToRepair 8 = .ok (.istore 5, 2) := by decide +kernel
theorem dX5_jobToRepair_10 : decode cX5_jobToRepair 10 = .ok (.iload 5, 2) := by decide +kernel
theorem dX5_jobToRepair_12 : decode cX5_jobToRepair 12 = .ok (.aload_n 0, 1) := by decide +kernel
theorem dX5_jobToRepair_13 : decode cX5_jobToRepair 13 = .ok (.getfield 12, 3) := by decide +kernel
theorem dX5_jobToRepair_16 : decode cX5_jobToRepair 16 = .ok (.getfield 111, 3) := by decide +kernel
theorem dX5_jobToRepair_19 : decode cX5_jobToRepair 19 = .ok (.if_icmp .ge 94, 3) := by decide +kernel
theorem dX5_jobToRepair_22 : decode cX5_jobToRepair 22 = .ok (.aload_n 1, 1) := by decide +kernel
theorem dX5_jobToRepair_23 : decode cX5_jobToRepair 23 = .ok (.getfield 160, 3) := by decide +kernel
theorem dX5_jobToRepair_26 : decode cX5_jobToRepair 26 = .ok (.iload 5, 2) := by decide +kernel
theorem dX5_jobToRepair_28 : decode cX5_jobToRepair 28 = .ok (.invokestatic 129, 3) := by decide +kernel
theorem dX5_jobToRepair_31 : decode cX5_jobToRepair 31 = .ok (.invokevirtual 349, 3) := by decide +kernel
theorem dX5_jobToRepair_34 : decode cX5_jobToRepair 34 = .ok (.aload_n 1, 1) := by decide +kernel
theorem dX5_jobToRepair_35 : decode cX5_jobToRepair 35 = .ok (.getfield 179, 3) := by decide +kernel
theorem dX5_jobToRepair_38 : decode cX5_jobToRepair 38 = .ok (.if_icmp .ge 6, 3) := by decide +kernel
theorem dX5_jobToRepair_41 : decode cX5_jobToRepair 41 = .ok (.goto 66, 3) := by decide +kernel
theorem dX5_jobToRepair_44 : decode cX5_jobToRepair 44 = .ok (.iload 5, 2) := by decide +kernel
theorem dX5_jobToRepair_46 : decode cX5_jobToRepair 46 = .ok (.istore_n 2, 1) := by decide +kernel
theorem dX5_jobToRepair_47 : decode cX5_jobToRepair 47 = .ok (.aload_n 0, 1) := by decide +kernel
theorem dX5_jobToRepair_48 : decode cX5_jobToRepair 48 = .ok (.getfield 33, 3) := by decide +kernel
theorem dX5_jobToRepair_51 : decode cX5_jobToRepair 51 = .ok (.aload_n 1, 1) := by decide +kernel
theorem dX5_jobToRepair_52 : decode cX5_jobToRepair 52 = .ok (.getfield 160, 3) := by decide +kernel
theorem dX5_jobToRepair_55 : decode cX5_jobToRepair 55 = .ok (.iload 5, 2) := by decide +kernel
theorem dX5_jobToRepair_57 : decode cX5_jobToRepair 57 = .ok (.invokevirtual 352, 3) := by decide +kernel
theorem dX5_jobToRepair_60 : decode cX5_jobToRepair 60 = .ok (.aload_n 0, 1) := by decide +kernel
theorem dX5_jobToRepair_61 : decode cX5_jobToRepair 61 = .ok (.getfield 26, 3) := by decide +kernel
theorem dX5_jobToRepair_64 : decode cX5_jobToRepair 64 = .ok (.aload_n 0, 1) := by decide +kernel
theorem dX5_jobToRepair_65 : decode cX5_jobToRepair 65 = .ok (.getfield 12, 3) := by decide +kernel
theorem dX5_jobToRepair_68 : decode cX5_jobToRepair 68 = .ok (.aload_n 1, 1) := by decide +kernel
theorem dX5_jobToRepair_69 : decode cX5_jobToRepair 69 = .ok (.aload_n 0, 1) := by decide +kernel
theorem dX5_jobToRepair_70 : decode cX5_jobToRepair 70 = .ok (.getfield 33, 3) := by decide +kernel
theorem dX5_jobToRepair_73 : decode cX5_jobToRepair 73 = .ok (.invokevirtual 175, 3) := by decide +kernel
theorem dX5_jobToRepair_76 : decode cX5_jobToRepair 76 = .ok (.istore 6, 2) := by decide +kernel
theorem dX5_jobToRepair_78 : decode cX5_jobToRepair 78 = .ok (.aload_n 0, 1) := by decide +kernel
theorem dX5_jobToRepair_79 : decode cX5_jobToRepair 79 = .ok (.getfield 26, 3) := by decide +kernel
theorem dX5_jobToRepair_82 : decode cX5_jobToRepair 82 = .ok (.getfield 286, 3) := by decide +kernel
theorem dX5_jobToRepair_85 : decode cX5_jobToRepair 85 = .ok (.ifCond .eq 22, 3) := by decide +kernel
theorem dX5_jobToRepair_88 : decode cX5_jobToRepair 88 = .ok (.iload_n 3, 1) := by decide +kernel
theorem dX5_jobToRepair_89 : decode cX5_jobToRepair 89 = .ok (.iconst (-1), 1) := by decide +kernel
theorem dX5_jobToRepair_90 : decode cX5_jobToRepair 90 = .ok (.if_icmp .eq 10, 3) := by decide +kernel
theorem dX5_jobToRepair_93 : decode cX5_jobToRepair 93 = .ok (.iload 6, 2) := by decide +kernel
theorem dX5_jobToRepair_95 : decode cX5_jobToRepair 95 = .ok (.iload 4, 2) := by decide +kernel
theorem dX5_jobToRepair_97 : decode cX5_jobToRepair 97 = .ok (.if_icmp .ge 10, 3) := by decide +kernel
theorem dX5_jobToRepair_100 : decode cX5_jobToRepair 100 = .ok (.iload 5, 2) := by decide +kernel
theorem dX5_jobToRepair_102 : decode cX5_jobToRepair 102 = .ok (.istore_n 3, 1) := by decide +kernel
theorem dX5_jobToRepair_103 : decode cX5_jobToRepair 103 = .ok (.iload 6, 2) := by decide +kernel
theorem dX5_jobToRepair_105 : decode cX5_jobToRepair 105 = .ok (.istore 4, 2) := by decide +kernel
theorem dX5_jobToRepair_107 : decode cX5_jobToRepair 107 = .ok (.iinc 5 1, 3) := by decide +kernel
theorem dX5_jobToRepair_110 : decode cX5_jobToRepair 110 = .ok (.goto (-100), 3) := by decide +kernel
theorem dX5_jobToRepair_113 : decode cX5_jobToRepair 113 = .ok (.iload_n 3, 1) := by decide +kernel
theorem dX5_jobToRepair_114 : decode cX5_jobToRepair 114 = .ok (.iconst (-1), 1) := by decide +kernel
theorem dX5_jobToRepair_115 : decode cX5_jobToRepair 115 = .ok (.if_icmp .ne 7, 3) := by decide +kernel
theorem dX5_jobToRepair_118 : decode cX5_jobToRepair 118 = .ok (.iload_n 2, 1) := by decide +kernel
theorem dX5_jobToRepair_119 : decode cX5_jobToRepair 119 = .ok (.goto 4, 3) := by decide +kernel
theorem dX5_jobToRepair_122 : decode cX5_jobToRepair 122 = .ok (.iload_n 3, 1) := by decide +kernel
theorem dX5_jobToRepair_123 : decode cX5_jobToRepair 123 = .ok (.ireturn, 1) := by decide +kernel
theorem dX5_startSearch_0 : decode cX5_startSearch 0 = .ok (.aload_n 0, 1) := by decide +kernel
theorem dX5_startSearch_1 : decode cX5_startSearch 1 = .ok (.iconst 0, 1) := by decide +kernel
theorem dX5_startSearch_2 : decode cX5_startSearch 2 = .ok (.putfield 226, 3) := by decide +kernel
theorem dX5_startSearch_5 : decode cX5_startSearch 5 = .ok (.iconst 0, 1) := by decide +kernel
theorem dX5_startSearch_6 : decode cX5_startSearch 6 = .ok (.istore_n 1, 1) := by decide +kernel
theorem dX5_startSearch_7 : decode cX5_startSearch 7 = .ok (.iload_n 1, 1) := by decide +kernel
theorem dX5_startSearch_8 : decode cX5_startSearch 8 = .ok (.aload_n 0, 1) := by decide +kernel
theorem dX5_startSearch_9 : decode cX5_startSearch 9 = .ok (.getfield 86, 3) := by decide +kernel
theorem dX5_startSearch_12 : decode cX5_startSearch 12 = .ok (.if_icmp .ge 47, 3) := by decide +kernel
theorem dX5_startSearch_15 : decode cX5_startSearch 15 = .ok (.aload_n 0, 1) := by decide +kernel
theorem dX5_startSearch_16 : decode cX5_startSearch 16 = .ok (.getfield 18, 3) := by decide +kernel
theorem dX5_startSearch_19 : decode cX5_startSearch 19 = .ok (.iload_n 1, 1) := by decide +kernel
theorem dX5_startSearch_20 : decode cX5_startSearch 20 = .ok (.aaload, 1) := by decide +kernel
theorem dX5_startSearch_21 : decode cX5_startSearch 21 = .ok (.astore_n 2, 1) := by decide +kernel
theorem dX5_startSearch_22 : decode cX5_startSearch 22 = .ok (.aload_n 2, 1) := by decide +kernel
theorem dX5_startSearch_23 : decode cX5_startSearch 23 = .ok (.getfield 408, 3) := by decide +kernel
theorem dX5_startSearch_26 : decode cX5_startSearch 26 = .ok (.aload_n 2, 1) := by decide +kernel
theorem dX5_startSearch_27 : decode cX5_startSearch 27 = .ok (.getfield 160, 3) := by decide +kernel
theorem dX5_startSearch_30 : decode cX5_startSearch 30 = .ok (.invokevirtual 190, 3) := by decide +kernel
theorem dX5_startSearch_33 : decode cX5_startSearch 33 = .ok (.aload_n 2, 1) := by decide +kernel
theorem dX5_startSearch_34 : decode cX5_startSearch 34 = .ok (.aload_n 0, 1) := by decide +kernel
theorem dX5_startSearch_35 : decode cX5_startSearch 35 = .ok (.getfield 26, 3) := by decide +kernel
theorem dX5_startSearch_38 : decode cX5_startSearch 38 = .ok (.aload_n 0, 1) := by decide +kernel
theorem dX5_startSearch_39 : decode cX5_startSearch 39 = .ok (.getfield 12, 3) := by decide +kernel
theorem dX5_startSearch_42 : decode cX5_startSearch 42 = .ok (.aload_n 2, 1) := by decide +kernel
theorem dX5_startSearch_43 : decode cX5_startSearch 43 = .ok (.aload_n 2, 1) := by decide +kernel
theorem dX5_startSearch_44 : decode cX5_startSearch 44 = .ok (.getfield 160, 3) := by decide +kernel
theorem dX5_startSearch_47 : decode cX5_startSearch 47 = .ok (.invokevirtual 175, 3) := by decide +kernel
theorem dX5_startSearch_50 : decode cX5_startSearch 50 = .ok (.putfield 411, 3) := by decide +kernel
theorem dX5_startSearch_53 : decode cX5_startSearch 53 = .ok (.iinc 1 1, 3) := by decide +kernel
theorem dX5_startSearch_56 : decode cX5_startSearch 56 = .ok (.goto (-49), 3) := by decide +kernel
theorem dX5_startSearch_59 : decode cX5_startSearch 59 = .ok (.return_, 1) := by decide +kernel
theorem dX5_searchKind_0 : decode cX5_searchKind 0 = .ok (.iload_n 1, 1) := by decide +kernel
theorem dX5_searchKind_1 : decode cX5_searchKind 1 = .ok (.tableswitch 48 0 2 #[27, 34, 41], 27) := by decide +kernel
theorem dX5_searchKind_28 : decode cX5_searchKind 28 = .ok (.aload_n 0, 1) := by decide +kernel
theorem dX5_searchKind_29 : decode cX5_searchKind 29 = .ok (.invokevirtual 414, 3) := by decide +kernel
theorem dX5_searchKind_32 : decode cX5_searchKind 32 = .ok (.goto 21, 3) := by decide +kernel
theorem dX5_searchKind_35 : decode cX5_searchKind 35 = .ok (.aload_n 0, 1) := by decide +kernel
theorem dX5_searchKind_36 : decode cX5_searchKind 36 = .ok (.invokevirtual 417, 3) := by decide +kernel
theorem dX5_searchKind_39 : decode cX5_searchKind 39 = .ok (.goto 14, 3) := by decide +kernel
theorem dX5_searchKind_42 : decode cX5_searchKind 42 = .ok (.aload_n 0, 1) := by decide +kernel
theorem dX5_searchKind_43 : decode cX5_searchKind 43 = .ok (.invokevirtual 420, 3) := by decide +kernel
theorem dX5_searchKind_46 : decode cX5_searchKind 46 = .ok (.goto 7, 3) := by decide +kernel
theorem dX5_searchKind_49 : decode cX5_searchKind 49 = .ok (.aload_n 0, 1) := by decide +kernel
theorem dX5_searchKind_50 : decode cX5_searchKind 50 = .ok (.invokevirtual 423, 3) := by decide +kernel
theorem dX5_searchKind_53 : decode cX5_searchKind 53 = .ok (.return_, 1) := by decide +kernel
theorem dX5_makeBestChange_0 : decode cX5_makeBestChange 0 = .ok (.iconst 0, 1) := by decide +kernel
theorem dX5_makeBestChange_1 : decode cX5_makeBestChange 1 = .ok (.istore_n 1, 1) := by decide +kernel
theorem dX5_makeBestChange_2 : decode cX5_makeBestChange 2 = .ok (.iload_n 1, 1) := by decide +kernel
theorem dX5_makeBestChange_3 : decode cX5_makeBestChange 3 = .ok (.aload_n 0, 1) := by decide +kernel
theorem dX5_makeBestChange_4 : decode cX5_makeBestChange 4 = .ok (.getfield 86, 3) := by decide +kernel
theorem dX5_makeBestChange_7 : decode cX5_makeBestChange 7 = .ok (.if_icmp .ge 30, 3) := by decide +kernel
theorem dX5_makeBestChange_10 : decode cX5_makeBestChange 10 = .ok (.aload_n 0, 1) := by decide +kernel
theorem dX5_makeBestChange_11 : decode cX5_makeBestChange 11 = .ok (.getfield 18, 3) := by decide +kernel
theorem dX5_makeBestChange_14 : decode cX5_makeBestChange 14 = .ok (.iload_n 1, 1) := by decide +kernel
theorem dX5_makeBestChange_15 : decode cX5_makeBestChange 15 = .ok (.aaload, 1) := by decide +kernel
theorem dX5_makeBestChange_16 : decode cX5_makeBestChange 16 = .ok (.getfield 160, 3) := by decide +kernel
theorem dX5_makeBestChange_19 : decode cX5_makeBestChange 19 = .ok (.aload_n 0, 1) := by decide +kernel
theorem dX5_makeBestChange_20 : decode cX5_makeBestChange 20 = .ok (.getfield 18, 3) := by decide +kernel
theorem dX5_makeBestChange_23 : decode cX5_makeBestChange 23 = .ok (.iload_n 1, 1) := by decide +kernel
theorem dX5_makeBestChange_24 : decode cX5_makeBestChange 24 = .ok (.aaload, 1) := by decide +kernel
theorem dX5_makeBestChange_25 : decode cX5_makeBestChange 25 = .ok (.getfield 408, 3) := by decide +kernel
theorem dX5_makeBestChange_28 : decode cX5_makeBestChange 28 = .ok (.invokevirtual 190, 3) := by decide +kernel
theorem dX5_makeBestChange_31 : decode cX5_makeBestChange 31 = .ok (.iinc 1 1, 3) := by decide +kernel
theorem dX5_makeBestChange_34 : decode cX5_makeBestChange 34 = .ok (.goto (-32), 3) := by decide +kernel
theorem dX5_makeBestChange_37 : decode cX5_makeBestChange 37 = .ok (.return_, 1) := by decide +kernel
theorem dX5_keep_0 : decode cX5_keep 0 = .ok (.aload_n 0, 1) := by decide +kernel
theorem dX5_keep_1 : decode cX5_keep 1 = .ok (.iload_n 1, 1) := by decide +kernel
theorem dX5_keep_2 : decode cX5_keep 2 = .ok (.putfield 226, 3) := by decide +kernel
theorem dX5_keep_5 : decode cX5_keep 5 = .ok (.iconst 0, 1) := by decide +kernel
theorem dX5_keep_6 : decode cX5_keep 6 = .ok (.istore 4, 2) := by decide +kernel
theorem dX5_keep_8 : decode cX5_keep 8 = .ok (.iload 4, 2) := by decide +kernel
theorem dX5_keep_10 : decode cX5_keep 10 = .ok (.aload_n 0, 1) := by decide +kernel
theorem dX5_keep_11 : decode cX5_keep 11 = .ok (.getfield 86, 3) := by decide +kernel
theorem dX5_keep_14 : decode cX5_keep 14 = .ok (.if_icmp .ge 51, 3) := by decide +kernel
theorem dX5_keep_17 : decode cX5_keep 17 = .ok (.aload_n 0, 1) := by decide +kernel
theorem dX5_keep_18 : decode cX5_keep 18 = .ok (.getfield 18, 3) := by decide +kernel
theorem dX5_keep_21 : decode cX5_keep 21 = .ok (.iload 4, 2) := by decide +kernel
theorem dX5_keep_23 : decode cX5_keep 23 = .ok (.aaload, 1) := by decide +kernel
theorem dX5_keep_24 : decode cX5_keep 24 = .ok (.astore 5, 2) := by decide +kernel
theorem dX5_keep_26 : decode cX5_keep 26 = .ok (.aload 5, 2) := by decide +kernel
theorem dX5_keep_28 : decode cX5_keep 28 = .ok (.getfield 408, 3) := by decide +kernel
theorem dX5_keep_31 : decode cX5_keep 31 = .ok (.aload 5, 2) := by decide +kernel
theorem dX5_keep_33 : decode cX5_keep 33 = .ok (.aload_n 2, 1) := by decide +kernel
theorem dX5_keep_34 : decode cX5_keep 34 = .ok (.if_acmp .eq 9, 3) := by decide +kernel
theorem dX5_keep_37 : decode cX5_keep 37 = .ok (.aload 5, 2) := by decide +kernel
theorem dX5_keep_39 : decode cX5_keep 39 = .ok (.aload_n 3, 1) := by decide +kernel
theorem dX5_keep_40 : decode cX5_keep 40 = .ok (.if_acmp .ne 11, 3) := by decide +kernel
theorem dX5_keep_43 : decode cX5_keep 43 = .ok (.aload 5, 2) := by decide +kernel
theorem dX5_keep_45 : decode cX5_keep 45 = .ok (.getfield 168, 3) := by decide +kernel
theorem dX5_keep_48 : decode cX5_keep 48 = .ok (.goto 8, 3) := by decide +kernel
theorem dX5_keep_51 : decode cX5_keep 51 = .ok (.aload 5, 2) := by decide +kernel
theorem dX5_keep_53 : decode cX5_keep 53 = .ok (.getfield 160, 3) := by decide +kernel
theorem dX5_keep_56 : decode cX5_keep 56 = .ok (.invokevirtual 190, 3) := by decide +kernel
theorem dX5_keep_59 : decode cX5_keep 59 = .ok (.iinc 4 1, 3) := by decide +kernel
theorem dX5_keep_62 : decode cX5_keep 62 = .ok (.goto (-54), 3) := by decide +kernel
theorem dX5_keep_65 : decode cX5_keep 65 = .ok (.return_, 1) := by decide +kernel
theorem dX5_offer_0 : decode cX5_offer 0 = .ok (.aload_n 1, 1) := by decide +kernel
theorem dX5_offer_1 : decode cX5_offer 1 = .ok (.getfield 411, 3) := by decide +kernel
theorem dX5_offer_4 : decode cX5_offer 4 = .ok (.aload_n 0, 1) := by decide +kernel
theorem dX5_offer_5 : decode cX5_offer 5 = .ok (.getfield 26, 3) := by decide +kernel
theorem dX5_offer_8 : decode cX5_offer 8 = .ok (.aload_n 0, 1) := by decide +kernel
theorem dX5_offer_9 : decode cX5_offer 9 = .ok (.getfield 12, 3) := by decide +kernel
theorem dX5_offer_12 : decode cX5_offer 12 = .ok (.aload_n 1, 1) := by decide +kernel
theorem dX5_offer_13 : decode cX5_offer 13 = .ok (.aload_n 1, 1) := by decide +kernel
theorem dX5_offer_14 : decode cX5_offer 14 = .ok (.getfield 168, 3) := by decide +kernel
theorem dX5_offer_17 : decode cX5_offer 17 = .ok (.invokevirtual 175, 3) := by decide +kernel
theorem dX5_offer_20 : decode cX5_offer 20 = .ok (.isub, 1) := by decide +kernel
theorem dX5_offer_21 : decode cX5_offer 21 = .ok (.istore_n 3, 1) := by decide +kernel
theorem dX5_offer_22 : decode cX5_offer 22 = .ok (.aload_n 0, 1) := by decide +kernel
theorem dX5_offer_23 : decode cX5_offer 23 = .ok (.getfield 26, 3) := by decide +kernel
theorem dX5_offer_26 : decode cX5_offer 26 = .ok (.aload_n 1, 1) := by decide +kernel
theorem dX5_offer_27 : decode cX5_offer 27 = .ok (.invokevirtual 182, 3) := by decide +kernel
theorem dX5_offer_30 : decode cX5_offer 30 = .ok (.ifCond .ne 4, 3) := by decide +kernel
theorem dX5_offer_33 : decode cX5_offer 33 = .ok (.return_, 1) := by decide +kernel
theorem dX5_offer_34 : decode cX5_offer 34 = .ok (.aload_n 2, 1) := by decide +kernel
theorem dX5_offer_35 : decode cX5_offer 35 = .ok (.aload_n 1, 1) := by decide +kernel
theorem dX5_offer_36 : decode cX5_offer 36 = .ok (.if_acmp .eq 39, 3) := by decide +kernel
theorem dX5_offer_39 : decode cX5_offer 39 = .ok (.iload_n 3, 1) := by decide +kernel
theorem dX5_offer_40 : decode cX5_offer 40 = .ok (.aload_n 2, 1) := by decide +kernel
theorem dX5_offer_41 : decode cX5_offer 41 = .ok (.getfield 411, 3) := by decide +kernel
theorem dX5_offer_44 : decode cX5_offer 44 = .ok (.aload_n 0, 1) := by decide +kernel
theorem dX5_offer_45 : decode cX5_offer 45 = .ok (.getfield 26, 3) := by decide +kernel
theorem dX5_offer_48 : decode cX5_offer 48 = .ok (.aload_n 0, 1) := by decide +kernel
theorem dX5_offer_49 : decode cX5_offer 49 = .ok (.getfield 12, 3) := by decide +kernel
theorem dX5_offer_52 : decode cX5_offer 52 = .ok (.aload_n 2, 1) := by decide +kernel
theorem dX5_offer_53 : decode cX5_offer 53 = .ok (.aload_n 2, 1) := by decide +kernel
theorem dX5_offer_54 : decode cX5_offer 54 = .ok (.getfield 168, 3) := by decide +kernel
theorem dX5_offer_57 : decode cX5_offer 57 = .ok (.invokevirtual 175, 3) := by decide +kernel
theorem dX5_offer_60 : decode cX5_offer 60 = .ok (.isub, 1) := by decide +kernel
theorem dX5_offer_61 : decode cX5_offer 61 = .ok (.iadd, 1) := by decide +kernel
theorem dX5_offer_62 : decode cX5_offer 62 = .ok (.istore_n 3, 1) := by decide +kernel
theorem dX5_offer_63 : decode cX5_offer 63 = .ok (.aload_n 0, 1) := by decide +kernel
theorem dX5_offer_64 : decode cX5_offer 64 = .ok (.getfield 26, 3) := by decide +kernel
theorem dX5_offer_67 : decode cX5_offer 67 = .ok (.aload_n 2, 1) := by decide +kernel
theorem dX5_offer_68 : decode cX5_offer 68 = .ok (.invokevirtual 182, 3) := by decide +kernel
theorem dX5_offer_71 : decode cX5_offer 71 = .ok (.ifCond .ne 4, 3) := by decide +kernel
theorem dX5_offer_74 : decode cX5_offer 74 = .ok (.return_, 1) := by decide +kernel
theorem dX5_offer_75 : decode cX5_offer 75 = .ok (.iload_n 3, 1) := by decide +kernel
theorem dX5_offer_76 : decode cX5_offer 76 = .ok (.aload_n 0, 1) := by decide +kernel
theorem dX5_offer_77 : decode cX5_offer 77 = .ok (.getfield 226, 3) := by decide +kernel
theorem dX5_offer_80 : decode cX5_offer 80 = .ok (.if_icmp .le 10, 3) := by decide +kernel
theorem dX5_offer_83 : decode cX5_offer 83 = .ok (.aload_n 0, 1) := by decide +kernel
theorem dX5_offer_84 : decode cX5_offer 84 = .ok (.iload_n 3, 1) := by decide +kernel
theorem dX5_offer_85 : decode cX5_offer 85 = .ok (.aload_n 1, 1) := by decide +kernel
theorem dX5_offer_86 : decode cX5_offer 86 = .ok (.aload_n 2, 1) := by decide +kernel
theorem dX5_offer_87 : decode cX5_offer 87 = .ok (.invokevirtual 426, 3) := by decide +kernel
theorem dX5_offer_90 : decode cX5_offer 90 = .ok (.return_, 1) := by decide +kernel
theorem dX5_searchMoves_0 : decode cX5_searchMoves 0 = .ok (.iconst 0, 1) := by decide +kernel
theorem dX5_searchMoves_1 : decode cX5_searchMoves 1 = .ok (.istore_n 1, 1) := by decide +kernel
theorem dX5_searchMoves_2 : decode cX5_searchMoves 2 = .ok (.iload_n 1, 1) := by decide +kernel
theorem dX5_searchMoves_3 : decode cX5_searchMoves 3 = .ok (.aload_n 0, 1) := by decide +kernel
theorem dX5_searchMoves_4 : decode cX5_searchMoves 4 = .ok (.getfield 12, 3) := by decide +kernel
theorem dX5_searchMoves_7 : decode cX5_searchMoves 7 = .ok (.getfield 111, 3) := by decide +kernel
theorem dX5_searchMoves_10 : decode cX5_searchMoves 10 = .ok (.if_icmp .ge 231, 3) := by decide +kernel
theorem dX5_searchMoves_13 : decode cX5_searchMoves 13 = .ok (.aload_n 0, 1) := by decide +kernel
theorem dX5_searchMoves_14 : decode cX5_searchMoves 14 = .ok (.iload_n 1, 1) := by decide +kernel
theorem dX5_searchMoves_15 : decode cX5_searchMoves 15 = .ok (.invokevirtual 194, 3) := by decide +kernel
theorem dX5_searchMoves_18 : decode cX5_searchMoves 18 = .ok (.istore_n 2, 1) := by decide +kernel
theorem dX5_searchMoves_19 : decode cX5_searchMoves 19 = .ok (.iload_n 2, 1) := by decide +kernel
theorem dX5_searchMoves_20 : decode cX5_searchMoves 20 = .ok (.ifCond .lt 215, 3) := by decide +kernel
theorem dX5_searchMoves_23 : decode cX5_searchMoves 23 = .ok (.iload_n 2, 1) := by decide +kernel
theorem dX5_searchMoves_24 : decode cX5_searchMoves 24 = .ok (.aload_n 0, 1) := by decide +kernel
theorem dX5_searchMoves_25 : decode cX5_searchMoves 25 = .ok (.getfield 86, 3) := by decide +kernel
theorem dX5_searchMoves_28 : decode cX5_searchMoves 28 = .ok (.if_icmp .ge 207, 3) := by decide +kernel
theorem dX5_searchMoves_31 : decode cX5_searchMoves 31 = .ok (.aload_n 0, 1) := by decide +kernel
theorem dX5_searchMoves_32 : decode cX5_searchMoves 32 = .ok (.iload_n 1, 1) := by decide +kernel
theorem dX5_searchMoves_33 : decode cX5_searchMoves 33 = .ok (.invokevirtual 123, 3) := by decide +kernel
theorem dX5_searchMoves_36 : decode cX5_searchMoves 36 = .ok (.ifCond .eq 6, 3) := by decide +kernel
theorem dX5_searchMoves_39 : decode cX5_searchMoves 39 = .ok (.goto 196, 3) := by decide +kernel
theorem dX5_searchMoves_42 : decode cX5_searchMoves 42 = .ok (.aload_n 0, 1) := by decide +kernel
theorem dX5_searchMoves_43 : decode cX5_searchMoves 43 = .ok (.getfield 18, 3) := by decide +kernel
theorem dX5_searchMoves_46 : decode cX5_searchMoves 46 = .ok (.iload_n 2, 1) := by decide +kernel
theorem dX5_searchMoves_47 : decode cX5_searchMoves 47 = .ok (.aaload, 1) := by decide +kernel
theorem dX5_searchMoves_48 : decode cX5_searchMoves 48 = .ok (.astore_n 3, 1) := by decide +kernel
theorem dX5_searchMoves_49 : decode cX5_searchMoves 49 = .ok (.aload_n 0, 1) := by decide +kernel
theorem dX5_searchMoves_50 : decode cX5_searchMoves 50 = .ok (.getfield 33, 3) := by decide +kernel
theorem dX5_searchMoves_53 : decode cX5_searchMoves 53 = .ok (.aload_n 3, 1) := by decide +kernel
theorem dX5_searchMoves_54 : decode cX5_searchMoves 54 = .ok (.getfield 160, 3) := by decide +kernel
theorem dX5_searchMoves_57 : decode cX5_searchMoves 57 = .ok (.iload_n 1, 1) := by decide +kernel
theorem dX5_searchMoves_58 : decode cX5_searchMoves 58 = .ok (.invokevirtual 352, 3) := by decide +kernel
theorem dX5_searchMoves_61 : decode cX5_searchMoves 61 = .ok (.aload_n 3, 1) := by decide +kernel
theorem dX5_searchMoves_62 : decode cX5_searchMoves 62 = .ok (.getfield 411, 3) := by decide +kernel
theorem dX5_searchMoves_65 : decode cX5_searchMoves 65 = .ok (.aload_n 0, 1) := by decide +kernel
theorem dX5_searchMoves_66 : decode cX5_searchMoves 66 = .ok (.getfield 26, 3) := by decide +kernel
theorem dX5_searchMoves_69 : decode cX5_searchMoves 69 = .ok (.aload_n 0, 1) := by decide +kernel
theorem dX5_searchMoves_70 : decode cX5_searchMoves 70 = .ok (.getfield 12, 3) := by decide +kernel
theorem dX5_searchMoves_73 : decode cX5_searchMoves 73 = .ok (.aload_n 3, 1) := by decide +kernel
theorem dX5_searchMoves_74 : decode cX5_searchMoves 74 = .ok (.aload_n 0, 1) := by decide +kernel
theorem dX5_searchMoves_75 : decode cX5_searchMoves 75 = .ok (.getfield 33, 3) := by decide +kernel
theorem dX5_searchMoves_78 : decode cX5_searchMoves 78 = .ok (.invokevirtual 175, 3) := by decide +kernel
theorem dX5_searchMoves_81 : decode cX5_searchMoves 81 = .ok (.isub, 1) := by decide +kernel
theorem dX5_searchMoves_82 : decode cX5_searchMoves 82 = .ok (.istore 4, 2) := by decide +kernel
theorem dX5_searchMoves_84 : decode cX5_searchMoves 84 = .ok (.aload_n 0, 1) := by decide +kernel
theorem dX5_searchMoves_85 : decode cX5_searchMoves 85 = .ok (.getfield 26, 3) := by decide +kernel
theorem dX5_searchMoves_88 : decode cX5_searchMoves 88 = .ok (.aload_n 3, 1) := by decide +kernel
theorem dX5_searchMoves_89 : decode cX5_searchMoves 89 = .ok (.invokevirtual 182, 3) := by decide +kernel
theorem dX5_searchMoves_92 : decode cX5_searchMoves 92 = .ok (.istore 5, 2) := by decide +kernel
theorem dX5_searchMoves_94 : decode cX5_searchMoves 94 = .ok (.iconst 0, 1) := by decide +kernel
theorem dX5_searchMoves_95 : decode cX5_searchMoves 95 = .ok (.istore 6, 2) := by decide +kernel
theorem dX5_searchMoves_97 : decode cX5_searchMoves 97 = .ok (.iload 6, 2) := by decide +kernel
theorem dX5_searchMoves_99 : decode cX5_searchMoves 99 = .ok (.aload_n 0, 1) := by decide +kernel
theorem dX5_searchMoves_100 : decode cX5_searchMoves 100 = .ok (.getfield 86, 3) := by decide +kernel
theorem dX5_searchMoves_103 : decode cX5_searchMoves 103 = .ok (.if_icmp .ge 132, 3) := by decide +kernel
theorem dX5_searchMoves_106 : decode cX5_searchMoves 106 = .ok (.aload_n 0, 1) := by decide +kernel
theorem dX5_searchMoves_107 : decode cX5_searchMoves 107 = .ok (.getfield 18, 3) := by decide +kernel
theorem dX5_searchMoves_110 : decode cX5_searchMoves 110 = .ok (.iload 6, 2) := by decide +kernel
theorem dX5_searchMoves_112 : decode cX5_searchMoves 112 = .ok (.aaload, 1) := by decide +kernel
theorem dX5_searchMoves_113 : decode cX5_searchMoves 113 = .ok (.astore 7, 2) := by decide +kernel
theorem dX5_searchMoves_115 : decode cX5_searchMoves 115 = .ok (.aload 7, 2) := by decide +kernel
theorem dX5_searchMoves_117 : decode cX5_searchMoves 117 = .ok (.aload_n 3, 1) := by decide +kernel
theorem dX5_searchMoves_118 : decode cX5_searchMoves 118 = .ok (.if_acmp .eq 11, 3) := by decide +kernel
theorem dX5_searchMoves_121 : decode cX5_searchMoves 121 = .ok (.iload 5, 2) := by decide +kernel
theorem dX5_searchMoves_123 : decode cX5_searchMoves 123 = .ok (.ifCond .ne 6, 3) := by decide +kernel
theorem dX5_searchMoves_126 : decode cX5_searchMoves 126 = .ok (.goto 103, 3) := by decide +kernel
theorem dX5_searchMoves_129 : decode cX5_searchMoves 129 = .ok (.aload 7, 2) := by decide +kernel
theorem dX5_searchMoves_131 : decode cX5_searchMoves 131 = .ok (.aload_n 3, 1) := by decide +kernel
theorem dX5_searchMoves_132 : decode cX5_searchMoves 132 = .ok (.if_acmp .ne 10, 3) := by decide +kernel
theorem dX5_searchMoves_135 : decode cX5_searchMoves 135 = .ok (.aload_n 0, 1) := by decide +kernel
theorem dX5_searchMoves_136 : decode cX5_searchMoves 136 = .ok (.getfield 33, 3) := by decide +kernel
theorem dX5_searchMoves_139 : decode cX5_searchMoves 139 = .ok (.goto 8, 3) := by decide +kernel
theorem dX5_searchMoves_142 : decode cX5_searchMoves 142 = .ok (.aload 7, 2) := by decide +kernel
theorem dX5_searchMoves_144 : decode cX5_searchMoves 144 = .ok (.getfield 160, 3) := by decide +kernel
theorem dX5_searchMoves_147 : decode cX5_searchMoves 147 = .ok (.astore 8, 2) := by decide +kernel
theorem dX5_searchMoves_149 : decode cX5_searchMoves 149 = .ok (.aload_n 0, 1) := by decide +kernel
theorem dX5_searchMoves_150 : decode cX5_searchMoves 150 = .ok (.iload_n 1, 1) := by decide +kernel
theorem dX5_searchMoves_151 : decode cX5_searchMoves 151 = .ok (.aload 7, 2) := by decide +kernel
theorem dX5_searchMoves_153 : decode cX5_searchMoves 153 = .ok (.aload 8, 2) := by decide +kernel
theorem dX5_searchMoves_155 : decode cX5_searchMoves 155 = .ok (.iload 4, 2) := by decide +kernel
theorem dX5_searchMoves_157 : decode cX5_searchMoves 157 = .ok (.aload_n 0, 1) := by decide +kernel
theorem dX5_searchMoves_158 : decode cX5_searchMoves 158 = .ok (.getfield 226, 3) := by decide +kernel
theorem dX5_searchMoves_161 : decode cX5_searchMoves 161 = .ok (.isub, 1) := by decide +kernel
theorem dX5_searchMoves_162 : decode cX5_searchMoves 162 = .ok (.invokevirtual 300, 3) := by decide +kernel
theorem dX5_searchMoves_165 : decode cX5_searchMoves 165 = .ok (.aload_n 0, 1) := by decide +kernel
theorem dX5_searchMoves_166 : decode cX5_searchMoves 166 = .ok (.getfield 40, 3) := by decide +kernel
theorem dX5_searchMoves_169 : decode cX5_searchMoves 169 = .ok (.getfield 154, 3) := by decide +kernel
theorem dX5_searchMoves_172 : decode cX5_searchMoves 172 = .ok (.iconst (-1), 1) := by decide +kernel
theorem dX5_searchMoves_173 : decode cX5_searchMoves 173 = .ok (.if_icmp .eq 56, 3) := by decide +kernel
theorem dX5_searchMoves_176 : decode cX5_searchMoves 176 = .ok (.aload_n 3, 1) := by decide +kernel
theorem dX5_searchMoves_177 : decode cX5_searchMoves 177 = .ok (.getfield 168, 3) := by decide +kernel
theorem dX5_searchMoves_180 : decode cX5_searchMoves 180 = .ok (.aload_n 0, 1) := by decide +kernel
theorem dX5_searchMoves_181 : decode cX5_searchMoves 181 = .ok (.getfield 33, 3) := by decide +kernel
theorem dX5_searchMoves_184 : decode cX5_searchMoves 184 = .ok (.invokevirtual 190, 3) := by decide +kernel
theorem dX5_searchMoves_187 : decode cX5_searchMoves 187 = .ok (.aload 7, 2) := by decide +kernel
theorem dX5_searchMoves_189 : decode cX5_searchMoves 189 = .ok (.getfield 168, 3) := by decide +kernel
theorem dX5_searchMoves_192 : decode cX5_searchMoves 192 = .ok (.aload 8, 2) := by decide +kernel
theorem dX5_searchMoves_194 : decode cX5_searchMoves 194 = .ok (.iload_n 1, 1) := by decide +kernel
theorem dX5_searchMoves_195 : decode cX5_searchMoves 195 = .ok (.aload_n 0, 1) := by decide +kernel
theorem dX5_searchMoves_196 : decode cX5_searchMoves 196 = .ok (.getfield 40, 3) := by decide +kernel
theorem dX5_searchMoves_199 : decode cX5_searchMoves 199 = .ok (.getfield 384, 3) := by decide +kernel
theorem dX5_searchMoves_202 : decode cX5_searchMoves 202 = .ok (.aload_n 0, 1) := by decide +kernel
theorem dX5_searchMoves_203 : decode cX5_searchMoves 203 = .ok (.getfield 40, 3) := by decide +kernel
theorem dX5_searchMoves_206 : decode cX5_searchMoves 206 = .ok (.getfield 387, 3) := by decide +kernel
theorem dX5_searchMoves_209 : decode cX5_searchMoves 209 = .ok (.invokevirtual 171, 3) := by decide +kernel
theorem dX5_searchMoves_212 : decode cX5_searchMoves 212 = .ok (.aload_n 0, 1) := by decide +kernel
theorem dX5_searchMoves_213 : decode cX5_searchMoves 213 = .ok (.iload 4, 2) := by decide +kernel
theorem dX5_searchMoves_215 : decode cX5_searchMoves 215 = .ok (.aload_n 0, 1) := by decide +kernel
theorem dX5_searchMoves_216 : decode cX5_searchMoves 216 = .ok (.getfield 40, 3) := by decide +kernel
theorem dX5_searchMoves_219 : decode cX5_searchMoves 219 = .ok (.getfield 154, 3) := by decide +kernel
theorem dX5_searchMoves_222 : decode cX5_searchMoves 222 = .ok (.isub, 1) := by decide +kernel
theorem dX5_searchMoves_223 : decode cX5_searchMoves 223 = .ok (.aload_n 3, 1) := by decide +kernel
theorem dX5_searchMoves_224 : decode cX5_searchMoves 224 = .ok (.aload 7, 2) := by decide +kernel
theorem dX5_searchMoves_226 : decode cX5_searchMoves 226 = .ok (.invokevirtual 426, 3) := by decide +kernel
theorem dX5_searchMoves_229 : decode cX5_searchMoves 229 = .ok (.iinc 6 1, 3) := by decide +kernel
theorem dX5_searchMoves_232 : decode cX5_searchMoves 232 = .ok (.goto (-135), 3) := by decide +kernel
theorem dX5_searchMoves_235 : decode cX5_searchMoves 235 = .ok (.iinc 1 1, 3) := by decide +kernel
theorem dX5_searchMoves_238 : decode cX5_searchMoves 238 = .ok (.goto (-236), 3) := by decide +kernel
theorem dX5_searchMoves_241 : decode cX5_searchMoves 241 = .ok (.return_, 1) := by decide +kernel
theorem dX5_searchSwaps_0 : decode cX5_searchSwaps 0 = .ok (.iconst 0, 1) := by decide +kernel
theorem dX5_searchSwaps_1 : decode cX5_searchSwaps 1 = .ok (.istore_n 1, 1) := by decide +kernel
theorem dX5_searchSwaps_2 : decode cX5_searchSwaps 2 = .ok (.iload_n 1, 1) := by decide +kernel
theorem dX5_searchSwaps_3 : decode cX5_searchSwaps 3 = .ok (.aload_n 0, 1) := by decide +kernel
theorem dX5_searchSwaps_4 : decode cX5_searchSwaps 4 = .ok (.getfield 12, 3) := by decide +kernel
theorem dX5_searchSwaps_7 : decode cX5_searchSwaps 7 = .ok (.getfield 111, 3) := by decide +kernel
theorem dX5_searchSwaps_10 : decode cX5_searchSwaps 10 = .ok (.if_icmp .ge 156, 3) := by decide +kernel
theorem dX5_searchSwaps_13 : decode cX5_searchSwaps 13 = .ok (.iload_n 1, 1) := by decide +kernel
theorem dX5_searchSwaps_14 : decode cX5_searchSwaps 14 = .ok (.iconst 1, 1) := by decide +kernel
theorem dX5_searchSwaps_15 : decode cX5_searchSwaps 15 = .ok (.iadd, 1) := by decide +kernel
theorem dX5_searchSwaps_16 : decode cX5_searchSwaps 16 = .ok (.istore_n 2, 1) := by decide +kernel
theorem dX5_searchSwaps_17 : decode cX5_searchSwaps 17 = .ok (.iload_n 2, 1) := by decide +kernel
theorem dX5_searchSwaps_18 : decode cX5_searchSwaps 18 = .ok (.aload_n 0, 1) := by decide +kernel
theorem dX5_searchSwaps_19 : decode cX5_searchSwaps 19 = .ok (.getfield 12, 3) := by decide +kernel
theorem dX5_searchSwaps_22 : decode cX5_searchSwaps 22 = .ok (.getfield 111, 3) := by decide +kernel
theorem dX5_searchSwaps_25 : decode cX5_searchSwaps 25 = .ok (.if_icmp .ge 135, 3) := by decide +kernel
theorem dX5_searchSwaps_28 : decode cX5_searchSwaps 28 = .ok (.aload_n 0, 1) := by decide +kernel
theorem dX5_searchSwaps_29 : decode cX5_searchSwaps 29 = .ok (.iload_n 1, 1) := by decide +kernel
theorem dX5_searchSwaps_30 : decode cX5_searchSwaps 30 = .ok (.invokevirtual 194, 3) := by decide +kernel
theorem dX5_searchSwaps_33 : decode cX5_searchSwaps 33 = .ok (.istore_n 3, 1) := by decide +kernel
theorem dX5_searchSwaps_34 : decode cX5_searchSwaps 34 = .ok (.aload_n 0, 1) := by decide +kernel
theorem dX5_searchSwaps_35 : decode cX5_searchSwaps 35 = .ok (.iload_n 2, 1) := by decide +kernel
theorem dX5_searchSwaps_36 : decode cX5_searchSwaps 36 = .ok (.invokevirtual 194, 3) := by decide +kernel
theorem dX5_searchSwaps_39 : decode cX5_searchSwaps 39 = .ok (.istore 4, 2) := by decide +kernel
theorem dX5_searchSwaps_41 : decode cX5_searchSwaps 41 = .ok (.iload_n 3, 1) := by decide +kernel
theorem dX5_searchSwaps_42 : decode cX5_searchSwaps 42 = .ok (.ifCond .lt 112, 3) := by decide +kernel
theorem dX5_searchSwaps_45 : decode cX5_searchSwaps 45 = .ok (.iload_n 3, 1) := by decide +kernel
theorem dX5_searchSwaps_46 : decode cX5_searchSwaps 46 = .ok (.aload_n 0, 1) := by decide +kernel
theorem dX5_searchSwaps_47 : decode cX5_searchSwaps 47 = .ok (.getfield 86, 3) := by decide +kernel
theorem dX5_searchSwaps_50 : decode cX5_searchSwaps 50 = .ok (.if_icmp .ge 104, 3) := by decide +kernel
theorem dX5_searchSwaps_53 : decode cX5_searchSwaps 53 = .ok (.iload 4, 2) := by decide +kernel
theorem dX5_searchSwaps_55 : decode cX5_searchSwaps 55 = .ok (.ifCond .lt 99, 3) := by decide +kernel
theorem dX5_searchSwaps_58 : decode cX5_searchSwaps 58 = .ok (.iload 4, 2) := by decide +kernel
theorem dX5_searchSwaps_60 : decode cX5_searchSwaps 60 = .ok (.aload_n 0, 1) := by decide +kernel
theorem dX5_searchSwaps_61 : decode cX5_searchSwaps 61 = .ok (.getfield 86, 3) := by decide +kernel
theorem dX5_searchSwaps_64 : decode cX5_searchSwaps 64 = .ok (.if_icmp .lt 6, 3) := by decide +kernel
theorem dX5_searchSwaps_67 : decode cX5_searchSwaps 67 = .ok (.goto 87, 3) := by decide +kernel
theorem dX5_searchSwaps_70 : decode cX5_searchSwaps 70 = .ok (.aload_n 0, 1) := by decide +kernel
theorem dX5_searchSwaps_71 : decode cX5_searchSwaps 71 = .ok (.iload_n 1, 1) := by decide +kernel
theorem dX5_searchSwaps_72 : decode cX5_searchSwaps 72 = .ok (.invokevirtual 123, 3) := by decide +kernel
theorem dX5_searchSwaps_75 : decode cX5_searchSwaps 75 = .ok (.ifCond .ne 79, 3) := by decide +kernel
theorem dX5_searchSwaps_78 : decode cX5_searchSwaps 78 = .ok (.aload_n 0, 1) := by decide +kernel
theorem dX5_searchSwaps_79 : decode cX5_searchSwaps 79 = .ok (.iload_n 2, 1) := by decide +kernel
theorem dX5_searchSwaps_80 : decode cX5_searchSwaps 80 = .ok (.invokevirtual 123, 3) := by decide +kernel
theorem dX5_searchSwaps_83 : decode cX5_searchSwaps 83 = .ok (.ifCond .eq 6, 3) := by decide +kernel
theorem dX5_searchSwaps_86 : decode cX5_searchSwaps 86 = .ok (.goto 68, 3) := by decide +kernel
theorem dX5_searchSwaps_89 : decode cX5_searchSwaps 89 = .ok (.aload_n 0, 1) := by decide +kernel
theorem dX5_searchSwaps_90 : decode cX5_searchSwaps 90 = .ok (.getfield 18, 3) := by decide +kernel
theorem dX5_searchSwaps_93 : decode cX5_searchSwaps 93 = .ok (.iload_n 3, 1) := by decide +kernel
theorem dX5_searchSwaps_94 : decode cX5_searchSwaps 94 = .ok (.aaload, 1) := by decide +kernel
theorem dX5_searchSwaps_95 : decode cX5_searchSwaps 95 = .ok (.getfield 168, 3) := by decide +kernel
theorem dX5_searchSwaps_98 : decode cX5_searchSwaps 98 = .ok (.aload_n 0, 1) := by decide +kernel
theorem dX5_searchSwaps_99 : decode cX5_searchSwaps 99 = .ok (.getfield 18, 3) := by decide +kernel
theorem dX5_searchSwaps_102 : decode cX5_searchSwaps 102 = .ok (.iload_n 3, 1) := by decide +kernel
theorem dX5_searchSwaps_103 : decode cX5_searchSwaps 103 = .ok (.aaload, 1) := by decide +kernel
theorem dX5_searchSwaps_104 : decode cX5_searchSwaps 104 = .ok (.getfield 160, 3) := by decide +kernel
theorem dX5_searchSwaps_107 : decode cX5_searchSwaps 107 = .ok (.iload_n 1, 1) := by decide +kernel
theorem dX5_searchSwaps_108 : decode cX5_searchSwaps 108 = .ok (.iload_n 2, 1) := by decide +kernel
theorem dX5_searchSwaps_109 : decode cX5_searchSwaps 109 = .ok (.invokevirtual 430, 3) := by decide +kernel
theorem dX5_searchSwaps_112 : decode cX5_searchSwaps 112 = .ok (.aload_n 0, 1) := by decide +kernel
theorem dX5_searchSwaps_113 : decode cX5_searchSwaps 113 = .ok (.getfield 18, 3) := by decide +kernel
theorem dX5_searchSwaps_116 : decode cX5_searchSwaps 116 = .ok (.iload 4, 2) := by decide +kernel
theorem dX5_searchSwaps_118 : decode cX5_searchSwaps 118 = .ok (.aaload, 1) := by decide +kernel
theorem dX5_searchSwaps_119 : decode cX5_searchSwaps 119 = .ok (.getfield 168, 3) := by decide +kernel
theorem dX5_searchSwaps_122 : decode cX5_searchSwaps 122 = .ok (.aload_n 0, 1) := by decide +kernel
theorem dX5_searchSwaps_123 : decode cX5_searchSwaps 123 = .ok (.getfield 18, 3) := by decide +kernel
theorem dX5_searchSwaps_126 : decode cX5_searchSwaps 126 = .ok (.iload 4, 2) := by decide +kernel
theorem dX5_searchSwaps_128 : decode cX5_searchSwaps 128 = .ok (.aaload, 1) := by decide +kernel
theorem dX5_searchSwaps_129 : decode cX5_searchSwaps 129 = .ok (.getfield 160, 3) := by decide +kernel
theorem dX5_searchSwaps_132 : decode cX5_searchSwaps 132 = .ok (.iload_n 1, 1) := by decide +kernel
theorem dX5_searchSwaps_133 : decode cX5_searchSwaps 133 = .ok (.iload_n 2, 1) := by decide +kernel
theorem dX5_searchSwaps_134 : decode cX5_searchSwaps 134 = .ok (.invokevirtual 430, 3) := by decide +kernel
theorem dX5_searchSwaps_137 : decode cX5_searchSwaps 137 = .ok (.aload_n 0, 1) := by decide +kernel
theorem dX5_searchSwaps_138 : decode cX5_searchSwaps 138 = .ok (.aload_n 0, 1) := by decide +kernel
theorem dX5_searchSwaps_139 : decode cX5_searchSwaps 139 = .ok (.getfield 18, 3) := by decide +kernel
theorem dX5_searchSwaps_142 : decode cX5_searchSwaps 142 = .ok (.iload_n 3, 1) := by decide +kernel
theorem dX5_searchSwaps_143 : decode cX5_searchSwaps 143 = .ok (.aaload, 1) := by decide +kernel
theorem dX5_searchSwaps_144 : decode cX5_searchSwaps 144 = .ok (.aload_n 0, 1) := by decide +kernel
theorem dX5_searchSwaps_145 : decode cX5_searchSwaps 145 = .ok (.getfield 18, 3) := by decide +kernel
theorem dX5_searchSwaps_148 : decode cX5_searchSwaps 148 = .ok (.iload 4, 2) := by decide +kernel
theorem dX5_searchSwaps_150 : decode cX5_searchSwaps 150 = .ok (.aaload, 1) := by decide +kernel
theorem dX5_searchSwaps_151 : decode cX5_searchSwaps 151 = .ok (.invokevirtual 434, 3) := by decide +kernel
theorem dX5_searchSwaps_154 : decode cX5_searchSwaps 154 = .ok (.iinc 2 1, 3) := by decide +kernel
theorem dX5_searchSwaps_157 : decode cX5_searchSwaps 157 = .ok (.goto (-140), 3) := by decide +kernel
theorem dX5_searchSwaps_160 : decode cX5_searchSwaps 160 = .ok (.iinc 1 1, 3) := by decide +kernel
theorem dX5_searchSwaps_163 : decode cX5_searchSwaps 163 = .ok (.goto (-161), 3) := by decide +kernel
theorem dX5_searchSwaps_166 : decode cX5_searchSwaps 166 = .ok (.return_, 1) := by decide +kernel
theorem dX5_searchTurns_0 : decode cX5_searchTurns 0 = .ok (.iconst 0, 1) := by decide +kernel
theorem dX5_searchTurns_1 : decode cX5_searchTurns 1 = .ok (.istore_n 1, 1) := by decide +kernel
theorem dX5_searchTurns_2 : decode cX5_searchTurns 2 = .ok (.iload_n 1, 1) := by decide +kernel
theorem dX5_searchTurns_3 : decode cX5_searchTurns 3 = .ok (.aload_n 0, 1) := by decide +kernel
theorem dX5_searchTurns_4 : decode cX5_searchTurns 4 = .ok (.getfield 86, 3) := by decide +kernel
theorem dX5_searchTurns_7 : decode cX5_searchTurns 7 = .ok (.if_icmp .ge 94, 3) := by decide +kernel
theorem dX5_searchTurns_10 : decode cX5_searchTurns 10 = .ok (.aload_n 0, 1) := by decide +kernel
theorem dX5_searchTurns_11 : decode cX5_searchTurns 11 = .ok (.getfield 18, 3) := by decide +kernel
theorem dX5_searchTurns_14 : decode cX5_searchTurns 14 = .ok (.iload_n 1, 1) := by decide +kernel
theorem dX5_searchTurns_15 : decode cX5_searchTurns 15 = .ok (.aaload, 1) := by decide +kernel
theorem dX5_searchTurns_16 : decode cX5_searchTurns 16 = .ok (.astore_n 2, 1) := by decide +kernel
theorem dX5_searchTurns_17 : decode cX5_searchTurns 17 = .ok (.aload_n 2, 1) := by decide +kernel
theorem dX5_searchTurns_18 : decode cX5_searchTurns 18 = .ok (.getfield 179, 3) := by decide +kernel
theorem dX5_searchTurns_21 : decode cX5_searchTurns 21 = .ok (.istore_n 3, 1) := by decide +kernel
theorem dX5_searchTurns_22 : decode cX5_searchTurns 22 = .ok (.iload_n 3, 1) := by decide +kernel
theorem dX5_searchTurns_23 : decode cX5_searchTurns 23 = .ok (.aload_n 2, 1) := by decide +kernel
theorem dX5_searchTurns_24 : decode cX5_searchTurns 24 = .ok (.getfield 160, 3) := by decide +kernel
theorem dX5_searchTurns_27 : decode cX5_searchTurns 27 = .ok (.getfield 163, 3) := by decide +kernel
theorem dX5_searchTurns_30 : decode cX5_searchTurns 30 = .ok (.if_icmp .ge 65, 3) := by decide +kernel
theorem dX5_searchTurns_33 : decode cX5_searchTurns 33 = .ok (.iload_n 3, 1) := by decide +kernel
theorem dX5_searchTurns_34 : decode cX5_searchTurns 34 = .ok (.iconst 1, 1) := by decide +kernel
theorem dX5_searchTurns_35 : decode cX5_searchTurns 35 = .ok (.iadd, 1) := by decide +kernel
theorem dX5_searchTurns_36 : decode cX5_searchTurns 36 = .ok (.istore 4, 2) := by decide +kernel
theorem dX5_searchTurns_38 : decode cX5_searchTurns 38 = .ok (.iload 4, 2) := by decide +kernel
theorem dX5_searchTurns_40 : decode cX5_searchTurns 40 = .ok (.aload_n 2, 1) := by decide +kernel
theorem dX5_searchTurns_41 : decode cX5_searchTurns 41 = .ok (.getfield 160, 3) := by decide +kernel
theorem dX5_searchTurns_44 : decode cX5_searchTurns 44 = .ok (.getfield 163, 3) := by decide +kernel
theorem dX5_searchTurns_47 : decode cX5_searchTurns 47 = .ok (.if_icmp .ge 42, 3) := by decide +kernel
theorem dX5_searchTurns_50 : decode cX5_searchTurns 50 = .ok (.aload_n 2, 1) := by decide +kernel
theorem dX5_searchTurns_51 : decode cX5_searchTurns 51 = .ok (.getfield 160, 3) := by decide +kernel
theorem dX5_searchTurns_54 : decode cX5_searchTurns 54 = .ok (.iload_n 3, 1) := by decide +kernel
theorem dX5_searchTurns_55 : decode cX5_searchTurns 55 = .ok (.iload 4, 2) := by decide +kernel
theorem dX5_searchTurns_57 : decode cX5_searchTurns 57 = .ok (.invokevirtual 438, 3) := by decide +kernel
theorem dX5_searchTurns_60 : decode cX5_searchTurns 60 = .ok (.ifCond .ne 23, 3) := by decide +kernel
theorem dX5_searchTurns_63 : decode cX5_searchTurns 63 = .ok (.aload_n 2, 1) := by decide +kernel
theorem dX5_searchTurns_64 : decode cX5_searchTurns 64 = .ok (.getfield 168, 3) := by decide +kernel
theorem dX5_searchTurns_67 : decode cX5_searchTurns 67 = .ok (.aload_n 2, 1) := by decide +kernel
theorem dX5_searchTurns_68 : decode cX5_searchTurns 68 = .ok (.getfield 160, 3) := by decide +kernel
theorem dX5_searchTurns_71 : decode cX5_searchTurns 71 = .ok (.iload_n 3, 1) := by decide +kernel
theorem dX5_searchTurns_72 : decode cX5_searchTurns 72 = .ok (.iload 4, 2) := by decide +kernel
theorem dX5_searchTurns_74 : decode cX5_searchTurns 74 = .ok (.invokevirtual 442, 3) := by decide +kernel
theorem dX5_searchTurns_77 : decode cX5_searchTurns 77 = .ok (.aload_n 0, 1) := by decide +kernel
theorem dX5_searchTurns_78 : decode cX5_searchTurns 78 = .ok (.aload_n 2, 1) := by decide +kernel
theorem dX5_searchTurns_79 : decode cX5_searchTurns 79 = .ok (.aload_n 2, 1) := by decide +kernel
theorem dX5_searchTurns_80 : decode cX5_searchTurns 80 = .ok (.invokevirtual 434, 3) := by decide +kernel
theorem dX5_searchTurns_83 : decode cX5_searchTurns 83 = .ok (.iinc 4 1, 3) := by decide +kernel
theorem dX5_searchTurns_86 : decode cX5_searchTurns 86 = .ok (.goto (-48), 3) := by decide +kernel
theorem dX5_searchTurns_89 : decode cX5_searchTurns 89 = .ok (.iinc 3 1, 3) := by decide +kernel
theorem dX5_searchTurns_92 : decode cX5_searchTurns 92 = .ok (.goto (-70), 3) := by decide +kernel
theorem dX5_searchTurns_95 : decode cX5_searchTurns 95 = .ok (.iinc 1 1, 3) := by decide +kernel
theorem dX5_searchTurns_98 : decode cX5_searchTurns 98 = .ok (.goto (-96), 3) := by decide +kernel
theorem dX5_searchTurns_101 : decode cX5_searchTurns 101 = .ok (.return_, 1) := by decide +kernel
theorem dX5_searchEnds_0 : decode cX5_searchEnds 0 = .ok (.iconst 0, 1) := by decide +kernel
theorem dX5_searchEnds_1 : decode cX5_searchEnds 1 = .ok (.istore_n 1, 1) := by decide +kernel
theorem dX5_searchEnds_2 : decode cX5_searchEnds 2 = .ok (.iload_n 1, 1) := by decide +kernel
theorem dX5_searchEnds_3 : decode cX5_searchEnds 3 = .ok (.aload_n 0, 1) := by decide +kernel
theorem dX5_searchEnds_4 : decode cX5_searchEnds 4 = .ok (.getfield 86, 3) := by decide +kernel
theorem dX5_searchEnds_7 : decode cX5_searchEnds 7 = .ok (.if_icmp .ge 165, 3) := by decide +kernel
theorem dX5_searchEnds_10 : decode cX5_searchEnds 10 = .ok (.iload_n 1, 1) := by decide +kernel
theorem dX5_searchEnds_11 : decode cX5_searchEnds 11 = .ok (.iconst 1, 1) := by decide +kernel
theorem dX5_searchEnds_12 : decode cX5_searchEnds 12 = .ok (.iadd, 1) := by decide +kernel
theorem dX5_searchEnds_13 : decode cX5_searchEnds 13 = .ok (.istore_n 2, 1) := by decide +kernel
theorem dX5_searchEnds_14 : decode cX5_searchEnds 14 = .ok (.iload_n 2, 1) := by decide +kernel
theorem dX5_searchEnds_15 : decode cX5_searchEnds 15 = .ok (.aload_n 0, 1) := by decide +kernel
theorem dX5_searchEnds_16 : decode cX5_searchEnds 16 = .ok (.getfield 86, 3) := by decide +kernel
theorem dX5_searchEnds_19 : decode cX5_searchEnds 19 = .ok (.if_icmp .ge 147, 3) := by decide +kernel
theorem dX5_searchEnds_22 : decode cX5_searchEnds 22 = .ok (.aload_n 0, 1) := by decide +kernel
theorem dX5_searchEnds_23 : decode cX5_searchEnds 23 = .ok (.getfield 18, 3) := by decide +kernel
theorem dX5_searchEnds_26 : decode cX5_searchEnds 26 = .ok (.iload_n 1, 1) := by decide +kernel
theorem dX5_searchEnds_27 : decode cX5_searchEnds 27 = .ok (.aaload, 1) := by decide +kernel
theorem dX5_searchEnds_28 : decode cX5_searchEnds 28 = .ok (.astore_n 3, 1) := by decide +kernel
theorem dX5_searchEnds_29 : decode cX5_searchEnds 29 = .ok (.aload_n 0, 1) := by decide +kernel
theorem dX5_searchEnds_30 : decode cX5_searchEnds 30 = .ok (.getfield 18, 3) := by decide +kernel
theorem dX5_searchEnds_33 : decode cX5_searchEnds 33 = .ok (.iload_n 2, 1) := by decide +kernel
theorem dX5_searchEnds_34 : decode cX5_searchEnds 34 = .ok (.aaload, 1) := by decide +kernel
theorem dX5_searchEnds_35 : decode cX5_searchEnds 35 = .ok (.astore 4, 2) := by decide +kernel
theorem dX5_searchEnds_37 : decode cX5_searchEnds 37 = .ok (.aload_n 3, 1) := by decide +kernel
theorem dX5_searchEnds_38 : decode cX5_searchEnds 38 = .ok (.getfield 179, 3) := by decide +kernel
theorem dX5_searchEnds_41 : decode cX5_searchEnds 41 = .ok (.istore 5, 2) := by decide +kernel
theorem dX5_searchEnds_43 : decode cX5_searchEnds 43 = .ok (.iload 5, 2) := by decide +kernel
theorem dX5_searchEnds_45 : decode cX5_searchEnds 45 = .ok (.aload_n 3, 1) := by decide +kernel
theorem dX5_searchEnds_46 : decode cX5_searchEnds 46 = .ok (.getfield 160, 3) := by decide +kernel
theorem dX5_searchEnds_49 : decode cX5_searchEnds 49 = .ok (.getfield 163, 3) := by decide +kernel
theorem dX5_searchEnds_52 : decode cX5_searchEnds 52 = .ok (.if_icmp .gt 108, 3) := by decide +kernel
theorem dX5_searchEnds_55 : decode cX5_searchEnds 55 = .ok (.aload 4, 2) := by decide +kernel
theorem dX5_searchEnds_57 : decode cX5_searchEnds 57 = .ok (.getfield 179, 3) := by decide +kernel
theorem dX5_searchEnds_60 : decode cX5_searchEnds 60 = .ok (.istore 6, 2) := by decide +kernel
theorem dX5_searchEnds_62 : decode cX5_searchEnds 62 = .ok (.iload 6, 2) := by decide +kernel
theorem dX5_searchEnds_64 : decode cX5_searchEnds 64 = .ok (.aload 4, 2) := by decide +kernel
theorem dX5_searchEnds_66 : decode cX5_searchEnds 66 = .ok (.getfield 160, 3) := by decide +kernel
theorem dX5_searchEnds_69 : decode cX5_searchEnds 69 = .ok (.getfield 163, 3) := by decide +kernel
theorem dX5_searchEnds_72 : decode cX5_searchEnds 72 = .ok (.if_icmp .gt 82, 3) := by decide +kernel
theorem dX5_searchEnds_75 : decode cX5_searchEnds 75 = .ok (.aload_n 3, 1) := by decide +kernel
theorem dX5_searchEnds_76 : decode cX5_searchEnds 76 = .ok (.getfield 160, 3) := by decide +kernel
theorem dX5_searchEnds_79 : decode cX5_searchEnds 79 = .ok (.iload 5, 2) := by decide +kernel
theorem dX5_searchEnds_81 : decode cX5_searchEnds 81 = .ok (.invokevirtual 445, 3) := by decide +kernel
theorem dX5_searchEnds_84 : decode cX5_searchEnds 84 = .ok (.ifCond .ne 64, 3) := by decide +kernel
theorem dX5_searchEnds_87 : decode cX5_searchEnds 87 = .ok (.aload 4, 2) := by decide +kernel
theorem dX5_searchEnds_89 : decode cX5_searchEnds 89 = .ok (.getfield 160, 3) := by decide +kernel
theorem dX5_searchEnds_92 : decode cX5_searchEnds 92 = .ok (.iload 6, 2) := by decide +kernel
theorem dX5_searchEnds_94 : decode cX5_searchEnds 94 = .ok (.invokevirtual 445, 3) := by decide +kernel
theorem dX5_searchEnds_97 : decode cX5_searchEnds 97 = .ok (.ifCond .ne 51, 3) := by decide +kernel
theorem dX5_searchEnds_100 : decode cX5_searchEnds 100 = .ok (.aload_n 3, 1) := by decide +kernel
theorem dX5_searchEnds_101 : decode cX5_searchEnds 101 = .ok (.getfield 168, 3) := by decide +kernel
theorem dX5_searchEnds_104 : decode cX5_searchEnds 104 = .ok (.aload_n 3, 1) := by decide +kernel
theorem dX5_searchEnds_105 : decode cX5_searchEnds 105 = .ok (.getfield 160, 3) := by decide +kernel
theorem dX5_searchEnds_108 : decode cX5_searchEnds 108 = .ok (.iload 5, 2) := by decide +kernel
theorem dX5_searchEnds_110 : decode cX5_searchEnds 110 = .ok (.aload 4, 2) := by decide +kernel
theorem dX5_searchEnds_112 : decode cX5_searchEnds 112 = .ok (.getfield 160, 3) := by decide +kernel
theorem dX5_searchEnds_115 : decode cX5_searchEnds 115 = .ok (.iload 6, 2) := by decide +kernel
theorem dX5_searchEnds_117 : decode cX5_searchEnds 117 = .ok (.invokevirtual 448, 3) := by decide +kernel
theorem dX5_searchEnds_120 : decode cX5_searchEnds 120 = .ok (.aload 4, 2) := by decide +kernel
theorem dX5_searchEnds_122 : decode cX5_searchEnds 122 = .ok (.getfield 168, 3) := by decide +kernel
theorem dX5_searchEnds_125 : decode cX5_searchEnds 125 = .ok (.aload 4, 2) := by decide +kernel
theorem dX5_searchEnds_127 : decode cX5_searchEnds 127 = .ok (.getfield 160, 3) := by decide +kernel
theorem dX5_searchEnds_130 : decode cX5_searchEnds 130 = .ok (.iload 6, 2) := by decide +kernel
theorem dX5_searchEnds_132 : decode cX5_searchEnds 132 = .ok (.aload_n 3, 1) := by decide +kernel
theorem dX5_searchEnds_133 : decode cX5_searchEnds 133 = .ok (.getfield 160, 3) := by decide +kernel
theorem dX5_searchEnds_136 : decode cX5_searchEnds 136 = .ok (.iload 5, 2) := by decide +kernel
theorem dX5_searchEnds_138 : decode cX5_searchEnds 138 = .ok (.invokevirtual 448, 3) := by decide +kernel
theorem dX5_searchEnds_141 : decode cX5_searchEnds 141 = .ok (.aload_n 0, 1) := by decide +kernel
theorem dX5_searchEnds_142 : decode cX5_searchEnds 142 = .ok (.aload_n 3, 1) := by decide +kernel
theorem dX5_searchEnds_143 : decode cX5_searchEnds 143 = .ok (.aload 4, 2) := by decide +kernel
theorem dX5_searchEnds_145 : decode cX5_searchEnds 145 = .ok (.invokevirtual 434, 3) := by decide +kernel
theorem dX5_searchEnds_148 : decode cX5_searchEnds 148 = .ok (.iinc 6 1, 3) := by decide +kernel
theorem dX5_searchEnds_151 : decode cX5_searchEnds 151 = .ok (.goto (-89), 3) := by decide +kernel
theorem dX5_searchEnds_154 : decode cX5_searchEnds 154 = .ok (.iinc 5 1, 3) := by decide +kernel
theorem dX5_searchEnds_157 : decode cX5_searchEnds 157 = .ok (.goto (-114), 3) := by decide +kernel
theorem dX5_searchEnds_160 : decode cX5_searchEnds 160 = .ok (.iinc 2 1, 3) := by decide +kernel
theorem dX5_searchEnds_163 : decode cX5_searchEnds 163 = .ok (.goto (-149), 3) := by decide +kernel
theorem dX5_searchEnds_166 : decode cX5_searchEnds 166 = .ok (.iinc 1 1, 3) := by decide +kernel
theorem dX5_searchEnds_169 : decode cX5_searchEnds 169 = .ok (.goto (-167), 3) := by decide +kernel
theorem dX5_searchEnds_172 : decode cX5_searchEnds 172 = .ok (.return_, 1) := by decide +kernel
