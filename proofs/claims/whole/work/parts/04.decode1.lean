theorem dX10_room_105 : decode cX10_room 105 = .ok (.getfield 23, 3) := by decide +kernel
theorem dX10_room_108 : decode cX10_room 108 = .ok (.aload_n 0, 1) := by decide +kernel
theorem dX10_room_109 : decode cX10_room 109 = .ok (.getfield 42, 3) := by decide +kernel
theorem dX10_room_112 : decode cX10_room 112 = .ok (.getfield 122, 3) := by decide +kernel
theorem dX10_room_115 : decode cX10_room 115 = .ok (.iload_n 1, 1) := by decide +kernel
theorem dX10_room_116 : decode cX10_room 116 = .ok (.invokestatic 180, 3) := by decide +kernel
theorem dX10_room_119 : decode cX10_room 119 = .ok (.ireturn, 1) := by decide +kernel
theorem dX10_room_120 : decode cX10_room 120 = .ok (.aload_n 0, 1) := by decide +kernel
theorem dX10_room_121 : decode cX10_room 121 = .ok (.getfield 23, 3) := by decide +kernel
theorem dX10_room_124 : decode cX10_room 124 = .ok (.iload_n 1, 1) := by decide +kernel
theorem dX10_room_125 : decode cX10_room 125 = .ok (.invokevirtual 184, 3) := by decide +kernel
theorem dX10_room_128 : decode cX10_room 128 = .ok (.ireturn, 1) := by decide +kernel
theorem dX10_room_129 : decode cX10_room 129 = .ok (.new 159, 3) := by decide +kernel
theorem dX10_room_132 : decode cX10_room 132 = .ok (.dup, 1) := by decide +kernel
theorem dX10_room_133 : decode cX10_room 133 = .ok (.invokespecial 161, 3) := by decide +kernel
theorem dX10_room_136 : decode cX10_room 136 = .ok (.athrow, 1) := by decide +kernel
theorem dX10_far_0 : decode cX10_far 0 = .ok (.aload_n 0, 1) := by decide +kernel
theorem dX10_far_1 : decode cX10_far 1 = .ok (.iload_n 1, 1) := by decide +kernel
theorem dX10_far_2 : decode cX10_far 2 = .ok (.invokevirtual 162, 3) := by decide +kernel
theorem dX10_far_5 : decode cX10_far 5 = .ok (.aload_n 0, 1) := by decide +kernel
theorem dX10_far_6 : decode cX10_far 6 = .ok (.iload_n 2, 1) := by decide +kernel
theorem dX10_far_7 : decode cX10_far 7 = .ok (.invokevirtual 162, 3) := by decide +kernel
theorem dX10_far_10 : decode cX10_far 10 = .ok (.aload_n 0, 1) := by decide +kernel
theorem dX10_far_11 : decode cX10_far 11 = .ok (.getfield 23, 3) := by decide +kernel
theorem dX10_far_14 : decode cX10_far 14 = .ok (.iload_n 1, 1) := by decide +kernel
theorem dX10_far_15 : decode cX10_far 15 = .ok (.iload_n 2, 1) := by decide +kernel
theorem dX10_far_16 : decode cX10_far 16 = .ok (.invokevirtual 188, 3) := by decide +kernel
theorem dX10_far_19 : decode cX10_far 19 = .ok (.ireturn, 1) := by decide +kernel
theorem dX10_near_0 : decode cX10_near 0 = .ok (.aload_n 0, 1) := by decide +kernel
theorem dX10_near_1 : decode cX10_near 1 = .ok (.iload_n 1, 1) := by decide +kernel
theorem dX10_near_2 : decode cX10_near 2 = .ok (.invokevirtual 162, 3) := by decide +kernel
theorem dX10_near_5 : decode cX10_near 5 = .ok (.iconst 0, 1) := by decide +kernel
theorem dX10_near_6 : decode cX10_near 6 = .ok (.istore_n 3, 1) := by decide +kernel
theorem dX10_near_7 : decode cX10_near 7 = .ok (.iconst 0, 1) := by decide +kernel
theorem dX10_near_8 : decode cX10_near 8 = .ok (.istore 4, 2) := by decide +kernel
theorem dX10_near_10 : decode cX10_near 10 = .ok (.iload 4, 2) := by decide +kernel
theorem dX10_near_12 : decode cX10_near 12 = .ok (.aload_n 0, 1) := by decide +kernel
theorem dX10_near_13 : decode cX10_near 13 = .ok (.getfield 23, 3) := by decide +kernel
theorem dX10_near_16 : decode cX10_near 16 = .ok (.getfield 104, 3) := by decide +kernel
theorem dX10_near_19 : decode cX10_near 19 = .ok (.if_icmp .ge 40, 3) := by decide +kernel
theorem dX10_near_22 : decode cX10_near 22 = .ok (.aload_n 0, 1) := by decide +kernel
theorem dX10_near_23 : decode cX10_near 23 = .ok (.getfield 23, 3) := by decide +kernel
theorem dX10_near_26 : decode cX10_near 26 = .ok (.iload_n 1, 1) := by decide +kernel
theorem dX10_near_27 : decode cX10_near 27 = .ok (.iload 4, 2) := by decide +kernel
theorem dX10_near_29 : decode cX10_near 29 = .ok (.invokevirtual 188, 3) := by decide +kernel
theorem dX10_near_32 : decode cX10_near 32 = .ok (.istore 5, 2) := by decide +kernel
theorem dX10_near_34 : decode cX10_near 34 = .ok (.iload 5, 2) := by decide +kernel
theorem dX10_near_36 : decode cX10_near 36 = .ok (.iconst (-1), 1) := by decide +kernel
theorem dX10_near_37 : decode cX10_near 37 = .ok (.if_icmp .eq 16, 3) := by decide +kernel
theorem dX10_near_40 : decode cX10_near 40 = .ok (.iload 5, 2) := by decide +kernel
theorem dX10_near_42 : decode cX10_near 42 = .ok (.iload_n 2, 1) := by decide +kernel
theorem dX10_near_43 : decode cX10_near 43 = .ok (.if_icmp .gt 10, 3) := by decide +kernel
theorem dX10_near_46 : decode cX10_near 46 = .ok (.iload_n 3, 1) := by decide +kernel
theorem dX10_near_47 : decode cX10_near 47 = .ok (.iconst 1, 1) := by decide +kernel
theorem dX10_near_48 : decode cX10_near 48 = .ok (.iload 4, 2) := by decide +kernel
theorem dX10_near_50 : decode cX10_near 50 = .ok (.ishl, 1) := by decide +kernel
theorem dX10_near_51 : decode cX10_near 51 = .ok (.ior, 1) := by decide +kernel
theorem dX10_near_52 : decode cX10_near 52 = .ok (.istore_n 3, 1) := by decide +kernel
theorem dX10_near_53 : decode cX10_near 53 = .ok (.iinc 4 1, 3) := by decide +kernel
theorem dX10_near_56 : decode cX10_near 56 = .ok (.goto (-46), 3) := by decide +kernel
theorem dX10_near_59 : decode cX10_near 59 = .ok (.iload_n 3, 1) := by decide +kernel
theorem dX10_near_60 : decode cX10_near 60 = .ok (.ireturn, 1) := by decide +kernel
theorem dX10_blow_0 : decode cX10_blow 0 = .ok (.iload_n 1, 1) := by decide +kernel
theorem dX10_blow_1 : decode cX10_blow 1 = .ok (.ifCond .lt 23, 3) := by decide +kernel
theorem dX10_blow_4 : decode cX10_blow 4 = .ok (.iload_n 1, 1) := by decide +kernel
theorem dX10_blow_5 : decode cX10_blow 5 = .ok (.aload_n 0, 1) := by decide +kernel
theorem dX10_blow_6 : decode cX10_blow 6 = .ok (.getfield 23, 3) := by decide +kernel
theorem dX10_blow_9 : decode cX10_blow 9 = .ok (.getfield 110, 3) := by decide +kernel
theorem dX10_blow_12 : decode cX10_blow 12 = .ok (.if_icmp .ge 12, 3) := by decide +kernel
theorem dX10_blow_15 : decode cX10_blow 15 = .ok (.iload_n 3, 1) := by decide +kernel
theorem dX10_blow_16 : decode cX10_blow 16 = .ok (.ifCond .lt 8, 3) := by decide +kernel
theorem dX10_blow_19 : decode cX10_blow 19 = .ok (.iload_n 3, 1) := by decide +kernel
theorem dX10_blow_20 : decode cX10_blow 20 = .ok (.iconst 2, 1) := by decide +kernel
theorem dX10_blow_21 : decode cX10_blow 21 = .ok (.if_icmp .le 11, 3) := by decide +kernel
theorem dX10_blow_24 : decode cX10_blow 24 = .ok (.new 159, 3) := by decide +kernel
theorem dX10_blow_27 : decode cX10_blow 27 = .ok (.dup, 1) := by decide +kernel
theorem dX10_blow_28 : decode cX10_blow 28 = .ok (.invokespecial 161, 3) := by decide +kernel
theorem dX10_blow_31 : decode cX10_blow 31 = .ok (.athrow, 1) := by decide +kernel
theorem dX10_blow_32 : decode cX10_blow 32 = .ok (.iload_n 2, 1) := by decide +kernel
theorem dX10_blow_33 : decode cX10_blow 33 = .ok (.iconst (-1), 1) := by decide +kernel
theorem dX10_blow_34 : decode cX10_blow 34 = .ok (.if_icmp .ne 13, 3) := by decide +kernel
theorem dX10_blow_37 : decode cX10_blow 37 = .ok (.aload_n 0, 1) := by decide +kernel
theorem dX10_blow_38 : decode cX10_blow 38 = .ok (.getfield 23, 3) := by decide +kernel
theorem dX10_blow_41 : decode cX10_blow 41 = .ok (.getfield 192, 3) := by decide +kernel
theorem dX10_blow_44 : decode cX10_blow 44 = .ok (.iload_n 1, 1) := by decide +kernel
theorem dX10_blow_45 : decode cX10_blow 45 = .ok (.iaload, 1) := by decide +kernel
theorem dX10_blow_46 : decode cX10_blow 46 = .ok (.ireturn, 1) := by decide +kernel
theorem dX10_blow_47 : decode cX10_blow 47 = .ok (.iload_n 2, 1) := by decide +kernel
theorem dX10_blow_48 : decode cX10_blow 48 = .ok (.ifCond .lt 16, 3) := by decide +kernel
theorem dX10_blow_51 : decode cX10_blow 51 = .ok (.iload_n 2, 1) := by decide +kernel
theorem dX10_blow_52 : decode cX10_blow 52 = .ok (.aload_n 0, 1) := by decide +kernel
theorem dX10_blow_53 : decode cX10_blow 53 = .ok (.getfield 23, 3) := by decide +kernel
theorem dX10_blow_56 : decode cX10_blow 56 = .ok (.getfield 192, 3) := by decide +kernel
theorem dX10_blow_59 : decode cX10_blow 59 = .ok (.iload_n 1, 1) := by decide +kernel
theorem dX10_blow_60 : decode cX10_blow 60 = .ok (.iaload, 1) := by decide +kernel
theorem dX10_blow_61 : decode cX10_blow 61 = .ok (.if_icmp .lt 11, 3) := by decide +kernel
theorem dX10_blow_64 : decode cX10_blow 64 = .ok (.new 159, 3) := by decide +kernel
theorem dX10_blow_67 : decode cX10_blow 67 = .ok (.dup, 1) := by decide +kernel
theorem dX10_blow_68 : decode cX10_blow 68 = .ok (.invokespecial 161, 3) := by decide +kernel
theorem dX10_blow_71 : decode cX10_blow 71 = .ok (.athrow, 1) := by decide +kernel
theorem dX10_blow_72 : decode cX10_blow 72 = .ok (.iload_n 1, 1) := by decide +kernel
theorem dX10_blow_73 : decode cX10_blow 73 = .ok (.bipush 8, 2) := by decide +kernel
theorem dX10_blow_75 : decode cX10_blow 75 = .ok (.imul, 1) := by decide +kernel
theorem dX10_blow_76 : decode cX10_blow 76 = .ok (.iload_n 2, 1) := by decide +kernel
theorem dX10_blow_77 : decode cX10_blow 77 = .ok (.iadd, 1) := by decide +kernel
theorem dX10_blow_78 : decode cX10_blow 78 = .ok (.istore 4, 2) := by decide +kernel
theorem dX10_blow_80 : decode cX10_blow 80 = .ok (.iload_n 3, 1) := by decide +kernel
theorem dX10_blow_81 : decode cX10_blow 81 = .ok (.ifCond .ne 16, 3) := by decide +kernel
theorem dX10_blow_84 : decode cX10_blow 84 = .ok (.aload_n 0, 1) := by decide +kernel
theorem dX10_blow_85 : decode cX10_blow 85 = .ok (.getfield 23, 3) := by decide +kernel
theorem dX10_blow_88 : decode cX10_blow 88 = .ok (.getfield 195, 3) := by decide +kernel
theorem dX10_blow_91 : decode cX10_blow 91 = .ok (.iload 4, 2) := by decide +kernel
theorem dX10_blow_93 : decode cX10_blow 93 = .ok (.iaload, 1) := by decide +kernel
theorem dX10_blow_94 : decode cX10_blow 94 = .ok (.goto 31, 3) := by decide +kernel
theorem dX10_blow_97 : decode cX10_blow 97 = .ok (.iload_n 3, 1) := by decide +kernel
theorem dX10_blow_98 : decode cX10_blow 98 = .ok (.iconst 1, 1) := by decide +kernel
theorem dX10_blow_99 : decode cX10_blow 99 = .ok (.if_icmp .ne 16, 3) := by decide +kernel
theorem dX10_blow_102 : decode cX10_blow 102 = .ok (.aload_n 0, 1) := by decide +kernel
theorem dX10_blow_103 : decode cX10_blow 103 = .ok (.getfield 23, 3) := by decide +kernel
theorem dX10_blow_106 : decode cX10_blow 106 = .ok (.getfield 198, 3) := by decide +kernel
theorem dX10_blow_109 : decode cX10_blow 109 = .ok (.iload 4, 2) := by decide +kernel
theorem dX10_blow_111 : decode cX10_blow 111 = .ok (.iaload, 1) := by decide +kernel
theorem dX10_blow_112 : decode cX10_blow 112 = .ok (.goto 13, 3) := by decide +kernel
theorem dX10_blow_115 : decode cX10_blow 115 = .ok (.aload_n 0, 1) := by decide +kernel
theorem dX10_blow_116 : decode cX10_blow 116 = .ok (.getfield 23, 3) := by decide +kernel
theorem dX10_blow_119 : decode cX10_blow 119 = .ok (.getfield 201, 3) := by decide +kernel
theorem dX10_blow_122 : decode cX10_blow 122 = .ok (.iload 4, 2) := by decide +kernel
theorem dX10_blow_124 : decode cX10_blow 124 = .ok (.iaload, 1) := by decide +kernel
theorem dX10_blow_125 : decode cX10_blow 125 = .ok (.ireturn, 1) := by decide +kernel
theorem dX10_wind_0 : decode cX10_wind 0 = .ok (.iload_n 1, 1) := by decide +kernel
theorem dX10_wind_1 : decode cX10_wind 1 = .ok (.ifCond .lt 10, 3) := by decide +kernel
theorem dX10_wind_4 : decode cX10_wind 4 = .ok (.iload_n 1, 1) := by decide +kernel
theorem dX10_wind_5 : decode cX10_wind 5 = .ok (.sipush 9999, 3) := by decide +kernel
theorem dX10_wind_8 : decode cX10_wind 8 = .ok (.if_icmp .le 11, 3) := by decide +kernel
theorem dX10_wind_11 : decode cX10_wind 11 = .ok (.new 83, 3) := by decide +kernel
theorem dX10_wind_14 : decode cX10_wind 14 = .ok (.dup, 1) := by decide +kernel
theorem dX10_wind_15 : decode cX10_wind 15 = .ok (.invokespecial 85, 3) := by decide +kernel
theorem dX10_wind_18 : decode cX10_wind 18 = .ok (.athrow, 1) := by decide +kernel
theorem dX10_wind_19 : decode cX10_wind 19 = .ok (.aload_n 0, 1) := by decide +kernel
theorem dX10_wind_20 : decode cX10_wind 20 = .ok (.getfield 23, 3) := by decide +kernel
theorem dX10_wind_23 : decode cX10_wind 23 = .ok (.aload_n 0, 1) := by decide +kernel
theorem dX10_wind_24 : decode cX10_wind 24 = .ok (.getfield 42, 3) := by decide +kernel
theorem dX10_wind_27 : decode cX10_wind 27 = .ok (.getfield 122, 3) := by decide +kernel
theorem dX10_wind_30 : decode cX10_wind 30 = .ok (.iload_n 1, 1) := by decide +kernel
theorem dX10_wind_31 : decode cX10_wind 31 = .ok (.invokestatic 204, 3) := by decide +kernel
theorem dX10_wind_34 : decode cX10_wind 34 = .ok (.ireturn, 1) := by decide +kernel
theorem dX10_days_0 : decode cX10_days 0 = .ok (.iload_n 1, 1) := by decide +kernel
theorem dX10_days_1 : decode cX10_days 1 = .ok (.iconst 1, 1) := by decide +kernel
theorem dX10_days_2 : decode cX10_days 2 = .ok (.if_icmp .lt 27, 3) := by decide +kernel
theorem dX10_days_5 : decode cX10_days 5 = .ok (.iload_n 1, 1) := by decide +kernel
theorem dX10_days_6 : decode cX10_days 6 = .ok (.bipush 30, 2) := by decide +kernel
theorem dX10_days_8 : decode cX10_days 8 = .ok (.if_icmp .gt 21, 3) := by decide +kernel
theorem dX10_days_11 : decode cX10_days 11 = .ok (.aload_n 0, 1) := by decide +kernel
theorem dX10_days_12 : decode cX10_days 12 = .ok (.getfield 42, 3) := by decide +kernel
theorem dX10_days_15 : decode cX10_days 15 = .ok (.getfield 122, 3) := by decide +kernel
theorem dX10_days_18 : decode cX10_days 18 = .ok (.getfield 125, 3) := by decide +kernel
theorem dX10_days_21 : decode cX10_days 21 = .ok (.iload_n 1, 1) := by decide +kernel
theorem dX10_days_22 : decode cX10_days 22 = .ok (.iadd, 1) := by decide +kernel
theorem dX10_days_23 : decode cX10_days 23 = .ok (.sipush 999, 3) := by decide +kernel
theorem dX10_days_26 : decode cX10_days 26 = .ok (.if_icmp .le 9, 3) := by decide +kernel
theorem dX10_days_29 : decode cX10_days 29 = .ok (.aload_n 0, 1) := by decide +kernel
theorem dX10_days_30 : decode cX10_days 30 = .ok (.iconst 1, 1) := by decide +kernel
theorem dX10_days_31 : decode cX10_days 31 = .ok (.invokevirtual 207, 3) := by decide +kernel
theorem dX10_days_34 : decode cX10_days 34 = .ok (.ireturn, 1) := by decide +kernel
theorem dX10_days_35 : decode cX10_days 35 = .ok (.aload_n 0, 1) := by decide +kernel
theorem dX10_days_36 : decode cX10_days 36 = .ok (.getfield 42, 3) := by decide +kernel
theorem dX10_days_39 : decode cX10_days 39 = .ok (.getfield 143, 3) := by decide +kernel
theorem dX10_days_42 : decode cX10_days 42 = .ok (.aload_n 0, 1) := by decide +kernel
theorem dX10_days_43 : decode cX10_days 43 = .ok (.getfield 42, 3) := by decide +kernel
theorem dX10_days_46 : decode cX10_days 46 = .ok (.getfield 122, 3) := by decide +kernel
theorem dX10_days_49 : decode cX10_days 49 = .ok (.invokevirtual 210, 3) := by decide +kernel
theorem dX10_days_52 : decode cX10_days 52 = .ok (.aload_n 0, 1) := by decide +kernel
theorem dX10_days_53 : decode cX10_days 53 = .ok (.getfield 23, 3) := by decide +kernel
theorem dX10_days_56 : decode cX10_days 56 = .ok (.aload_n 0, 1) := by decide +kernel
theorem dX10_days_57 : decode cX10_days 57 = .ok (.getfield 42, 3) := by decide +kernel
theorem dX10_days_60 : decode cX10_days 60 = .ok (.getfield 122, 3) := by decide +kernel
theorem dX10_days_63 : decode cX10_days 63 = .ok (.iload_n 1, 1) := by decide +kernel
theorem dX10_days_64 : decode cX10_days 64 = .ok (.invokestatic 214, 3) := by decide +kernel
theorem dX10_days_67 : decode cX10_days 67 = .ok (.aload_n 0, 1) := by decide +kernel
theorem dX10_days_68 : decode cX10_days 68 = .ok (.getfield 42, 3) := by decide +kernel
theorem dX10_days_71 : decode cX10_days 71 = .ok (.getfield 122, 3) := by decide +kernel
theorem dX10_days_74 : decode cX10_days 74 = .ok (.getfield 125, 3) := by decide +kernel
theorem dX10_days_77 : decode cX10_days 77 = .ok (.ireturn, 1) := by decide +kernel
theorem dX10_sweep_0 : decode cX10_sweep 0 = .ok (.aload_n 0, 1) := by decide +kernel
theorem dX10_sweep_1 : decode cX10_sweep 1 = .ok (.iload_n 1, 1) := by decide +kernel
theorem dX10_sweep_2 : decode cX10_sweep 2 = .ok (.invokevirtual 162, 3) := by decide +kernel
theorem dX10_sweep_5 : decode cX10_sweep 5 = .ok (.aload_n 0, 1) := by decide +kernel
theorem dX10_sweep_6 : decode cX10_sweep 6 = .ok (.iload_n 2, 1) := by decide +kernel
theorem dX10_sweep_7 : decode cX10_sweep 7 = .ok (.invokevirtual 162, 3) := by decide +kernel
theorem dX10_sweep_10 : decode cX10_sweep 10 = .ok (.aload_n 0, 1) := by decide +kernel
theorem dX10_sweep_11 : decode cX10_sweep 11 = .ok (.getfield 23, 3) := by decide +kernel
theorem dX10_sweep_14 : decode cX10_sweep 14 = .ok (.iload_n 1, 1) := by decide +kernel
theorem dX10_sweep_15 : decode cX10_sweep 15 = .ok (.iload_n 2, 1) := by decide +kernel
theorem dX10_sweep_16 : decode cX10_sweep 16 = .ok (.invokevirtual 218, 3) := by decide +kernel
theorem dX10_sweep_19 : decode cX10_sweep 19 = .ok (.ifCond .eq 31, 3) := by decide +kernel
theorem dX10_sweep_22 : decode cX10_sweep 22 = .ok (.iload_n 3, 1) := by decide +kernel
theorem dX10_sweep_23 : decode cX10_sweep 23 = .ok (.iconst 1, 1) := by decide +kernel
theorem dX10_sweep_24 : decode cX10_sweep 24 = .ok (.if_icmp .lt 26, 3) := by decide +kernel
theorem dX10_sweep_27 : decode cX10_sweep 27 = .ok (.iload_n 3, 1) := by decide +kernel
theorem dX10_sweep_28 : decode cX10_sweep 28 = .ok (.sipush 999, 3) := by decide +kernel
theorem dX10_sweep_31 : decode cX10_sweep 31 = .ok (.if_icmp .gt 19, 3) := by decide +kernel
theorem dX10_sweep_34 : decode cX10_sweep 34 = .ok (.iload_n 3, 1) := by decide +kernel
theorem dX10_sweep_35 : decode cX10_sweep 35 = .ok (.aload_n 0, 1) := by decide +kernel
theorem dX10_sweep_36 : decode cX10_sweep 36 = .ok (.getfield 42, 3) := by decide +kernel
theorem dX10_sweep_39 : decode cX10_sweep 39 = .ok (.getfield 122, 3) := by decide +kernel
theorem dX10_sweep_42 : decode cX10_sweep 42 = .ok (.getfield 171, 3) := by decide +kernel
theorem dX10_sweep_45 : decode cX10_sweep 45 = .ok (.iload_n 1, 1) := by decide +kernel
theorem dX10_sweep_46 : decode cX10_sweep 46 = .ok (.iaload, 1) := by decide +kernel
theorem dX10_sweep_47 : decode cX10_sweep 47 = .ok (.if_icmp .le 9, 3) := by decide +kernel
theorem dX10_sweep_50 : decode cX10_sweep 50 = .ok (.aload_n 0, 1) := by decide +kernel
theorem dX10_sweep_51 : decode cX10_sweep 51 = .ok (.iconst 1, 1) := by decide +kernel
theorem dX10_sweep_52 : decode cX10_sweep 52 = .ok (.invokevirtual 207, 3) := by decide +kernel
theorem dX10_sweep_55 : decode cX10_sweep 55 = .ok (.ireturn, 1) := by decide +kernel
theorem dX10_sweep_56 : decode cX10_sweep 56 = .ok (.aload_n 0, 1) := by decide +kernel
theorem dX10_sweep_57 : decode cX10_sweep 57 = .ok (.getfield 42, 3) := by decide +kernel
theorem dX10_sweep_60 : decode cX10_sweep 60 = .ok (.getfield 143, 3) := by decide +kernel
theorem dX10_sweep_63 : decode cX10_sweep 63 = .ok (.aload_n 0, 1) := by decide +kernel
theorem dX10_sweep_64 : decode cX10_sweep 64 = .ok (.getfield 42, 3) := by decide +kernel
theorem dX10_sweep_67 : decode cX10_sweep 67 = .ok (.getfield 122, 3) := by decide +kernel
theorem dX10_sweep_70 : decode cX10_sweep 70 = .ok (.invokevirtual 210, 3) := by decide +kernel
theorem dX10_sweep_73 : decode cX10_sweep 73 = .ok (.aload_n 0, 1) := by decide +kernel
theorem dX10_sweep_74 : decode cX10_sweep 74 = .ok (.getfield 42, 3) := by decide +kernel
theorem dX10_sweep_77 : decode cX10_sweep 77 = .ok (.getfield 122, 3) := by decide +kernel
theorem dX10_sweep_80 : decode cX10_sweep 80 = .ok (.iload_n 1, 1) := by decide +kernel
theorem dX10_sweep_81 : decode cX10_sweep 81 = .ok (.iload_n 2, 1) := by decide +kernel
theorem dX10_sweep_82 : decode cX10_sweep 82 = .ok (.iload_n 3, 1) := by decide +kernel
theorem dX10_sweep_83 : decode cX10_sweep 83 = .ok (.invokevirtual 222, 3) := by decide +kernel
theorem dX10_sweep_86 : decode cX10_sweep 86 = .ok (.aload_n 0, 1) := by decide +kernel
theorem dX10_sweep_87 : decode cX10_sweep 87 = .ok (.getfield 42, 3) := by decide +kernel
theorem dX10_sweep_90 : decode cX10_sweep 90 = .ok (.getfield 122, 3) := by decide +kernel
theorem dX10_sweep_93 : decode cX10_sweep 93 = .ok (.getfield 171, 3) := by decide +kernel
theorem dX10_sweep_96 : decode cX10_sweep 96 = .ok (.iload_n 1, 1) := by decide +kernel
theorem dX10_sweep_97 : decode cX10_sweep 97 = .ok (.iaload, 1) := by decide +kernel
theorem dX10_sweep_98 : decode cX10_sweep 98 = .ok (.ireturn, 1) := by decide +kernel
theorem dX10_shake_0 : decode cX10_shake 0 = .ok (.aload_n 0, 1) := by decide +kernel
theorem dX10_shake_1 : decode cX10_shake 1 = .ok (.iload_n 1, 1) := by decide +kernel
theorem dX10_shake_2 : decode cX10_shake 2 = .ok (.invokevirtual 162, 3) := by decide +kernel
theorem dX10_shake_5 : decode cX10_shake 5 = .ok (.aload_n 0, 1) := by decide +kernel
theorem dX10_shake_6 : decode cX10_shake 6 = .ok (.iload_n 2, 1) := by decide +kernel
theorem dX10_shake_7 : decode cX10_shake 7 = .ok (.invokevirtual 162, 3) := by decide +kernel
theorem dX10_shake_10 : decode cX10_shake 10 = .ok (.aload_n 0, 1) := by decide +kernel
theorem dX10_shake_11 : decode cX10_shake 11 = .ok (.getfield 23, 3) := by decide +kernel
theorem dX10_shake_14 : decode cX10_shake 14 = .ok (.iload_n 1, 1) := by decide +kernel
theorem dX10_shake_15 : decode cX10_shake 15 = .ok (.iload_n 2, 1) := by decide +kernel
theorem dX10_shake_16 : decode cX10_shake 16 = .ok (.invokevirtual 218, 3) := by decide +kernel
theorem dX10_shake_19 : decode cX10_shake 19 = .ok (.ifCond .ne 9, 3) := by decide +kernel
theorem dX10_shake_22 : decode cX10_shake 22 = .ok (.aload_n 0, 1) := by decide +kernel
theorem dX10_shake_23 : decode cX10_shake 23 = .ok (.iconst 1, 1) := by decide +kernel
theorem dX10_shake_24 : decode cX10_shake 24 = .ok (.invokevirtual 207, 3) := by decide +kernel
theorem dX10_shake_27 : decode cX10_shake 27 = .ok (.ireturn, 1) := by decide +kernel
theorem dX10_shake_28 : decode cX10_shake 28 = .ok (.aload_n 0, 1) := by decide +kernel
theorem dX10_shake_29 : decode cX10_shake 29 = .ok (.getfield 42, 3) := by decide +kernel
theorem dX10_shake_32 : decode cX10_shake 32 = .ok (.getfield 143, 3) := by decide +kernel
theorem dX10_shake_35 : decode cX10_shake 35 = .ok (.aload_n 0, 1) := by decide +kernel
theorem dX10_shake_36 : decode cX10_shake 36 = .ok (.getfield 42, 3) := by decide +kernel
theorem dX10_shake_39 : decode cX10_shake 39 = .ok (.getfield 122, 3) := by decide +kernel
theorem dX10_shake_42 : decode cX10_shake 42 = .ok (.invokevirtual 210, 3) := by decide +kernel
theorem dX10_shake_45 : decode cX10_shake 45 = .ok (.aload_n 0, 1) := by decide +kernel
theorem dX10_shake_46 : decode cX10_shake 46 = .ok (.getfield 42, 3) := by decide +kernel
theorem dX10_shake_49 : decode cX10_shake 49 = .ok (.getfield 122, 3) := by decide +kernel
theorem dX10_shake_52 : decode cX10_shake 52 = .ok (.getfield 171, 3) := by decide +kernel
theorem dX10_shake_55 : decode cX10_shake 55 = .ok (.iload_n 1, 1) := by decide +kernel
theorem dX10_shake_56 : decode cX10_shake 56 = .ok (.iaload, 1) := by decide +kernel
theorem dX10_shake_57 : decode cX10_shake 57 = .ok (.iconst 2, 1) := by decide +kernel
theorem dX10_shake_58 : decode cX10_shake 58 = .ok (.idiv, 1) := by decide +kernel
theorem dX10_shake_59 : decode cX10_shake 59 = .ok (.istore_n 3, 1) := by decide +kernel
theorem dX10_shake_60 : decode cX10_shake 60 = .ok (.aload_n 0, 1) := by decide +kernel
theorem dX10_shake_61 : decode cX10_shake 61 = .ok (.getfield 42, 3) := by decide +kernel
theorem dX10_shake_64 : decode cX10_shake 64 = .ok (.getfield 122, 3) := by decide +kernel
theorem dX10_shake_67 : decode cX10_shake 67 = .ok (.iload_n 1, 1) := by decide +kernel
theorem dX10_shake_68 : decode cX10_shake 68 = .ok (.iload_n 2, 1) := by decide +kernel
theorem dX10_shake_69 : decode cX10_shake 69 = .ok (.iload_n 3, 1) := by decide +kernel
theorem dX10_shake_70 : decode cX10_shake 70 = .ok (.invokevirtual 222, 3) := by decide +kernel
theorem dX10_shake_73 : decode cX10_shake 73 = .ok (.iload_n 3, 1) := by decide +kernel
theorem dX10_shake_74 : decode cX10_shake 74 = .ok (.ireturn, 1) := by decide +kernel
theorem dX10_sneeze_0 : decode cX10_sneeze 0 = .ok (.aload_n 0, 1) := by decide +kernel
theorem dX10_sneeze_1 : decode cX10_sneeze 1 = .ok (.iload_n 1, 1) := by decide +kernel
theorem dX10_sneeze_2 : decode cX10_sneeze 2 = .ok (.invokevirtual 162, 3) := by decide +kernel
theorem dX10_sneeze_5 : decode cX10_sneeze 5 = .ok (.iload_n 2, 1) := by decide +kernel
theorem dX10_sneeze_6 : decode cX10_sneeze 6 = .ok (.iconst 1, 1) := by decide +kernel
theorem dX10_sneeze_7 : decode cX10_sneeze 7 = .ok (.if_icmp .lt 9, 3) := by decide +kernel
theorem dX10_sneeze_10 : decode cX10_sneeze 10 = .ok (.iload_n 2, 1) := by decide +kernel
theorem dX10_sneeze_11 : decode cX10_sneeze 11 = .ok (.bipush 99, 2) := by decide +kernel
theorem dX10_sneeze_13 : decode cX10_sneeze 13 = .ok (.if_icmp .le 9, 3) := by decide +kernel
theorem dX10_sneeze_16 : decode cX10_sneeze 16 = .ok (.aload_n 0, 1) := by decide +kernel
theorem dX10_sneeze_17 : decode cX10_sneeze 17 = .ok (.iconst 1, 1) := by decide +kernel
theorem dX10_sneeze_18 : decode cX10_sneeze 18 = .ok (.invokevirtual 207, 3) := by decide +kernel
theorem dX10_sneeze_21 : decode cX10_sneeze 21 = .ok (.ireturn, 1) := by decide +kernel
theorem dX10_sneeze_22 : decode cX10_sneeze 22 = .ok (.aload_n 0, 1) := by decide +kernel
theorem dX10_sneeze_23 : decode cX10_sneeze 23 = .ok (.getfield 42, 3) := by decide +kernel
theorem dX10_sneeze_26 : decode cX10_sneeze 26 = .ok (.getfield 143, 3) := by decide +kernel
theorem dX10_sneeze_29 : decode cX10_sneeze 29 = .ok (.aload_n 0, 1) := by decide +kernel
theorem dX10_sneeze_30 : decode cX10_sneeze 30 = .ok (.getfield 42, 3) := by decide +kernel
theorem dX10_sneeze_33 : decode cX10_sneeze 33 = .ok (.getfield 122, 3) := by decide +kernel
theorem dX10_sneeze_36 : decode cX10_sneeze 36 = .ok (.invokevirtual 210, 3) := by decide +kernel
theorem dX10_sneeze_39 : decode cX10_sneeze 39 = .ok (.aload_n 0, 1) := by decide +kernel
theorem dX10_sneeze_40 : decode cX10_sneeze 40 = .ok (.getfield 42, 3) := by decide +kernel
theorem dX10_sneeze_43 : decode cX10_sneeze 43 = .ok (.getfield 122, 3) := by decide +kernel
theorem dX10_sneeze_46 : decode cX10_sneeze 46 = .ok (.iload_n 1, 1) := by decide +kernel
theorem dX10_sneeze_47 : decode cX10_sneeze 47 = .ok (.iload_n 2, 1) := by decide +kernel
theorem dX10_sneeze_48 : decode cX10_sneeze 48 = .ok (.invokevirtual 226, 3) := by decide +kernel
theorem dX10_sneeze_51 : decode cX10_sneeze 51 = .ok (.ireturn, 1) := by decide +kernel
theorem dX10_plan_0 : decode cX10_plan 0 = .ok (.iload_n 2, 1) := by decide +kernel
theorem dX10_plan_1 : decode cX10_plan 1 = .ok (.iconst 5, 1) := by decide +kernel
theorem dX10_plan_2 : decode cX10_plan 2 = .ok (.if_icmp .eq 18, 3) := by decide +kernel
theorem dX10_plan_5 : decode cX10_plan 5 = .ok (.iload_n 2, 1) := by decide +kernel
theorem dX10_plan_6 : decode cX10_plan 6 = .ok (.ifCond .lt 18, 3) := by decide +kernel
theorem dX10_plan_9 : decode cX10_plan 9 = .ok (.iload_n 2, 1) := by decide +kernel
theorem dX10_plan_10 : decode cX10_plan 10 = .ok (.aload_n 0, 1) := by decide +kernel
theorem dX10_plan_11 : decode cX10_plan 11 = .ok (.getfield 23, 3) := by decide +kernel
theorem dX10_plan_14 : decode cX10_plan 14 = .ok (.getfield 110, 3) := by decide +kernel
theorem dX10_plan_17 : decode cX10_plan 17 = .ok (.if_icmp .ge 7, 3) := by decide +kernel
theorem dX10_plan_20 : decode cX10_plan 20 = .ok (.iconst 1, 1) := by decide +kernel
theorem dX10_plan_21 : decode cX10_plan 21 = .ok (.goto 4, 3) := by decide +kernel
theorem dX10_plan_24 : decode cX10_plan 24 = .ok (.iconst 0, 1) := by decide +kernel
theorem dX10_plan_25 : decode cX10_plan 25 = .ok (.istore_n 3, 1) := by decide +kernel
theorem dX10_plan_26 : decode cX10_plan 26 = .ok (.iload_n 3, 1) := by decide +kernel
theorem dX10_plan_27 : decode cX10_plan 27 = .ok (.ifCond .eq 18, 3) := by decide +kernel
theorem dX10_plan_30 : decode cX10_plan 30 = .ok (.iload_n 1, 1) := by decide +kernel
theorem dX10_plan_31 : decode cX10_plan 31 = .ok (.ifCond .lt 14, 3) := by decide +kernel
theorem dX10_plan_34 : decode cX10_plan 34 = .ok (.iload_n 1, 1) := by decide +kernel
theorem dX10_plan_35 : decode cX10_plan 35 = .ok (.aload_n 0, 1) := by decide +kernel
theorem dX10_plan_36 : decode cX10_plan 36 = .ok (.getfield 23, 3) := by decide +kernel
theorem dX10_plan_39 : decode cX10_plan 39 = .ok (.getfield 113, 3) := by decide +kernel
theorem dX10_plan_42 : decode cX10_plan 42 = .ok (.if_icmp .lt 9, 3) := by decide +kernel
theorem dX10_plan_45 : decode cX10_plan 45 = .ok (.aload_n 0, 1) := by decide +kernel
theorem dX10_plan_46 : decode cX10_plan 46 = .ok (.iconst 1, 1) := by decide +kernel
theorem dX10_plan_47 : decode cX10_plan 47 = .ok (.invokevirtual 207, 3) := by decide +kernel
theorem dX10_plan_50 : decode cX10_plan 50 = .ok (.ireturn, 1) := by decide +kernel
theorem dX10_plan_51 : decode cX10_plan 51 = .ok (.aload_n 0, 1) := by decide +kernel
theorem dX10_plan_52 : decode cX10_plan 52 = .ok (.getfield 42, 3) := by decide +kernel
theorem dX10_plan_55 : decode cX10_plan 55 = .ok (.getfield 143, 3) := by decide +kernel
theorem dX10_plan_58 : decode cX10_plan 58 = .ok (.aload_n 0, 1) := by decide +kernel
theorem dX10_plan_59 : decode cX10_plan 59 = .ok (.getfield 42, 3) := by decide +kernel
theorem dX10_plan_62 : decode cX10_plan 62 = .ok (.getfield 122, 3) := by decide +kernel
theorem dX10_plan_65 : decode cX10_plan 65 = .ok (.invokevirtual 210, 3) := by decide +kernel
theorem dX10_plan_68 : decode cX10_plan 68 = .ok (.aload_n 0, 1) := by decide +kernel
theorem dX10_plan_69 : decode cX10_plan 69 = .ok (.getfield 42, 3) := by decide +kernel
theorem dX10_plan_72 : decode cX10_plan 72 = .ok (.getfield 122, 3) := by decide +kernel
theorem dX10_plan_75 : decode cX10_plan 75 = .ok (.getfield 229, 3) := by decide +kernel
theorem dX10_plan_78 : decode cX10_plan 78 = .ok (.iload_n 1, 1) := by decide +kernel
theorem dX10_plan_79 : decode cX10_plan 79 = .ok (.iaload, 1) := by decide +kernel
theorem dX10_plan_80 : decode cX10_plan 80 = .ok (.istore 4, 2) := by decide +kernel
theorem dX10_plan_82 : decode cX10_plan 82 = .ok (.aload_n 0, 1) := by decide +kernel
theorem dX10_plan_83 : decode cX10_plan 83 = .ok (.getfield 42, 3) := by decide +kernel
theorem dX10_plan_86 : decode cX10_plan 86 = .ok (.getfield 122, 3) := by decide +kernel
theorem dX10_plan_89 : decode cX10_plan 89 = .ok (.getfield 229, 3) := by decide +kernel
theorem dX10_plan_92 : decode cX10_plan 92 = .ok (.iload_n 1, 1) := by decide +kernel
theorem dX10_plan_93 : decode cX10_plan 93 = .ok (.iload_n 2, 1) := by decide +kernel
theorem dX10_plan_94 : decode cX10_plan 94 = .ok (.iastore, 1) := by decide +kernel
theorem dX10_plan_95 : decode cX10_plan 95 = .ok (.iload 4, 2) := by decide +kernel
theorem dX10_plan_97 : decode cX10_plan 97 = .ok (.ireturn, 1) := by decide +kernel
theorem dX10_undo_0 : decode cX10_undo 0 = .ok (.aload_n 0, 1) := by decide +kernel
theorem dX10_undo_1 : decode cX10_undo 1 = .ok (.getfield 42, 3) := by decide +kernel
theorem dX10_undo_4 : decode cX10_undo 4 = .ok (.getfield 143, 3) := by decide +kernel
theorem dX10_undo_7 : decode cX10_undo 7 = .ok (.getfield 147, 3) := by decide +kernel
theorem dX10_undo_10 : decode cX10_undo 10 = .ok (.ifCond .ne 5, 3) := by decide +kernel
theorem dX10_undo_13 : decode cX10_undo 13 = .ok (.iconst (-1), 1) := by decide +kernel
theorem dX10_undo_14 : decode cX10_undo 14 = .ok (.ireturn, 1) := by decide +kernel
theorem dX10_undo_15 : decode cX10_undo 15 = .ok (.aload_n 0, 1) := by decide +kernel
theorem dX10_undo_16 : decode cX10_undo 16 = .ok (.getfield 42, 3) := by decide +kernel
theorem dX10_undo_19 : decode cX10_undo 19 = .ok (.getfield 143, 3) := by decide +kernel
theorem dX10_undo_22 : decode cX10_undo 22 = .ok (.aload_n 0, 1) := by decide +kernel
theorem dX10_undo_23 : decode cX10_undo 23 = .ok (.getfield 42, 3) := by decide +kernel
theorem dX10_undo_26 : decode cX10_undo 26 = .ok (.getfield 122, 3) := by decide +kernel
theorem dX10_undo_29 : decode cX10_undo 29 = .ok (.invokevirtual 232, 3) := by decide +kernel
theorem dX10_undo_32 : decode cX10_undo 32 = .ok (.aload_n 0, 1) := by decide +kernel
theorem dX10_undo_33 : decode cX10_undo 33 = .ok (.getfield 42, 3) := by decide +kernel
theorem dX10_undo_36 : decode cX10_undo 36 = .ok (.getfield 143, 3) := by decide +kernel
theorem dX10_undo_39 : decode cX10_undo 39 = .ok (.getfield 147, 3) := by decide +kernel
theorem dX10_undo_42 : decode cX10_undo 42 = .ok (.ireturn, 1) := by decide +kernel
theorem dX10_then_0 : decode cX10_then 0 = .ok (.aload_n 0, 1) := by decide +kernel
theorem dX10_then_1 : decode cX10_then 1 = .ok (.iload_n 1, 1) := by decide +kernel
theorem dX10_then_2 : decode cX10_then 2 = .ok (.invokevirtual 162, 3) := by decide +kernel
theorem dX10_then_5 : decode cX10_then 5 = .ok (.iload_n 2, 1) := by decide +kernel
theorem dX10_then_6 : decode cX10_then 6 = .ok (.invokestatic 235, 3) := by decide +kernel
theorem dX10_then_9 : decode cX10_then 9 = .ok (.aload_n 0, 1) := by decide +kernel
theorem dX10_then_10 : decode cX10_then 10 = .ok (.iload_n 2, 1) := by decide +kernel
theorem dX10_then_11 : decode cX10_then 11 = .ok (.invokevirtual 238, 3) := by decide +kernel
theorem dX10_then_14 : decode cX10_then 14 = .ok (.aload_n 0, 1) := by decide +kernel
theorem dX10_then_15 : decode cX10_then 15 = .ok (.getfield 56, 3) := by decide +kernel
theorem dX10_then_18 : decode cX10_then 18 = .ok (.getfield 171, 3) := by decide +kernel
theorem dX10_then_21 : decode cX10_then 21 = .ok (.iload_n 1, 1) := by decide +kernel
theorem dX10_then_22 : decode cX10_then 22 = .ok (.iaload, 1) := by decide +kernel
theorem dX10_then_23 : decode cX10_then 23 = .ok (.ireturn, 1) := by decide +kernel
theorem dX10_taken_0 : decode cX10_taken 0 = .ok (.iload_n 1, 1) := by decide +kernel
theorem dX10_taken_1 : decode cX10_taken 1 = .ok (.invokestatic 235, 3) := by decide +kernel
theorem dX10_taken_4 : decode cX10_taken 4 = .ok (.aload_n 0, 1) := by decide +kernel
theorem dX10_taken_5 : decode cX10_taken 5 = .ok (.iload_n 1, 1) := by decide +kernel
theorem dX10_taken_6 : decode cX10_taken 6 = .ok (.invokevirtual 238, 3) := by decide +kernel
theorem dX10_taken_9 : decode cX10_taken 9 = .ok (.aload_n 0, 1) := by decide +kernel
theorem dX10_taken_10 : decode cX10_taken 10 = .ok (.getfield 56, 3) := by decide +kernel
theorem dX10_taken_13 : decode cX10_taken 13 = .ok (.getfield 134, 3) := by decide +kernel
theorem dX10_taken_16 : decode cX10_taken 16 = .ok (.aload_n 0, 1) := by decide +kernel
theorem dX10_taken_17 : decode cX10_taken 17 = .ok (.getfield 42, 3) := by decide +kernel
theorem dX10_taken_20 : decode cX10_taken 20 = .ok (.getfield 122, 3) := by decide +kernel
theorem dX10_taken_23 : decode cX10_taken 23 = .ok (.getfield 134, 3) := by decide +kernel
theorem dX10_taken_26 : decode cX10_taken 26 = .ok (.isub, 1) := by decide +kernel
theorem dX10_taken_27 : decode cX10_taken 27 = .ok (.ireturn, 1) := by decide +kernel
theorem dX10_thick_0 : decode cX10_thick 0 = .ok (.aload_n 0, 1) := by decide +kernel
theorem dX10_thick_1 : decode cX10_thick 1 = .ok (.iload_n 1, 1) := by decide +kernel
theorem dX10_thick_2 : decode cX10_thick 2 = .ok (.invokevirtual 162, 3) := by decide +kernel
theorem dX10_thick_5 : decode cX10_thick 5 = .ok (.iload_n 2, 1) := by decide +kernel
theorem dX10_thick_6 : decode cX10_thick 6 = .ok (.ifCond .lt 10, 3) := by decide +kernel
theorem dX10_thick_9 : decode cX10_thick 9 = .ok (.iload_n 2, 1) := by decide +kernel
theorem dX10_thick_10 : decode cX10_thick 10 = .ok (.sipush 9999, 3) := by decide +kernel
theorem dX10_thick_13 : decode cX10_thick 13 = .ok (.if_icmp .le 11, 3) := by decide +kernel
theorem dX10_thick_16 : decode cX10_thick 16 = .ok (.new 83, 3) := by decide +kernel
theorem dX10_thick_19 : decode cX10_thick 19 = .ok (.dup, 1) := by decide +kernel
theorem dX10_thick_20 : decode cX10_thick 20 = .ok (.invokespecial 85, 3) := by decide +kernel
theorem dX10_thick_23 : decode cX10_thick 23 = .ok (.athrow, 1) := by decide +kernel
theorem dX10_thick_24 : decode cX10_thick 24 = .ok (.aload_n 0, 1) := by decide +kernel
theorem dX10_thick_25 : decode cX10_thick 25 = .ok (.getfield 56, 3) := by decide +kernel
theorem dX10_thick_28 : decode cX10_thick 28 = .ok (.aload_n 0, 1) := by decide +kernel
theorem dX10_thick_29 : decode cX10_thick 29 = .ok (.getfield 42, 3) := by decide +kernel
theorem dX10_thick_32 : decode cX10_thick 32 = .ok (.getfield 122, 3) := by decide +kernel
theorem dX10_thick_35 : decode cX10_thick 35 = .ok (.invokevirtual 241, 3) := by decide +kernel
theorem dX10_thick_38 : decode cX10_thick 38 = .ok (.iconst 0, 1) := by decide +kernel
theorem dX10_thick_39 : decode cX10_thick 39 = .ok (.istore_n 3, 1) := by decide +kernel
theorem dX10_thick_40 : decode cX10_thick 40 = .ok (.iload_n 3, 1) := by decide +kernel
theorem dX10_thick_41 : decode cX10_thick 41 = .ok (.bipush 99, 2) := by decide +kernel
theorem dX10_thick_43 : decode cX10_thick 43 = .ok (.if_icmp .gt 36, 3) := by decide +kernel
theorem dX10_thick_46 : decode cX10_thick 46 = .ok (.aload_n 0, 1) := by decide +kernel
theorem dX10_thick_47 : decode cX10_thick 47 = .ok (.getfield 56, 3) := by decide +kernel
theorem dX10_thick_50 : decode cX10_thick 50 = .ok (.getfield 171, 3) := by decide +kernel
theorem dX10_thick_53 : decode cX10_thick 53 = .ok (.iload_n 1, 1) := by decide +kernel
theorem dX10_thick_54 : decode cX10_thick 54 = .ok (.iaload, 1) := by decide +kernel
theorem dX10_thick_55 : decode cX10_thick 55 = .ok (.iload_n 2, 1) := by decide +kernel
theorem dX10_thick_56 : decode cX10_thick 56 = .ok (.if_icmp .lt 5, 3) := by decide +kernel
theorem dX10_thick_59 : decode cX10_thick 59 = .ok (.iload_n 3, 1) := by decide +kernel
theorem dX10_thick_60 : decode cX10_thick 60 = .ok (.ireturn, 1) := by decide +kernel
theorem dX10_thick_61 : decode cX10_thick 61 = .ok (.aload_n 0, 1) := by decide +kernel
theorem dX10_thick_62 : decode cX10_thick 62 = .ok (.getfield 23, 3) := by decide +kernel
theorem dX10_thick_65 : decode cX10_thick 65 = .ok (.aload_n 0, 1) := by decide +kernel
theorem dX10_thick_66 : decode cX10_thick 66 = .ok (.getfield 56, 3) := by decide +kernel
theorem dX10_thick_69 : decode cX10_thick 69 = .ok (.iconst 1, 1) := by decide +kernel
theorem dX10_thick_70 : decode cX10_thick 70 = .ok (.invokestatic 214, 3) := by decide +kernel
theorem dX10_thick_73 : decode cX10_thick 73 = .ok (.iinc 3 1, 3) := by decide +kernel
theorem dX10_thick_76 : decode cX10_thick 76 = .ok (.goto (-36), 3) := by decide +kernel
theorem dX10_thick_79 : decode cX10_thick 79 = .ok (.iconst (-1), 1) := by decide +kernel
theorem dX10_thick_80 : decode cX10_thick 80 = .ok (.ireturn, 1) := by decide +kernel
theorem dX10_heresy_0 : decode cX10_heresy 0 = .ok (.aload_n 0, 1) := by decide +kernel
theorem dX10_heresy_1 : decode cX10_heresy 1 = .ok (.getfield 56, 3) := by decide +kernel
theorem dX10_heresy_4 : decode cX10_heresy 4 = .ok (.aload_n 0, 1) := by decide +kernel
theorem dX10_heresy_5 : decode cX10_heresy 5 = .ok (.getfield 42, 3) := by decide +kernel
theorem dX10_heresy_8 : decode cX10_heresy 8 = .ok (.getfield 122, 3) := by decide +kernel
theorem dX10_heresy_11 : decode cX10_heresy 11 = .ok (.invokevirtual 241, 3) := by decide +kernel
theorem dX10_heresy_14 : decode cX10_heresy 14 = .ok (.iconst 0, 1) := by decide +kernel
theorem dX10_heresy_15 : decode cX10_heresy 15 = .ok (.istore_n 1, 1) := by decide +kernel
theorem dX10_heresy_16 : decode cX10_heresy 16 = .ok (.iload_n 1, 1) := by decide +kernel
theorem dX10_heresy_17 : decode cX10_heresy 17 = .ok (.bipush 99, 2) := by decide +kernel
theorem dX10_heresy_19 : decode cX10_heresy 19 = .ok (.if_icmp .gt 37, 3) := by decide +kernel
theorem dX10_heresy_22 : decode cX10_heresy 22 = .ok (.aload_n 0, 1) := by decide +kernel
theorem dX10_heresy_23 : decode cX10_heresy 23 = .ok (.getfield 23, 3) := by decide +kernel
theorem dX10_heresy_26 : decode cX10_heresy 26 = .ok (.aload_n 0, 1) := by decide +kernel
theorem dX10_heresy_27 : decode cX10_heresy 27 = .ok (.getfield 56, 3) := by decide +kernel
theorem dX10_heresy_30 : decode cX10_heresy 30 = .ok (.invokestatic 140, 3) := by decide +kernel
theorem dX10_heresy_33 : decode cX10_heresy 33 = .ok (.ifCond .eq 5, 3) := by decide +kernel
theorem dX10_heresy_36 : decode cX10_heresy 36 = .ok (.iload_n 1, 1) := by decide +kernel
theorem dX10_heresy_37 : decode cX10_heresy 37 = .ok (.ireturn, 1) := by decide +kernel
theorem dX10_heresy_38 : decode cX10_heresy 38 = .ok (.aload_n 0, 1) := by decide +kernel
theorem dX10_heresy_39 : decode cX10_heresy 39 = .ok (.getfield 23, 3) := by decide +kernel
theorem dX10_heresy_42 : decode cX10_heresy 42 = .ok (.aload_n 0, 1) := by decide +kernel
theorem dX10_heresy_43 : decode cX10_heresy 43 = .ok (.getfield 56, 3) := by decide +kernel
theorem dX10_heresy_46 : decode cX10_heresy 46 = .ok (.iconst 1, 1) := by decide +kernel
theorem dX10_heresy_47 : decode cX10_heresy 47 = .ok (.invokestatic 214, 3) := by decide +kernel
theorem dX10_heresy_50 : decode cX10_heresy 50 = .ok (.iinc 1 1, 3) := by decide +kernel
theorem dX10_heresy_53 : decode cX10_heresy 53 = .ok (.goto (-37), 3) := by decide +kernel
theorem dX10_heresy_56 : decode cX10_heresy 56 = .ok (.iconst (-1), 1) := by decide +kernel
theorem dX10_heresy_57 : decode cX10_heresy 57 = .ok (.ireturn, 1) := by decide +kernel
theorem dX10_poorest_0 : decode cX10_poorest 0 = .ok (.iload_n 1, 1) := by decide +kernel
theorem dX10_poorest_1 : decode cX10_poorest 1 = .ok (.invokestatic 235, 3) := by decide +kernel
theorem dX10_poorest_4 : decode cX10_poorest 4 = .ok (.aload_n 0, 1) := by decide +kernel
theorem dX10_poorest_5 : decode cX10_poorest 5 = .ok (.iload_n 1, 1) := by decide +kernel
theorem dX10_poorest_6 : decode cX10_poorest 6 = .ok (.invokevirtual 238, 3) := by decide +kernel
theorem dX10_poorest_9 : decode cX10_poorest 9 = .ok (.iconst (-1), 1) := by decide +kernel
theorem dX10_poorest_10 : decode cX10_poorest 10 = .ok (.istore_n 2, 1) := by decide +kernel
theorem dX10_poorest_11 : decode cX10_poorest 11 = .ok (.iconst 0, 1) := by decide +kernel
theorem dX10_poorest_12 : decode cX10_poorest 12 = .ok (.istore_n 3, 1) := by decide +kernel
theorem dX10_poorest_13 : decode cX10_poorest 13 = .ok (.iload_n 3, 1) := by decide +kernel
theorem dX10_poorest_14 : decode cX10_poorest 14 = .ok (.aload_n 0, 1) := by decide +kernel
theorem dX10_poorest_15 : decode cX10_poorest 15 = .ok (.getfield 23, 3) := by decide +kernel
theorem dX10_poorest_18 : decode cX10_poorest 18 = .ok (.getfield 104, 3) := by decide +kernel
theorem dX10_poorest_21 : decode cX10_poorest 21 = .ok (.if_icmp .ge 37, 3) := by decide +kernel
theorem dX10_poorest_24 : decode cX10_poorest 24 = .ok (.iload_n 2, 1) := by decide +kernel
theorem dX10_poorest_25 : decode cX10_poorest 25 = .ok (.iconst (-1), 1) := by decide +kernel
theorem dX10_poorest_26 : decode cX10_poorest 26 = .ok (.if_icmp .eq 24, 3) := by decide +kernel
theorem dX10_poorest_29 : decode cX10_poorest 29 = .ok (.aload_n 0, 1) := by decide +kernel
theorem dX10_poorest_30 : decode cX10_poorest 30 = .ok (.getfield 56, 3) := by decide +kernel
theorem dX10_poorest_33 : decode cX10_poorest 33 = .ok (.getfield 171, 3) := by decide +kernel
theorem dX10_poorest_36 : decode cX10_poorest 36 = .ok (.iload_n 3, 1) := by decide +kernel
theorem dX10_poorest_37 : decode cX10_poorest 37 = .ok (.iaload, 1) := by decide +kernel
theorem dX10_poorest_38 : decode cX10_poorest 38 = .ok (.aload_n 0, 1) := by decide +kernel
theorem dX10_poorest_39 : decode cX10_poorest 39 = .ok (.getfield 56, 3) := by decide +kernel
theorem dX10_poorest_42 : decode cX10_poorest 42 = .ok (.getfield 171, 3) := by decide +kernel
theorem dX10_poorest_45 : decode cX10_poorest 45 = .ok (.iload_n 2, 1) := by decide +kernel
theorem dX10_poorest_46 : decode cX10_poorest 46 = .ok (.iaload, 1) := by decide +kernel
theorem dX10_poorest_47 : decode cX10_poorest 47 = .ok (.if_icmp .ge 5, 3) := by decide +kernel
theorem dX10_poorest_50 : decode cX10_poorest 50 = .ok (.iload_n 3, 1) := by decide +kernel
theorem dX10_poorest_51 : decode cX10_poorest 51 = .ok (.istore_n 2, 1) := by decide +kernel
theorem dX10_poorest_52 : decode cX10_poorest 52 = .ok (.iinc 3 1, 3) := by decide +kernel
theorem dX10_poorest_55 : decode cX10_poorest 55 = .ok (.goto (-42), 3) := by decide +kernel
theorem dX10_poorest_58 : decode cX10_poorest 58 = .ok (.iload_n 2, 1) := by decide +kernel
theorem dX10_poorest_59 : decode cX10_poorest 59 = .ok (.ireturn, 1) := by decide +kernel
theorem dX10_fullest_0 : decode cX10_fullest 0 = .ok (.iload_n 1, 1) := by decide +kernel
theorem dX10_fullest_1 : decode cX10_fullest 1 = .ok (.invokestatic 235, 3) := by decide +kernel
theorem dX10_fullest_4 : decode cX10_fullest 4 = .ok (.aload_n 0, 1) := by decide +kernel
theorem dX10_fullest_5 : decode cX10_fullest 5 = .ok (.getfield 56, 3) := by decide +kernel
theorem dX10_fullest_8 : decode cX10_fullest 8 = .ok (.aload_n 0, 1) := by decide +kernel
theorem dX10_fullest_9 : decode cX10_fullest 9 = .ok (.getfield 42, 3) := by decide +kernel
theorem dX10_fullest_12 : decode cX10_fullest 12 = .ok (.getfield 122, 3) := by decide +kernel
theorem dX10_fullest_15 : decode cX10_fullest 15 = .ok (.invokevirtual 241, 3) := by decide +kernel
theorem dX10_fullest_18 : decode cX10_fullest 18 = .ok (.iconst 0, 1) := by decide +kernel
theorem dX10_fullest_19 : decode cX10_fullest 19 = .ok (.istore_n 2, 1) := by decide +kernel
theorem dX10_fullest_20 : decode cX10_fullest 20 = .ok (.aload_n 0, 1) := by decide +kernel
theorem dX10_fullest_21 : decode cX10_fullest 21 = .ok (.getfield 23, 3) := by decide +kernel
theorem dX10_fullest_24 : decode cX10_fullest 24 = .ok (.aload_n 0, 1) := by decide +kernel
theorem dX10_fullest_25 : decode cX10_fullest 25 = .ok (.getfield 56, 3) := by decide +kernel
theorem dX10_fullest_28 : decode cX10_fullest 28 = .ok (.invokestatic 128, 3) := by decide +kernel
theorem dX10_fullest_31 : decode cX10_fullest 31 = .ok (.istore_n 3, 1) := by decide +kernel
theorem dX10_fullest_32 : decode cX10_fullest 32 = .ok (.iconst 1, 1) := by decide +kernel
theorem dX10_fullest_33 : decode cX10_fullest 33 = .ok (.istore 4, 2) := by decide +kernel
theorem dX10_fullest_35 : decode cX10_fullest 35 = .ok (.iload 4, 2) := by decide +kernel
theorem dX10_fullest_37 : decode cX10_fullest 37 = .ok (.iload_n 1, 1) := by decide +kernel
theorem dX10_fullest_38 : decode cX10_fullest 38 = .ok (.if_icmp .gt 46, 3) := by decide +kernel
theorem dX10_fullest_41 : decode cX10_fullest 41 = .ok (.aload_n 0, 1) := by decide +kernel
theorem dX10_fullest_42 : decode cX10_fullest 42 = .ok (.getfield 23, 3) := by decide +kernel
theorem dX10_fullest_45 : decode cX10_fullest 45 = .ok (.aload_n 0, 1) := by decide +kernel
theorem dX10_fullest_46 : decode cX10_fullest 46 = .ok (.getfield 56, 3) := by decide +kernel
theorem dX10_fullest_49 : decode cX10_fullest 49 = .ok (.iconst 1, 1) := by decide +kernel
theorem dX10_fullest_50 : decode cX10_fullest 50 = .ok (.invokestatic 214, 3) := by decide +kernel
theorem dX10_fullest_53 : decode cX10_fullest 53 = .ok (.aload_n 0, 1) := by decide +kernel
theorem dX10_fullest_54 : decode cX10_fullest 54 = .ok (.getfield 23, 3) := by decide +kernel
theorem dX10_fullest_57 : decode cX10_fullest 57 = .ok (.aload_n 0, 1) := by decide +kernel
theorem dX10_fullest_58 : decode cX10_fullest 58 = .ok (.getfield 56, 3) := by decide +kernel
theorem dX10_fullest_61 : decode cX10_fullest 61 = .ok (.invokestatic 128, 3) := by decide +kernel
theorem dX10_fullest_64 : decode cX10_fullest 64 = .ok (.istore 5, 2) := by decide +kernel
theorem dX10_fullest_66 : decode cX10_fullest 66 = .ok (.iload 5, 2) := by decide +kernel
theorem dX10_fullest_68 : decode cX10_fullest 68 = .ok (.iload_n 3, 1) := by decide +kernel
theorem dX10_fullest_69 : decode cX10_fullest 69 = .ok (.if_icmp .le 9, 3) := by decide +kernel
theorem dX10_fullest_72 : decode cX10_fullest 72 = .ok (.iload 5, 2) := by decide +kernel
theorem dX10_fullest_74 : decode cX10_fullest 74 = .ok (.istore_n 3, 1) := by decide +kernel
theorem dX10_fullest_75 : decode cX10_fullest 75 = .ok (.iload 4, 2) := by decide +kernel
theorem dX10_fullest_77 : decode cX10_fullest 77 = .ok (.istore_n 2, 1) := by decide +kernel
theorem dX10_fullest_78 : decode cX10_fullest 78 = .ok (.iinc 4 1, 3) := by decide +kernel
theorem dX10_fullest_81 : decode cX10_fullest 81 = .ok (.goto (-46), 3) := by decide +kernel
theorem dX10_fullest_84 : decode cX10_fullest 84 = .ok (.iload_n 2, 1) := by decide +kernel
theorem dX10_fullest_85 : decode cX10_fullest 85 = .ok (.ireturn, 1) := by decide +kernel
theorem dX10_change_0 : decode cX10_change 0 = .ok (.iload_n 1, 1) := by decide +kernel
theorem dX10_change_1 : decode cX10_change 1 = .ok (.invokestatic 235, 3) := by decide +kernel
theorem dX10_change_4 : decode cX10_change 4 = .ok (.aload_n 0, 1) := by decide +kernel
theorem dX10_change_5 : decode cX10_change 5 = .ok (.iload_n 1, 1) := by decide +kernel
theorem dX10_change_6 : decode cX10_change 6 = .ok (.invokevirtual 238, 3) := by decide +kernel
theorem dX10_change_9 : decode cX10_change 9 = .ok (.aload_n 0, 1) := by decide +kernel
theorem dX10_change_10 : decode cX10_change 10 = .ok (.getfield 56, 3) := by decide +kernel
theorem dX10_change_13 : decode cX10_change 13 = .ok (.getfield 134, 3) := by decide +kernel
theorem dX10_change_16 : decode cX10_change 16 = .ok (.istore_n 2, 1) := by decide +kernel
theorem dX10_change_17 : decode cX10_change 17 = .ok (.iconst (-1), 1) := by decide +kernel
theorem dX10_change_18 : decode cX10_change 18 = .ok (.istore_n 3, 1) := by decide +kernel
theorem dX10_change_19 : decode cX10_change 19 = .ok (.iconst 0, 1) := by decide +kernel
theorem dX10_change_20 : decode cX10_change 20 = .ok (.istore 4, 2) := by decide +kernel
theorem dX10_change_22 : decode cX10_change 22 = .ok (.iload 4, 2) := by decide +kernel
theorem dX10_change_24 : decode cX10_change 24 = .ok (.aload_n 0, 1) := by decide +kernel
theorem dX10_change_25 : decode cX10_change 25 = .ok (.getfield 23, 3) := by decide +kernel
theorem dX10_change_28 : decode cX10_change 28 = .ok (.getfield 113, 3) := by decide +kernel
theorem dX10_change_31 : decode cX10_change 31 = .ok (.if_icmp .ge 70, 3) := by decide +kernel
theorem dX10_change_34 : decode cX10_change 34 = .ok (.iload 4, 2) := by decide +kernel
theorem dX10_change_36 : decode cX10_change 36 = .ok (.iconst 1, 1) := by decide +kernel
theorem dX10_change_37 : decode cX10_change 37 = .ok (.iadd, 1) := by decide +kernel
theorem dX10_change_38 : decode cX10_change 38 = .ok (.istore 5, 2) := by decide +kernel
theorem dX10_change_40 : decode cX10_change 40 = .ok (.iload 5, 2) := by decide +kernel
theorem dX10_change_42 : decode cX10_change 42 = .ok (.aload_n 0, 1) := by decide +kernel
theorem dX10_change_43 : decode cX10_change 43 = .ok (.getfield 23, 3) := by decide +kernel
theorem dX10_change_46 : decode cX10_change 46 = .ok (.getfield 113, 3) := by decide +kernel
theorem dX10_change_49 : decode cX10_change 49 = .ok (.if_icmp .ge 46, 3) := by decide +kernel
theorem dX10_change_52 : decode cX10_change 52 = .ok (.aload_n 0, 1) := by decide +kernel
theorem dX10_change_53 : decode cX10_change 53 = .ok (.iload 4, 2) := by decide +kernel
theorem dX10_change_55 : decode cX10_change 55 = .ok (.iload 5, 2) := by decide +kernel
theorem dX10_change_57 : decode cX10_change 57 = .ok (.iload_n 1, 1) := by decide +kernel
theorem dX10_change_58 : decode cX10_change 58 = .ok (.invokevirtual 244, 3) := by decide +kernel
theorem dX10_change_61 : decode cX10_change 61 = .ok (.aload_n 0, 1) := by decide +kernel
theorem dX10_change_62 : decode cX10_change 62 = .ok (.getfield 56, 3) := by decide +kernel
theorem dX10_change_65 : decode cX10_change 65 = .ok (.getfield 134, 3) := by decide +kernel
theorem dX10_change_68 : decode cX10_change 68 = .ok (.iload_n 2, 1) := by decide +kernel
theorem dX10_change_69 : decode cX10_change 69 = .ok (.if_icmp .le 20, 3) := by decide +kernel
theorem dX10_change_72 : decode cX10_change 72 = .ok (.aload_n 0, 1) := by decide +kernel
theorem dX10_change_73 : decode cX10_change 73 = .ok (.getfield 56, 3) := by decide +kernel
theorem dX10_change_76 : decode cX10_change 76 = .ok (.getfield 134, 3) := by decide +kernel
theorem dX10_change_79 : decode cX10_change 79 = .ok (.istore_n 2, 1) := by decide +kernel
theorem dX10_change_80 : decode cX10_change 80 = .ok (.bipush 10, 2) := by decide +kernel
theorem dX10_change_82 : decode cX10_change 82 = .ok (.iload 4, 2) := by decide +kernel
theorem dX10_change_84 : decode cX10_change 84 = .ok (.imul, 1) := by decide +kernel
theorem dX10_change_85 : decode cX10_change 85 = .ok (.iload 5, 2) := by decide +kernel
theorem dX10_change_87 : decode cX10_change 87 = .ok (.iadd, 1) := by decide +kernel
theorem dX10_change_88 : decode cX10_change 88 = .ok (.istore_n 3, 1) := by decide +kernel
theorem dX10_change_89 : decode cX10_change 89 = .ok (.iinc 5 1, 3) := by decide +kernel
theorem dX10_change_92 : decode cX10_change 92 = .ok (.goto (-52), 3) := by decide +kernel
theorem dX10_change_95 : decode cX10_change 95 = .ok (.iinc 4 1, 3) := by decide +kernel
theorem dX10_change_98 : decode cX10_change 98 = .ok (.goto (-76), 3) := by decide +kernel
theorem dX10_change_101 : decode cX10_change 101 = .ok (.iload_n 3, 1) := by decide +kernel
theorem dX10_change_102 : decode cX10_change 102 = .ok (.ireturn, 1) := by decide +kernel
theorem dX10_tryChange_0 : decode cX10_tryChange 0 = .ok (.aload_n 0, 1) := by decide +kernel
theorem dX10_tryChange_1 : decode cX10_tryChange 1 = .ok (.getfield 56, 3) := by decide +kernel
theorem dX10_tryChange_4 : decode cX10_tryChange 4 = .ok (.aload_n 0, 1) := by decide +kernel
theorem dX10_tryChange_5 : decode cX10_tryChange 5 = .ok (.getfield 42, 3) := by decide +kernel
theorem dX10_tryChange_8 : decode cX10_tryChange 8 = .ok (.getfield 122, 3) := by decide +kernel
theorem dX10_tryChange_11 : decode cX10_tryChange 11 = .ok (.invokevirtual 241, 3) := by decide +kernel
theorem dX10_tryChange_14 : decode cX10_tryChange 14 = .ok (.aload_n 0, 1) := by decide +kernel
theorem dX10_tryChange_15 : decode cX10_tryChange 15 = .ok (.getfield 56, 3) := by decide +kernel
theorem dX10_tryChange_18 : decode cX10_tryChange 18 = .ok (.getfield 229, 3) := by decide +kernel
theorem dX10_tryChange_21 : decode cX10_tryChange 21 = .ok (.iload_n 1, 1) := by decide +kernel
theorem dX10_tryChange_22 : decode cX10_tryChange 22 = .ok (.iaload, 1) := by decide +kernel
theorem dX10_tryChange_23 : decode cX10_tryChange 23 = .ok (.istore 4, 2) := by decide +kernel
theorem dX10_tryChange_25 : decode cX10_tryChange 25 = .ok (.iload 4, 2) := by decide +kernel
theorem dX10_tryChange_27 : decode cX10_tryChange 27 = .ok (.aload_n 0, 1) := by decide +kernel
theorem dX10_tryChange_28 : decode cX10_tryChange 28 = .ok (.getfield 56, 3) := by decide +kernel
theorem dX10_tryChange_31 : decode cX10_tryChange 31 = .ok (.getfield 229, 3) := by decide +kernel
theorem dX10_tryChange_34 : decode cX10_tryChange 34 = .ok (.iload_n 2, 1) := by decide +kernel
theorem dX10_tryChange_35 : decode cX10_tryChange 35 = .ok (.iaload, 1) := by decide +kernel
theorem dX10_tryChange_36 : decode cX10_tryChange 36 = .ok (.if_icmp .eq 44, 3) := by decide +kernel
theorem dX10_tryChange_39 : decode cX10_tryChange 39 = .ok (.aload_n 0, 1) := by decide +kernel
theorem dX10_tryChange_40 : decode cX10_tryChange 40 = .ok (.getfield 56, 3) := by decide +kernel
theorem dX10_tryChange_43 : decode cX10_tryChange 43 = .ok (.getfield 229, 3) := by decide +kernel
theorem dX10_tryChange_46 : decode cX10_tryChange 46 = .ok (.iload_n 1, 1) := by decide +kernel
theorem dX10_tryChange_47 : decode cX10_tryChange 47 = .ok (.aload_n 0, 1) := by decide +kernel
theorem dX10_tryChange_48 : decode cX10_tryChange 48 = .ok (.getfield 56, 3) := by decide +kernel
theorem dX10_tryChange_51 : decode cX10_tryChange 51 = .ok (.getfield 229, 3) := by decide +kernel
theorem dX10_tryChange_54 : decode cX10_tryChange 54 = .ok (.iload_n 2, 1) := by decide +kernel
theorem dX10_tryChange_55 : decode cX10_tryChange 55 = .ok (.iaload, 1) := by decide +kernel
theorem dX10_tryChange_56 : decode cX10_tryChange 56 = .ok (.iastore, 1) := by decide +kernel
theorem dX10_tryChange_57 : decode cX10_tryChange 57 = .ok (.aload_n 0, 1) := by decide +kernel
theorem dX10_tryChange_58 : decode cX10_tryChange 58 = .ok (.getfield 56, 3) := by decide +kernel
theorem dX10_tryChange_61 : decode cX10_tryChange 61 = .ok (.getfield 229, 3) := by decide +kernel
theorem dX10_tryChange_64 : decode cX10_tryChange 64 = .ok (.iload_n 2, 1) := by decide +kernel
theorem dX10_tryChange_65 : decode cX10_tryChange 65 = .ok (.iload 4, 2) := by decide +kernel
theorem dX10_tryChange_67 : decode cX10_tryChange 67 = .ok (.iastore, 1) := by decide +kernel
theorem dX10_tryChange_68 : decode cX10_tryChange 68 = .ok (.aload_n 0, 1) := by decide +kernel
theorem dX10_tryChange_69 : decode cX10_tryChange 69 = .ok (.getfield 23, 3) := by decide +kernel
theorem dX10_tryChange_72 : decode cX10_tryChange 72 = .ok (.aload_n 0, 1) := by decide +kernel
theorem dX10_tryChange_73 : decode cX10_tryChange 73 = .ok (.getfield 56, 3) := by decide +kernel
theorem dX10_tryChange_76 : decode cX10_tryChange 76 = .ok (.iload_n 3, 1) := by decide +kernel
theorem dX10_tryChange_77 : decode cX10_tryChange 77 = .ok (.invokestatic 214, 3) := by decide +kernel
theorem dX10_tryChange_80 : decode cX10_tryChange 80 = .ok (.return_, 1) := by decide +kernel
theorem dX10_often_0 : decode cX10_often 0 = .ok (.iload_n 1, 1) := by decide +kernel
theorem dX10_often_1 : decode cX10_often 1 = .ok (.invokestatic 235, 3) := by decide +kernel
theorem dX10_often_4 : decode cX10_often 4 = .ok (.iconst 1, 1) := by decide +kernel
theorem dX10_often_5 : decode cX10_often 5 = .ok (.istore_n 2, 1) := by decide +kernel
theorem dX10_often_6 : decode cX10_often 6 = .ok (.iconst (-1), 1) := by decide +kernel
theorem dX10_often_7 : decode cX10_often 7 = .ok (.istore_n 3, 1) := by decide +kernel
theorem dX10_often_8 : decode cX10_often 8 = .ok (.iconst 1, 1) := by decide +kernel
theorem dX10_often_9 : decode cX10_often 9 = .ok (.istore 4, 2) := by decide +kernel
theorem dX10_often_11 : decode cX10_often 11 = .ok (.iload 4, 2) := by decide +kernel
theorem dX10_often_13 : decode cX10_often 13 = .ok (.bipush 30, 2) := by decide +kernel
theorem dX10_often_15 : decode cX10_often 15 = .ok (.if_icmp .gt 91, 3) := by decide +kernel
theorem dX10_often_18 : decode cX10_often 18 = .ok (.aload_n 0, 1) := by decide +kernel
theorem dX10_often_19 : decode cX10_often 19 = .ok (.getfield 56, 3) := by decide +kernel
theorem dX10_often_22 : decode cX10_often 22 = .ok (.aload_n 0, 1) := by decide +kernel
theorem dX10_often_23 : decode cX10_often 23 = .ok (.getfield 42, 3) := by decide +kernel
theorem dX10_often_26 : decode cX10_often 26 = .ok (.getfield 122, 3) := by decide +kernel
theorem dX10_often_29 : decode cX10_often 29 = .ok (.invokevirtual 241, 3) := by decide +kernel
theorem dX10_often_32 : decode cX10_often 32 = .ok (.iconst 0, 1) := by decide +kernel
theorem dX10_often_33 : decode cX10_often 33 = .ok (.istore 5, 2) := by decide +kernel
theorem dX10_often_35 : decode cX10_often 35 = .ok (.iload 5, 2) := by decide +kernel
theorem dX10_often_37 : decode cX10_often 37 = .ok (.iload_n 1, 1) := by decide +kernel
theorem dX10_often_38 : decode cX10_often 38 = .ok (.if_icmp .ge 40, 3) := by decide +kernel
theorem dX10_often_41 : decode cX10_often 41 = .ok (.aload_n 0, 1) := by decide +kernel
theorem dX10_often_42 : decode cX10_often 42 = .ok (.getfield 23, 3) := by decide +kernel
theorem dX10_often_45 : decode cX10_often 45 = .ok (.aload_n 0, 1) := by decide +kernel
theorem dX10_often_46 : decode cX10_often 46 = .ok (.getfield 56, 3) := by decide +kernel
theorem dX10_often_49 : decode cX10_often 49 = .ok (.aload_n 0, 1) := by decide +kernel
theorem dX10_often_50 : decode cX10_often 50 = .ok (.getfield 23, 3) := by decide +kernel
theorem dX10_often_53 : decode cX10_often 53 = .ok (.aload_n 0, 1) := by decide +kernel
theorem dX10_often_54 : decode cX10_often 54 = .ok (.getfield 56, 3) := by decide +kernel
theorem dX10_often_57 : decode cX10_often 57 = .ok (.aload_n 0, 1) := by decide +kernel
theorem dX10_often_58 : decode cX10_often 58 = .ok (.getfield 56, 3) := by decide +kernel
theorem dX10_often_61 : decode cX10_often 61 = .ok (.getfield 125, 3) := by decide +kernel
theorem dX10_often_64 : decode cX10_often 64 = .ok (.invokestatic 204, 3) := by decide +kernel
theorem dX10_often_67 : decode cX10_often 67 = .ok (.iload 4, 2) := by decide +kernel
theorem dX10_often_69 : decode cX10_often 69 = .ok (.invokestatic 247, 3) := by decide +kernel
theorem dX10_often_72 : decode cX10_often 72 = .ok (.iinc 5 1, 3) := by decide +kernel
theorem dX10_often_75 : decode cX10_often 75 = .ok (.goto (-40), 3) := by decide +kernel
theorem dX10_often_78 : decode cX10_often 78 = .ok (.aload_n 0, 1) := by decide +kernel
theorem dX10_often_79 : decode cX10_often 79 = .ok (.getfield 56, 3) := by decide +kernel
theorem dX10_often_82 : decode cX10_often 82 = .ok (.getfield 134, 3) := by decide +kernel
theorem dX10_often_85 : decode cX10_often 85 = .ok (.iload_n 3, 1) := by decide +kernel
theorem dX10_often_86 : decode cX10_often 86 = .ok (.if_icmp .le 14, 3) := by decide +kernel
theorem dX10_often_89 : decode cX10_often 89 = .ok (.aload_n 0, 1) := by decide +kernel
theorem dX10_often_90 : decode cX10_often 90 = .ok (.getfield 56, 3) := by decide +kernel
theorem dX10_often_93 : decode cX10_often 93 = .ok (.getfield 134, 3) := by decide +kernel
theorem dX10_often_96 : decode cX10_often 96 = .ok (.istore_n 3, 1) := by decide +kernel
theorem dX10_often_97 : decode cX10_often 97 = .ok (.iload 4, 2) := by decide +kernel
theorem dX10_often_99 : decode cX10_often 99 = .ok (.istore_n 2, 1) := by decide +kernel
theorem dX10_often_100 : decode cX10_often 100 = .ok (.iinc 4 1, 3) := by decide +kernel
theorem dX10_often_103 : decode cX10_often 103 = .ok (.goto (-92), 3) := by decide +kernel
theorem dX10_often_106 : decode cX10_often 106 = .ok (.iload_n 2, 1) := by decide +kernel
theorem dX10_often_107 : decode cX10_often 107 = .ok (.ireturn, 1) := by decide +kernel
theorem dX10_lost_0 : decode cX10_lost 0 = .ok (.iload_n 1, 1) := by decide +kernel
theorem dX10_lost_1 : decode cX10_lost 1 = .ok (.invokestatic 235, 3) := by decide +kernel
theorem dX10_lost_4 : decode cX10_lost 4 = .ok (.aload_n 0, 1) := by decide +kernel
theorem dX10_lost_5 : decode cX10_lost 5 = .ok (.iload_n 1, 1) := by decide +kernel
theorem dX10_lost_6 : decode cX10_lost 6 = .ok (.invokevirtual 238, 3) := by decide +kernel
theorem dX10_lost_9 : decode cX10_lost 9 = .ok (.iconst 0, 1) := by decide +kernel
theorem dX10_lost_10 : decode cX10_lost 10 = .ok (.istore_n 2, 1) := by decide +kernel
theorem dX10_lost_11 : decode cX10_lost 11 = .ok (.iconst 0, 1) := by decide +kernel
theorem dX10_lost_12 : decode cX10_lost 12 = .ok (.istore_n 3, 1) := by decide +kernel
theorem dX10_lost_13 : decode cX10_lost 13 = .ok (.iload_n 3, 1) := by decide +kernel
theorem dX10_lost_14 : decode cX10_lost 14 = .ok (.aload_n 0, 1) := by decide +kernel
theorem dX10_lost_15 : decode cX10_lost 15 = .ok (.getfield 23, 3) := by decide +kernel
theorem dX10_lost_18 : decode cX10_lost 18 = .ok (.getfield 104, 3) := by decide +kernel
theorem dX10_lost_21 : decode cX10_lost 21 = .ok (.if_icmp .ge 22, 3) := by decide +kernel
theorem dX10_lost_24 : decode cX10_lost 24 = .ok (.iload_n 2, 1) := by decide +kernel
theorem dX10_lost_25 : decode cX10_lost 25 = .ok (.aload_n 0, 1) := by decide +kernel
theorem dX10_lost_26 : decode cX10_lost 26 = .ok (.getfield 23, 3) := by decide +kernel
theorem dX10_lost_29 : decode cX10_lost 29 = .ok (.iload_n 3, 1) := by decide +kernel
theorem dX10_lost_30 : decode cX10_lost 30 = .ok (.invokevirtual 251, 3) := by decide +kernel
theorem dX10_lost_33 : decode cX10_lost 33 = .ok (.iload_n 1, 1) := by decide +kernel
theorem dX10_lost_34 : decode cX10_lost 34 = .ok (.imul, 1) := by decide +kernel
theorem dX10_lost_35 : decode cX10_lost 35 = .ok (.iadd, 1) := by decide +kernel
theorem dX10_lost_36 : decode cX10_lost 36 = .ok (.istore_n 2, 1) := by decide +kernel
theorem dX10_lost_37 : decode cX10_lost 37 = .ok (.iinc 3 1, 3) := by decide +kernel
theorem dX10_lost_40 : decode cX10_lost 40 = .ok (.goto (-27), 3) := by decide +kernel
theorem dX10_lost_43 : decode cX10_lost 43 = .ok (.aload_n 0, 1) := by decide +kernel
theorem dX10_lost_44 : decode cX10_lost 44 = .ok (.getfield 23, 3) := by decide +kernel
theorem dX10_lost_47 : decode cX10_lost 47 = .ok (.aload_n 0, 1) := by decide +kernel
theorem dX10_lost_48 : decode cX10_lost 48 = .ok (.getfield 56, 3) := by decide +kernel
theorem dX10_lost_51 : decode cX10_lost 51 = .ok (.invokestatic 128, 3) := by decide +kernel
theorem dX10_lost_54 : decode cX10_lost 54 = .ok (.aload_n 0, 1) := by decide +kernel
theorem dX10_lost_55 : decode cX10_lost 55 = .ok (.getfield 23, 3) := by decide +kernel
theorem dX10_lost_58 : decode cX10_lost 58 = .ok (.aload_n 0, 1) := by decide +kernel
theorem dX10_lost_59 : decode cX10_lost 59 = .ok (.getfield 42, 3) := by decide +kernel
theorem dX10_lost_62 : decode cX10_lost 62 = .ok (.getfield 122, 3) := by decide +kernel
theorem dX10_lost_65 : decode cX10_lost 65 = .ok (.invokestatic 128, 3) := by decide +kernel
theorem dX10_lost_68 : decode cX10_lost 68 = .ok (.isub, 1) := by decide +kernel
theorem dX10_lost_69 : decode cX10_lost 69 = .ok (.istore_n 3, 1) := by decide +kernel
theorem dX10_lost_70 : decode cX10_lost 70 = .ok (.iload_n 2, 1) := by decide +kernel
theorem dX10_lost_71 : decode cX10_lost 71 = .ok (.iload_n 3, 1) := by decide +kernel
theorem dX10_lost_72 : decode cX10_lost 72 = .ok (.isub, 1) := by decide +kernel
theorem dX10_lost_73 : decode cX10_lost 73 = .ok (.aload_n 0, 1) := by decide +kernel
theorem dX10_lost_74 : decode cX10_lost 74 = .ok (.getfield 56, 3) := by decide +kernel
theorem dX10_lost_77 : decode cX10_lost 77 = .ok (.getfield 134, 3) := by decide +kernel
theorem dX10_lost_80 : decode cX10_lost 80 = .ok (.aload_n 0, 1) := by decide +kernel
theorem dX10_lost_81 : decode cX10_lost 81 = .ok (.getfield 42, 3) := by decide +kernel
theorem dX10_lost_84 : decode cX10_lost 84 = .ok (.getfield 122, 3) := by decide +kernel
theorem dX10_lost_87 : decode cX10_lost 87 = .ok (.getfield 134, 3) := by decide +kernel
theorem dX10_lost_90 : decode cX10_lost 90 = .ok (.isub, 1) := by decide +kernel
theorem dX10_lost_91 : decode cX10_lost 91 = .ok (.isub, 1) := by decide +kernel
theorem dX10_lost_92 : decode cX10_lost 92 = .ok (.ireturn, 1) := by decide +kernel
theorem dX10_order_0 : decode cX10_order 0 = .ok (.aload_n 0, 1) := by decide +kernel
theorem dX10_order_1 : decode cX10_order 1 = .ok (.iload_n 1, 1) := by decide +kernel
theorem dX10_order_2 : decode cX10_order 2 = .ok (.invokevirtual 162, 3) := by decide +kernel
theorem dX10_order_5 : decode cX10_order 5 = .ok (.iload_n 2, 1) := by decide +kernel
theorem dX10_order_6 : decode cX10_order 6 = .ok (.iconst (-1), 1) := by decide +kernel
theorem dX10_order_7 : decode cX10_order 7 = .ok (.if_icmp .eq 26, 3) := by decide +kernel
theorem dX10_order_10 : decode cX10_order 10 = .ok (.iload_n 2, 1) := by decide +kernel
theorem dX10_order_11 : decode cX10_order 11 = .ok (.ifCond .lt 14, 3) := by decide +kernel
theorem dX10_order_14 : decode cX10_order 14 = .ok (.iload_n 2, 1) := by decide +kernel
theorem dX10_order_15 : decode cX10_order 15 = .ok (.aload_n 0, 1) := by decide +kernel
theorem dX10_order_16 : decode cX10_order 16 = .ok (.getfield 23, 3) := by decide +kernel
theorem dX10_order_19 : decode cX10_order 19 = .ok (.getfield 110, 3) := by decide +kernel
theorem dX10_order_22 : decode cX10_order 22 = .ok (.if_icmp .lt 11, 3) := by decide +kernel
theorem dX10_order_25 : decode cX10_order 25 = .ok (.new 159, 3) := by decide +kernel
theorem dX10_order_28 : decode cX10_order 28 = .ok (.dup, 1) := by decide +kernel
theorem dX10_order_29 : decode cX10_order 29 = .ok (.invokespecial 161, 3) := by decide +kernel
theorem dX10_order_32 : decode cX10_order 32 = .ok (.athrow, 1) := by decide +kernel
theorem dX10_order_33 : decode cX10_order 33 = .ok (.aload_n 0, 1) := by decide +kernel
theorem dX10_order_34 : decode cX10_order 34 = .ok (.iload_n 1, 1) := by decide +kernel
theorem dX10_order_35 : decode cX10_order 35 = .ok (.invokevirtual 254, 3) := by decide +kernel
theorem dX10_order_38 : decode cX10_order 38 = .ok (.istore_n 3, 1) := by decide +kernel
theorem dX10_order_39 : decode cX10_order 39 = .ok (.iload_n 2, 1) := by decide +kernel
theorem dX10_order_40 : decode cX10_order 40 = .ok (.iconst (-1), 1) := by decide +kernel
theorem dX10_order_41 : decode cX10_order 41 = .ok (.if_icmp .ne 7, 3) := by decide +kernel
theorem dX10_order_44 : decode cX10_order 44 = .ok (.iload_n 3, 1) := by decide +kernel
theorem dX10_order_45 : decode cX10_order 45 = .ok (.goto 9, 3) := by decide +kernel
theorem dX10_order_48 : decode cX10_order 48 = .ok (.aload_n 0, 1) := by decide +kernel
theorem dX10_order_49 : decode cX10_order 49 = .ok (.getfield 64, 3) := by decide +kernel
theorem dX10_order_52 : decode cX10_order 52 = .ok (.iload_n 2, 1) := by decide +kernel
theorem dX10_order_53 : decode cX10_order 53 = .ok (.iaload, 1) := by decide +kernel
theorem dX10_order_54 : decode cX10_order 54 = .ok (.ireturn, 1) := by decide +kernel
theorem dX10_findOrder_0 : decode cX10_findOrder 0 = .ok (.aload_n 0, 1) := by decide +kernel
theorem dX10_findOrder_1 : decode cX10_findOrder 1 = .ok (.getfield 23, 3) := by decide +kernel
theorem dX10_findOrder_4 : decode cX10_findOrder 4 = .ok (.getfield 110, 3) := by decide +kernel
theorem dX10_findOrder_7 : decode cX10_findOrder 7 = .ok (.istore_n 2, 1) := by decide +kernel
theorem dX10_findOrder_8 : decode cX10_findOrder 8 = .ok (.iconst 0, 1) := by decide +kernel
theorem dX10_findOrder_9 : decode cX10_findOrder 9 = .ok (.istore_n 3, 1) := by decide +kernel
theorem dX10_findOrder_10 : decode cX10_findOrder 10 = .ok (.iload_n 3, 1) := by decide +kernel
theorem dX10_findOrder_11 : decode cX10_findOrder 11 = .ok (.iload_n 2, 1) := by decide +kernel
theorem dX10_findOrder_12 : decode cX10_findOrder 12 = .ok (.if_icmp .ge 16, 3) := by decide +kernel
theorem dX10_findOrder_15 : decode cX10_findOrder 15 = .ok (.aload_n 0, 1) := by decide +kernel
theorem dX10_findOrder_16 : decode cX10_findOrder 16 = .ok (.getfield 60, 3) := by decide +kernel
theorem dX10_findOrder_19 : decode cX10_findOrder 19 = .ok (.iload_n 3, 1) := by decide +kernel
theorem dX10_findOrder_20 : decode cX10_findOrder 20 = .ok (.iload_n 3, 1) := by decide +kernel
theorem dX10_findOrder_21 : decode cX10_findOrder 21 = .ok (.iastore, 1) := by decide +kernel
theorem dX10_findOrder_22 : decode cX10_findOrder 22 = .ok (.iinc 3 1, 3) := by decide +kernel
theorem dX10_findOrder_25 : decode cX10_findOrder 25 = .ok (.goto (-15), 3) := by decide +kernel
theorem dX10_findOrder_28 : decode cX10_findOrder 28 = .ok (.iconst (-1), 1) := by decide +kernel
theorem dX10_findOrder_29 : decode cX10_findOrder 29 = .ok (.istore_n 3, 1) := by decide +kernel
theorem dX10_findOrder_30 : decode cX10_findOrder 30 = .ok (.iconst 0, 1) := by decide +kernel
theorem dX10_findOrder_31 : decode cX10_findOrder 31 = .ok (.istore 4, 2) := by decide +kernel
theorem dX10_findOrder_33 : decode cX10_findOrder 33 = .ok (.iload 4, 2) := by decide +kernel
theorem dX10_findOrder_35 : decode cX10_findOrder 35 = .ok (.bipush 120, 2) := by decide +kernel
theorem dX10_findOrder_37 : decode cX10_findOrder 37 = .ok (.if_icmp .ge 114, 3) := by decide +kernel
theorem dX10_findOrder_40 : decode cX10_findOrder 40 = .ok (.aload_n 0, 1) := by decide +kernel
theorem dX10_findOrder_41 : decode cX10_findOrder 41 = .ok (.getfield 56, 3) := by decide +kernel
theorem dX10_findOrder_44 : decode cX10_findOrder 44 = .ok (.aload_n 0, 1) := by decide +kernel
theorem dX10_findOrder_45 : decode cX10_findOrder 45 = .ok (.getfield 42, 3) := by decide +kernel
theorem dX10_findOrder_48 : decode cX10_findOrder 48 = .ok (.getfield 122, 3) := by decide +kernel
theorem dX10_findOrder_51 : decode cX10_findOrder 51 = .ok (.invokevirtual 241, 3) := by decide +kernel
theorem dX10_findOrder_54 : decode cX10_findOrder 54 = .ok (.iconst 0, 1) := by decide +kernel
theorem dX10_findOrder_55 : decode cX10_findOrder 55 = .ok (.istore 5, 2) := by decide +kernel
theorem dX10_findOrder_57 : decode cX10_findOrder 57 = .ok (.iload 5, 2) := by decide +kernel
theorem dX10_findOrder_59 : decode cX10_findOrder 59 = .ok (.iload_n 2, 1) := by decide +kernel
theorem dX10_findOrder_60 : decode cX10_findOrder 60 = .ok (.if_icmp .ge 34, 3) := by decide +kernel
theorem dX10_findOrder_63 : decode cX10_findOrder 63 = .ok (.aload_n 0, 1) := by decide +kernel
theorem dX10_findOrder_64 : decode cX10_findOrder 64 = .ok (.getfield 23, 3) := by decide +kernel
theorem dX10_findOrder_67 : decode cX10_findOrder 67 = .ok (.aload_n 0, 1) := by decide +kernel
theorem dX10_findOrder_68 : decode cX10_findOrder 68 = .ok (.getfield 56, 3) := by decide +kernel
theorem dX10_findOrder_71 : decode cX10_findOrder 71 = .ok (.aload_n 0, 1) := by decide +kernel
theorem dX10_findOrder_72 : decode cX10_findOrder 72 = .ok (.getfield 60, 3) := by decide +kernel
theorem dX10_findOrder_75 : decode cX10_findOrder 75 = .ok (.iload 5, 2) := by decide +kernel
theorem dX10_findOrder_77 : decode cX10_findOrder 77 = .ok (.iaload, 1) := by decide +kernel
theorem dX10_findOrder_78 : decode cX10_findOrder 78 = .ok (.aload_n 0, 1) := by decide +kernel
theorem dX10_findOrder_79 : decode cX10_findOrder 79 = .ok (.getfield 23, 3) := by decide +kernel
theorem dX10_findOrder_82 : decode cX10_findOrder 82 = .ok (.getfield 116, 3) := by decide +kernel
theorem dX10_findOrder_85 : decode cX10_findOrder 85 = .ok (.invokestatic 247, 3) := by decide +kernel
theorem dX10_findOrder_88 : decode cX10_findOrder 88 = .ok (.iinc 5 1, 3) := by decide +kernel
theorem dX10_findOrder_91 : decode cX10_findOrder 91 = .ok (.goto (-34), 3) := by decide +kernel
theorem dX10_findOrder_94 : decode cX10_findOrder 94 = .ok (.aload_n 0, 1) := by decide +kernel
theorem dX10_findOrder_95 : decode cX10_findOrder 95 = .ok (.getfield 56, 3) := by decide +kernel
theorem dX10_findOrder_98 : decode cX10_findOrder 98 = .ok (.getfield 171, 3) := by decide +kernel
theorem dX10_findOrder_101 : decode cX10_findOrder 101 = .ok (.iload_n 1, 1) := by decide +kernel
theorem dX10_findOrder_102 : decode cX10_findOrder 102 = .ok (.iaload, 1) := by decide +kernel
theorem dX10_findOrder_103 : decode cX10_findOrder 103 = .ok (.iload_n 3, 1) := by decide +kernel
theorem dX10_findOrder_104 : decode cX10_findOrder 104 = .ok (.if_icmp .le 27, 3) := by decide +kernel
theorem dX10_findOrder_107 : decode cX10_findOrder 107 = .ok (.aload_n 0, 1) := by decide +kernel
theorem dX10_findOrder_108 : decode cX10_findOrder 108 = .ok (.getfield 56, 3) := by decide +kernel
theorem dX10_findOrder_111 : decode cX10_findOrder 111 = .ok (.getfield 171, 3) := by decide +kernel
theorem dX10_findOrder_114 : decode cX10_findOrder 114 = .ok (.iload_n 1, 1) := by decide +kernel
theorem dX10_findOrder_115 : decode cX10_findOrder 115 = .ok (.iaload, 1) := by decide +kernel
theorem dX10_findOrder_116 : decode cX10_findOrder 116 = .ok (.istore_n 3, 1) := by decide +kernel
theorem dX10_findOrder_117 : decode cX10_findOrder 117 = .ok (.aload_n 0, 1) := by decide +kernel
theorem dX10_findOrder_118 : decode cX10_findOrder 118 = .ok (.getfield 60, 3) := by decide +kernel
theorem dX10_findOrder_121 : decode cX10_findOrder 121 = .ok (.iconst 0, 1) := by decide +kernel
theorem dX10_findOrder_122 : decode cX10_findOrder 122 = .ok (.aload_n 0, 1) := by decide +kernel
theorem dX10_findOrder_123 : decode cX10_findOrder 123 = .ok (.getfield 64, 3) := by decide +kernel
theorem dX10_findOrder_126 : decode cX10_findOrder 126 = .ok (.iconst 0, 1) := by decide +kernel
theorem dX10_findOrder_127 : decode cX10_findOrder 127 = .ok (.iconst 5, 1) := by decide +kernel
theorem dX10_findOrder_128 : decode cX10_findOrder 128 = .ok (.invokestatic 257, 3) := by decide +kernel
theorem dX10_findOrder_131 : decode cX10_findOrder 131 = .ok (.aload_n 0, 1) := by decide +kernel
theorem dX10_findOrder_132 : decode cX10_findOrder 132 = .ok (.getfield 60, 3) := by decide +kernel
theorem dX10_findOrder_135 : decode cX10_findOrder 135 = .ok (.iload_n 2, 1) := by decide +kernel
theorem dX10_findOrder_136 : decode cX10_findOrder 136 = .ok (.invokestatic 263, 3) := by decide +kernel
theorem dX10_findOrder_139 : decode cX10_findOrder 139 = .ok (.ifCond .ne 6, 3) := by decide +kernel
theorem dX10_findOrder_142 : decode cX10_findOrder 142 = .ok (.goto 9, 3) := by decide +kernel
theorem dX10_findOrder_145 : decode cX10_findOrder 145 = .ok (.iinc 4 1, 3) := by decide +kernel
theorem dX10_findOrder_148 : decode cX10_findOrder 148 = .ok (.goto (-115), 3) := by decide +kernel
theorem dX10_findOrder_151 : decode cX10_findOrder 151 = .ok (.iload_n 3, 1) := by decide +kernel
theorem dX10_findOrder_152 : decode cX10_findOrder 152 = .ok (.ireturn, 1) := by decide +kernel
theorem dX10_nextRow_0 : decode cX10_nextRow 0 = .ok (.iload_n 1, 1) := by decide +kernel
theorem dX10_nextRow_1 : decode cX10_nextRow 1 = .ok (.iconst 2, 1) := by decide +kernel
theorem dX10_nextRow_2 : decode cX10_nextRow 2 = .ok (.isub, 1) := by decide +kernel
theorem dX10_nextRow_3 : decode cX10_nextRow 3 = .ok (.istore_n 2, 1) := by decide +kernel
theorem dX10_nextRow_4 : decode cX10_nextRow 4 = .ok (.iload_n 2, 1) := by decide +kernel
theorem dX10_nextRow_5 : decode cX10_nextRow 5 = .ok (.ifCond .lt 20, 3) := by decide +kernel
theorem dX10_nextRow_8 : decode cX10_nextRow 8 = .ok (.aload_n 0, 1) := by decide +kernel
theorem dX10_nextRow_9 : decode cX10_nextRow 9 = .ok (.iload_n 2, 1) := by decide +kernel
theorem dX10_nextRow_10 : decode cX10_nextRow 10 = .ok (.iaload, 1) := by decide +kernel
theorem dX10_nextRow_11 : decode cX10_nextRow 11 = .ok (.aload_n 0, 1) := by decide +kernel
theorem dX10_nextRow_12 : decode cX10_nextRow 12 = .ok (.iload_n 2, 1) := by decide +kernel
theorem dX10_nextRow_13 : decode cX10_nextRow 13 = .ok (.iconst 1, 1) := by decide +kernel
theorem dX10_nextRow_14 : decode cX10_nextRow 14 = .ok (.iadd, 1) := by decide +kernel
theorem dX10_nextRow_15 : decode cX10_nextRow 15 = .ok (.iaload, 1) := by decide +kernel
theorem dX10_nextRow_16 : decode cX10_nextRow 16 = .ok (.if_icmp .le 9, 3) := by decide +kernel
theorem dX10_nextRow_19 : decode cX10_nextRow 19 = .ok (.iinc 2 (-1), 3) := by decide +kernel
theorem dX10_nextRow_22 : decode cX10_nextRow 22 = .ok (.goto (-18), 3) := by decide +kernel
theorem dX10_nextRow_25 : decode cX10_nextRow 25 = .ok (.iload_n 2, 1) := by decide +kernel
theorem dX10_nextRow_26 : decode cX10_nextRow 26 = .ok (.ifCond .ge 5, 3) := by decide +kernel
theorem dX10_nextRow_29 : decode cX10_nextRow 29 = .ok (.iconst 0, 1) := by decide +kernel
theorem dX10_nextRow_30 : decode cX10_nextRow 30 = .ok (.ireturn, 1) := by decide +kernel
theorem dX10_nextRow_31 : decode cX10_nextRow 31 = .ok (.iload_n 1, 1) := by decide +kernel
theorem dX10_nextRow_32 : decode cX10_nextRow 32 = .ok (.iconst 1, 1) := by decide +kernel
theorem dX10_nextRow_33 : decode cX10_nextRow 33 = .ok (.isub, 1) := by decide +kernel
theorem dX10_nextRow_34 : decode cX10_nextRow 34 = .ok (.istore_n 3, 1) := by decide +kernel
theorem dX10_nextRow_35 : decode cX10_nextRow 35 = .ok (.iload_n 3, 1) := by decide +kernel
theorem dX10_nextRow_36 : decode cX10_nextRow 36 = .ok (.iload_n 2, 1) := by decide +kernel
theorem dX10_nextRow_37 : decode cX10_nextRow 37 = .ok (.if_icmp .le 18, 3) := by decide +kernel
theorem dX10_nextRow_40 : decode cX10_nextRow 40 = .ok (.aload_n 0, 1) := by decide +kernel
theorem dX10_nextRow_41 : decode cX10_nextRow 41 = .ok (.iload_n 3, 1) := by decide +kernel
theorem dX10_nextRow_42 : decode cX10_nextRow 42 = .ok (.iaload, 1) := by decide +kernel
theorem dX10_nextRow_43 : decode cX10_nextRow 43 = .ok (.aload_n 0, 1) := by decide +kernel
theorem dX10_nextRow_44 : decode cX10_nextRow 44 = .ok (.iload_n 2, 1) := by decide +kernel
theorem dX10_nextRow_45 : decode cX10_nextRow 45 = .ok (.iaload, 1) := by decide +kernel
theorem dX10_nextRow_46 : decode cX10_nextRow 46 = .ok (.if_icmp .ge 9, 3) := by decide +kernel
theorem dX10_nextRow_49 : decode cX10_nextRow 49 = .ok (.iinc 3 (-1), 3) := by decide +kernel
theorem dX10_nextRow_52 : decode cX10_nextRow 52 = .ok (.goto (-17), 3) := by decide +kernel
theorem dX10_nextRow_55 : decode cX10_nextRow 55 = .ok (.aload_n 0, 1) := by decide +kernel
theorem dX10_nextRow_56 : decode cX10_nextRow 56 = .ok (.iload_n 2, 1) := by decide +kernel
theorem dX10_nextRow_57 : decode cX10_nextRow 57 = .ok (.iload_n 3, 1) := by decide +kernel
theorem dX10_nextRow_58 : decode cX10_nextRow 58 = .ok (.invokestatic 267, 3) := by decide +kernel
theorem dX10_nextRow_61 : decode cX10_nextRow 61 = .ok (.iload_n 2, 1) := by decide +kernel
theorem dX10_nextRow_62 : decode cX10_nextRow 62 = .ok (.iconst 1, 1) := by decide +kernel
theorem dX10_nextRow_63 : decode cX10_nextRow 63 = .ok (.iadd, 1) := by decide +kernel
theorem dX10_nextRow_64 : decode cX10_nextRow 64 = .ok (.istore 4, 2) := by decide +kernel
theorem dX10_nextRow_66 : decode cX10_nextRow 66 = .ok (.iload_n 1, 1) := by decide +kernel
theorem dX10_nextRow_67 : decode cX10_nextRow 67 = .ok (.iconst 1, 1) := by decide +kernel
theorem dX10_nextRow_68 : decode cX10_nextRow 68 = .ok (.isub, 1) := by decide +kernel
theorem dX10_nextRow_69 : decode cX10_nextRow 69 = .ok (.istore 5, 2) := by decide +kernel
theorem dX10_nextRow_71 : decode cX10_nextRow 71 = .ok (.iload 4, 2) := by decide +kernel
theorem dX10_nextRow_73 : decode cX10_nextRow 73 = .ok (.iload 5, 2) := by decide +kernel
theorem dX10_nextRow_75 : decode cX10_nextRow 75 = .ok (.if_icmp .ge 20, 3) := by decide +kernel
theorem dX10_nextRow_78 : decode cX10_nextRow 78 = .ok (.aload_n 0, 1) := by decide +kernel
theorem dX10_nextRow_79 : decode cX10_nextRow 79 = .ok (.iload 4, 2) := by decide +kernel
theorem dX10_nextRow_81 : decode cX10_nextRow 81 = .ok (.iload 5, 2) := by decide +kernel
theorem dX10_nextRow_83 : decode cX10_nextRow 83 = .ok (.invokestatic 267, 3) := by decide +kernel
theorem dX10_nextRow_86 : decode cX10_nextRow 86 = .ok (.iinc 4 1, 3) := by decide +kernel
theorem dX10_nextRow_89 : decode cX10_nextRow 89 = .ok (.iinc 5 (-1), 3) := by decide +kernel
theorem dX10_nextRow_92 : decode cX10_nextRow 92 = .ok (.goto (-21), 3) := by decide +kernel
theorem dX10_nextRow_95 : decode cX10_nextRow 95 = .ok (.iconst 1, 1) := by decide +kernel
theorem dX10_nextRow_96 : decode cX10_nextRow 96 = .ok (.ireturn, 1) := by decide +kernel
theorem dX10_swap_0 : decode cX10_swap 0 = .ok (.aload_n 0, 1) := by decide +kernel
theorem dX10_swap_1 : decode cX10_swap 1 = .ok (.iload_n 1, 1) := by decide +kernel
theorem dX10_swap_2 : decode cX10_swap 2 = .ok (.iaload, 1) := by decide +kernel
theorem dX10_swap_3 : decode cX10_swap 3 = .ok (.istore_n 3, 1) := by decide +kernel
theorem dX10_swap_4 : decode cX10_swap 4 = .ok (.aload_n 0, 1) := by decide +kernel
theorem dX10_swap_5 : decode cX10_swap 5 = .ok (.iload_n 1, 1) := by decide +kernel
theorem dX10_swap_6 : decode cX10_swap 6 = .ok (.aload_n 0, 1) := by decide +kernel
theorem dX10_swap_7 : decode cX10_swap 7 = .ok (.iload_n 2, 1) := by decide +kernel
theorem dX10_swap_8 : decode cX10_swap 8 = .ok (.iaload, 1) := by decide +kernel
theorem dX10_swap_9 : decode cX10_swap 9 = .ok (.iastore, 1) := by decide +kernel
theorem dX10_swap_10 : decode cX10_swap 10 = .ok (.aload_n 0, 1) := by decide +kernel
theorem dX10_swap_11 : decode cX10_swap 11 = .ok (.iload_n 2, 1) := by decide +kernel
theorem dX10_swap_12 : decode cX10_swap 12 = .ok (.iload_n 3, 1) := by decide +kernel
theorem dX10_swap_13 : decode cX10_swap 13 = .ok (.iastore, 1) := by decide +kernel
theorem dX10_swap_14 : decode cX10_swap 14 = .ok (.return_, 1) := by decide +kernel
theorem dX10_alms_0 : decode cX10_alms 0 = .ok (.iconst 0, 1) := by decide +kernel
theorem dX10_alms_1 : decode cX10_alms 1 = .ok (.istore_n 1, 1) := by decide +kernel
theorem dX10_alms_2 : decode cX10_alms 2 = .ok (.iconst 0, 1) := by decide +kernel
theorem dX10_alms_3 : decode cX10_alms 3 = .ok (.istore_n 2, 1) := by decide +kernel
theorem dX10_alms_4 : decode cX10_alms 4 = .ok (.iload_n 2, 1) := by decide +kernel
theorem dX10_alms_5 : decode cX10_alms 5 = .ok (.aload_n 0, 1) := by decide +kernel
theorem dX10_alms_6 : decode cX10_alms 6 = .ok (.getfield 23, 3) := by decide +kernel
theorem dX10_alms_9 : decode cX10_alms 9 = .ok (.getfield 104, 3) := by decide +kernel
theorem dX10_alms_12 : decode cX10_alms 12 = .ok (.if_icmp .ge 50, 3) := by decide +kernel
theorem dX10_alms_15 : decode cX10_alms 15 = .ok (.aload_n 0, 1) := by decide +kernel
theorem dX10_alms_16 : decode cX10_alms 16 = .ok (.getfield 23, 3) := by decide +kernel
theorem dX10_alms_19 : decode cX10_alms 19 = .ok (.aload_n 0, 1) := by decide +kernel
theorem dX10_alms_20 : decode cX10_alms 20 = .ok (.getfield 42, 3) := by decide +kernel
theorem dX10_alms_23 : decode cX10_alms 23 = .ok (.getfield 122, 3) := by decide +kernel
theorem dX10_alms_26 : decode cX10_alms 26 = .ok (.iload_n 2, 1) := by decide +kernel
theorem dX10_alms_27 : decode cX10_alms 27 = .ok (.invokestatic 271, 3) := by decide +kernel
theorem dX10_alms_30 : decode cX10_alms 30 = .ok (.ifCond .eq 26, 3) := by decide +kernel
theorem dX10_alms_33 : decode cX10_alms 33 = .ok (.iload_n 1, 1) := by decide +kernel
theorem dX10_alms_34 : decode cX10_alms 34 = .ok (.aload_n 0, 1) := by decide +kernel
theorem dX10_alms_35 : decode cX10_alms 35 = .ok (.getfield 23, 3) := by decide +kernel
theorem dX10_alms_38 : decode cX10_alms 38 = .ok (.getfield 119, 3) := by decide +kernel
theorem dX10_alms_41 : decode cX10_alms 41 = .ok (.aload_n 0, 1) := by decide +kernel
theorem dX10_alms_42 : decode cX10_alms 42 = .ok (.getfield 42, 3) := by decide +kernel
theorem dX10_alms_45 : decode cX10_alms 45 = .ok (.getfield 122, 3) := by decide +kernel
theorem dX10_alms_48 : decode cX10_alms 48 = .ok (.getfield 171, 3) := by decide +kernel
theorem dX10_alms_51 : decode cX10_alms 51 = .ok (.iload_n 2, 1) := by decide +kernel
theorem dX10_alms_52 : decode cX10_alms 52 = .ok (.iaload, 1) := by decide +kernel
theorem dX10_alms_53 : decode cX10_alms 53 = .ok (.isub, 1) := by decide +kernel
theorem dX10_alms_54 : decode cX10_alms 54 = .ok (.iadd, 1) := by decide +kernel
theorem dX10_alms_55 : decode cX10_alms 55 = .ok (.istore_n 1, 1) := by decide +kernel
theorem dX10_alms_56 : decode cX10_alms 56 = .ok (.iinc 2 1, 3) := by decide +kernel
theorem dX10_alms_59 : decode cX10_alms 59 = .ok (.goto (-55), 3) := by decide +kernel
theorem dX10_alms_62 : decode cX10_alms 62 = .ok (.iload_n 1, 1) := by decide +kernel
theorem dX10_alms_63 : decode cX10_alms 63 = .ok (.ireturn, 1) := by decide +kernel
theorem dX10_round_0 : decode cX10_round 0 = .ok (.aload_n 0, 1) := by decide +kernel
theorem dX10_round_1 : decode cX10_round 1 = .ok (.iload_n 1, 1) := by decide +kernel
theorem dX10_round_2 : decode cX10_round 2 = .ok (.invokevirtual 162, 3) := by decide +kernel
theorem dX10_round_5 : decode cX10_round 5 = .ok (.iload_n 2, 1) := by decide +kernel
theorem dX10_round_6 : decode cX10_round 6 = .ok (.aload_n 0, 1) := by decide +kernel
theorem dX10_round_7 : decode cX10_round 7 = .ok (.getfield 23, 3) := by decide +kernel
theorem dX10_round_10 : decode cX10_round 10 = .ok (.getfield 104, 3) := by decide +kernel
theorem dX10_round_13 : decode cX10_round 13 = .ok (.iushr, 1) := by decide +kernel
theorem dX10_round_14 : decode cX10_round 14 = .ok (.ifCond .eq 11, 3) := by decide +kernel
theorem dX10_round_17 : decode cX10_round 17 = .ok (.new 83, 3) := by decide +kernel
theorem dX10_round_20 : decode cX10_round 20 = .ok (.dup, 1) := by decide +kernel
theorem dX10_round_21 : decode cX10_round 21 = .ok (.invokespecial 85, 3) := by decide +kernel
theorem dX10_round_24 : decode cX10_round 24 = .ok (.athrow, 1) := by decide +kernel
theorem dX10_round_25 : decode cX10_round 25 = .ok (.iload_n 2, 1) := by decide +kernel
theorem dX10_round_26 : decode cX10_round 26 = .ok (.iconst 1, 1) := by decide +kernel
theorem dX10_round_27 : decode cX10_round 27 = .ok (.iload_n 1, 1) := by decide +kernel
theorem dX10_round_28 : decode cX10_round 28 = .ok (.ishl, 1) := by decide +kernel
theorem dX10_round_29 : decode cX10_round 29 = .ok (.iconst (-1), 1) := by decide +kernel
theorem dX10_round_30 : decode cX10_round 30 = .ok (.ixor, 1) := by decide +kernel
theorem dX10_round_31 : decode cX10_round 31 = .ok (.iand, 1) := by decide +kernel
theorem dX10_round_32 : decode cX10_round 32 = .ok (.istore_n 3, 1) := by decide +kernel
theorem dX10_round_33 : decode cX10_round 33 = .ok (.iload_n 3, 1) := by decide +kernel
theorem dX10_round_34 : decode cX10_round 34 = .ok (.ifCond .ne 5, 3) := by decide +kernel
theorem dX10_round_37 : decode cX10_round 37 = .ok (.iconst 0, 1) := by decide +kernel
theorem dX10_round_38 : decode cX10_round 38 = .ok (.ireturn, 1) := by decide +kernel
theorem dX10_round_39 : decode cX10_round 39 = .ok (.aload_n 0, 1) := by decide +kernel
theorem dX10_round_40 : decode cX10_round 40 = .ok (.iload_n 1, 1) := by decide +kernel
theorem dX10_round_41 : decode cX10_round 41 = .ok (.iload_n 3, 1) := by decide +kernel
theorem dX10_round_42 : decode cX10_round 42 = .ok (.invokevirtual 275, 3) := by decide +kernel
theorem dX10_round_45 : decode cX10_round 45 = .ok (.iconst (-1), 1) := by decide +kernel
theorem dX10_round_46 : decode cX10_round 46 = .ok (.istore 4, 2) := by decide +kernel
theorem dX10_round_48 : decode cX10_round 48 = .ok (.iconst 0, 1) := by decide +kernel
theorem dX10_round_49 : decode cX10_round 49 = .ok (.istore 5, 2) := by decide +kernel
theorem dX10_round_51 : decode cX10_round 51 = .ok (.iload 5, 2) := by decide +kernel
theorem dX10_round_53 : decode cX10_round 53 = .ok (.aload_n 0, 1) := by decide +kernel
theorem dX10_round_54 : decode cX10_round 54 = .ok (.getfield 23, 3) := by decide +kernel
theorem dX10_round_57 : decode cX10_round 57 = .ok (.getfield 104, 3) := by decide +kernel
theorem dX10_round_60 : decode cX10_round 60 = .ok (.if_icmp .ge 28, 3) := by decide +kernel
theorem dX10_round_63 : decode cX10_round 63 = .ok (.iload 4, 2) := by decide +kernel
theorem dX10_round_65 : decode cX10_round 65 = .ok (.aload_n 0, 1) := by decide +kernel
theorem dX10_round_66 : decode cX10_round 66 = .ok (.getfield 73, 3) := by decide +kernel
theorem dX10_round_69 : decode cX10_round 69 = .ok (.iload_n 3, 1) := by decide +kernel
theorem dX10_round_70 : decode cX10_round 70 = .ok (.bipush 9, 2) := by decide +kernel
theorem dX10_round_72 : decode cX10_round 72 = .ok (.imul, 1) := by decide +kernel
theorem dX10_round_73 : decode cX10_round 73 = .ok (.iload 5, 2) := by decide +kernel
theorem dX10_round_75 : decode cX10_round 75 = .ok (.iadd, 1) := by decide +kernel
theorem dX10_round_76 : decode cX10_round 76 = .ok (.iaload, 1) := by decide +kernel
theorem dX10_round_77 : decode cX10_round 77 = .ok (.invokestatic 279, 3) := by decide +kernel
theorem dX10_round_80 : decode cX10_round 80 = .ok (.istore 4, 2) := by decide +kernel
theorem dX10_round_82 : decode cX10_round 82 = .ok (.iinc 5 1, 3) := by decide +kernel
theorem dX10_round_85 : decode cX10_round 85 = .ok (.goto (-34), 3) := by decide +kernel
theorem dX10_round_88 : decode cX10_round 88 = .ok (.iload 4, 2) := by decide +kernel
theorem dX10_round_90 : decode cX10_round 90 = .ok (.ireturn, 1) := by decide +kernel
theorem dX10_walkAll_0 : decode cX10_walkAll 0 = .ok (.aload_n 0, 1) := by decide +kernel
theorem dX10_walkAll_1 : decode cX10_walkAll 1 = .ok (.getfield 73, 3) := by decide +kernel
theorem dX10_walkAll_4 : decode cX10_walkAll 4 = .ok (.iconst (-1), 1) := by decide +kernel
theorem dX10_walkAll_5 : decode cX10_walkAll 5 = .ok (.invokestatic 282, 3) := by decide +kernel
theorem dX10_walkAll_8 : decode cX10_walkAll 8 = .ok (.iconst 1, 1) := by decide +kernel
theorem dX10_walkAll_9 : decode cX10_walkAll 9 = .ok (.istore_n 3, 1) := by decide +kernel
theorem dX10_walkAll_10 : decode cX10_walkAll 10 = .ok (.iload_n 3, 1) := by decide +kernel
theorem dX10_walkAll_11 : decode cX10_walkAll 11 = .ok (.iload_n 2, 1) := by decide +kernel
theorem dX10_walkAll_12 : decode cX10_walkAll 12 = .ok (.if_icmp .gt 77, 3) := by decide +kernel
theorem dX10_walkAll_15 : decode cX10_walkAll 15 = .ok (.iload_n 3, 1) := by decide +kernel
theorem dX10_walkAll_16 : decode cX10_walkAll 16 = .ok (.iload_n 2, 1) := by decide +kernel
theorem dX10_walkAll_17 : decode cX10_walkAll 17 = .ok (.iconst (-1), 1) := by decide +kernel
theorem dX10_walkAll_18 : decode cX10_walkAll 18 = .ok (.ixor, 1) := by decide +kernel
theorem dX10_walkAll_19 : decode cX10_walkAll 19 = .ok (.iand, 1) := by decide +kernel
theorem dX10_walkAll_20 : decode cX10_walkAll 20 = .ok (.ifCond .eq 6, 3) := by decide +kernel
theorem dX10_walkAll_23 : decode cX10_walkAll 23 = .ok (.goto 60, 3) := by decide +kernel
theorem dX10_walkAll_26 : decode cX10_walkAll 26 = .ok (.iconst 0, 1) := by decide +kernel
theorem dX10_walkAll_27 : decode cX10_walkAll 27 = .ok (.istore 4, 2) := by decide +kernel
theorem dX10_walkAll_29 : decode cX10_walkAll 29 = .ok (.iload 4, 2) := by decide +kernel
theorem dX10_walkAll_31 : decode cX10_walkAll 31 = .ok (.aload_n 0, 1) := by decide +kernel
theorem dX10_walkAll_32 : decode cX10_walkAll 32 = .ok (.getfield 23, 3) := by decide +kernel
theorem dX10_walkAll_35 : decode cX10_walkAll 35 = .ok (.getfield 104, 3) := by decide +kernel
theorem dX10_walkAll_38 : decode cX10_walkAll 38 = .ok (.if_icmp .ge 45, 3) := by decide +kernel
theorem dX10_walkAll_41 : decode cX10_walkAll 41 = .ok (.iload_n 3, 1) := by decide +kernel
theorem dX10_walkAll_42 : decode cX10_walkAll 42 = .ok (.iconst 1, 1) := by decide +kernel
theorem dX10_walkAll_43 : decode cX10_walkAll 43 = .ok (.iload 4, 2) := by decide +kernel
theorem dX10_walkAll_45 : decode cX10_walkAll 45 = .ok (.ishl, 1) := by decide +kernel
theorem dX10_walkAll_46 : decode cX10_walkAll 46 = .ok (.iand, 1) := by decide +kernel
theorem dX10_walkAll_47 : decode cX10_walkAll 47 = .ok (.ifCond .eq 30, 3) := by decide +kernel
theorem dX10_walkAll_50 : decode cX10_walkAll 50 = .ok (.aload_n 0, 1) := by decide +kernel
theorem dX10_walkAll_51 : decode cX10_walkAll 51 = .ok (.getfield 73, 3) := by decide +kernel
theorem dX10_walkAll_54 : decode cX10_walkAll 54 = .ok (.iload_n 3, 1) := by decide +kernel
theorem dX10_walkAll_55 : decode cX10_walkAll 55 = .ok (.bipush 9, 2) := by decide +kernel
theorem dX10_walkAll_57 : decode cX10_walkAll 57 = .ok (.imul, 1) := by decide +kernel
theorem dX10_walkAll_58 : decode cX10_walkAll 58 = .ok (.iload 4, 2) := by decide +kernel
theorem dX10_walkAll_60 : decode cX10_walkAll 60 = .ok (.iadd, 1) := by decide +kernel
theorem dX10_walkAll_61 : decode cX10_walkAll 61 = .ok (.aload_n 0, 1) := by decide +kernel
theorem dX10_walkAll_62 : decode cX10_walkAll 62 = .ok (.iload_n 1, 1) := by decide +kernel
theorem dX10_walkAll_63 : decode cX10_walkAll 63 = .ok (.iload_n 3, 1) := by decide +kernel
theorem dX10_walkAll_64 : decode cX10_walkAll 64 = .ok (.iconst 1, 1) := by decide +kernel
theorem dX10_walkAll_65 : decode cX10_walkAll 65 = .ok (.iload 4, 2) := by decide +kernel
theorem dX10_walkAll_67 : decode cX10_walkAll 67 = .ok (.ishl, 1) := by decide +kernel
theorem dX10_walkAll_68 : decode cX10_walkAll 68 = .ok (.iconst (-1), 1) := by decide +kernel
theorem dX10_walkAll_69 : decode cX10_walkAll 69 = .ok (.ixor, 1) := by decide +kernel
theorem dX10_walkAll_70 : decode cX10_walkAll 70 = .ok (.iand, 1) := by decide +kernel
theorem dX10_walkAll_71 : decode cX10_walkAll 71 = .ok (.iload 4, 2) := by decide +kernel
theorem dX10_walkAll_73 : decode cX10_walkAll 73 = .ok (.invokevirtual 288, 3) := by decide +kernel
theorem dX10_walkAll_76 : decode cX10_walkAll 76 = .ok (.iastore, 1) := by decide +kernel
theorem dX10_walkAll_77 : decode cX10_walkAll 77 = .ok (.iinc 4 1, 3) := by decide +kernel
theorem dX10_walkAll_80 : decode cX10_walkAll 80 = .ok (.goto (-51), 3) := by decide +kernel
theorem dX10_walkAll_83 : decode cX10_walkAll 83 = .ok (.iinc 3 1, 3) := by decide +kernel
theorem dX10_walkAll_86 : decode cX10_walkAll 86 = .ok (.goto (-76), 3) := by decide +kernel
theorem dX10_walkAll_89 : decode cX10_walkAll 89 = .ok (.return_, 1) := by decide +kernel
theorem dX10_walkTo_0 : decode cX10_walkTo 0 = .ok (.iload_n 2, 1) := by decide +kernel
theorem dX10_walkTo_1 : decode cX10_walkTo 1 = .ok (.ifCond .ne 13, 3) := by decide +kernel
theorem dX10_walkTo_4 : decode cX10_walkTo 4 = .ok (.aload_n 0, 1) := by decide +kernel
theorem dX10_walkTo_5 : decode cX10_walkTo 5 = .ok (.getfield 23, 3) := by decide +kernel
theorem dX10_walkTo_8 : decode cX10_walkTo 8 = .ok (.iload_n 1, 1) := by decide +kernel
theorem dX10_walkTo_9 : decode cX10_walkTo 9 = .ok (.iload_n 3, 1) := by decide +kernel
theorem dX10_walkTo_10 : decode cX10_walkTo 10 = .ok (.invokevirtual 188, 3) := by decide +kernel
theorem dX10_walkTo_13 : decode cX10_walkTo 13 = .ok (.ireturn, 1) := by decide +kernel
theorem dX10_walkTo_14 : decode cX10_walkTo 14 = .ok (.iconst (-1), 1) := by decide +kernel
theorem dX10_walkTo_15 : decode cX10_walkTo 15 = .ok (.istore 4, 2) := by decide +kernel
theorem dX10_walkTo_17 : decode cX10_walkTo 17 = .ok (.iconst 0, 1) := by decide +kernel
theorem dX10_walkTo_18 : decode cX10_walkTo 18 = .ok (.istore 5, 2) := by decide +kernel
theorem dX10_walkTo_20 : decode cX10_walkTo 20 = .ok (.iload 5, 2) := by decide +kernel
theorem dX10_walkTo_22 : decode cX10_walkTo 22 = .ok (.aload_n 0, 1) := by decide +kernel
theorem dX10_walkTo_23 : decode cX10_walkTo 23 = .ok (.getfield 23, 3) := by decide +kernel
theorem dX10_walkTo_26 : decode cX10_walkTo 26 = .ok (.getfield 104, 3) := by decide +kernel
theorem dX10_walkTo_29 : decode cX10_walkTo 29 = .ok (.if_icmp .ge 59, 3) := by decide +kernel
theorem dX10_walkTo_32 : decode cX10_walkTo 32 = .ok (.aload_n 0, 1) := by decide +kernel
theorem dX10_walkTo_33 : decode cX10_walkTo 33 = .ok (.getfield 73, 3) := by decide +kernel
theorem dX10_walkTo_36 : decode cX10_walkTo 36 = .ok (.iload_n 2, 1) := by decide +kernel
theorem dX10_walkTo_37 : decode cX10_walkTo 37 = .ok (.bipush 9, 2) := by decide +kernel
theorem dX10_walkTo_39 : decode cX10_walkTo 39 = .ok (.imul, 1) := by decide +kernel
theorem dX10_walkTo_40 : decode cX10_walkTo 40 = .ok (.iload 5, 2) := by decide +kernel
theorem dX10_walkTo_42 : decode cX10_walkTo 42 = .ok (.iadd, 1) := by decide +kernel
theorem dX10_walkTo_43 : decode cX10_walkTo 43 = .ok (.iaload, 1) := by decide +kernel
theorem dX10_walkTo_44 : decode cX10_walkTo 44 = .ok (.istore 6, 2) := by decide +kernel
theorem dX10_walkTo_46 : decode cX10_walkTo 46 = .ok (.aload_n 0, 1) := by decide +kernel
theorem dX10_walkTo_47 : decode cX10_walkTo 47 = .ok (.getfield 23, 3) := by decide +kernel
theorem dX10_walkTo_50 : decode cX10_walkTo 50 = .ok (.iload 5, 2) := by decide +kernel
theorem dX10_walkTo_52 : decode cX10_walkTo 52 = .ok (.iload_n 3, 1) := by decide +kernel
theorem dX10_walkTo_53 : decode cX10_walkTo 53 = .ok (.invokevirtual 188, 3) := by decide +kernel
theorem dX10_walkTo_56 : decode cX10_walkTo 56 = .ok (.istore 7, 2) := by decide +kernel
theorem dX10_walkTo_58 : decode cX10_walkTo 58 = .ok (.iload 6, 2) := by decide +kernel
theorem dX10_walkTo_60 : decode cX10_walkTo 60 = .ok (.iconst (-1), 1) := by decide +kernel
theorem dX10_walkTo_61 : decode cX10_walkTo 61 = .ok (.if_icmp .eq 21, 3) := by decide +kernel
theorem dX10_walkTo_64 : decode cX10_walkTo 64 = .ok (.iload 7, 2) := by decide +kernel
theorem dX10_walkTo_66 : decode cX10_walkTo 66 = .ok (.iconst (-1), 1) := by decide +kernel
theorem dX10_walkTo_67 : decode cX10_walkTo 67 = .ok (.if_icmp .eq 15, 3) := by decide +kernel
theorem dX10_walkTo_70 : decode cX10_walkTo 70 = .ok (.iload 4, 2) := by decide +kernel
theorem dX10_walkTo_72 : decode cX10_walkTo 72 = .ok (.iload 6, 2) := by decide +kernel
theorem dX10_walkTo_74 : decode cX10_walkTo 74 = .ok (.iload 7, 2) := by decide +kernel
theorem dX10_walkTo_76 : decode cX10_walkTo 76 = .ok (.iadd, 1) := by decide +kernel
theorem dX10_walkTo_77 : decode cX10_walkTo 77 = .ok (.invokestatic 279, 3) := by decide +kernel
theorem dX10_walkTo_80 : decode cX10_walkTo 80 = .ok (.istore 4, 2) := by decide +kernel
theorem dX10_walkTo_82 : decode cX10_walkTo 82 = .ok (.iinc 5 1, 3) := by decide +kernel
theorem dX10_walkTo_85 : decode cX10_walkTo 85 = .ok (.goto (-65), 3) := by decide +kernel
theorem dX10_walkTo_88 : decode cX10_walkTo 88 = .ok (.iload 4, 2) := by decide +kernel
theorem dX10_walkTo_90 : decode cX10_walkTo 90 = .ok (.ireturn, 1) := by decide +kernel
theorem dX10_shorter_0 : decode cX10_shorter 0 = .ok (.iload_n 0, 1) := by decide +kernel
theorem dX10_shorter_1 : decode cX10_shorter 1 = .ok (.iconst (-1), 1) := by decide +kernel
theorem dX10_shorter_2 : decode cX10_shorter 2 = .ok (.if_icmp .eq 8, 3) := by decide +kernel
theorem dX10_shorter_5 : decode cX10_shorter 5 = .ok (.iload_n 1, 1) := by decide +kernel
theorem dX10_shorter_6 : decode cX10_shorter 6 = .ok (.iconst (-1), 1) := by decide +kernel
theorem dX10_shorter_7 : decode cX10_shorter 7 = .ok (.if_icmp .ne 14, 3) := by decide +kernel
theorem dX10_shorter_10 : decode cX10_shorter 10 = .ok (.iload_n 0, 1) := by decide +kernel
theorem dX10_shorter_11 : decode cX10_shorter 11 = .ok (.iconst (-1), 1) := by decide +kernel
theorem dX10_shorter_12 : decode cX10_shorter 12 = .ok (.if_icmp .ne 7, 3) := by decide +kernel
theorem dX10_shorter_15 : decode cX10_shorter 15 = .ok (.iload_n 1, 1) := by decide +kernel
theorem dX10_shorter_16 : decode cX10_shorter 16 = .ok (.goto 4, 3) := by decide +kernel
theorem dX10_shorter_19 : decode cX10_shorter 19 = .ok (.iload_n 0, 1) := by decide +kernel
theorem dX10_shorter_20 : decode cX10_shorter 20 = .ok (.ireturn, 1) := by decide +kernel
theorem dX10_shorter_21 : decode cX10_shorter 21 = .ok (.iload_n 0, 1) := by decide +kernel
theorem dX10_shorter_22 : decode cX10_shorter 22 = .ok (.iload_n 1, 1) := by decide +kernel
theorem dX10_shorter_23 : decode cX10_shorter 23 = .ok (.invokestatic 292, 3) := by decide +kernel
theorem dX10_shorter_26 : decode cX10_shorter 26 = .ok (.ireturn, 1) := by decide +kernel
theorem dX10_shares_0 : decode cX10_shares 0 = .ok (.iload_n 1, 1) := by decide +kernel
theorem dX10_shares_1 : decode cX10_shares 1 = .ok (.iconst 1, 1) := by decide +kernel
theorem dX10_shares_2 : decode cX10_shares 2 = .ok (.if_icmp .lt 8, 3) := by decide +kernel
theorem dX10_shares_5 : decode cX10_shares 5 = .ok (.iload_n 1, 1) := by decide +kernel
theorem dX10_shares_6 : decode cX10_shares 6 = .ok (.iconst 4, 1) := by decide +kernel
theorem dX10_shares_7 : decode cX10_shares 7 = .ok (.if_icmp .le 11, 3) := by decide +kernel
theorem dX10_shares_10 : decode cX10_shares 10 = .ok (.new 83, 3) := by decide +kernel
theorem dX10_shares_13 : decode cX10_shares 13 = .ok (.dup, 1) := by decide +kernel
theorem dX10_shares_14 : decode cX10_shares 14 = .ok (.invokespecial 85, 3) := by decide +kernel
theorem dX10_shares_17 : decode cX10_shares 17 = .ok (.athrow, 1) := by decide +kernel
theorem dX10_shares_18 : decode cX10_shares 18 = .ok (.aload_n 0, 1) := by decide +kernel
theorem dX10_shares_19 : decode cX10_shares 19 = .ok (.getfield 70, 3) := by decide +kernel
theorem dX10_shares_22 : decode cX10_shares 22 = .ok (.iconst 0, 1) := by decide +kernel
theorem dX10_shares_23 : decode cX10_shares 23 = .ok (.invokestatic 282, 3) := by decide +kernel
theorem dX10_shares_26 : decode cX10_shares 26 = .ok (.aload_n 0, 1) := by decide +kernel
theorem dX10_shares_27 : decode cX10_shares 27 = .ok (.iconst 0, 1) := by decide +kernel
theorem dX10_shares_28 : decode cX10_shares 28 = .ok (.iload_n 1, 1) := by decide +kernel
theorem dX10_shares_29 : decode cX10_shares 29 = .ok (.aload_n 0, 1) := by decide +kernel
theorem dX10_shares_30 : decode cX10_shares 30 = .ok (.getfield 23, 3) := by decide +kernel
theorem dX10_shares_33 : decode cX10_shares 33 = .ok (.aload_n 0, 1) := by decide +kernel
theorem dX10_shares_34 : decode cX10_shares 34 = .ok (.getfield 42, 3) := by decide +kernel
theorem dX10_shares_37 : decode cX10_shares 37 = .ok (.getfield 122, 3) := by decide +kernel
theorem dX10_shares_40 : decode cX10_shares 40 = .ok (.invokestatic 128, 3) := by decide +kernel
theorem dX10_shares_43 : decode cX10_shares 43 = .ok (.iconst 1, 1) := by decide +kernel
theorem dX10_shares_44 : decode cX10_shares 44 = .ok (.iadd, 1) := by decide +kernel
theorem dX10_shares_45 : decode cX10_shares 45 = .ok (.invokevirtual 297, 3) := by decide +kernel
theorem dX10_shares_48 : decode cX10_shares 48 = .ok (.ireturn, 1) := by decide +kernel
theorem dX10_evenest_0 : decode cX10_evenest 0 = .ok (.iload_n 1, 1) := by decide +kernel
theorem dX10_evenest_1 : decode cX10_evenest 1 = .ok (.aload_n 0, 1) := by decide +kernel
theorem dX10_evenest_2 : decode cX10_evenest 2 = .ok (.getfield 23, 3) := by decide +kernel
theorem dX10_evenest_5 : decode cX10_evenest 5 = .ok (.getfield 104, 3) := by decide +kernel
theorem dX10_evenest_8 : decode cX10_evenest 8 = .ok (.if_icmp .lt 42, 3) := by decide +kernel
theorem dX10_evenest_11 : decode cX10_evenest 11 = .ok (.iconst 0, 1) := by decide +kernel
theorem dX10_evenest_12 : decode cX10_evenest 12 = .ok (.istore 4, 2) := by decide +kernel
theorem dX10_evenest_14 : decode cX10_evenest 14 = .ok (.iconst 0, 1) := by decide +kernel
theorem dX10_evenest_15 : decode cX10_evenest 15 = .ok (.istore 5, 2) := by decide +kernel
theorem dX10_evenest_17 : decode cX10_evenest 17 = .ok (.iload 5, 2) := by decide +kernel
theorem dX10_evenest_19 : decode cX10_evenest 19 = .ok (.iload_n 2, 1) := by decide +kernel
theorem dX10_evenest_20 : decode cX10_evenest 20 = .ok (.if_icmp .ge 23, 3) := by decide +kernel
theorem dX10_evenest_23 : decode cX10_evenest 23 = .ok (.iload 4, 2) := by decide +kernel
theorem dX10_evenest_25 : decode cX10_evenest 25 = .ok (.aload_n 0, 1) := by decide +kernel
theorem dX10_evenest_26 : decode cX10_evenest 26 = .ok (.getfield 70, 3) := by decide +kernel
theorem dX10_evenest_29 : decode cX10_evenest 29 = .ok (.iload 5, 2) := by decide +kernel
theorem dX10_evenest_31 : decode cX10_evenest 31 = .ok (.iaload, 1) := by decide +kernel
theorem dX10_evenest_32 : decode cX10_evenest 32 = .ok (.invokestatic 300, 3) := by decide +kernel
theorem dX10_evenest_35 : decode cX10_evenest 35 = .ok (.istore 4, 2) := by decide +kernel
theorem dX10_evenest_37 : decode cX10_evenest 37 = .ok (.iinc 5 1, 3) := by decide +kernel
theorem dX10_evenest_40 : decode cX10_evenest 40 = .ok (.goto (-23), 3) := by decide +kernel
theorem dX10_evenest_43 : decode cX10_evenest 43 = .ok (.iload_n 3, 1) := by decide +kernel
theorem dX10_evenest_44 : decode cX10_evenest 44 = .ok (.iload 4, 2) := by decide +kernel
theorem dX10_evenest_46 : decode cX10_evenest 46 = .ok (.invokestatic 292, 3) := by decide +kernel
theorem dX10_evenest_49 : decode cX10_evenest 49 = .ok (.ireturn, 1) := by decide +kernel
theorem dX10_evenest_50 : decode cX10_evenest 50 = .ok (.aload_n 0, 1) := by decide +kernel
theorem dX10_evenest_51 : decode cX10_evenest 51 = .ok (.getfield 42, 3) := by decide +kernel
theorem dX10_evenest_54 : decode cX10_evenest 54 = .ok (.getfield 122, 3) := by decide +kernel
theorem dX10_evenest_57 : decode cX10_evenest 57 = .ok (.getfield 171, 3) := by decide +kernel
theorem dX10_evenest_60 : decode cX10_evenest 60 = .ok (.iload_n 1, 1) := by decide +kernel
theorem dX10_evenest_61 : decode cX10_evenest 61 = .ok (.iaload, 1) := by decide +kernel
theorem dX10_evenest_62 : decode cX10_evenest 62 = .ok (.istore 4, 2) := by decide +kernel
theorem dX10_evenest_64 : decode cX10_evenest 64 = .ok (.iload_n 3, 1) := by decide +kernel
theorem dX10_evenest_65 : decode cX10_evenest 65 = .ok (.istore 5, 2) := by decide +kernel
theorem dX10_evenest_67 : decode cX10_evenest 67 = .ok (.iconst 0, 1) := by decide +kernel
theorem dX10_evenest_68 : decode cX10_evenest 68 = .ok (.istore 6, 2) := by decide +kernel
theorem dX10_evenest_70 : decode cX10_evenest 70 = .ok (.iload 6, 2) := by decide +kernel
theorem dX10_evenest_72 : decode cX10_evenest 72 = .ok (.iload_n 2, 1) := by decide +kernel
theorem dX10_evenest_73 : decode cX10_evenest 73 = .ok (.if_icmp .ge 73, 3) := by decide +kernel
theorem dX10_evenest_76 : decode cX10_evenest 76 = .ok (.aload_n 0, 1) := by decide +kernel
theorem dX10_evenest_77 : decode cX10_evenest 77 = .ok (.getfield 70, 3) := by decide +kernel
theorem dX10_evenest_80 : decode cX10_evenest 80 = .ok (.iload 6, 2) := by decide +kernel
theorem dX10_evenest_82 : decode cX10_evenest 82 = .ok (.iaload, 1) := by decide +kernel
theorem dX10_evenest_83 : decode cX10_evenest 83 = .ok (.iload 4, 2) := by decide +kernel
theorem dX10_evenest_85 : decode cX10_evenest 85 = .ok (.iadd, 1) := by decide +kernel
theorem dX10_evenest_86 : decode cX10_evenest 86 = .ok (.iload 5, 2) := by decide +kernel
theorem dX10_evenest_88 : decode cX10_evenest 88 = .ok (.if_icmp .ge 39, 3) := by decide +kernel
theorem dX10_evenest_91 : decode cX10_evenest 91 = .ok (.aload_n 0, 1) := by decide +kernel
theorem dX10_evenest_92 : decode cX10_evenest 92 = .ok (.getfield 70, 3) := by decide +kernel
theorem dX10_evenest_95 : decode cX10_evenest 95 = .ok (.iload 6, 2) := by decide +kernel
theorem dX10_evenest_97 : decode cX10_evenest 97 = .ok (.dup2, 1) := by decide +kernel
theorem dX10_evenest_98 : decode cX10_evenest 98 = .ok (.iaload, 1) := by decide +kernel
theorem dX10_evenest_99 : decode cX10_evenest 99 = .ok (.iload 4, 2) := by decide +kernel
theorem dX10_evenest_101 : decode cX10_evenest 101 = .ok (.iadd, 1) := by decide +kernel
theorem dX10_evenest_102 : decode cX10_evenest 102 = .ok (.iastore, 1) := by decide +kernel
theorem dX10_evenest_103 : decode cX10_evenest 103 = .ok (.aload_n 0, 1) := by decide +kernel
theorem dX10_evenest_104 : decode cX10_evenest 104 = .ok (.iload_n 1, 1) := by decide +kernel
theorem dX10_evenest_105 : decode cX10_evenest 105 = .ok (.iconst 1, 1) := by decide +kernel
theorem dX10_evenest_106 : decode cX10_evenest 106 = .ok (.iadd, 1) := by decide +kernel
theorem dX10_evenest_107 : decode cX10_evenest 107 = .ok (.iload_n 2, 1) := by decide +kernel
theorem dX10_evenest_108 : decode cX10_evenest 108 = .ok (.iload 5, 2) := by decide +kernel
theorem dX10_evenest_110 : decode cX10_evenest 110 = .ok (.invokevirtual 297, 3) := by decide +kernel
theorem dX10_evenest_113 : decode cX10_evenest 113 = .ok (.istore 5, 2) := by decide +kernel
theorem dX10_evenest_115 : decode cX10_evenest 115 = .ok (.aload_n 0, 1) := by decide +kernel
theorem dX10_evenest_116 : decode cX10_evenest 116 = .ok (.getfield 70, 3) := by decide +kernel
theorem dX10_evenest_119 : decode cX10_evenest 119 = .ok (.iload 6, 2) := by decide +kernel
theorem dX10_evenest_121 : decode cX10_evenest 121 = .ok (.dup2, 1) := by decide +kernel
theorem dX10_evenest_122 : decode cX10_evenest 122 = .ok (.iaload, 1) := by decide +kernel
theorem dX10_evenest_123 : decode cX10_evenest 123 = .ok (.iload 4, 2) := by decide +kernel
theorem dX10_evenest_125 : decode cX10_evenest 125 = .ok (.isub, 1) := by decide +kernel
theorem dX10_evenest_126 : decode cX10_evenest 126 = .ok (.iastore, 1) := by decide +kernel
theorem dX10_evenest_127 : decode cX10_evenest 127 = .ok (.aload_n 0, 1) := by decide +kernel
theorem dX10_evenest_128 : decode cX10_evenest 128 = .ok (.getfield 70, 3) := by decide +kernel
theorem dX10_evenest_131 : decode cX10_evenest 131 = .ok (.iload 6, 2) := by decide +kernel
theorem dX10_evenest_133 : decode cX10_evenest 133 = .ok (.iaload, 1) := by decide +kernel
theorem dX10_evenest_134 : decode cX10_evenest 134 = .ok (.ifCond .ne 6, 3) := by decide +kernel
theorem dX10_evenest_137 : decode cX10_evenest 137 = .ok (.goto 9, 3) := by decide +kernel
theorem dX10_evenest_140 : decode cX10_evenest 140 = .ok (.iinc 6 1, 3) := by decide +kernel
theorem dX10_evenest_143 : decode cX10_evenest 143 = .ok (.goto (-73), 3) := by decide +kernel
theorem dX10_evenest_146 : decode cX10_evenest 146 = .ok (.iload 5, 2) := by decide +kernel
theorem dX10_evenest_148 : decode cX10_evenest 148 = .ok (.ireturn, 1) := by decide +kernel
theorem dX10_from_0 : decode cX10_from 0 = .ok (.aload_n 0, 1) := by decide +kernel
theorem dX10_from_1 : decode cX10_from 1 = .ok (.iload_n 1, 1) := by decide +kernel
theorem dX10_from_2 : decode cX10_from 2 = .ok (.invokevirtual 162, 3) := by decide +kernel
theorem dX10_from_5 : decode cX10_from 5 = .ok (.aload_n 0, 1) := by decide +kernel
theorem dX10_from_6 : decode cX10_from 6 = .ok (.iload_n 2, 1) := by decide +kernel
theorem dX10_from_7 : decode cX10_from 7 = .ok (.invokevirtual 162, 3) := by decide +kernel
theorem dX10_from_10 : decode cX10_from 10 = .ok (.iload_n 3, 1) := by decide +kernel
theorem dX10_from_11 : decode cX10_from 11 = .ok (.ifCond .lt 9, 3) := by decide +kernel
theorem dX10_from_14 : decode cX10_from 14 = .ok (.iload_n 3, 1) := by decide +kernel
theorem dX10_from_15 : decode cX10_from 15 = .ok (.bipush 9, 2) := by decide +kernel
theorem dX10_from_17 : decode cX10_from 17 = .ok (.if_icmp .le 11, 3) := by decide +kernel
theorem dX10_from_20 : decode cX10_from 20 = .ok (.new 83, 3) := by decide +kernel
theorem dX10_from_23 : decode cX10_from 23 = .ok (.dup, 1) := by decide +kernel
theorem dX10_from_24 : decode cX10_from 24 = .ok (.invokespecial 85, 3) := by decide +kernel
theorem dX10_from_27 : decode cX10_from 27 = .ok (.athrow, 1) := by decide +kernel
theorem dX10_from_28 : decode cX10_from 28 = .ok (.aload_n 0, 1) := by decide +kernel
theorem dX10_from_29 : decode cX10_from 29 = .ok (.getfield 67, 3) := by decide +kernel
theorem dX10_from_32 : decode cX10_from 32 = .ok (.iconst 0, 1) := by decide +kernel
theorem dX10_from_33 : decode cX10_from 33 = .ok (.invokestatic 282, 3) := by decide +kernel
theorem dX10_from_36 : decode cX10_from 36 = .ok (.aload_n 0, 1) := by decide +kernel
theorem dX10_from_37 : decode cX10_from 37 = .ok (.getfield 67, 3) := by decide +kernel
theorem dX10_from_40 : decode cX10_from 40 = .ok (.iload_n 1, 1) := by decide +kernel
theorem dX10_from_41 : decode cX10_from 41 = .ok (.sipush 10000, 3) := by decide +kernel
theorem dX10_from_44 : decode cX10_from 44 = .ok (.iastore, 1) := by decide +kernel
theorem dX10_from_45 : decode cX10_from 45 = .ok (.iconst 0, 1) := by decide +kernel
theorem dX10_from_46 : decode cX10_from 46 = .ok (.istore 4, 2) := by decide +kernel
theorem dX10_from_48 : decode cX10_from 48 = .ok (.iload 4, 2) := by decide +kernel
theorem dX10_from_50 : decode cX10_from 50 = .ok (.iload_n 3, 1) := by decide +kernel
theorem dX10_from_51 : decode cX10_from 51 = .ok (.if_icmp .ge 40, 3) := by decide +kernel
theorem dX10_from_54 : decode cX10_from 54 = .ok (.aload_n 0, 1) := by decide +kernel
theorem dX10_from_55 : decode cX10_from 55 = .ok (.aload_n 0, 1) := by decide +kernel
theorem dX10_from_56 : decode cX10_from 56 = .ok (.getfield 23, 3) := by decide +kernel
theorem dX10_from_59 : decode cX10_from 59 = .ok (.aload_n 0, 1) := by decide +kernel
theorem dX10_from_60 : decode cX10_from 60 = .ok (.getfield 42, 3) := by decide +kernel
theorem dX10_from_63 : decode cX10_from 63 = .ok (.getfield 122, 3) := by decide +kernel
theorem dX10_from_66 : decode cX10_from 66 = .ok (.aload_n 0, 1) := by decide +kernel
theorem dX10_from_67 : decode cX10_from 67 = .ok (.getfield 42, 3) := by decide +kernel
theorem dX10_from_70 : decode cX10_from 70 = .ok (.getfield 122, 3) := by decide +kernel
theorem dX10_from_73 : decode cX10_from 73 = .ok (.getfield 125, 3) := by decide +kernel
theorem dX10_from_76 : decode cX10_from 76 = .ok (.iload 4, 2) := by decide +kernel
theorem dX10_from_78 : decode cX10_from 78 = .ok (.iadd, 1) := by decide +kernel
theorem dX10_from_79 : decode cX10_from 79 = .ok (.invokestatic 204, 3) := by decide +kernel
theorem dX10_from_82 : decode cX10_from 82 = .ok (.invokevirtual 303, 3) := by decide +kernel
theorem dX10_from_85 : decode cX10_from 85 = .ok (.iinc 4 1, 3) := by decide +kernel
theorem dX10_from_88 : decode cX10_from 88 = .ok (.goto (-40), 3) := by decide +kernel
theorem dX10_from_91 : decode cX10_from 91 = .ok (.aload_n 0, 1) := by decide +kernel
theorem dX10_from_92 : decode cX10_from 92 = .ok (.getfield 67, 3) := by decide +kernel
theorem dX10_from_95 : decode cX10_from 95 = .ok (.iload_n 2, 1) := by decide +kernel
theorem dX10_from_96 : decode cX10_from 96 = .ok (.iaload, 1) := by decide +kernel
theorem dX10_from_97 : decode cX10_from 97 = .ok (.ireturn, 1) := by decide +kernel
theorem dX10_carryGrains_0 : decode cX10_carryGrains 0 = .ok (.iload_n 1, 1) := by decide +kernel
theorem dX10_carryGrains_1 : decode cX10_carryGrains 1 = .ok (.ifCond .lt 14, 3) := by decide +kernel
theorem dX10_carryGrains_4 : decode cX10_carryGrains 4 = .ok (.iload_n 1, 1) := by decide +kernel
theorem dX10_carryGrains_5 : decode cX10_carryGrains 5 = .ok (.aload_n 0, 1) := by decide +kernel
theorem dX10_carryGrains_6 : decode cX10_carryGrains 6 = .ok (.getfield 23, 3) := by decide +kernel
theorem dX10_carryGrains_9 : decode cX10_carryGrains 9 = .ok (.getfield 110, 3) := by decide +kernel
theorem dX10_carryGrains_12 : decode cX10_carryGrains 12 = .ok (.if_icmp .lt 4, 3) := by decide +kernel
theorem dX10_carryGrains_15 : decode cX10_carryGrains 15 = .ok (.return_, 1) := by decide +kernel
theorem dX10_carryGrains_16 : decode cX10_carryGrains 16 = .ok (.iconst 0, 1) := by decide +kernel
theorem dX10_carryGrains_17 : decode cX10_carryGrains 17 = .ok (.istore_n 2, 1) := by decide +kernel
theorem dX10_carryGrains_18 : decode cX10_carryGrains 18 = .ok (.iload_n 2, 1) := by decide +kernel
theorem dX10_carryGrains_19 : decode cX10_carryGrains 19 = .ok (.aload_n 0, 1) := by decide +kernel
theorem dX10_carryGrains_20 : decode cX10_carryGrains 20 = .ok (.getfield 23, 3) := by decide +kernel
theorem dX10_carryGrains_23 : decode cX10_carryGrains 23 = .ok (.getfield 192, 3) := by decide +kernel
theorem dX10_carryGrains_26 : decode cX10_carryGrains 26 = .ok (.iload_n 1, 1) := by decide +kernel
theorem dX10_carryGrains_27 : decode cX10_carryGrains 27 = .ok (.iaload, 1) := by decide +kernel
theorem dX10_carryGrains_28 : decode cX10_carryGrains 28 = .ok (.if_icmp .ge 99, 3) := by decide +kernel
theorem dX10_carryGrains_31 : decode cX10_carryGrains 31 = .ok (.iload_n 1, 1) := by decide +kernel
theorem dX10_carryGrains_32 : decode cX10_carryGrains 32 = .ok (.bipush 8, 2) := by decide +kernel
theorem dX10_carryGrains_34 : decode cX10_carryGrains 34 = .ok (.imul, 1) := by decide +kernel
theorem dX10_carryGrains_35 : decode cX10_carryGrains 35 = .ok (.iload_n 2, 1) := by decide +kernel
theorem dX10_carryGrains_36 : decode cX10_carryGrains 36 = .ok (.iadd, 1) := by decide +kernel
theorem dX10_carryGrains_37 : decode cX10_carryGrains 37 = .ok (.istore_n 3, 1) := by decide +kernel
theorem dX10_carryGrains_38 : decode cX10_carryGrains 38 = .ok (.aload_n 0, 1) := by decide +kernel
theorem dX10_carryGrains_39 : decode cX10_carryGrains 39 = .ok (.getfield 67, 3) := by decide +kernel
theorem dX10_carryGrains_42 : decode cX10_carryGrains 42 = .ok (.aload_n 0, 1) := by decide +kernel
theorem dX10_carryGrains_43 : decode cX10_carryGrains 43 = .ok (.getfield 23, 3) := by decide +kernel
theorem dX10_carryGrains_46 : decode cX10_carryGrains 46 = .ok (.getfield 195, 3) := by decide +kernel
theorem dX10_carryGrains_49 : decode cX10_carryGrains 49 = .ok (.iload_n 3, 1) := by decide +kernel
theorem dX10_carryGrains_50 : decode cX10_carryGrains 50 = .ok (.iaload, 1) := by decide +kernel
theorem dX10_carryGrains_51 : decode cX10_carryGrains 51 = .ok (.iaload, 1) := by decide +kernel
theorem dX10_carryGrains_52 : decode cX10_carryGrains 52 = .ok (.aload_n 0, 1) := by decide +kernel
theorem dX10_carryGrains_53 : decode cX10_carryGrains 53 = .ok (.getfield 23, 3) := by decide +kernel
theorem dX10_carryGrains_56 : decode cX10_carryGrains 56 = .ok (.getfield 201, 3) := by decide +kernel
theorem dX10_carryGrains_59 : decode cX10_carryGrains 59 = .ok (.iload_n 3, 1) := by decide +kernel
theorem dX10_carryGrains_60 : decode cX10_carryGrains 60 = .ok (.iaload, 1) := by decide +kernel
theorem dX10_carryGrains_61 : decode cX10_carryGrains 61 = .ok (.imul, 1) := by decide +kernel
theorem dX10_carryGrains_62 : decode cX10_carryGrains 62 = .ok (.bipush 10, 2) := by decide +kernel
theorem dX10_carryGrains_64 : decode cX10_carryGrains 64 = .ok (.idiv, 1) := by decide +kernel
theorem dX10_carryGrains_65 : decode cX10_carryGrains 65 = .ok (.istore 4, 2) := by decide +kernel
theorem dX10_carryGrains_67 : decode cX10_carryGrains 67 = .ok (.aload_n 0, 1) := by decide +kernel
theorem dX10_carryGrains_68 : decode cX10_carryGrains 68 = .ok (.getfield 67, 3) := by decide +kernel
theorem dX10_carryGrains_71 : decode cX10_carryGrains 71 = .ok (.aload_n 0, 1) := by decide +kernel
theorem dX10_carryGrains_72 : decode cX10_carryGrains 72 = .ok (.getfield 23, 3) := by decide +kernel
theorem dX10_carryGrains_75 : decode cX10_carryGrains 75 = .ok (.getfield 195, 3) := by decide +kernel
theorem dX10_carryGrains_78 : decode cX10_carryGrains 78 = .ok (.iload_n 3, 1) := by decide +kernel
theorem dX10_carryGrains_79 : decode cX10_carryGrains 79 = .ok (.iaload, 1) := by decide +kernel
theorem dX10_carryGrains_80 : decode cX10_carryGrains 80 = .ok (.dup2, 1) := by decide +kernel
theorem dX10_carryGrains_81 : decode cX10_carryGrains 81 = .ok (.iaload, 1) := by decide +kernel
theorem dX10_carryGrains_82 : decode cX10_carryGrains 82 = .ok (.iload 4, 2) := by decide +kernel
theorem dX10_carryGrains_84 : decode cX10_carryGrains 84 = .ok (.isub, 1) := by decide +kernel
theorem dX10_carryGrains_85 : decode cX10_carryGrains 85 = .ok (.iastore, 1) := by decide +kernel
theorem dX10_carryGrains_86 : decode cX10_carryGrains 86 = .ok (.aload_n 0, 1) := by decide +kernel
theorem dX10_carryGrains_87 : decode cX10_carryGrains 87 = .ok (.getfield 67, 3) := by decide +kernel
theorem dX10_carryGrains_90 : decode cX10_carryGrains 90 = .ok (.aload_n 0, 1) := by decide +kernel
theorem dX10_carryGrains_91 : decode cX10_carryGrains 91 = .ok (.getfield 23, 3) := by decide +kernel
theorem dX10_carryGrains_94 : decode cX10_carryGrains 94 = .ok (.getfield 198, 3) := by decide +kernel
theorem dX10_carryGrains_97 : decode cX10_carryGrains 97 = .ok (.iload_n 3, 1) := by decide +kernel
theorem dX10_carryGrains_98 : decode cX10_carryGrains 98 = .ok (.iaload, 1) := by decide +kernel
theorem dX10_carryGrains_99 : decode cX10_carryGrains 99 = .ok (.dup2, 1) := by decide +kernel
theorem dX10_carryGrains_100 : decode cX10_carryGrains 100 = .ok (.iaload, 1) := by decide +kernel
theorem dX10_carryGrains_101 : decode cX10_carryGrains 101 = .ok (.aload_n 0, 1) := by decide +kernel
theorem dX10_carryGrains_102 : decode cX10_carryGrains 102 = .ok (.getfield 23, 3) := by decide +kernel
theorem dX10_carryGrains_105 : decode cX10_carryGrains 105 = .ok (.aload_n 0, 1) := by decide +kernel
theorem dX10_carryGrains_106 : decode cX10_carryGrains 106 = .ok (.getfield 23, 3) := by decide +kernel
theorem dX10_carryGrains_109 : decode cX10_carryGrains 109 = .ok (.getfield 198, 3) := by decide +kernel
theorem dX10_carryGrains_112 : decode cX10_carryGrains 112 = .ok (.iload_n 3, 1) := by decide +kernel
theorem dX10_carryGrains_113 : decode cX10_carryGrains 113 = .ok (.iaload, 1) := by decide +kernel
theorem dX10_carryGrains_114 : decode cX10_carryGrains 114 = .ok (.iload 4, 2) := by decide +kernel
theorem dX10_carryGrains_116 : decode cX10_carryGrains 116 = .ok (.invokevirtual 306, 3) := by decide +kernel
theorem dX10_carryGrains_119 : decode cX10_carryGrains 119 = .ok (.iadd, 1) := by decide +kernel
theorem dX10_carryGrains_120 : decode cX10_carryGrains 120 = .ok (.iastore, 1) := by decide +kernel
theorem dX10_carryGrains_121 : decode cX10_carryGrains 121 = .ok (.iinc 2 1, 3) := by decide +kernel
theorem dX10_carryGrains_124 : decode cX10_carryGrains 124 = .ok (.goto (-106), 3) := by decide +kernel
theorem dX10_carryGrains_127 : decode cX10_carryGrains 127 = .ok (.return_, 1) := by decide +kernel
theorem dX10_lend_0 : decode cX10_lend 0 = .ok (.aload_n 0, 1) := by decide +kernel
theorem dX10_lend_1 : decode cX10_lend 1 = .ok (.iload_n 1, 1) := by decide +kernel
theorem dX10_lend_2 : decode cX10_lend 2 = .ok (.invokevirtual 162, 3) := by decide +kernel
theorem dX10_lend_5 : decode cX10_lend 5 = .ok (.aload_n 0, 1) := by decide +kernel
theorem dX10_lend_6 : decode cX10_lend 6 = .ok (.getfield 23, 3) := by decide +kernel
theorem dX10_lend_9 : decode cX10_lend 9 = .ok (.getfield 119, 3) := by decide +kernel
theorem dX10_lend_12 : decode cX10_lend 12 = .ok (.aload_n 0, 1) := by decide +kernel
theorem dX10_lend_13 : decode cX10_lend 13 = .ok (.getfield 42, 3) := by decide +kernel
theorem dX10_lend_16 : decode cX10_lend 16 = .ok (.getfield 122, 3) := by decide +kernel
theorem dX10_lend_19 : decode cX10_lend 19 = .ok (.getfield 171, 3) := by decide +kernel
theorem dX10_lend_22 : decode cX10_lend 22 = .ok (.iload_n 1, 1) := by decide +kernel
theorem dX10_lend_23 : decode cX10_lend 23 = .ok (.iaload, 1) := by decide +kernel
theorem dX10_lend_24 : decode cX10_lend 24 = .ok (.isub, 1) := by decide +kernel
theorem dX10_lend_25 : decode cX10_lend 25 = .ok (.istore_n 2, 1) := by decide +kernel
theorem dX10_lend_26 : decode cX10_lend 26 = .ok (.iload_n 2, 1) := by decide +kernel
theorem dX10_lend_27 : decode cX10_lend 27 = .ok (.ifCond .gt 5, 3) := by decide +kernel
theorem dX10_lend_30 : decode cX10_lend 30 = .ok (.iconst (-1), 1) := by decide +kernel
theorem dX10_lend_31 : decode cX10_lend 31 = .ok (.ireturn, 1) := by decide +kernel
theorem dX10_lend_32 : decode cX10_lend 32 = .ok (.iconst 0, 1) := by decide +kernel
theorem dX10_lend_33 : decode cX10_lend 33 = .ok (.istore_n 3, 1) := by decide +kernel
theorem dX10_lend_34 : decode cX10_lend 34 = .ok (.iload_n 3, 1) := by decide +kernel
theorem dX10_lend_35 : decode cX10_lend 35 = .ok (.aload_n 0, 1) := by decide +kernel
theorem dX10_lend_36 : decode cX10_lend 36 = .ok (.getfield 23, 3) := by decide +kernel
theorem dX10_lend_39 : decode cX10_lend 39 = .ok (.getfield 104, 3) := by decide +kernel
theorem dX10_lend_42 : decode cX10_lend 42 = .ok (.if_icmp .ge 47, 3) := by decide +kernel
theorem dX10_lend_45 : decode cX10_lend 45 = .ok (.aload_n 0, 1) := by decide +kernel
theorem dX10_lend_46 : decode cX10_lend 46 = .ok (.getfield 23, 3) := by decide +kernel
theorem dX10_lend_49 : decode cX10_lend 49 = .ok (.iload_n 1, 1) := by decide +kernel
theorem dX10_lend_50 : decode cX10_lend 50 = .ok (.iload_n 3, 1) := by decide +kernel
theorem dX10_lend_51 : decode cX10_lend 51 = .ok (.invokevirtual 218, 3) := by decide +kernel
theorem dX10_lend_54 : decode cX10_lend 54 = .ok (.ifCond .eq 29, 3) := by decide +kernel
theorem dX10_lend_57 : decode cX10_lend 57 = .ok (.aload_n 0, 1) := by decide +kernel
theorem dX10_lend_58 : decode cX10_lend 58 = .ok (.getfield 42, 3) := by decide +kernel
theorem dX10_lend_61 : decode cX10_lend 61 = .ok (.getfield 122, 3) := by decide +kernel
theorem dX10_lend_64 : decode cX10_lend 64 = .ok (.getfield 171, 3) := by decide +kernel
theorem dX10_lend_67 : decode cX10_lend 67 = .ok (.iload_n 3, 1) := by decide +kernel
theorem dX10_lend_68 : decode cX10_lend 68 = .ok (.iaload, 1) := by decide +kernel
theorem dX10_lend_69 : decode cX10_lend 69 = .ok (.iload_n 2, 1) := by decide +kernel
theorem dX10_lend_70 : decode cX10_lend 70 = .ok (.isub, 1) := by decide +kernel
theorem dX10_lend_71 : decode cX10_lend 71 = .ok (.aload_n 0, 1) := by decide +kernel
theorem dX10_lend_72 : decode cX10_lend 72 = .ok (.getfield 23, 3) := by decide +kernel
theorem dX10_lend_75 : decode cX10_lend 75 = .ok (.getfield 119, 3) := by decide +kernel
theorem dX10_lend_78 : decode cX10_lend 78 = .ok (.if_icmp .lt 5, 3) := by decide +kernel
theorem dX10_lend_81 : decode cX10_lend 81 = .ok (.iload_n 3, 1) := by decide +kernel
theorem dX10_lend_82 : decode cX10_lend 82 = .ok (.ireturn, 1) := by decide +kernel
theorem dX10_lend_83 : decode cX10_lend 83 = .ok (.iinc 3 1, 3) := by decide +kernel
theorem dX10_lend_86 : decode cX10_lend 86 = .ok (.goto (-52), 3) := by decide +kernel
theorem dX10_lend_89 : decode cX10_lend 89 = .ok (.iconst (-1), 1) := by decide +kernel
theorem dX10_lend_90 : decode cX10_lend 90 = .ok (.ireturn, 1) := by decide +kernel
theorem dX10_riches_0 : decode cX10_riches 0 = .ok (.iload_n 1, 1) := by decide +kernel
theorem dX10_riches_1 : decode cX10_riches 1 = .ok (.ifCond .lt 9, 3) := by decide +kernel
theorem dX10_riches_4 : decode cX10_riches 4 = .ok (.iload_n 1, 1) := by decide +kernel
theorem dX10_riches_5 : decode cX10_riches 5 = .ok (.bipush 6, 2) := by decide +kernel
theorem dX10_riches_7 : decode cX10_riches 7 = .ok (.if_icmp .lt 11, 3) := by decide +kernel
theorem dX10_riches_10 : decode cX10_riches 10 = .ok (.new 159, 3) := by decide +kernel
theorem dX10_riches_13 : decode cX10_riches 13 = .ok (.dup, 1) := by decide +kernel
theorem dX10_riches_14 : decode cX10_riches 14 = .ok (.invokespecial 161, 3) := by decide +kernel
theorem dX10_riches_17 : decode cX10_riches 17 = .ok (.athrow, 1) := by decide +kernel
theorem dX10_riches_18 : decode cX10_riches 18 = .ok (.iconst 0, 1) := by decide +kernel
theorem dX10_riches_19 : decode cX10_riches 19 = .ok (.istore_n 2, 1) := by decide +kernel
theorem dX10_riches_20 : decode cX10_riches 20 = .ok (.iconst 0, 1) := by decide +kernel
theorem dX10_riches_21 : decode cX10_riches 21 = .ok (.istore_n 3, 1) := by decide +kernel
theorem dX10_riches_22 : decode cX10_riches 22 = .ok (.iload_n 3, 1) := by decide +kernel
theorem dX10_riches_23 : decode cX10_riches 23 = .ok (.aload_n 0, 1) := by decide +kernel
theorem dX10_riches_24 : decode cX10_riches 24 = .ok (.getfield 23, 3) := by decide +kernel
theorem dX10_riches_27 : decode cX10_riches 27 = .ok (.getfield 104, 3) := by decide +kernel
theorem dX10_riches_30 : decode cX10_riches 30 = .ok (.if_icmp .ge 37, 3) := by decide +kernel
theorem dX10_riches_33 : decode cX10_riches 33 = .ok (.aload_n 0, 1) := by decide +kernel
theorem dX10_riches_34 : decode cX10_riches 34 = .ok (.getfield 23, 3) := by decide +kernel
theorem dX10_riches_37 : decode cX10_riches 37 = .ok (.getfield 168, 3) := by decide +kernel
theorem dX10_riches_40 : decode cX10_riches 40 = .ok (.iload_n 3, 1) := by decide +kernel
theorem dX10_riches_41 : decode cX10_riches 41 = .ok (.iaload, 1) := by decide +kernel
theorem dX10_riches_42 : decode cX10_riches 42 = .ok (.iload_n 1, 1) := by decide +kernel
theorem dX10_riches_43 : decode cX10_riches 43 = .ok (.if_icmp .ne 18, 3) := by decide +kernel
theorem dX10_riches_46 : decode cX10_riches 46 = .ok (.iload_n 2, 1) := by decide +kernel
theorem dX10_riches_47 : decode cX10_riches 47 = .ok (.aload_n 0, 1) := by decide +kernel
theorem dX10_riches_48 : decode cX10_riches 48 = .ok (.getfield 42, 3) := by decide +kernel
theorem dX10_riches_51 : decode cX10_riches 51 = .ok (.getfield 122, 3) := by decide +kernel
theorem dX10_riches_54 : decode cX10_riches 54 = .ok (.getfield 171, 3) := by decide +kernel
theorem dX10_riches_57 : decode cX10_riches 57 = .ok (.iload_n 3, 1) := by decide +kernel
theorem dX10_riches_58 : decode cX10_riches 58 = .ok (.iaload, 1) := by decide +kernel
theorem dX10_riches_59 : decode cX10_riches 59 = .ok (.iadd, 1) := by decide +kernel
theorem dX10_riches_60 : decode cX10_riches 60 = .ok (.istore_n 2, 1) := by decide +kernel
theorem dX10_riches_61 : decode cX10_riches 61 = .ok (.iinc 3 1, 3) := by decide +kernel
theorem dX10_riches_64 : decode cX10_riches 64 = .ok (.goto (-42), 3) := by decide +kernel
theorem dX10_riches_67 : decode cX10_riches 67 = .ok (.iload_n 2, 1) := by decide +kernel
theorem dX10_riches_68 : decode cX10_riches 68 = .ok (.ireturn, 1) := by decide +kernel
theorem dX10_see_0 : decode cX10_see 0 = .ok (.aload_n 0, 1) := by decide +kernel
theorem dX10_see_1 : decode cX10_see 1 = .ok (.iload_n 1, 1) := by decide +kernel
theorem dX10_see_2 : decode cX10_see 2 = .ok (.invokevirtual 162, 3) := by decide +kernel
theorem dX10_see_5 : decode cX10_see 5 = .ok (.aload_n 0, 1) := by decide +kernel
theorem dX10_see_6 : decode cX10_see 6 = .ok (.getfield 42, 3) := by decide +kernel
theorem dX10_see_9 : decode cX10_see 9 = .ok (.getfield 152, 3) := by decide +kernel
theorem dX10_see_12 : decode cX10_see 12 = .ok (.getfield 156, 3) := by decide +kernel
theorem dX10_see_15 : decode cX10_see 15 = .ok (.bipush 8, 2) := by decide +kernel
theorem dX10_see_17 : decode cX10_see 17 = .ok (.if_icmp .ge 24, 3) := by decide +kernel
theorem dX10_see_20 : decode cX10_see 20 = .ok (.iload_n 2, 1) := by decide +kernel
theorem dX10_see_21 : decode cX10_see 21 = .ok (.ifCond .lt 20, 3) := by decide +kernel
theorem dX10_see_24 : decode cX10_see 24 = .ok (.iload_n 2, 1) := by decide +kernel
theorem dX10_see_25 : decode cX10_see 25 = .ok (.bipush 30, 2) := by decide +kernel
theorem dX10_see_27 : decode cX10_see 27 = .ok (.if_icmp .gt 14, 3) := by decide +kernel
theorem dX10_see_30 : decode cX10_see 30 = .ok (.iload_n 3, 1) := by decide +kernel
theorem dX10_see_31 : decode cX10_see 31 = .ok (.ifCond .lt 10, 3) := by decide +kernel
theorem dX10_see_34 : decode cX10_see 34 = .ok (.iload_n 3, 1) := by decide +kernel
theorem dX10_see_35 : decode cX10_see 35 = .ok (.sipush 9999, 3) := by decide +kernel
theorem dX10_see_38 : decode cX10_see 38 = .ok (.if_icmp .le 9, 3) := by decide +kernel
theorem dX10_see_41 : decode cX10_see 41 = .ok (.aload_n 0, 1) := by decide +kernel
theorem dX10_see_42 : decode cX10_see 42 = .ok (.iconst 2, 1) := by decide +kernel
theorem dX10_see_43 : decode cX10_see 43 = .ok (.invokevirtual 207, 3) := by decide +kernel
theorem dX10_see_46 : decode cX10_see 46 = .ok (.ireturn, 1) := by decide +kernel
theorem dX10_see_47 : decode cX10_see 47 = .ok (.aload_n 0, 1) := by decide +kernel
theorem dX10_see_48 : decode cX10_see 48 = .ok (.getfield 42, 3) := by decide +kernel
theorem dX10_see_51 : decode cX10_see 51 = .ok (.getfield 152, 3) := by decide +kernel
theorem dX10_see_54 : decode cX10_see 54 = .ok (.iload_n 1, 1) := by decide +kernel
theorem dX10_see_55 : decode cX10_see 55 = .ok (.iload_n 2, 1) := by decide +kernel
theorem dX10_see_56 : decode cX10_see 56 = .ok (.iload_n 3, 1) := by decide +kernel
theorem dX10_see_57 : decode cX10_see 57 = .ok (.invokevirtual 309, 3) := by decide +kernel
theorem dX10_see_60 : decode cX10_see 60 = .ok (.aload_n 0, 1) := by decide +kernel
theorem dX10_see_61 : decode cX10_see 61 = .ok (.getfield 42, 3) := by decide +kernel
theorem dX10_see_64 : decode cX10_see 64 = .ok (.getfield 152, 3) := by decide +kernel
theorem dX10_see_67 : decode cX10_see 67 = .ok (.getfield 156, 3) := by decide +kernel
theorem dX10_see_70 : decode cX10_see 70 = .ok (.ireturn, 1) := by decide +kernel
theorem dX10_hand_0 : decode cX10_hand 0 = .ok (.iload_n 1, 1) := by decide +kernel
theorem dX10_hand_1 : decode cX10_hand 1 = .ok (.ifCond .lt 8, 3) := by decide +kernel
theorem dX10_hand_4 : decode cX10_hand 4 = .ok (.iload_n 1, 1) := by decide +kernel
theorem dX10_hand_5 : decode cX10_hand 5 = .ok (.iconst 2, 1) := by decide +kernel
theorem dX10_hand_6 : decode cX10_hand 6 = .ok (.if_icmp .le 11, 3) := by decide +kernel
theorem dX10_hand_9 : decode cX10_hand 9 = .ok (.new 159, 3) := by decide +kernel
theorem dX10_hand_12 : decode cX10_hand 12 = .ok (.dup, 1) := by decide +kernel
theorem dX10_hand_13 : decode cX10_hand 13 = .ok (.invokespecial 161, 3) := by decide +kernel
theorem dX10_hand_16 : decode cX10_hand 16 = .ok (.athrow, 1) := by decide +kernel
theorem dX10_hand_17 : decode cX10_hand 17 = .ok (.iload_n 1, 1) := by decide +kernel
theorem dX10_hand_18 : decode cX10_hand 18 = .ok (.iconst 2, 1) := by decide +kernel
theorem dX10_hand_19 : decode cX10_hand 19 = .ok (.if_icmp .ne 18, 3) := by decide +kernel
theorem dX10_hand_22 : decode cX10_hand 22 = .ok (.aload_n 0, 1) := by decide +kernel
theorem dX10_hand_23 : decode cX10_hand 23 = .ok (.iconst 0, 1) := by decide +kernel
theorem dX10_hand_24 : decode cX10_hand 24 = .ok (.iconst 0, 1) := by decide +kernel
theorem dX10_hand_25 : decode cX10_hand 25 = .ok (.invokevirtual 312, 3) := by decide +kernel
theorem dX10_hand_28 : decode cX10_hand 28 = .ok (.ifCond .eq 7, 3) := by decide +kernel
theorem dX10_hand_31 : decode cX10_hand 31 = .ok (.iconst 1, 1) := by decide +kernel
theorem dX10_hand_32 : decode cX10_hand 32 = .ok (.goto 4, 3) := by decide +kernel
theorem dX10_hand_35 : decode cX10_hand 35 = .ok (.iconst 0, 1) := by decide +kernel
theorem dX10_hand_36 : decode cX10_hand 36 = .ok (.ireturn, 1) := by decide +kernel
theorem dX10_hand_37 : decode cX10_hand 37 = .ok (.iconst 0, 1) := by decide +kernel
theorem dX10_hand_38 : decode cX10_hand 38 = .ok (.istore_n 2, 1) := by decide +kernel
theorem dX10_hand_39 : decode cX10_hand 39 = .ok (.iconst 0, 1) := by decide +kernel
theorem dX10_hand_40 : decode cX10_hand 40 = .ok (.istore_n 3, 1) := by decide +kernel
theorem dX10_hand_41 : decode cX10_hand 41 = .ok (.iload_n 3, 1) := by decide +kernel
theorem dX10_hand_42 : decode cX10_hand 42 = .ok (.aload_n 0, 1) := by decide +kernel
theorem dX10_hand_43 : decode cX10_hand 43 = .ok (.getfield 23, 3) := by decide +kernel
theorem dX10_hand_46 : decode cX10_hand 46 = .ok (.getfield 104, 3) := by decide +kernel
theorem dX10_hand_49 : decode cX10_hand 49 = .ok (.if_icmp .ge 73, 3) := by decide +kernel
theorem dX10_hand_52 : decode cX10_hand 52 = .ok (.bipush 99, 2) := by decide +kernel
theorem dX10_hand_54 : decode cX10_hand 54 = .ok (.aload_n 0, 1) := by decide +kernel
theorem dX10_hand_55 : decode cX10_hand 55 = .ok (.getfield 42, 3) := by decide +kernel
theorem dX10_hand_58 : decode cX10_hand 58 = .ok (.getfield 122, 3) := by decide +kernel
theorem dX10_hand_61 : decode cX10_hand 61 = .ok (.getfield 171, 3) := by decide +kernel
theorem dX10_hand_64 : decode cX10_hand 64 = .ok (.iload_n 3, 1) := by decide +kernel
theorem dX10_hand_65 : decode cX10_hand 65 = .ok (.iaload, 1) := by decide +kernel
theorem dX10_hand_66 : decode cX10_hand 66 = .ok (.invokestatic 292, 3) := by decide +kernel
theorem dX10_hand_69 : decode cX10_hand 69 = .ok (.istore 4, 2) := by decide +kernel
theorem dX10_hand_71 : decode cX10_hand 71 = .ok (.iconst 1, 1) := by decide +kernel
theorem dX10_hand_72 : decode cX10_hand 72 = .ok (.istore 5, 2) := by decide +kernel
theorem dX10_hand_74 : decode cX10_hand 74 = .ok (.iload 5, 2) := by decide +kernel
theorem dX10_hand_76 : decode cX10_hand 76 = .ok (.iload 4, 2) := by decide +kernel
theorem dX10_hand_78 : decode cX10_hand 78 = .ok (.if_icmp .gt 38, 3) := by decide +kernel
theorem dX10_hand_81 : decode cX10_hand 81 = .ok (.aload_n 0, 1) := by decide +kernel
theorem dX10_hand_82 : decode cX10_hand 82 = .ok (.iload_n 3, 1) := by decide +kernel
theorem dX10_hand_83 : decode cX10_hand 83 = .ok (.iload 5, 2) := by decide +kernel
theorem dX10_hand_85 : decode cX10_hand 85 = .ok (.invokevirtual 312, 3) := by decide +kernel
theorem dX10_hand_88 : decode cX10_hand 88 = .ok (.ifCond .ne 6, 3) := by decide +kernel
theorem dX10_hand_91 : decode cX10_hand 91 = .ok (.goto 19, 3) := by decide +kernel
theorem dX10_hand_94 : decode cX10_hand 94 = .ok (.iload_n 1, 1) := by decide +kernel
theorem dX10_hand_95 : decode cX10_hand 95 = .ok (.iconst 1, 1) := by decide +kernel
theorem dX10_hand_96 : decode cX10_hand 96 = .ok (.if_icmp .ne 11, 3) := by decide +kernel
theorem dX10_hand_99 : decode cX10_hand 99 = .ok (.bipush 100, 2) := by decide +kernel
theorem dX10_hand_101 : decode cX10_hand 101 = .ok (.iload_n 3, 1) := by decide +kernel
theorem dX10_hand_102 : decode cX10_hand 102 = .ok (.imul, 1) := by decide +kernel
theorem dX10_hand_103 : decode cX10_hand 103 = .ok (.iload 5, 2) := by decide +kernel
theorem dX10_hand_105 : decode cX10_hand 105 = .ok (.iadd, 1) := by decide +kernel
theorem dX10_hand_106 : decode cX10_hand 106 = .ok (.ireturn, 1) := by decide +kernel
theorem dX10_hand_107 : decode cX10_hand 107 = .ok (.iinc 2 1, 3) := by decide +kernel
theorem dX10_hand_110 : decode cX10_hand 110 = .ok (.iinc 5 1, 3) := by decide +kernel
theorem dX10_hand_113 : decode cX10_hand 113 = .ok (.goto (-39), 3) := by decide +kernel
theorem dX10_hand_116 : decode cX10_hand 116 = .ok (.iinc 3 1, 3) := by decide +kernel
theorem dX10_hand_119 : decode cX10_hand 119 = .ok (.goto (-78), 3) := by decide +kernel
theorem dX10_hand_122 : decode cX10_hand 122 = .ok (.iload_n 1, 1) := by decide +kernel
theorem dX10_hand_123 : decode cX10_hand 123 = .ok (.ifCond .ne 7, 3) := by decide +kernel
theorem dX10_hand_126 : decode cX10_hand 126 = .ok (.iload_n 2, 1) := by decide +kernel
theorem dX10_hand_127 : decode cX10_hand 127 = .ok (.goto 4, 3) := by decide +kernel
theorem dX10_hand_130 : decode cX10_hand 130 = .ok (.iconst (-1), 1) := by decide +kernel
theorem dX10_hand_131 : decode cX10_hand 131 = .ok (.ireturn, 1) := by decide +kernel
theorem dX10_wouldBeSo_0 : decode cX10_wouldBeSo 0 = .ok (.aload_n 0, 1) := by decide +kernel
theorem dX10_wouldBeSo_1 : decode cX10_wouldBeSo 1 = .ok (.getfield 56, 3) := by decide +kernel
theorem dX10_wouldBeSo_4 : decode cX10_wouldBeSo 4 = .ok (.aload_n 0, 1) := by decide +kernel
theorem dX10_wouldBeSo_5 : decode cX10_wouldBeSo 5 = .ok (.getfield 42, 3) := by decide +kernel
theorem dX10_wouldBeSo_8 : decode cX10_wouldBeSo 8 = .ok (.getfield 122, 3) := by decide +kernel
theorem dX10_wouldBeSo_11 : decode cX10_wouldBeSo 11 = .ok (.invokevirtual 241, 3) := by decide +kernel
theorem dX10_wouldBeSo_14 : decode cX10_wouldBeSo 14 = .ok (.aload_n 0, 1) := by decide +kernel
theorem dX10_wouldBeSo_15 : decode cX10_wouldBeSo 15 = .ok (.getfield 56, 3) := by decide +kernel
theorem dX10_wouldBeSo_18 : decode cX10_wouldBeSo 18 = .ok (.getfield 171, 3) := by decide +kernel
theorem dX10_wouldBeSo_21 : decode cX10_wouldBeSo 21 = .ok (.iload_n 1, 1) := by decide +kernel
theorem dX10_wouldBeSo_22 : decode cX10_wouldBeSo 22 = .ok (.dup2, 1) := by decide +kernel
theorem dX10_wouldBeSo_23 : decode cX10_wouldBeSo 23 = .ok (.iaload, 1) := by decide +kernel
theorem dX10_wouldBeSo_24 : decode cX10_wouldBeSo 24 = .ok (.iload_n 2, 1) := by decide +kernel
theorem dX10_wouldBeSo_25 : decode cX10_wouldBeSo 25 = .ok (.isub, 1) := by decide +kernel
theorem dX10_wouldBeSo_26 : decode cX10_wouldBeSo 26 = .ok (.iastore, 1) := by decide +kernel
theorem dX10_wouldBeSo_27 : decode cX10_wouldBeSo 27 = .ok (.aload_n 0, 1) := by decide +kernel
theorem dX10_wouldBeSo_28 : decode cX10_wouldBeSo 28 = .ok (.getfield 42, 3) := by decide +kernel
theorem dX10_wouldBeSo_31 : decode cX10_wouldBeSo 31 = .ok (.getfield 152, 3) := by decide +kernel
theorem dX10_wouldBeSo_34 : decode cX10_wouldBeSo 34 = .ok (.invokevirtual 315, 3) := by decide +kernel
theorem dX10_wouldBeSo_37 : decode cX10_wouldBeSo 37 = .ok (.istore_n 3, 1) := by decide +kernel
theorem dX10_wouldBeSo_38 : decode cX10_wouldBeSo 38 = .ok (.iconst 0, 1) := by decide +kernel
theorem dX10_wouldBeSo_39 : decode cX10_wouldBeSo 39 = .ok (.istore 4, 2) := by decide +kernel
theorem dX10_wouldBeSo_41 : decode cX10_wouldBeSo 41 = .ok (.iload 4, 2) := by decide +kernel
theorem dX10_wouldBeSo_43 : decode cX10_wouldBeSo 43 = .ok (.iload_n 3, 1) := by decide +kernel
theorem dX10_wouldBeSo_44 : decode cX10_wouldBeSo 44 = .ok (.if_icmp .gt 48, 3) := by decide +kernel
theorem dX10_wouldBeSo_47 : decode cX10_wouldBeSo 47 = .ok (.aload_n 0, 1) := by decide +kernel
theorem dX10_wouldBeSo_48 : decode cX10_wouldBeSo 48 = .ok (.getfield 42, 3) := by decide +kernel
theorem dX10_wouldBeSo_51 : decode cX10_wouldBeSo 51 = .ok (.getfield 152, 3) := by decide +kernel
theorem dX10_wouldBeSo_54 : decode cX10_wouldBeSo 54 = .ok (.iload 4, 2) := by decide +kernel
theorem dX10_wouldBeSo_56 : decode cX10_wouldBeSo 56 = .ok (.aload_n 0, 1) := by decide +kernel
theorem dX10_wouldBeSo_57 : decode cX10_wouldBeSo 57 = .ok (.getfield 56, 3) := by decide +kernel
theorem dX10_wouldBeSo_60 : decode cX10_wouldBeSo 60 = .ok (.invokevirtual 318, 3) := by decide +kernel
theorem dX10_wouldBeSo_63 : decode cX10_wouldBeSo 63 = .ok (.ifCond .ne 5, 3) := by decide +kernel
theorem dX10_wouldBeSo_66 : decode cX10_wouldBeSo 66 = .ok (.iconst 0, 1) := by decide +kernel
theorem dX10_wouldBeSo_67 : decode cX10_wouldBeSo 67 = .ok (.ireturn, 1) := by decide +kernel
theorem dX10_wouldBeSo_68 : decode cX10_wouldBeSo 68 = .ok (.iload 4, 2) := by decide +kernel
theorem dX10_wouldBeSo_70 : decode cX10_wouldBeSo 70 = .ok (.iload_n 3, 1) := by decide +kernel
theorem dX10_wouldBeSo_71 : decode cX10_wouldBeSo 71 = .ok (.if_icmp .ge 15, 3) := by decide +kernel
theorem dX10_wouldBeSo_74 : decode cX10_wouldBeSo 74 = .ok (.aload_n 0, 1) := by decide +kernel
theorem dX10_wouldBeSo_75 : decode cX10_wouldBeSo 75 = .ok (.getfield 23, 3) := by decide +kernel
theorem dX10_wouldBeSo_78 : decode cX10_wouldBeSo 78 = .ok (.aload_n 0, 1) := by decide +kernel
theorem dX10_wouldBeSo_79 : decode cX10_wouldBeSo 79 = .ok (.getfield 56, 3) := by decide +kernel
theorem dX10_wouldBeSo_82 : decode cX10_wouldBeSo 82 = .ok (.iconst 1, 1) := by decide +kernel
theorem dX10_wouldBeSo_83 : decode cX10_wouldBeSo 83 = .ok (.invokestatic 214, 3) := by decide +kernel
theorem dX10_wouldBeSo_86 : decode cX10_wouldBeSo 86 = .ok (.iinc 4 1, 3) := by decide +kernel
theorem dX10_wouldBeSo_89 : decode cX10_wouldBeSo 89 = .ok (.goto (-48), 3) := by decide +kernel
theorem dX10_wouldBeSo_92 : decode cX10_wouldBeSo 92 = .ok (.iconst 1, 1) := by decide +kernel
theorem dX10_wouldBeSo_93 : decode cX10_wouldBeSo 93 = .ok (.ireturn, 1) := by decide +kernel
theorem dX10_forget_0 : decode cX10_forget 0 = .ok (.aload_n 0, 1) := by decide +kernel
theorem dX10_forget_1 : decode cX10_forget 1 = .ok (.getfield 42, 3) := by decide +kernel
theorem dX10_forget_4 : decode cX10_forget 4 = .ok (.getfield 152, 3) := by decide +kernel
theorem dX10_forget_7 : decode cX10_forget 7 = .ok (.iconst 0, 1) := by decide +kernel
theorem dX10_forget_8 : decode cX10_forget 8 = .ok (.putfield 156, 3) := by decide +kernel
theorem dX10_forget_11 : decode cX10_forget 11 = .ok (.return_, 1) := by decide +kernel
theorem dX10_game_0 : decode cX10_game 0 = .ok (.iload_n 3, 1) := by decide +kernel
theorem dX10_game_1 : decode cX10_game 1 = .ok (.ifCond .lt 8, 3) := by decide +kernel
theorem dX10_game_4 : decode cX10_game 4 = .ok (.iload_n 3, 1) := by decide +kernel
theorem dX10_game_5 : decode cX10_game 5 = .ok (.iconst 1, 1) := by decide +kernel
theorem dX10_game_6 : decode cX10_game 6 = .ok (.if_icmp .le 11, 3) := by decide +kernel
theorem dX10_game_9 : decode cX10_game 9 = .ok (.new 159, 3) := by decide +kernel
theorem dX10_game_12 : decode cX10_game 12 = .ok (.dup, 1) := by decide +kernel
theorem dX10_game_13 : decode cX10_game 13 = .ok (.invokespecial 161, 3) := by decide +kernel
theorem dX10_game_16 : decode cX10_game 16 = .ok (.athrow, 1) := by decide +kernel
theorem dX10_game_17 : decode cX10_game 17 = .ok (.iload_n 1, 1) := by decide +kernel
theorem dX10_game_18 : decode cX10_game 18 = .ok (.ifCond .lt 24, 3) := by decide +kernel
theorem dX10_game_21 : decode cX10_game 21 = .ok (.iload_n 1, 1) := by decide +kernel
theorem dX10_game_22 : decode cX10_game 22 = .ok (.bipush 6, 2) := by decide +kernel
theorem dX10_game_24 : decode cX10_game 24 = .ok (.if_icmp .ge 18, 3) := by decide +kernel
theorem dX10_game_27 : decode cX10_game 27 = .ok (.iload_n 2, 1) := by decide +kernel
theorem dX10_game_28 : decode cX10_game 28 = .ok (.ifCond .lt 14, 3) := by decide +kernel
theorem dX10_game_31 : decode cX10_game 31 = .ok (.iload_n 2, 1) := by decide +kernel
theorem dX10_game_32 : decode cX10_game 32 = .ok (.bipush 6, 2) := by decide +kernel
theorem dX10_game_34 : decode cX10_game 34 = .ok (.if_icmp .ge 8, 3) := by decide +kernel
theorem dX10_game_37 : decode cX10_game 37 = .ok (.iload_n 1, 1) := by decide +kernel
theorem dX10_game_38 : decode cX10_game 38 = .ok (.iload_n 2, 1) := by decide +kernel
theorem dX10_game_39 : decode cX10_game 39 = .ok (.if_icmp .ne 11, 3) := by decide +kernel
theorem dX10_game_42 : decode cX10_game 42 = .ok (.new 83, 3) := by decide +kernel
theorem dX10_game_45 : decode cX10_game 45 = .ok (.dup, 1) := by decide +kernel
theorem dX10_game_46 : decode cX10_game 46 = .ok (.invokespecial 85, 3) := by decide +kernel
theorem dX10_game_49 : decode cX10_game 49 = .ok (.athrow, 1) := by decide +kernel
theorem dX10_game_50 : decode cX10_game 50 = .ok (.aload_n 0, 1) := by decide +kernel
theorem dX10_game_51 : decode cX10_game 51 = .ok (.iload_n 1, 1) := by decide +kernel
theorem dX10_game_52 : decode cX10_game 52 = .ok (.invokevirtual 322, 3) := by decide +kernel
theorem dX10_game_55 : decode cX10_game 55 = .ok (.istore 4, 2) := by decide +kernel
theorem dX10_game_57 : decode cX10_game 57 = .ok (.aload_n 0, 1) := by decide +kernel
theorem dX10_game_58 : decode cX10_game 58 = .ok (.iload_n 2, 1) := by decide +kernel
theorem dX10_game_59 : decode cX10_game 59 = .ok (.invokevirtual 322, 3) := by decide +kernel
theorem dX10_game_62 : decode cX10_game 62 = .ok (.istore 5, 2) := by decide +kernel
theorem dX10_game_64 : decode cX10_game 64 = .ok (.iconst 0, 1) := by decide +kernel
theorem dX10_game_65 : decode cX10_game 65 = .ok (.istore 6, 2) := by decide +kernel
theorem dX10_game_67 : decode cX10_game 67 = .ok (.iconst (-1), 1) := by decide +kernel
theorem dX10_game_68 : decode cX10_game 68 = .ok (.istore 7, 2) := by decide +kernel
theorem dX10_game_70 : decode cX10_game 70 = .ok (.iconst 0, 1) := by decide +kernel
theorem dX10_game_71 : decode cX10_game 71 = .ok (.istore 8, 2) := by decide +kernel
theorem dX10_game_73 : decode cX10_game 73 = .ok (.iload 8, 2) := by decide +kernel
theorem dX10_game_75 : decode cX10_game 75 = .ok (.iconst 4, 1) := by decide +kernel
theorem dX10_game_76 : decode cX10_game 76 = .ok (.if_icmp .ge 85, 3) := by decide +kernel
theorem dX10_game_79 : decode cX10_game 79 = .ok (.iload 4, 2) := by decide +kernel
theorem dX10_game_81 : decode cX10_game 81 = .ok (.iconst (-1), 1) := by decide +kernel
theorem dX10_game_82 : decode cX10_game 82 = .ok (.if_icmp .eq 79, 3) := by decide +kernel
theorem dX10_game_85 : decode cX10_game 85 = .ok (.iload 5, 2) := by decide +kernel
theorem dX10_game_87 : decode cX10_game 87 = .ok (.iconst (-1), 1) := by decide +kernel
theorem dX10_game_88 : decode cX10_game 88 = .ok (.if_icmp .eq 73, 3) := by decide +kernel
theorem dX10_game_91 : decode cX10_game 91 = .ok (.aload_n 0, 1) := by decide +kernel
theorem dX10_game_92 : decode cX10_game 92 = .ok (.aload_n 0, 1) := by decide +kernel
theorem dX10_game_93 : decode cX10_game 93 = .ok (.getfield 42, 3) := by decide +kernel
theorem dX10_game_96 : decode cX10_game 96 = .ok (.getfield 122, 3) := by decide +kernel
theorem dX10_game_99 : decode cX10_game 99 = .ok (.getfield 171, 3) := by decide +kernel
theorem dX10_game_102 : decode cX10_game 102 = .ok (.iload 4, 2) := by decide +kernel
theorem dX10_game_104 : decode cX10_game 104 = .ok (.iaload, 1) := by decide +kernel
theorem dX10_game_105 : decode cX10_game 105 = .ok (.aload_n 0, 1) := by decide +kernel
theorem dX10_game_106 : decode cX10_game 106 = .ok (.getfield 42, 3) := by decide +kernel
theorem dX10_game_109 : decode cX10_game 109 = .ok (.getfield 122, 3) := by decide +kernel
theorem dX10_game_112 : decode cX10_game 112 = .ok (.getfield 171, 3) := by decide +kernel
theorem dX10_game_115 : decode cX10_game 115 = .ok (.iload 5, 2) := by decide +kernel
theorem dX10_game_117 : decode cX10_game 117 = .ok (.iaload, 1) := by decide +kernel
theorem dX10_game_118 : decode cX10_game 118 = .ok (.iload 8, 2) := by decide +kernel
theorem dX10_game_120 : decode cX10_game 120 = .ok (.iconst 1, 1) := by decide +kernel
theorem dX10_game_121 : decode cX10_game 121 = .ok (.ishr, 1) := by decide +kernel
theorem dX10_game_122 : decode cX10_game 122 = .ok (.iload 8, 2) := by decide +kernel
theorem dX10_game_124 : decode cX10_game 124 = .ok (.iconst 1, 1) := by decide +kernel
theorem dX10_game_125 : decode cX10_game 125 = .ok (.iand, 1) := by decide +kernel
theorem dX10_game_126 : decode cX10_game 126 = .ok (.invokevirtual 325, 3) := by decide +kernel
theorem dX10_game_129 : decode cX10_game 129 = .ok (.ifCond .eq 26, 3) := by decide +kernel
theorem dX10_game_132 : decode cX10_game 132 = .ok (.iinc 6 1, 3) := by decide +kernel
theorem dX10_game_135 : decode cX10_game 135 = .ok (.iload 7, 2) := by decide +kernel
theorem dX10_game_137 : decode cX10_game 137 = .ok (.iconst (-1), 1) := by decide +kernel
theorem dX10_game_138 : decode cX10_game 138 = .ok (.if_icmp .ne 17, 3) := by decide +kernel
theorem dX10_game_141 : decode cX10_game 141 = .ok (.bipush 10, 2) := by decide +kernel
theorem dX10_game_143 : decode cX10_game 143 = .ok (.iload 8, 2) := by decide +kernel
theorem dX10_game_145 : decode cX10_game 145 = .ok (.iconst 1, 1) := by decide +kernel
theorem dX10_game_146 : decode cX10_game 146 = .ok (.ishr, 1) := by decide +kernel
theorem dX10_game_147 : decode cX10_game 147 = .ok (.imul, 1) := by decide +kernel
theorem dX10_game_148 : decode cX10_game 148 = .ok (.iload 8, 2) := by decide +kernel
theorem dX10_game_150 : decode cX10_game 150 = .ok (.iconst 1, 1) := by decide +kernel
theorem dX10_game_151 : decode cX10_game 151 = .ok (.iand, 1) := by decide +kernel
theorem dX10_game_152 : decode cX10_game 152 = .ok (.iadd, 1) := by decide +kernel
theorem dX10_game_153 : decode cX10_game 153 = .ok (.istore 7, 2) := by decide +kernel
theorem dX10_game_155 : decode cX10_game 155 = .ok (.iinc 8 1, 3) := by decide +kernel
theorem dX10_game_158 : decode cX10_game 158 = .ok (.goto (-85), 3) := by decide +kernel
theorem dX10_game_161 : decode cX10_game 161 = .ok (.iload_n 3, 1) := by decide +kernel
theorem dX10_game_162 : decode cX10_game 162 = .ok (.ifCond .ne 8, 3) := by decide +kernel
theorem dX10_game_165 : decode cX10_game 165 = .ok (.iload 6, 2) := by decide +kernel
theorem dX10_game_167 : decode cX10_game 167 = .ok (.goto 5, 3) := by decide +kernel
theorem dX10_game_170 : decode cX10_game 170 = .ok (.iload 7, 2) := by decide +kernel
theorem dX10_game_172 : decode cX10_game 172 = .ok (.ireturn, 1) := by decide +kernel
theorem dX10_lowestRoom_0 : decode cX10_lowestRoom 0 = .ok (.iconst 0, 1) := by decide +kernel
theorem dX10_lowestRoom_1 : decode cX10_lowestRoom 1 = .ok (.istore_n 2, 1) := by decide +kernel
theorem dX10_lowestRoom_2 : decode cX10_lowestRoom 2 = .ok (.iload_n 2, 1) := by decide +kernel
theorem dX10_lowestRoom_3 : decode cX10_lowestRoom 3 = .ok (.aload_n 0, 1) := by decide +kernel
theorem dX10_lowestRoom_4 : decode cX10_lowestRoom 4 = .ok (.getfield 23, 3) := by decide +kernel
theorem dX10_lowestRoom_7 : decode cX10_lowestRoom 7 = .ok (.getfield 104, 3) := by decide +kernel
theorem dX10_lowestRoom_10 : decode cX10_lowestRoom 10 = .ok (.if_icmp .ge 24, 3) := by decide +kernel
theorem dX10_lowestRoom_13 : decode cX10_lowestRoom 13 = .ok (.aload_n 0, 1) := by decide +kernel
theorem dX10_lowestRoom_14 : decode cX10_lowestRoom 14 = .ok (.getfield 23, 3) := by decide +kernel
theorem dX10_lowestRoom_17 : decode cX10_lowestRoom 17 = .ok (.getfield 168, 3) := by decide +kernel
theorem dX10_lowestRoom_20 : decode cX10_lowestRoom 20 = .ok (.iload_n 2, 1) := by decide +kernel
theorem dX10_lowestRoom_21 : decode cX10_lowestRoom 21 = .ok (.iaload, 1) := by decide +kernel
theorem dX10_lowestRoom_22 : decode cX10_lowestRoom 22 = .ok (.iload_n 1, 1) := by decide +kernel
theorem dX10_lowestRoom_23 : decode cX10_lowestRoom 23 = .ok (.if_icmp .ne 5, 3) := by decide +kernel
theorem dX10_lowestRoom_26 : decode cX10_lowestRoom 26 = .ok (.iload_n 2, 1) := by decide +kernel
theorem dX10_lowestRoom_27 : decode cX10_lowestRoom 27 = .ok (.ireturn, 1) := by decide +kernel
theorem dX10_lowestRoom_28 : decode cX10_lowestRoom 28 = .ok (.iinc 2 1, 3) := by decide +kernel
theorem dX10_lowestRoom_31 : decode cX10_lowestRoom 31 = .ok (.goto (-29), 3) := by decide +kernel
theorem dX10_lowestRoom_34 : decode cX10_lowestRoom 34 = .ok (.iconst (-1), 1) := by decide +kernel
theorem dX10_lowestRoom_35 : decode cX10_lowestRoom 35 = .ok (.ireturn, 1) := by decide +kernel
theorem dX10_rests_0 : decode cX10_rests 0 = .ok (.aload_n 0, 1) := by decide +kernel
theorem dX10_rests_1 : decode cX10_rests 1 = .ok (.iload_n 1, 1) := by decide +kernel
theorem dX10_rests_2 : decode cX10_rests 2 = .ok (.iload_n 2, 1) := by decide +kernel
theorem dX10_rests_3 : decode cX10_rests 3 = .ok (.iload_n 3, 1) := by decide +kernel
theorem dX10_rests_4 : decode cX10_rests 4 = .ok (.iload 4, 2) := by decide +kernel
theorem dX10_rests_6 : decode cX10_rests 6 = .ok (.invokevirtual 329, 3) := by decide +kernel
theorem dX10_rests_9 : decode cX10_rests 9 = .ok (.aload_n 0, 1) := by decide +kernel
theorem dX10_rests_10 : decode cX10_rests 10 = .ok (.iload_n 1, 1) := by decide +kernel
theorem dX10_rests_11 : decode cX10_rests 11 = .ok (.iload_n 2, 1) := by decide +kernel
theorem dX10_rests_12 : decode cX10_rests 12 = .ok (.iconst 1, 1) := by decide +kernel
theorem dX10_rests_13 : decode cX10_rests 13 = .ok (.iload_n 3, 1) := by decide +kernel
theorem dX10_rests_14 : decode cX10_rests 14 = .ok (.isub, 1) := by decide +kernel
theorem dX10_rests_15 : decode cX10_rests 15 = .ok (.iload 4, 2) := by decide +kernel
theorem dX10_rests_17 : decode cX10_rests 17 = .ok (.invokevirtual 329, 3) := by decide +kernel
theorem dX10_rests_20 : decode cX10_rests 20 = .ok (.if_icmp .gt 30, 3) := by decide +kernel
theorem dX10_rests_23 : decode cX10_rests 23 = .ok (.aload_n 0, 1) := by decide +kernel
theorem dX10_rests_24 : decode cX10_rests 24 = .ok (.iload_n 2, 1) := by decide +kernel
theorem dX10_rests_25 : decode cX10_rests 25 = .ok (.iload_n 1, 1) := by decide +kernel
theorem dX10_rests_26 : decode cX10_rests 26 = .ok (.iload 4, 2) := by decide +kernel
theorem dX10_rests_28 : decode cX10_rests 28 = .ok (.iload_n 3, 1) := by decide +kernel
theorem dX10_rests_29 : decode cX10_rests 29 = .ok (.invokevirtual 329, 3) := by decide +kernel
theorem dX10_rests_32 : decode cX10_rests 32 = .ok (.aload_n 0, 1) := by decide +kernel
theorem dX10_rests_33 : decode cX10_rests 33 = .ok (.iload_n 2, 1) := by decide +kernel
theorem dX10_rests_34 : decode cX10_rests 34 = .ok (.iload_n 1, 1) := by decide +kernel
theorem dX10_rests_35 : decode cX10_rests 35 = .ok (.iconst 1, 1) := by decide +kernel
theorem dX10_rests_36 : decode cX10_rests 36 = .ok (.iload 4, 2) := by decide +kernel
theorem dX10_rests_38 : decode cX10_rests 38 = .ok (.isub, 1) := by decide +kernel
theorem dX10_rests_39 : decode cX10_rests 39 = .ok (.iload_n 3, 1) := by decide +kernel
theorem dX10_rests_40 : decode cX10_rests 40 = .ok (.invokevirtual 329, 3) := by decide +kernel
theorem dX10_rests_43 : decode cX10_rests 43 = .ok (.if_icmp .gt 7, 3) := by decide +kernel
theorem dX10_rests_46 : decode cX10_rests 46 = .ok (.iconst 1, 1) := by decide +kernel
theorem dX10_rests_47 : decode cX10_rests 47 = .ok (.goto 4, 3) := by decide +kernel
theorem dX10_rests_50 : decode cX10_rests 50 = .ok (.iconst 0, 1) := by decide +kernel
theorem dX10_rests_51 : decode cX10_rests 51 = .ok (.ireturn, 1) := by decide +kernel
theorem dX10_lossOf_0 : decode cX10_lossOf 0 = .ok (.sipush 9999, 3) := by decide +kernel
theorem dX10_lossOf_3 : decode cX10_lossOf 3 = .ok (.iload_n 1, 1) := by decide +kernel
theorem dX10_lossOf_4 : decode cX10_lossOf 4 = .ok (.iload_n 3, 1) := by decide +kernel
theorem dX10_lossOf_5 : decode cX10_lossOf 5 = .ok (.iload_n 1, 1) := by decide +kernel
theorem dX10_lossOf_6 : decode cX10_lossOf 6 = .ok (.iconst 2, 1) := by decide +kernel
theorem dX10_lossOf_7 : decode cX10_lossOf 7 = .ok (.idiv, 1) := by decide +kernel
theorem dX10_lossOf_8 : decode cX10_lossOf 8 = .ok (.imul, 1) := by decide +kernel
theorem dX10_lossOf_9 : decode cX10_lossOf 9 = .ok (.isub, 1) := by decide +kernel
theorem dX10_lossOf_10 : decode cX10_lossOf 10 = .ok (.iload 4, 2) := by decide +kernel
theorem dX10_lossOf_12 : decode cX10_lossOf 12 = .ok (.iload_n 2, 1) := by decide +kernel
theorem dX10_lossOf_13 : decode cX10_lossOf 13 = .ok (.iconst 2, 1) := by decide +kernel
theorem dX10_lossOf_14 : decode cX10_lossOf 14 = .ok (.idiv, 1) := by decide +kernel
theorem dX10_lossOf_15 : decode cX10_lossOf 15 = .ok (.imul, 1) := by decide +kernel
theorem dX10_lossOf_16 : decode cX10_lossOf 16 = .ok (.iadd, 1) := by decide +kernel
theorem dX10_lossOf_17 : decode cX10_lossOf 17 = .ok (.invokestatic 292, 3) := by decide +kernel
theorem dX10_lossOf_20 : decode cX10_lossOf 20 = .ok (.istore 5, 2) := by decide +kernel
theorem dX10_lossOf_22 : decode cX10_lossOf 22 = .ok (.iload 5, 2) := by decide +kernel
theorem dX10_lossOf_24 : decode cX10_lossOf 24 = .ok (.bipush 10, 2) := by decide +kernel
theorem dX10_lossOf_26 : decode cX10_lossOf 26 = .ok (.idiv, 1) := by decide +kernel
theorem dX10_lossOf_27 : decode cX10_lossOf 27 = .ok (.iload 5, 2) := by decide +kernel
theorem dX10_lossOf_29 : decode cX10_lossOf 29 = .ok (.aload_n 0, 1) := by decide +kernel
theorem dX10_lossOf_30 : decode cX10_lossOf 30 = .ok (.getfield 23, 3) := by decide +kernel
theorem dX10_lossOf_33 : decode cX10_lossOf 33 = .ok (.getfield 119, 3) := by decide +kernel
theorem dX10_lossOf_36 : decode cX10_lossOf 36 = .ok (.if_icmp .ge 8, 3) := by decide +kernel
theorem dX10_lossOf_39 : decode cX10_lossOf 39 = .ok (.bipush 20, 2) := by decide +kernel
theorem dX10_lossOf_41 : decode cX10_lossOf 41 = .ok (.goto 4, 3) := by decide +kernel
theorem dX10_lossOf_44 : decode cX10_lossOf 44 = .ok (.iconst 0, 1) := by decide +kernel
theorem dX10_lossOf_45 : decode cX10_lossOf 45 = .ok (.iadd, 1) := by decide +kernel
theorem dX10_lossOf_46 : decode cX10_lossOf 46 = .ok (.ireturn, 1) := by decide +kernel
theorem dX10_years_0 : decode cX10_years 0 = .ok (.iload_n 3, 1) := by decide +kernel
theorem dX10_years_1 : decode cX10_years 1 = .ok (.ifCond .lt 8, 3) := by decide +kernel
theorem dX10_years_4 : decode cX10_years 4 = .ok (.iload_n 3, 1) := by decide +kernel
theorem dX10_years_5 : decode cX10_years 5 = .ok (.iconst 2, 1) := by decide +kernel
theorem dX10_years_6 : decode cX10_years 6 = .ok (.if_icmp .le 11, 3) := by decide +kernel
theorem dX10_years_9 : decode cX10_years 9 = .ok (.new 159, 3) := by decide +kernel
theorem dX10_years_12 : decode cX10_years 12 = .ok (.dup, 1) := by decide +kernel
theorem dX10_years_13 : decode cX10_years 13 = .ok (.invokespecial 161, 3) := by decide +kernel
theorem dX10_years_16 : decode cX10_years 16 = .ok (.athrow, 1) := by decide +kernel
theorem dX10_years_17 : decode cX10_years 17 = .ok (.iload_n 2, 1) := by decide +kernel
theorem dX10_years_18 : decode cX10_years 18 = .ok (.ifCond .lt 9, 3) := by decide +kernel
theorem dX10_years_21 : decode cX10_years 21 = .ok (.iload_n 2, 1) := by decide +kernel
theorem dX10_years_22 : decode cX10_years 22 = .ok (.bipush 60, 2) := by decide +kernel
theorem dX10_years_24 : decode cX10_years 24 = .ok (.if_icmp .le 11, 3) := by decide +kernel
theorem dX10_years_27 : decode cX10_years 27 = .ok (.new 83, 3) := by decide +kernel
theorem dX10_years_30 : decode cX10_years 30 = .ok (.dup, 1) := by decide +kernel
theorem dX10_years_31 : decode cX10_years 31 = .ok (.invokespecial 85, 3) := by decide +kernel
theorem dX10_years_34 : decode cX10_years 34 = .ok (.athrow, 1) := by decide +kernel
theorem dX10_years_35 : decode cX10_years 35 = .ok (.aload_n 0, 1) := by decide +kernel
theorem dX10_years_36 : decode cX10_years 36 = .ok (.getfield 56, 3) := by decide +kernel
theorem dX10_years_39 : decode cX10_years 39 = .ok (.aload_n 0, 1) := by decide +kernel
theorem dX10_years_40 : decode cX10_years 40 = .ok (.getfield 42, 3) := by decide +kernel
theorem dX10_years_43 : decode cX10_years 43 = .ok (.getfield 122, 3) := by decide +kernel
theorem dX10_years_46 : decode cX10_years 46 = .ok (.invokevirtual 241, 3) := by decide +kernel
theorem dX10_years_49 : decode cX10_years 49 = .ok (.iload_n 1, 1) := by decide +kernel
theorem dX10_years_50 : decode cX10_years 50 = .ok (.istore 4, 2) := by decide +kernel
theorem dX10_years_52 : decode cX10_years 52 = .ok (.iconst 0, 1) := by decide +kernel
theorem dX10_years_53 : decode cX10_years 53 = .ok (.istore 5, 2) := by decide +kernel
theorem dX10_years_55 : decode cX10_years 55 = .ok (.iconst 0, 1) := by decide +kernel
theorem dX10_years_56 : decode cX10_years 56 = .ok (.istore 6, 2) := by decide +kernel
theorem dX10_years_58 : decode cX10_years 58 = .ok (.iload 6, 2) := by decide +kernel
theorem dX10_years_60 : decode cX10_years 60 = .ok (.iload_n 2, 1) := by decide +kernel
theorem dX10_years_61 : decode cX10_years 61 = .ok (.if_icmp .ge 95, 3) := by decide +kernel
theorem dX10_years_64 : decode cX10_years 64 = .ok (.aload_n 0, 1) := by decide +kernel
theorem dX10_years_65 : decode cX10_years 65 = .ok (.getfield 23, 3) := by decide +kernel
theorem dX10_years_68 : decode cX10_years 68 = .ok (.getfield 104, 3) := by decide +kernel
theorem dX10_years_71 : decode cX10_years 71 = .ok (.ifCond .le 43, 3) := by decide +kernel
theorem dX10_years_74 : decode cX10_years 74 = .ok (.iload 4, 2) := by decide +kernel
theorem dX10_years_76 : decode cX10_years 76 = .ok (.invokestatic 333, 3) := by decide +kernel
theorem dX10_years_79 : decode cX10_years 79 = .ok (.istore 4, 2) := by decide +kernel
theorem dX10_years_81 : decode cX10_years 81 = .ok (.iload 4, 2) := by decide +kernel
theorem dX10_years_83 : decode cX10_years 83 = .ok (.aload_n 0, 1) := by decide +kernel
theorem dX10_years_84 : decode cX10_years 84 = .ok (.getfield 23, 3) := by decide +kernel
theorem dX10_years_87 : decode cX10_years 87 = .ok (.getfield 104, 3) := by decide +kernel
theorem dX10_years_90 : decode cX10_years 90 = .ok (.invokestatic 336, 3) := by decide +kernel
theorem dX10_years_93 : decode cX10_years 93 = .ok (.istore 7, 2) := by decide +kernel
theorem dX10_years_95 : decode cX10_years 95 = .ok (.iload 4, 2) := by decide +kernel
theorem dX10_years_97 : decode cX10_years 97 = .ok (.invokestatic 333, 3) := by decide +kernel
theorem dX10_years_100 : decode cX10_years 100 = .ok (.istore 4, 2) := by decide +kernel
theorem dX10_years_102 : decode cX10_years 102 = .ok (.aload_n 0, 1) := by decide +kernel
theorem dX10_years_103 : decode cX10_years 103 = .ok (.iload 7, 2) := by decide +kernel
theorem dX10_years_105 : decode cX10_years 105 = .ok (.iload 4, 2) := by decide +kernel
theorem dX10_years_107 : decode cX10_years 107 = .ok (.iconst 4, 1) := by decide +kernel
theorem dX10_years_108 : decode cX10_years 108 = .ok (.invokestatic 336, 3) := by decide +kernel
theorem dX10_years_111 : decode cX10_years 111 = .ok (.invokevirtual 339, 3) := by decide +kernel
theorem dX10_years_114 : decode cX10_years 114 = .ok (.aload_n 0, 1) := by decide +kernel
theorem dX10_years_115 : decode cX10_years 115 = .ok (.getfield 23, 3) := by decide +kernel
theorem dX10_years_118 : decode cX10_years 118 = .ok (.aload_n 0, 1) := by decide +kernel
theorem dX10_years_119 : decode cX10_years 119 = .ok (.getfield 56, 3) := by decide +kernel
theorem dX10_years_122 : decode cX10_years 122 = .ok (.iconst 1, 1) := by decide +kernel
theorem dX10_years_123 : decode cX10_years 123 = .ok (.invokestatic 214, 3) := by decide +kernel
theorem dX10_years_126 : decode cX10_years 126 = .ok (.iload 5, 2) := by decide +kernel
theorem dX10_years_128 : decode cX10_years 128 = .ok (.aload_n 0, 1) := by decide +kernel
theorem dX10_years_129 : decode cX10_years 129 = .ok (.getfield 23, 3) := by decide +kernel
theorem dX10_years_132 : decode cX10_years 132 = .ok (.aload_n 0, 1) := by decide +kernel
theorem dX10_years_133 : decode cX10_years 133 = .ok (.getfield 56, 3) := by decide +kernel
theorem dX10_years_136 : decode cX10_years 136 = .ok (.invokestatic 140, 3) := by decide +kernel
theorem dX10_years_139 : decode cX10_years 139 = .ok (.ifCond .eq 7, 3) := by decide +kernel
theorem dX10_years_142 : decode cX10_years 142 = .ok (.iconst 1, 1) := by decide +kernel
theorem dX10_years_143 : decode cX10_years 143 = .ok (.goto 4, 3) := by decide +kernel
theorem dX10_years_146 : decode cX10_years 146 = .ok (.iconst 0, 1) := by decide +kernel
theorem dX10_years_147 : decode cX10_years 147 = .ok (.iadd, 1) := by decide +kernel
theorem dX10_years_148 : decode cX10_years 148 = .ok (.istore 5, 2) := by decide +kernel
theorem dX10_years_150 : decode cX10_years 150 = .ok (.iinc 6 1, 3) := by decide +kernel
theorem dX10_years_153 : decode cX10_years 153 = .ok (.goto (-95), 3) := by decide +kernel
theorem dX10_years_156 : decode cX10_years 156 = .ok (.iload_n 3, 1) := by decide +kernel
theorem dX10_years_157 : decode cX10_years 157 = .ok (.iconst 1, 1) := by decide +kernel
theorem dX10_years_158 : decode cX10_years 158 = .ok (.if_icmp .ne 6, 3) := by decide +kernel
theorem dX10_years_161 : decode cX10_years 161 = .ok (.iload 5, 2) := by decide +kernel
theorem dX10_years_163 : decode cX10_years 163 = .ok (.ireturn, 1) := by decide +kernel
theorem dX10_years_164 : decode cX10_years 164 = .ok (.iload_n 3, 1) := by decide +kernel
theorem dX10_years_165 : decode cX10_years 165 = .ok (.ifCond .ne 24, 3) := by decide +kernel
theorem dX10_years_168 : decode cX10_years 168 = .ok (.aload_n 0, 1) := by decide +kernel
theorem dX10_years_169 : decode cX10_years 169 = .ok (.getfield 56, 3) := by decide +kernel
theorem dX10_years_172 : decode cX10_years 172 = .ok (.getfield 134, 3) := by decide +kernel
theorem dX10_years_175 : decode cX10_years 175 = .ok (.aload_n 0, 1) := by decide +kernel
theorem dX10_years_176 : decode cX10_years 176 = .ok (.getfield 42, 3) := by decide +kernel
theorem dX10_years_179 : decode cX10_years 179 = .ok (.getfield 122, 3) := by decide +kernel
theorem dX10_years_182 : decode cX10_years 182 = .ok (.getfield 134, 3) := by decide +kernel
theorem dX10_years_185 : decode cX10_years 185 = .ok (.isub, 1) := by decide +kernel
theorem dX10_years_186 : decode cX10_years 186 = .ok (.goto 7, 3) := by decide +kernel
theorem dX10_years_189 : decode cX10_years 189 = .ok (.aload_n 0, 1) := by decide +kernel
theorem dX10_years_190 : decode cX10_years 190 = .ok (.invokevirtual 342, 3) := by decide +kernel
theorem dX10_years_193 : decode cX10_years 193 = .ok (.ireturn, 1) := by decide +kernel
theorem dX10_nextSeed_0 : decode cX10_nextSeed 0 = .ok (.iload_n 0, 1) := by decide +kernel
theorem dX10_nextSeed_1 : decode cX10_nextSeed 1 = .ok (.ldc_w 345, 3) := by decide +kernel
theorem dX10_nextSeed_4 : decode cX10_nextSeed 4 = .ok (.imul, 1) := by decide +kernel
theorem dX10_nextSeed_5 : decode cX10_nextSeed 5 = .ok (.sipush 12345, 3) := by decide +kernel
theorem dX10_nextSeed_8 : decode cX10_nextSeed 8 = .ok (.iadd, 1) := by decide +kernel
theorem dX10_nextSeed_9 : decode cX10_nextSeed 9 = .ok (.ireturn, 1) := by decide +kernel
theorem dX10_draw_0 : decode cX10_draw 0 = .ok (.iload_n 1, 1) := by decide +kernel
theorem dX10_draw_1 : decode cX10_draw 1 = .ok (.ifCond .le 16, 3) := by decide +kernel
theorem dX10_draw_4 : decode cX10_draw 4 = .ok (.iload_n 0, 1) := by decide +kernel
theorem dX10_draw_5 : decode cX10_draw 5 = .ok (.bipush 16, 2) := by decide +kernel
theorem dX10_draw_7 : decode cX10_draw 7 = .ok (.iushr, 1) := by decide +kernel
theorem dX10_draw_8 : decode cX10_draw 8 = .ok (.sipush 32767, 3) := by decide +kernel
theorem dX10_draw_11 : decode cX10_draw 11 = .ok (.iand, 1) := by decide +kernel
theorem dX10_draw_12 : decode cX10_draw 12 = .ok (.iload_n 1, 1) := by decide +kernel
theorem dX10_draw_13 : decode cX10_draw 13 = .ok (.irem, 1) := by decide +kernel
theorem dX10_draw_14 : decode cX10_draw 14 = .ok (.goto 4, 3) := by decide +kernel
theorem dX10_draw_17 : decode cX10_draw 17 = .ok (.iconst 0, 1) := by decide +kernel
theorem dX10_draw_18 : decode cX10_draw 18 = .ok (.ireturn, 1) := by decide +kernel
theorem dX10_happen_0 : decode cX10_happen 0 = .ok (.iload_n 2, 1) := by decide +kernel
theorem dX10_happen_1 : decode cX10_happen 1 = .ok (.ifCond .ne 14, 3) := by decide +kernel
theorem dX10_happen_4 : decode cX10_happen 4 = .ok (.aload_n 0, 1) := by decide +kernel
theorem dX10_happen_5 : decode cX10_happen 5 = .ok (.getfield 56, 3) := by decide +kernel
theorem dX10_happen_8 : decode cX10_happen 8 = .ok (.iload_n 1, 1) := by decide +kernel
theorem dX10_happen_9 : decode cX10_happen 9 = .ok (.bipush 10, 2) := by decide +kernel
theorem dX10_happen_11 : decode cX10_happen 11 = .ok (.invokevirtual 226, 3) := by decide +kernel
theorem dX10_happen_14 : decode cX10_happen 14 = .ok (.pop, 1) := by decide +kernel
theorem dX10_happen_15 : decode cX10_happen 15 = .ok (.iload_n 2, 1) := by decide +kernel
theorem dX10_happen_16 : decode cX10_happen 16 = .ok (.iconst 1, 1) := by decide +kernel
theorem dX10_happen_17 : decode cX10_happen 17 = .ok (.if_icmp .ne 37, 3) := by decide +kernel
theorem dX10_happen_20 : decode cX10_happen 20 = .ok (.aload_n 0, 1) := by decide +kernel
theorem dX10_happen_21 : decode cX10_happen 21 = .ok (.getfield 23, 3) := by decide +kernel
theorem dX10_happen_24 : decode cX10_happen 24 = .ok (.iload_n 1, 1) := by decide +kernel
theorem dX10_happen_25 : decode cX10_happen 25 = .ok (.invokevirtual 346, 3) := by decide +kernel
theorem dX10_happen_28 : decode cX10_happen 28 = .ok (.istore_n 3, 1) := by decide +kernel
theorem dX10_happen_29 : decode cX10_happen 29 = .ok (.iload_n 3, 1) := by decide +kernel
theorem dX10_happen_30 : decode cX10_happen 30 = .ok (.iconst (-1), 1) := by decide +kernel
theorem dX10_happen_31 : decode cX10_happen 31 = .ok (.if_icmp .eq 23, 3) := by decide +kernel
theorem dX10_happen_34 : decode cX10_happen 34 = .ok (.aload_n 0, 1) := by decide +kernel
theorem dX10_happen_35 : decode cX10_happen 35 = .ok (.getfield 56, 3) := by decide +kernel
theorem dX10_happen_38 : decode cX10_happen 38 = .ok (.iload_n 1, 1) := by decide +kernel
theorem dX10_happen_39 : decode cX10_happen 39 = .ok (.iload_n 3, 1) := by decide +kernel
theorem dX10_happen_40 : decode cX10_happen 40 = .ok (.aload_n 0, 1) := by decide +kernel
theorem dX10_happen_41 : decode cX10_happen 41 = .ok (.getfield 56, 3) := by decide +kernel
theorem dX10_happen_44 : decode cX10_happen 44 = .ok (.getfield 171, 3) := by decide +kernel
theorem dX10_happen_47 : decode cX10_happen 47 = .ok (.iload_n 1, 1) := by decide +kernel
theorem dX10_happen_48 : decode cX10_happen 48 = .ok (.iaload, 1) := by decide +kernel
theorem dX10_happen_49 : decode cX10_happen 49 = .ok (.iconst 2, 1) := by decide +kernel
theorem dX10_happen_50 : decode cX10_happen 50 = .ok (.idiv, 1) := by decide +kernel
theorem dX10_happen_51 : decode cX10_happen 51 = .ok (.invokevirtual 222, 3) := by decide +kernel
theorem dX10_happen_54 : decode cX10_happen 54 = .ok (.return_, 1) := by decide +kernel
theorem dX10_fullestTrialRoom_0 : decode cX10_fullestTrialRoom 0 = .ok (.iconst 0, 1) := by decide +kernel
theorem dX10_fullestTrialRoom_1 : decode cX10_fullestTrialRoom 1 = .ok (.istore_n 1, 1) := by decide +kernel
theorem dX10_fullestTrialRoom_2 : decode cX10_fullestTrialRoom 2 = .ok (.iconst 0, 1) := by decide +kernel
theorem dX10_fullestTrialRoom_3 : decode cX10_fullestTrialRoom 3 = .ok (.istore_n 2, 1) := by decide +kernel
theorem dX10_fullestTrialRoom_4 : decode cX10_fullestTrialRoom 4 = .ok (.iload_n 2, 1) := by decide +kernel
theorem dX10_fullestTrialRoom_5 : decode cX10_fullestTrialRoom 5 = .ok (.aload_n 0, 1) := by decide +kernel
theorem dX10_fullestTrialRoom_6 : decode cX10_fullestTrialRoom 6 = .ok (.getfield 23, 3) := by decide +kernel
theorem dX10_fullestTrialRoom_9 : decode cX10_fullestTrialRoom 9 = .ok (.getfield 104, 3) := by decide +kernel
theorem dX10_fullestTrialRoom_12 : decode cX10_fullestTrialRoom 12 = .ok (.if_icmp .ge 23, 3) := by decide +kernel
theorem dX10_fullestTrialRoom_15 : decode cX10_fullestTrialRoom 15 = .ok (.iload_n 1, 1) := by decide +kernel
theorem dX10_fullestTrialRoom_16 : decode cX10_fullestTrialRoom 16 = .ok (.aload_n 0, 1) := by decide +kernel
theorem dX10_fullestTrialRoom_17 : decode cX10_fullestTrialRoom 17 = .ok (.getfield 56, 3) := by decide +kernel
theorem dX10_fullestTrialRoom_20 : decode cX10_fullestTrialRoom 20 = .ok (.getfield 171, 3) := by decide +kernel
theorem dX10_fullestTrialRoom_23 : decode cX10_fullestTrialRoom 23 = .ok (.iload_n 2, 1) := by decide +kernel
theorem dX10_fullestTrialRoom_24 : decode cX10_fullestTrialRoom 24 = .ok (.iaload, 1) := by decide +kernel
theorem dX10_fullestTrialRoom_25 : decode cX10_fullestTrialRoom 25 = .ok (.invokestatic 300, 3) := by decide +kernel
theorem dX10_fullestTrialRoom_28 : decode cX10_fullestTrialRoom 28 = .ok (.istore_n 1, 1) := by decide +kernel
theorem dX10_fullestTrialRoom_29 : decode cX10_fullestTrialRoom 29 = .ok (.iinc 2 1, 3) := by decide +kernel
theorem dX10_fullestTrialRoom_32 : decode cX10_fullestTrialRoom 32 = .ok (.goto (-28), 3) := by decide +kernel
theorem dX10_fullestTrialRoom_35 : decode cX10_fullestTrialRoom 35 = .ok (.iload_n 1, 1) := by decide +kernel
theorem dX10_fullestTrialRoom_36 : decode cX10_fullestTrialRoom 36 = .ok (.ireturn, 1) := by decide +kernel
theorem dX10_image_0 : decode cX10_image 0 = .ok (.aload_n 0, 1) := by decide +kernel
theorem dX10_image_1 : decode cX10_image 1 = .ok (.getfield 46, 3) := by decide +kernel
theorem dX10_image_4 : decode cX10_image 4 = .ok (.aload_n 0, 1) := by decide +kernel
theorem dX10_image_5 : decode cX10_image 5 = .ok (.getfield 42, 3) := by decide +kernel
theorem dX10_image_8 : decode cX10_image 8 = .ok (.invokevirtual 349, 3) := by decide +kernel
theorem dX10_image_11 : decode cX10_image 11 = .ok (.aload_n 0, 1) := by decide +kernel
theorem dX10_image_12 : decode cX10_image 12 = .ok (.iconst 1, 1) := by decide +kernel
theorem dX10_image_13 : decode cX10_image 13 = .ok (.putfield 49, 3) := by decide +kernel
theorem dX10_image_16 : decode cX10_image 16 = .ok (.return_, 1) := by decide +kernel
theorem dX10_restore_0 : decode cX10_restore 0 = .ok (.aload_n 0, 1) := by decide +kernel
theorem dX10_restore_1 : decode cX10_restore 1 = .ok (.getfield 49, 3) := by decide +kernel
theorem dX10_restore_4 : decode cX10_restore 4 = .ok (.ifCond .eq 14, 3) := by decide +kernel
theorem dX10_restore_7 : decode cX10_restore 7 = .ok (.aload_n 0, 1) := by decide +kernel
theorem dX10_restore_8 : decode cX10_restore 8 = .ok (.getfield 42, 3) := by decide +kernel
theorem dX10_restore_11 : decode cX10_restore 11 = .ok (.aload_n 0, 1) := by decide +kernel
theorem dX10_restore_12 : decode cX10_restore 12 = .ok (.getfield 46, 3) := by decide +kernel
theorem dX10_restore_15 : decode cX10_restore 15 = .ok (.invokevirtual 349, 3) := by decide +kernel
theorem dX10_restore_18 : decode cX10_restore 18 = .ok (.aload_n 0, 1) := by decide +kernel
theorem dX10_restore_19 : decode cX10_restore 19 = .ok (.getfield 49, 3) := by decide +kernel
theorem dX10_restore_22 : decode cX10_restore 22 = .ok (.ireturn, 1) := by decide +kernel
theorem dX10_needRoom_0 : decode cX10_needRoom 0 = .ok (.iload_n 1, 1) := by decide +kernel
theorem dX10_needRoom_1 : decode cX10_needRoom 1 = .ok (.ifCond .lt 14, 3) := by decide +kernel
theorem dX10_needRoom_4 : decode cX10_needRoom 4 = .ok (.iload_n 1, 1) := by decide +kernel
theorem dX10_needRoom_5 : decode cX10_needRoom 5 = .ok (.aload_n 0, 1) := by decide +kernel
theorem dX10_needRoom_6 : decode cX10_needRoom 6 = .ok (.getfield 23, 3) := by decide +kernel
theorem dX10_needRoom_9 : decode cX10_needRoom 9 = .ok (.getfield 104, 3) := by decide +kernel
theorem dX10_needRoom_12 : decode cX10_needRoom 12 = .ok (.if_icmp .lt 11, 3) := by decide +kernel
theorem dX10_needRoom_15 : decode cX10_needRoom 15 = .ok (.new 159, 3) := by decide +kernel
theorem dX10_needRoom_18 : decode cX10_needRoom 18 = .ok (.dup, 1) := by decide +kernel
theorem dX10_needRoom_19 : decode cX10_needRoom 19 = .ok (.invokespecial 161, 3) := by decide +kernel
theorem dX10_needRoom_22 : decode cX10_needRoom 22 = .ok (.athrow, 1) := by decide +kernel
theorem dX10_needRoom_23 : decode cX10_needRoom 23 = .ok (.return_, 1) := by decide +kernel
theorem dX10_needAhead_0 : decode cX10_needAhead 0 = .ok (.iload_n 0, 1) := by decide +kernel
theorem dX10_needAhead_1 : decode cX10_needAhead 1 = .ok (.ifCond .lt 9, 3) := by decide +kernel
theorem dX10_needAhead_4 : decode cX10_needAhead 4 = .ok (.iload_n 0, 1) := by decide +kernel
theorem dX10_needAhead_5 : decode cX10_needAhead 5 = .ok (.bipush 99, 2) := by decide +kernel
theorem dX10_needAhead_7 : decode cX10_needAhead 7 = .ok (.if_icmp .le 11, 3) := by decide +kernel
theorem dX10_needAhead_10 : decode cX10_needAhead 10 = .ok (.new 83, 3) := by decide +kernel
theorem dX10_needAhead_13 : decode cX10_needAhead 13 = .ok (.dup, 1) := by decide +kernel
theorem dX10_needAhead_14 : decode cX10_needAhead 14 = .ok (.invokespecial 85, 3) := by decide +kernel
theorem dX10_needAhead_17 : decode cX10_needAhead 17 = .ok (.athrow, 1) := by decide +kernel
theorem dX10_needAhead_18 : decode cX10_needAhead 18 = .ok (.return_, 1) := by decide +kernel
theorem dX10_refuse_0 : decode cX10_refuse 0 = .ok (.aload_n 0, 1) := by decide +kernel
theorem dX10_refuse_1 : decode cX10_refuse 1 = .ok (.getfield 42, 3) := by decide +kernel
theorem dX10_refuse_4 : decode cX10_refuse 4 = .ok (.getfield 94, 3) := by decide +kernel
theorem dX10_refuse_7 : decode cX10_refuse 7 = .ok (.iload_n 1, 1) := by decide +kernel
theorem dX10_refuse_8 : decode cX10_refuse 8 = .ok (.dup2, 1) := by decide +kernel
theorem dX10_refuse_9 : decode cX10_refuse 9 = .ok (.iaload, 1) := by decide +kernel
theorem dX10_refuse_10 : decode cX10_refuse 10 = .ok (.iconst 1, 1) := by decide +kernel
theorem dX10_refuse_11 : decode cX10_refuse 11 = .ok (.iadd, 1) := by decide +kernel
theorem dX10_refuse_12 : decode cX10_refuse 12 = .ok (.iastore, 1) := by decide +kernel
theorem dX10_refuse_13 : decode cX10_refuse 13 = .ok (.iconst (-1), 1) := by decide +kernel
theorem dX10_refuse_14 : decode cX10_refuse 14 = .ok (.ireturn, 1) := by decide +kernel
theorem dX10_tryDays_0 : decode cX10_tryDays 0 = .ok (.aload_n 0, 1) := by decide +kernel
theorem dX10_tryDays_1 : decode cX10_tryDays 1 = .ok (.getfield 56, 3) := by decide +kernel
theorem dX10_tryDays_4 : decode cX10_tryDays 4 = .ok (.aload_n 0, 1) := by decide +kernel
theorem dX10_tryDays_5 : decode cX10_tryDays 5 = .ok (.getfield 42, 3) := by decide +kernel
theorem dX10_tryDays_8 : decode cX10_tryDays 8 = .ok (.getfield 122, 3) := by decide +kernel
theorem dX10_tryDays_11 : decode cX10_tryDays 11 = .ok (.invokevirtual 241, 3) := by decide +kernel
theorem dX10_tryDays_14 : decode cX10_tryDays 14 = .ok (.aload_n 0, 1) := by decide +kernel
theorem dX10_tryDays_15 : decode cX10_tryDays 15 = .ok (.getfield 23, 3) := by decide +kernel
theorem dX10_tryDays_18 : decode cX10_tryDays 18 = .ok (.aload_n 0, 1) := by decide +kernel
theorem dX10_tryDays_19 : decode cX10_tryDays 19 = .ok (.getfield 56, 3) := by decide +kernel
theorem dX10_tryDays_22 : decode cX10_tryDays 22 = .ok (.iload_n 1, 1) := by decide +kernel
theorem dX10_tryDays_23 : decode cX10_tryDays 23 = .ok (.invokestatic 214, 3) := by decide +kernel
theorem dX10_tryDays_26 : decode cX10_tryDays 26 = .ok (.return_, 1) := by decide +kernel
theorem dX11_init_0 : decode cX11_init 0 = .ok (.aload_n 0, 1) := by decide +kernel
theorem dX11_init_1 : decode cX11_init 1 = .ok (.invokespecial 3, 3) := by decide +kernel
theorem dX11_init_4 : decode cX11_init 4 = .ok (.aload_n 0, 1) := by decide +kernel
theorem dX11_init_5 : decode cX11_init 5 = .ok (.iconst 3, 1) := by decide +kernel
theorem dX11_init_6 : decode cX11_init 6 = .ok (.anewarray 9, 3) := by decide +kernel
theorem dX11_init_9 : decode cX11_init 9 = .ok (.dup, 1) := by decide +kernel
theorem dX11_init_10 : decode cX11_init 10 = .ok (.iconst 0, 1) := by decide +kernel
theorem dX11_init_11 : decode cX11_init 11 = .ok (.ldc 11, 2) := by decide +kernel
theorem dX11_init_13 : decode cX11_init 13 = .ok (.aastore, 1) := by decide +kernel
theorem dX11_init_14 : decode cX11_init 14 = .ok (.dup, 1) := by decide +kernel
theorem dX11_init_15 : decode cX11_init 15 = .ok (.iconst 1, 1) := by decide +kernel
theorem dX11_init_16 : decode cX11_init 16 = .ok (.ldc 13, 2) := by decide +kernel
theorem dX11_init_18 : decode cX11_init 18 = .ok (.aastore, 1) := by decide +kernel
theorem dX11_init_19 : decode cX11_init 19 = .ok (.dup, 1) := by decide +kernel
theorem dX11_init_20 : decode cX11_init 20 = .ok (.iconst 2, 1) := by decide +kernel
theorem dX11_init_21 : decode cX11_init 21 = .ok (.ldc 15, 2) := by decide +kernel
theorem dX11_init_23 : decode cX11_init 23 = .ok (.aastore, 1) := by decide +kernel
theorem dX11_init_24 : decode cX11_init 24 = .ok (.putfield 17, 3) := by decide +kernel
theorem dX11_init_27 : decode cX11_init 27 = .ok (.aload_n 0, 1) := by decide +kernel
theorem dX11_init_28 : decode cX11_init 28 = .ok (.bipush 6, 2) := by decide +kernel
theorem dX11_init_30 : decode cX11_init 30 = .ok (.anewarray 9, 3) := by decide +kernel
theorem dX11_init_33 : decode cX11_init 33 = .ok (.dup, 1) := by decide +kernel
theorem dX11_init_34 : decode cX11_init 34 = .ok (.iconst 0, 1) := by decide +kernel
theorem dX11_init_35 : decode cX11_init 35 = .ok (.ldc 21, 2) := by decide +kernel
theorem dX11_init_37 : decode cX11_init 37 = .ok (.aastore, 1) := by decide +kernel
theorem dX11_init_38 : decode cX11_init 38 = .ok (.dup, 1) := by decide +kernel
theorem dX11_init_39 : decode cX11_init 39 = .ok (.iconst 1, 1) := by decide +kernel
theorem dX11_init_40 : decode cX11_init 40 = .ok (.ldc 23, 2) := by decide +kernel
theorem dX11_init_42 : decode cX11_init 42 = .ok (.aastore, 1) := by decide +kernel
theorem dX11_init_43 : decode cX11_init 43 = .ok (.dup, 1) := by decide +kernel
theorem dX11_init_44 : decode cX11_init 44 = .ok (.iconst 2, 1) := by decide +kernel
theorem dX11_init_45 : decode cX11_init 45 = .ok (.ldc 25, 2) := by decide +kernel
theorem dX11_init_47 : decode cX11_init 47 = .ok (.aastore, 1) := by decide +kernel
theorem dX11_init_48 : decode cX11_init 48 = .ok (.dup, 1) := by decide +kernel
theorem dX11_init_49 : decode cX11_init 49 = .ok (.iconst 3, 1) := by decide +kernel
theorem dX11_init_50 : decode cX11_init 50 = .ok (.ldc 27, 2) := by decide +kernel
theorem dX11_init_52 : decode cX11_init 52 = .ok (.aastore, 1) := by decide +kernel
theorem dX11_init_53 : decode cX11_init 53 = .ok (.dup, 1) := by decide +kernel
theorem dX11_init_54 : decode cX11_init 54 = .ok (.iconst 4, 1) := by decide +kernel
theorem dX11_init_55 : decode cX11_init 55 = .ok (.ldc 29, 2) := by decide +kernel
theorem dX11_init_57 : decode cX11_init 57 = .ok (.aastore, 1) := by decide +kernel
theorem dX11_init_58 : decode cX11_init 58 = .ok (.dup, 1) := by decide +kernel
theorem dX11_init_59 : decode cX11_init 59 = .ok (.iconst 5, 1) := by decide +kernel
theorem dX11_init_60 : decode cX11_init 60 = .ok (.ldc 31, 2) := by decide +kernel
theorem dX11_init_62 : decode cX11_init 62 = .ok (.aastore, 1) := by decide +kernel
theorem dX11_init_63 : decode cX11_init 63 = .ok (.putfield 33, 3) := by decide +kernel
theorem dX11_init_66 : decode cX11_init 66 = .ok (.aload_n 0, 1) := by decide +kernel
theorem dX11_init_67 : decode cX11_init 67 = .ok (.bipush 14, 2) := by decide +kernel
theorem dX11_init_69 : decode cX11_init 69 = .ok (.newarray .int, 2) := by decide +kernel
theorem dX11_init_71 : decode cX11_init 71 = .ok (.dup, 1) := by decide +kernel
theorem dX11_init_72 : decode cX11_init 72 = .ok (.iconst 0, 1) := by decide +kernel
theorem dX11_init_73 : decode cX11_init 73 = .ok (.iconst 0, 1) := by decide +kernel
theorem dX11_init_74 : decode cX11_init 74 = .ok (.iastore, 1) := by decide +kernel
theorem dX11_init_75 : decode cX11_init 75 = .ok (.dup, 1) := by decide +kernel
theorem dX11_init_76 : decode cX11_init 76 = .ok (.iconst 1, 1) := by decide +kernel
theorem dX11_init_77 : decode cX11_init 77 = .ok (.iconst 0, 1) := by decide +kernel
theorem dX11_init_78 : decode cX11_init 78 = .ok (.iastore, 1) := by decide +kernel
theorem dX11_init_79 : decode cX11_init 79 = .ok (.dup, 1) := by decide +kernel
theorem dX11_init_80 : decode cX11_init 80 = .ok (.iconst 2, 1) := by decide +kernel
theorem dX11_init_81 : decode cX11_init 81 = .ok (.iconst 0, 1) := by decide +kernel
theorem dX11_init_82 : decode cX11_init 82 = .ok (.iastore, 1) := by decide +kernel
theorem dX11_init_83 : decode cX11_init 83 = .ok (.dup, 1) := by decide +kernel
theorem dX11_init_84 : decode cX11_init 84 = .ok (.iconst 3, 1) := by decide +kernel
theorem dX11_init_85 : decode cX11_init 85 = .ok (.iconst 0, 1) := by decide +kernel
theorem dX11_init_86 : decode cX11_init 86 = .ok (.iastore, 1) := by decide +kernel
theorem dX11_init_87 : decode cX11_init 87 = .ok (.dup, 1) := by decide +kernel
theorem dX11_init_88 : decode cX11_init 88 = .ok (.iconst 4, 1) := by decide +kernel
theorem dX11_init_89 : decode cX11_init 89 = .ok (.bipush 7, 2) := by decide +kernel
theorem dX11_init_91 : decode cX11_init 91 = .ok (.iastore, 1) := by decide +kernel
theorem dX11_init_92 : decode cX11_init 92 = .ok (.dup, 1) := by decide +kernel
theorem dX11_init_93 : decode cX11_init 93 = .ok (.iconst 5, 1) := by decide +kernel
theorem dX11_init_94 : decode cX11_init 94 = .ok (.bipush 10, 2) := by decide +kernel
theorem dX11_init_96 : decode cX11_init 96 = .ok (.iastore, 1) := by decide +kernel
theorem dX11_init_97 : decode cX11_init 97 = .ok (.dup, 1) := by decide +kernel
theorem dX11_init_98 : decode cX11_init 98 = .ok (.bipush 6, 2) := by decide +kernel
theorem dX11_init_100 : decode cX11_init 100 = .ok (.iconst 0, 1) := by decide +kernel
theorem dX11_init_101 : decode cX11_init 101 = .ok (.iastore, 1) := by decide +kernel
theorem dX11_init_102 : decode cX11_init 102 = .ok (.dup, 1) := by decide +kernel
theorem dX11_init_103 : decode cX11_init 103 = .ok (.bipush 7, 2) := by decide +kernel
theorem dX11_init_105 : decode cX11_init 105 = .ok (.iconst 0, 1) := by decide +kernel
theorem dX11_init_106 : decode cX11_init 106 = .ok (.iastore, 1) := by decide +kernel
theorem dX11_init_107 : decode cX11_init 107 = .ok (.dup, 1) := by decide +kernel
theorem dX11_init_108 : decode cX11_init 108 = .ok (.bipush 8, 2) := by decide +kernel
theorem dX11_init_110 : decode cX11_init 110 = .ok (.iconst 0, 1) := by decide +kernel
theorem dX11_init_111 : decode cX11_init 111 = .ok (.iastore, 1) := by decide +kernel
theorem dX11_init_112 : decode cX11_init 112 = .ok (.dup, 1) := by decide +kernel
theorem dX11_init_113 : decode cX11_init 113 = .ok (.bipush 9, 2) := by decide +kernel
theorem dX11_init_115 : decode cX11_init 115 = .ok (.iconst 0, 1) := by decide +kernel
theorem dX11_init_116 : decode cX11_init 116 = .ok (.iastore, 1) := by decide +kernel
theorem dX11_init_117 : decode cX11_init 117 = .ok (.dup, 1) := by decide +kernel
theorem dX11_init_118 : decode cX11_init 118 = .ok (.bipush 10, 2) := by decide +kernel
theorem dX11_init_120 : decode cX11_init 120 = .ok (.iconst 0, 1) := by decide +kernel
theorem dX11_init_121 : decode cX11_init 121 = .ok (.iastore, 1) := by decide +kernel
theorem dX11_init_122 : decode cX11_init 122 = .ok (.dup, 1) := by decide +kernel
theorem dX11_init_123 : decode cX11_init 123 = .ok (.bipush 11, 2) := by decide +kernel
theorem dX11_init_125 : decode cX11_init 125 = .ok (.bipush 7, 2) := by decide +kernel
theorem dX11_init_127 : decode cX11_init 127 = .ok (.iastore, 1) := by decide +kernel
theorem dX11_init_128 : decode cX11_init 128 = .ok (.dup, 1) := by decide +kernel
theorem dX11_init_129 : decode cX11_init 129 = .ok (.bipush 12, 2) := by decide +kernel
theorem dX11_init_131 : decode cX11_init 131 = .ok (.bipush 10, 2) := by decide +kernel
theorem dX11_init_133 : decode cX11_init 133 = .ok (.iastore, 1) := by decide +kernel
theorem dX11_init_134 : decode cX11_init 134 = .ok (.dup, 1) := by decide +kernel
theorem dX11_init_135 : decode cX11_init 135 = .ok (.bipush 13, 2) := by decide +kernel
theorem dX11_init_137 : decode cX11_init 137 = .ok (.iconst 0, 1) := by decide +kernel
theorem dX11_init_138 : decode cX11_init 138 = .ok (.iastore, 1) := by decide +kernel
theorem dX11_init_139 : decode cX11_init 139 = .ok (.putfield 36, 3) := by decide +kernel
theorem dX11_init_142 : decode cX11_init 142 = .ok (.aload_n 0, 1) := by decide +kernel
theorem dX11_init_143 : decode cX11_init 143 = .ok (.bipush 18, 2) := by decide +kernel
theorem dX11_init_145 : decode cX11_init 145 = .ok (.newarray .int, 2) := by decide +kernel
theorem dX11_init_147 : decode cX11_init 147 = .ok (.putfield 40, 3) := by decide +kernel
theorem dX11_init_150 : decode cX11_init 150 = .ok (.aload_n 0, 1) := by decide +kernel
theorem dX11_init_151 : decode cX11_init 151 = .ok (.bipush 18, 2) := by decide +kernel
theorem dX11_init_153 : decode cX11_init 153 = .ok (.newarray .int, 2) := by decide +kernel
theorem dX11_init_155 : decode cX11_init 155 = .ok (.putfield 42, 3) := by decide +kernel
theorem dX11_init_158 : decode cX11_init 158 = .ok (.aload_n 0, 1) := by decide +kernel
theorem dX11_init_159 : decode cX11_init 159 = .ok (.bipush 18, 2) := by decide +kernel
theorem dX11_init_161 : decode cX11_init 161 = .ok (.newarray .int, 2) := by decide +kernel
theorem dX11_init_163 : decode cX11_init 163 = .ok (.putfield 44, 3) := by decide +kernel
theorem dX11_init_166 : decode cX11_init 166 = .ok (.aload_n 0, 1) := by decide +kernel
theorem dX11_init_167 : decode cX11_init 167 = .ok (.bipush 18, 2) := by decide +kernel
theorem dX11_init_169 : decode cX11_init 169 = .ok (.newarray .int, 2) := by decide +kernel
theorem dX11_init_171 : decode cX11_init 171 = .ok (.putfield 47, 3) := by decide +kernel
theorem dX11_init_174 : decode cX11_init 174 = .ok (.aload_n 0, 1) := by decide +kernel
theorem dX11_init_175 : decode cX11_init 175 = .ok (.bipush 28, 2) := by decide +kernel
theorem dX11_init_177 : decode cX11_init 177 = .ok (.newarray .int, 2) := by decide +kernel
theorem dX11_init_179 : decode cX11_init 179 = .ok (.putfield 50, 3) := by decide +kernel
theorem dX11_init_182 : decode cX11_init 182 = .ok (.aload_n 0, 1) := by decide +kernel
theorem dX11_init_183 : decode cX11_init 183 = .ok (.bipush 28, 2) := by decide +kernel
theorem dX11_init_185 : decode cX11_init 185 = .ok (.newarray .int, 2) := by decide +kernel
theorem dX11_init_187 : decode cX11_init 187 = .ok (.putfield 53, 3) := by decide +kernel
theorem dX11_init_190 : decode cX11_init 190 = .ok (.aload_n 0, 1) := by decide +kernel
theorem dX11_init_191 : decode cX11_init 191 = .ok (.bipush 28, 2) := by decide +kernel
theorem dX11_init_193 : decode cX11_init 193 = .ok (.newarray .int, 2) := by decide +kernel
theorem dX11_init_195 : decode cX11_init 195 = .ok (.putfield 56, 3) := by decide +kernel
theorem dX11_init_198 : decode cX11_init 198 = .ok (.aload_n 0, 1) := by decide +kernel
theorem dX11_init_199 : decode cX11_init 199 = .ok (.bipush 10, 2) := by decide +kernel
theorem dX11_init_201 : decode cX11_init 201 = .ok (.newarray .int, 2) := by decide +kernel
theorem dX11_init_203 : decode cX11_init 203 = .ok (.putfield 59, 3) := by decide +kernel
theorem dX11_init_206 : decode cX11_init 206 = .ok (.aload_n 0, 1) := by decide +kernel
theorem dX11_init_207 : decode cX11_init 207 = .ok (.bipush 80, 2) := by decide +kernel
theorem dX11_init_209 : decode cX11_init 209 = .ok (.newarray .int, 2) := by decide +kernel
theorem dX11_init_211 : decode cX11_init 211 = .ok (.putfield 62, 3) := by decide +kernel
theorem dX11_init_214 : decode cX11_init 214 = .ok (.aload_n 0, 1) := by decide +kernel
theorem dX11_init_215 : decode cX11_init 215 = .ok (.bipush 80, 2) := by decide +kernel
theorem dX11_init_217 : decode cX11_init 217 = .ok (.newarray .int, 2) := by decide +kernel
theorem dX11_init_219 : decode cX11_init 219 = .ok (.putfield 65, 3) := by decide +kernel
theorem dX11_init_222 : decode cX11_init 222 = .ok (.aload_n 0, 1) := by decide +kernel
theorem dX11_init_223 : decode cX11_init 223 = .ok (.bipush 80, 2) := by decide +kernel
theorem dX11_init_225 : decode cX11_init 225 = .ok (.newarray .int, 2) := by decide +kernel
theorem dX11_init_227 : decode cX11_init 227 = .ok (.putfield 68, 3) := by decide +kernel
theorem dX11_init_230 : decode cX11_init 230 = .ok (.aload_n 0, 1) := by decide +kernel
theorem dX11_init_231 : decode cX11_init 231 = .ok (.bipush 20, 2) := by decide +kernel
theorem dX11_init_233 : decode cX11_init 233 = .ok (.newarray .int, 2) := by decide +kernel
theorem dX11_init_235 : decode cX11_init 235 = .ok (.putfield 71, 3) := by decide +kernel
theorem dX11_init_238 : decode cX11_init 238 = .ok (.aload_n 0, 1) := by decide +kernel
theorem dX11_init_239 : decode cX11_init 239 = .ok (.sipush 1400, 3) := by decide +kernel
theorem dX11_init_242 : decode cX11_init 242 = .ok (.newarray .int, 2) := by decide +kernel
theorem dX11_init_244 : decode cX11_init 244 = .ok (.putfield 74, 3) := by decide +kernel
theorem dX11_init_247 : decode cX11_init 247 = .ok (.aload_n 0, 1) := by decide +kernel
theorem dX11_init_248 : decode cX11_init 248 = .ok (.iconst 3, 1) := by decide +kernel
theorem dX11_init_249 : decode cX11_init 249 = .ok (.newarray .int, 2) := by decide +kernel
theorem dX11_init_251 : decode cX11_init 251 = .ok (.putfield 77, 3) := by decide +kernel
theorem dX11_init_254 : decode cX11_init 254 = .ok (.aload_n 0, 1) := by decide +kernel
theorem dX11_init_255 : decode cX11_init 255 = .ok (.sipush 700, 3) := by decide +kernel
theorem dX11_init_258 : decode cX11_init 258 = .ok (.newarray .int, 2) := by decide +kernel
theorem dX11_init_260 : decode cX11_init 260 = .ok (.putfield 80, 3) := by decide +kernel
theorem dX11_init_263 : decode cX11_init 263 = .ok (.aload_n 0, 1) := by decide +kernel
theorem dX11_init_264 : decode cX11_init 264 = .ok (.iconst (-1), 1) := by decide +kernel
theorem dX11_init_265 : decode cX11_init 265 = .ok (.putfield 83, 3) := by decide +kernel
theorem dX11_init_268 : decode cX11_init 268 = .ok (.aload_n 0, 1) := by decide +kernel
theorem dX11_init_269 : decode cX11_init 269 = .ok (.bipush 9, 2) := by decide +kernel
theorem dX11_init_271 : decode cX11_init 271 = .ok (.newarray .int, 2) := by decide +kernel
theorem dX11_init_273 : decode cX11_init 273 = .ok (.putfield 87, 3) := by decide +kernel
theorem dX11_init_276 : decode cX11_init 276 = .ok (.aload_n 0, 1) := by decide +kernel
theorem dX11_init_277 : decode cX11_init 277 = .ok (.bipush 9, 2) := by decide +kernel
theorem dX11_init_279 : decode cX11_init 279 = .ok (.newarray .int, 2) := by decide +kernel
theorem dX11_init_281 : decode cX11_init 281 = .ok (.putfield 89, 3) := by decide +kernel
theorem dX11_init_284 : decode cX11_init 284 = .ok (.aload_n 0, 1) := by decide +kernel
theorem dX11_init_285 : decode cX11_init 285 = .ok (.bipush 10, 2) := by decide +kernel
theorem dX11_init_287 : decode cX11_init 287 = .ok (.newarray .int, 2) := by decide +kernel
theorem dX11_init_289 : decode cX11_init 289 = .ok (.putfield 91, 3) := by decide +kernel
theorem dX11_init_292 : decode cX11_init 292 = .ok (.aload_n 0, 1) := by decide +kernel
theorem dX11_init_293 : decode cX11_init 293 = .ok (.sipush 1240, 3) := by decide +kernel
theorem dX11_init_296 : decode cX11_init 296 = .ok (.newarray .int, 2) := by decide +kernel
theorem dX11_init_298 : decode cX11_init 298 = .ok (.putfield 94, 3) := by decide +kernel
theorem dX11_init_301 : decode cX11_init 301 = .ok (.aload_n 0, 1) := by decide +kernel
theorem dX11_init_302 : decode cX11_init 302 = .ok (.bipush 6, 2) := by decide +kernel
theorem dX11_init_304 : decode cX11_init 304 = .ok (.newarray .int, 2) := by decide +kernel
theorem dX11_init_306 : decode cX11_init 306 = .ok (.putfield 97, 3) := by decide +kernel
theorem dX11_init_309 : decode cX11_init 309 = .ok (.aload_n 0, 1) := by decide +kernel
theorem dX11_init_310 : decode cX11_init 310 = .ok (.bipush 64, 2) := by decide +kernel
theorem dX11_init_312 : decode cX11_init 312 = .ok (.newarray .int, 2) := by decide +kernel
theorem dX11_init_314 : decode cX11_init 314 = .ok (.putfield 100, 3) := by decide +kernel
theorem dX11_init_317 : decode cX11_init 317 = .ok (.aload_n 0, 1) := by decide +kernel
theorem dX11_init_318 : decode cX11_init 318 = .ok (.bipush 9, 2) := by decide +kernel
theorem dX11_init_320 : decode cX11_init 320 = .ok (.newarray .int, 2) := by decide +kernel
theorem dX11_init_322 : decode cX11_init 322 = .ok (.putfield 103, 3) := by decide +kernel
theorem dX11_init_325 : decode cX11_init 325 = .ok (.aload_n 0, 1) := by decide +kernel
theorem dX11_init_326 : decode cX11_init 326 = .ok (.bipush 81, 2) := by decide +kernel
theorem dX11_init_328 : decode cX11_init 328 = .ok (.newarray .int, 2) := by decide +kernel
theorem dX11_init_330 : decode cX11_init 330 = .ok (.putfield 106, 3) := by decide +kernel
theorem dX11_init_333 : decode cX11_init 333 = .ok (.aload_n 0, 1) := by decide +kernel
theorem dX11_init_334 : decode cX11_init 334 = .ok (.bipush 31, 2) := by decide +kernel
theorem dX11_init_336 : decode cX11_init 336 = .ok (.newarray .int, 2) := by decide +kernel
theorem dX11_init_338 : decode cX11_init 338 = .ok (.putfield 109, 3) := by decide +kernel
theorem dX11_init_341 : decode cX11_init 341 = .ok (.aload_n 0, 1) := by decide +kernel
theorem dX11_init_342 : decode cX11_init 342 = .ok (.iconst 5, 1) := by decide +kernel
theorem dX11_init_343 : decode cX11_init 343 = .ok (.newarray .int, 2) := by decide +kernel
theorem dX11_init_345 : decode cX11_init 345 = .ok (.putfield 112, 3) := by decide +kernel
theorem dX11_init_348 : decode cX11_init 348 = .ok (.aload_n 0, 1) := by decide +kernel
theorem dX11_init_349 : decode cX11_init 349 = .ok (.iconst 5, 1) := by decide +kernel
theorem dX11_init_350 : decode cX11_init 350 = .ok (.newarray .int, 2) := by decide +kernel
theorem dX11_init_352 : decode cX11_init 352 = .ok (.putfield 115, 3) := by decide +kernel
theorem dX11_init_355 : decode cX11_init 355 = .ok (.aload_n 0, 1) := by decide +kernel
theorem dX11_init_356 : decode cX11_init 356 = .ok (.sipush 4608, 3) := by decide +kernel
theorem dX11_init_359 : decode cX11_init 359 = .ok (.newarray .int, 2) := by decide +kernel
theorem dX11_init_361 : decode cX11_init 361 = .ok (.putfield 118, 3) := by decide +kernel
theorem dX11_init_364 : decode cX11_init 364 = .ok (.aload_n 0, 1) := by decide +kernel
theorem dX11_init_365 : decode cX11_init 365 = .ok (.iconst 4, 1) := by decide +kernel
theorem dX11_init_366 : decode cX11_init 366 = .ok (.newarray .int, 2) := by decide +kernel
theorem dX11_init_368 : decode cX11_init 368 = .ok (.putfield 121, 3) := by decide +kernel
theorem dX11_init_371 : decode cX11_init 371 = .ok (.aload_n 0, 1) := by decide +kernel
theorem dX11_init_372 : decode cX11_init 372 = .ok (.bipush 9, 2) := by decide +kernel
theorem dX11_init_374 : decode cX11_init 374 = .ok (.newarray .int, 2) := by decide +kernel
theorem dX11_init_376 : decode cX11_init 376 = .ok (.putfield 124, 3) := by decide +kernel
theorem dX11_init_379 : decode cX11_init 379 = .ok (.aload_n 0, 1) := by decide +kernel
theorem dX11_init_380 : decode cX11_init 380 = .ok (.bipush 8, 2) := by decide +kernel
theorem dX11_init_382 : decode cX11_init 382 = .ok (.newarray .int, 2) := by decide +kernel
theorem dX11_init_384 : decode cX11_init 384 = .ok (.putfield 127, 3) := by decide +kernel
theorem dX11_init_387 : decode cX11_init 387 = .ok (.aload_n 0, 1) := by decide +kernel
theorem dX11_init_388 : decode cX11_init 388 = .ok (.bipush 8, 2) := by decide +kernel
theorem dX11_init_390 : decode cX11_init 390 = .ok (.newarray .int, 2) := by decide +kernel
theorem dX11_init_392 : decode cX11_init 392 = .ok (.putfield 130, 3) := by decide +kernel
theorem dX11_init_395 : decode cX11_init 395 = .ok (.aload_n 0, 1) := by decide +kernel
theorem dX11_init_396 : decode cX11_init 396 = .ok (.bipush 8, 2) := by decide +kernel
theorem dX11_init_398 : decode cX11_init 398 = .ok (.newarray .int, 2) := by decide +kernel
theorem dX11_init_400 : decode cX11_init 400 = .ok (.putfield 133, 3) := by decide +kernel
theorem dX11_init_403 : decode cX11_init 403 = .ok (.aload_n 0, 1) := by decide +kernel
theorem dX11_init_404 : decode cX11_init 404 = .ok (.bipush 31, 2) := by decide +kernel
theorem dX11_init_406 : decode cX11_init 406 = .ok (.newarray .int, 2) := by decide +kernel
theorem dX11_init_408 : decode cX11_init 408 = .ok (.putfield 136, 3) := by decide +kernel
theorem dX11_init_411 : decode cX11_init 411 = .ok (.aload_n 0, 1) := by decide +kernel
theorem dX11_init_412 : decode cX11_init 412 = .ok (.bipush 31, 2) := by decide +kernel
theorem dX11_init_414 : decode cX11_init 414 = .ok (.newarray .int, 2) := by decide +kernel
theorem dX11_init_416 : decode cX11_init 416 = .ok (.putfield 139, 3) := by decide +kernel
theorem dX11_init_419 : decode cX11_init 419 = .ok (.aload_n 0, 1) := by decide +kernel
theorem dX11_init_420 : decode cX11_init 420 = .ok (.sipush 1240, 3) := by decide +kernel
theorem dX11_init_423 : decode cX11_init 423 = .ok (.newarray .int, 2) := by decide +kernel
theorem dX11_init_425 : decode cX11_init 425 = .ok (.putfield 142, 3) := by decide +kernel
theorem dX11_init_428 : decode cX11_init 428 = .ok (.aload_n 0, 1) := by decide +kernel
theorem dX11_init_429 : decode cX11_init 429 = .ok (.bipush 8, 2) := by decide +kernel
theorem dX11_init_431 : decode cX11_init 431 = .ok (.newarray .int, 2) := by decide +kernel
theorem dX11_init_433 : decode cX11_init 433 = .ok (.putfield 145, 3) := by decide +kernel
theorem dX11_init_436 : decode cX11_init 436 = .ok (.aload_n 0, 1) := by decide +kernel
theorem dX11_init_437 : decode cX11_init 437 = .ok (.bipush 8, 2) := by decide +kernel
theorem dX11_init_439 : decode cX11_init 439 = .ok (.newarray .int, 2) := by decide +kernel
theorem dX11_init_441 : decode cX11_init 441 = .ok (.putfield 148, 3) := by decide +kernel
theorem dX11_init_444 : decode cX11_init 444 = .ok (.aload_n 0, 1) := by decide +kernel
theorem dX11_init_445 : decode cX11_init 445 = .ok (.bipush 8, 2) := by decide +kernel
theorem dX11_init_447 : decode cX11_init 447 = .ok (.newarray .int, 2) := by decide +kernel
theorem dX11_init_449 : decode cX11_init 449 = .ok (.putfield 151, 3) := by decide +kernel
theorem dX11_init_452 : decode cX11_init 452 = .ok (.aload_n 0, 1) := by decide +kernel
theorem dX11_init_453 : decode cX11_init 453 = .ok (.iconst 3, 1) := by decide +kernel
theorem dX11_init_454 : decode cX11_init 454 = .ok (.newarray .int, 2) := by decide +kernel
theorem dX11_init_456 : decode cX11_init 456 = .ok (.putfield 154, 3) := by decide +kernel
theorem dX11_init_459 : decode cX11_init 459 = .ok (.return_, 1) := by decide +kernel
theorem dX11_thrown_0 : decode cX11_thrown 0 = .ok (.aload_n 0, 1) := by decide +kernel
theorem dX11_thrown_1 : decode cX11_thrown 1 = .ok (.getfield 157, 3) := by decide +kernel
theorem dX11_thrown_4 : decode cX11_thrown 4 = .ok (.ireturn, 1) := by decide +kernel
theorem dX11_fail_0 : decode cX11_fail 0 = .ok (.aload_n 0, 1) := by decide +kernel
theorem dX11_fail_1 : decode cX11_fail 1 = .ok (.iload_n 1, 1) := by decide +kernel
theorem dX11_fail_2 : decode cX11_fail 2 = .ok (.putfield 157, 3) := by decide +kernel
theorem dX11_fail_5 : decode cX11_fail 5 = .ok (.iconst 0, 1) := by decide +kernel
theorem dX11_fail_6 : decode cX11_fail 6 = .ok (.ireturn, 1) := by decide +kernel
theorem dX11_isIn_0 : decode cX11_isIn 0 = .ok (.lload_n 0, 1) := by decide +kernel
theorem dX11_isIn_1 : decode cX11_isIn 1 = .ok (.lload_n 2, 1) := by decide +kernel
theorem dX11_isIn_2 : decode cX11_isIn 2 = .ok (.lcmp, 1) := by decide +kernel
theorem dX11_isIn_3 : decode cX11_isIn 3 = .ok (.ifCond .lt 14, 3) := by decide +kernel
theorem dX11_isIn_6 : decode cX11_isIn 6 = .ok (.lload_n 0, 1) := by decide +kernel
theorem dX11_isIn_7 : decode cX11_isIn 7 = .ok (.lload 4, 2) := by decide +kernel
theorem dX11_isIn_9 : decode cX11_isIn 9 = .ok (.lcmp, 1) := by decide +kernel
theorem dX11_isIn_10 : decode cX11_isIn 10 = .ok (.ifCond .gt 7, 3) := by decide +kernel
theorem dX11_isIn_13 : decode cX11_isIn 13 = .ok (.iconst 1, 1) := by decide +kernel
theorem dX11_isIn_14 : decode cX11_isIn 14 = .ok (.goto 4, 3) := by decide +kernel
theorem dX11_isIn_17 : decode cX11_isIn 17 = .ok (.iconst 0, 1) := by decide +kernel
theorem dX11_isIn_18 : decode cX11_isIn 18 = .ok (.ireturn, 1) := by decide +kernel
theorem dX11_isOf_0 : decode cX11_isOf 0 = .ok (.iload_n 0, 1) := by decide +kernel
theorem dX11_isOf_1 : decode cX11_isOf 1 = .ok (.iload_n 1, 1) := by decide +kernel
theorem dX11_isOf_2 : decode cX11_isOf 2 = .ok (.ishr, 1) := by decide +kernel
theorem dX11_isOf_3 : decode cX11_isOf 3 = .ok (.iconst 1, 1) := by decide +kernel
theorem dX11_isOf_4 : decode cX11_isOf 4 = .ok (.iand, 1) := by decide +kernel
theorem dX11_isOf_5 : decode cX11_isOf 5 = .ok (.iconst 1, 1) := by decide +kernel
theorem dX11_isOf_6 : decode cX11_isOf 6 = .ok (.if_icmp .ne 7, 3) := by decide +kernel
theorem dX11_isOf_9 : decode cX11_isOf 9 = .ok (.iconst 1, 1) := by decide +kernel
theorem dX11_isOf_10 : decode cX11_isOf 10 = .ok (.goto 4, 3) := by decide +kernel
theorem dX11_isOf_13 : decode cX11_isOf 13 = .ok (.iconst 0, 1) := by decide +kernel
theorem dX11_isOf_14 : decode cX11_isOf 14 = .ok (.ireturn, 1) := by decide +kernel
theorem dX11_isRoom_0 : decode cX11_isRoom 0 = .ok (.iload_n 1, 1) := by decide +kernel
theorem dX11_isRoom_1 : decode cX11_isRoom 1 = .ok (.i2l, 1) := by decide +kernel
theorem dX11_isRoom_2 : decode cX11_isRoom 2 = .ok (.lconst 0, 1) := by decide +kernel
theorem dX11_isRoom_3 : decode cX11_isRoom 3 = .ok (.aload_n 0, 1) := by decide +kernel
theorem dX11_isRoom_4 : decode cX11_isRoom 4 = .ok (.getfield 36, 3) := by decide +kernel
theorem dX11_isRoom_7 : decode cX11_isRoom 7 = .ok (.iconst 0, 1) := by decide +kernel
theorem dX11_isRoom_8 : decode cX11_isRoom 8 = .ok (.iaload, 1) := by decide +kernel
theorem dX11_isRoom_9 : decode cX11_isRoom 9 = .ok (.iconst 1, 1) := by decide +kernel
theorem dX11_isRoom_10 : decode cX11_isRoom 10 = .ok (.isub, 1) := by decide +kernel
theorem dX11_isRoom_11 : decode cX11_isRoom 11 = .ok (.i2l, 1) := by decide +kernel
theorem dX11_isRoom_12 : decode cX11_isRoom 12 = .ok (.invokestatic 160, 3) := by decide +kernel
theorem dX11_isRoom_15 : decode cX11_isRoom 15 = .ok (.ireturn, 1) := by decide +kernel
theorem dX11_isAhead_0 : decode cX11_isAhead 0 = .ok (.iload_n 0, 1) := by decide +kernel
theorem dX11_isAhead_1 : decode cX11_isAhead 1 = .ok (.i2l, 1) := by decide +kernel
theorem dX11_isAhead_2 : decode cX11_isAhead 2 = .ok (.lconst 0, 1) := by decide +kernel
theorem dX11_isAhead_3 : decode cX11_isAhead 3 = .ok (.ldc2_w 164, 3) := by decide +kernel
theorem dX11_isAhead_6 : decode cX11_isAhead 6 = .ok (.invokestatic 160, 3) := by decide +kernel
theorem dX11_isAhead_9 : decode cX11_isAhead 9 = .ok (.ireturn, 1) := by decide +kernel
theorem dX11_feed_0 : decode cX11_feed 0 = .ok (.aload_n 0, 1) := by decide +kernel
theorem dX11_feed_1 : decode cX11_feed 1 = .ok (.iconst 0, 1) := by decide +kernel
theorem dX11_feed_2 : decode cX11_feed 2 = .ok (.putfield 157, 3) := by decide +kernel
theorem dX11_feed_5 : decode cX11_feed 5 = .ok (.aload_n 0, 1) := by decide +kernel
theorem dX11_feed_6 : decode cX11_feed 6 = .ok (.getfield 166, 3) := by decide +kernel
theorem dX11_feed_9 : decode cX11_feed 9 = .ok (.bipush 20, 2) := by decide +kernel
theorem dX11_feed_11 : decode cX11_feed 11 = .ok (.iadd, 1) := by decide +kernel
theorem dX11_feed_12 : decode cX11_feed 12 = .ok (.sipush 700, 3) := by decide +kernel
theorem dX11_feed_15 : decode cX11_feed 15 = .ok (.if_icmp .le 5, 3) := by decide +kernel
theorem dX11_feed_18 : decode cX11_feed 18 = .ok (.iconst (-1), 1) := by decide +kernel
theorem dX11_feed_19 : decode cX11_feed 19 = .ok (.ireturn, 1) := by decide +kernel
theorem dX11_feed_20 : decode cX11_feed 20 = .ok (.iconst 0, 1) := by decide +kernel
theorem dX11_feed_21 : decode cX11_feed 21 = .ok (.istore 6, 2) := by decide +kernel
theorem dX11_feed_23 : decode cX11_feed 23 = .ok (.iload 6, 2) := by decide +kernel
theorem dX11_feed_25 : decode cX11_feed 25 = .ok (.bipush 20, 2) := by decide +kernel
theorem dX11_feed_27 : decode cX11_feed 27 = .ok (.if_icmp .ge 93, 3) := by decide +kernel
theorem dX11_feed_30 : decode cX11_feed 30 = .ok (.iload 6, 2) := by decide +kernel
theorem dX11_feed_32 : decode cX11_feed 32 = .ok (.iconst 4, 1) := by decide +kernel
theorem dX11_feed_33 : decode cX11_feed 33 = .ok (.if_icmp .ge 7, 3) := by decide +kernel
theorem dX11_feed_36 : decode cX11_feed 36 = .ok (.iload_n 1, 1) := by decide +kernel
theorem dX11_feed_37 : decode cX11_feed 37 = .ok (.goto 39, 3) := by decide +kernel
theorem dX11_feed_40 : decode cX11_feed 40 = .ok (.iload 6, 2) := by decide +kernel
theorem dX11_feed_42 : decode cX11_feed 42 = .ok (.bipush 8, 2) := by decide +kernel
theorem dX11_feed_44 : decode cX11_feed 44 = .ok (.if_icmp .ge 7, 3) := by decide +kernel
theorem dX11_feed_47 : decode cX11_feed 47 = .ok (.iload_n 2, 1) := by decide +kernel
theorem dX11_feed_48 : decode cX11_feed 48 = .ok (.goto 28, 3) := by decide +kernel
theorem dX11_feed_51 : decode cX11_feed 51 = .ok (.iload 6, 2) := by decide +kernel
theorem dX11_feed_53 : decode cX11_feed 53 = .ok (.bipush 12, 2) := by decide +kernel
theorem dX11_feed_55 : decode cX11_feed 55 = .ok (.if_icmp .ge 7, 3) := by decide +kernel
theorem dX11_feed_58 : decode cX11_feed 58 = .ok (.iload_n 3, 1) := by decide +kernel
theorem dX11_feed_59 : decode cX11_feed 59 = .ok (.goto 17, 3) := by decide +kernel
theorem dX11_feed_62 : decode cX11_feed 62 = .ok (.iload 6, 2) := by decide +kernel
theorem dX11_feed_64 : decode cX11_feed 64 = .ok (.bipush 16, 2) := by decide +kernel
theorem dX11_feed_66 : decode cX11_feed 66 = .ok (.if_icmp .ge 8, 3) := by decide +kernel
theorem dX11_feed_69 : decode cX11_feed 69 = .ok (.iload 4, 2) := by decide +kernel
theorem dX11_feed_71 : decode cX11_feed 71 = .ok (.goto 5, 3) := by decide +kernel
theorem dX11_feed_74 : decode cX11_feed 74 = .ok (.iload 5, 2) := by decide +kernel
theorem dX11_feed_76 : decode cX11_feed 76 = .ok (.istore 7, 2) := by decide +kernel
theorem dX11_feed_78 : decode cX11_feed 78 = .ok (.aload_n 0, 1) := by decide +kernel
theorem dX11_feed_79 : decode cX11_feed 79 = .ok (.getfield 80, 3) := by decide +kernel
theorem dX11_feed_82 : decode cX11_feed 82 = .ok (.aload_n 0, 1) := by decide +kernel
theorem dX11_feed_83 : decode cX11_feed 83 = .ok (.getfield 166, 3) := by decide +kernel
theorem dX11_feed_86 : decode cX11_feed 86 = .ok (.iload 7, 2) := by decide +kernel
theorem dX11_feed_88 : decode cX11_feed 88 = .ok (.bipush 24, 2) := by decide +kernel
theorem dX11_feed_90 : decode cX11_feed 90 = .ok (.bipush 8, 2) := by decide +kernel
theorem dX11_feed_92 : decode cX11_feed 92 = .ok (.iload 6, 2) := by decide +kernel
theorem dX11_feed_94 : decode cX11_feed 94 = .ok (.iconst 4, 1) := by decide +kernel
theorem dX11_feed_95 : decode cX11_feed 95 = .ok (.irem, 1) := by decide +kernel
theorem dX11_feed_96 : decode cX11_feed 96 = .ok (.imul, 1) := by decide +kernel
theorem dX11_feed_97 : decode cX11_feed 97 = .ok (.isub, 1) := by decide +kernel
theorem dX11_feed_98 : decode cX11_feed 98 = .ok (.ishr, 1) := by decide +kernel
theorem dX11_feed_99 : decode cX11_feed 99 = .ok (.sipush 255, 3) := by decide +kernel
theorem dX11_feed_102 : decode cX11_feed 102 = .ok (.iand, 1) := by decide +kernel
theorem dX11_feed_103 : decode cX11_feed 103 = .ok (.iastore, 1) := by decide +kernel
theorem dX11_feed_104 : decode cX11_feed 104 = .ok (.aload_n 0, 1) := by decide +kernel
theorem dX11_feed_105 : decode cX11_feed 105 = .ok (.dup, 1) := by decide +kernel
theorem dX11_feed_106 : decode cX11_feed 106 = .ok (.getfield 166, 3) := by decide +kernel
theorem dX11_feed_109 : decode cX11_feed 109 = .ok (.iconst 1, 1) := by decide +kernel
theorem dX11_feed_110 : decode cX11_feed 110 = .ok (.iadd, 1) := by decide +kernel
theorem dX11_feed_111 : decode cX11_feed 111 = .ok (.putfield 166, 3) := by decide +kernel
theorem dX11_feed_114 : decode cX11_feed 114 = .ok (.iinc 6 1, 3) := by decide +kernel
theorem dX11_feed_117 : decode cX11_feed 117 = .ok (.goto (-94), 3) := by decide +kernel
theorem dX11_feed_120 : decode cX11_feed 120 = .ok (.aload_n 0, 1) := by decide +kernel
theorem dX11_feed_121 : decode cX11_feed 121 = .ok (.getfield 166, 3) := by decide +kernel
theorem dX11_feed_124 : decode cX11_feed 124 = .ok (.ireturn, 1) := by decide +kernel
theorem dX11_byteAt_0 : decode cX11_byteAt 0 = .ok (.iload_n 1, 1) := by decide +kernel
theorem dX11_byteAt_1 : decode cX11_byteAt 1 = .ok (.aload_n 0, 1) := by decide +kernel
theorem dX11_byteAt_2 : decode cX11_byteAt 2 = .ok (.getfield 169, 3) := by decide +kernel
theorem dX11_byteAt_5 : decode cX11_byteAt 5 = .ok (.if_icmp .ge 12, 3) := by decide +kernel
theorem dX11_byteAt_8 : decode cX11_byteAt 8 = .ok (.aload_n 0, 1) := by decide +kernel
theorem dX11_byteAt_9 : decode cX11_byteAt 9 = .ok (.getfield 80, 3) := by decide +kernel
theorem dX11_byteAt_12 : decode cX11_byteAt 12 = .ok (.iload_n 1, 1) := by decide +kernel
theorem dX11_byteAt_13 : decode cX11_byteAt 13 = .ok (.iaload, 1) := by decide +kernel
theorem dX11_byteAt_14 : decode cX11_byteAt 14 = .ok (.goto 4, 3) := by decide +kernel
theorem dX11_byteAt_17 : decode cX11_byteAt 17 = .ok (.iconst (-1), 1) := by decide +kernel
theorem dX11_byteAt_18 : decode cX11_byteAt 18 = .ok (.ireturn, 1) := by decide +kernel
theorem dX11_isLetter_0 : decode cX11_isLetter 0 = .ok (.iload_n 0, 1) := by decide +kernel
theorem dX11_isLetter_1 : decode cX11_isLetter 1 = .ok (.bipush 97, 2) := by decide +kernel
theorem dX11_isLetter_3 : decode cX11_isLetter 3 = .ok (.if_icmp .lt 13, 3) := by decide +kernel
theorem dX11_isLetter_6 : decode cX11_isLetter 6 = .ok (.iload_n 0, 1) := by decide +kernel
theorem dX11_isLetter_7 : decode cX11_isLetter 7 = .ok (.bipush 122, 2) := by decide +kernel
theorem dX11_isLetter_9 : decode cX11_isLetter 9 = .ok (.if_icmp .gt 7, 3) := by decide +kernel
theorem dX11_isLetter_12 : decode cX11_isLetter 12 = .ok (.iconst 1, 1) := by decide +kernel
theorem dX11_isLetter_13 : decode cX11_isLetter 13 = .ok (.goto 4, 3) := by decide +kernel
theorem dX11_isLetter_16 : decode cX11_isLetter 16 = .ok (.iconst 0, 1) := by decide +kernel
theorem dX11_isLetter_17 : decode cX11_isLetter 17 = .ok (.ireturn, 1) := by decide +kernel
theorem dX11_isDigit_0 : decode cX11_isDigit 0 = .ok (.iload_n 0, 1) := by decide +kernel
theorem dX11_isDigit_1 : decode cX11_isDigit 1 = .ok (.bipush 48, 2) := by decide +kernel
theorem dX11_isDigit_3 : decode cX11_isDigit 3 = .ok (.if_icmp .lt 13, 3) := by decide +kernel
theorem dX11_isDigit_6 : decode cX11_isDigit 6 = .ok (.iload_n 0, 1) := by decide +kernel
theorem dX11_isDigit_7 : decode cX11_isDigit 7 = .ok (.bipush 57, 2) := by decide +kernel
theorem dX11_isDigit_9 : decode cX11_isDigit 9 = .ok (.if_icmp .gt 7, 3) := by decide +kernel
theorem dX11_isDigit_12 : decode cX11_isDigit 12 = .ok (.iconst 1, 1) := by decide +kernel
theorem dX11_isDigit_13 : decode cX11_isDigit 13 = .ok (.goto 4, 3) := by decide +kernel
theorem dX11_isDigit_16 : decode cX11_isDigit 16 = .ok (.iconst 0, 1) := by decide +kernel
theorem dX11_isDigit_17 : decode cX11_isDigit 17 = .ok (.ireturn, 1) := by decide +kernel
theorem dX11_isMark_0 : decode cX11_isMark 0 = .ok (.iload_n 0, 1) := by decide +kernel
theorem dX11_isMark_1 : decode cX11_isMark 1 = .ok (.bipush 59, 2) := by decide +kernel
theorem dX11_isMark_3 : decode cX11_isMark 3 = .ok (.if_icmp .eq 51, 3) := by decide +kernel
theorem dX11_isMark_6 : decode cX11_isMark 6 = .ok (.iload_n 0, 1) := by decide +kernel
theorem dX11_isMark_7 : decode cX11_isMark 7 = .ok (.bipush 40, 2) := by decide +kernel
theorem dX11_isMark_9 : decode cX11_isMark 9 = .ok (.if_icmp .eq 45, 3) := by decide +kernel
theorem dX11_isMark_12 : decode cX11_isMark 12 = .ok (.iload_n 0, 1) := by decide +kernel
theorem dX11_isMark_13 : decode cX11_isMark 13 = .ok (.bipush 41, 2) := by decide +kernel
theorem dX11_isMark_15 : decode cX11_isMark 15 = .ok (.if_icmp .eq 39, 3) := by decide +kernel
theorem dX11_isMark_18 : decode cX11_isMark 18 = .ok (.iload_n 0, 1) := by decide +kernel
theorem dX11_isMark_19 : decode cX11_isMark 19 = .ok (.bipush 43, 2) := by decide +kernel
theorem dX11_isMark_21 : decode cX11_isMark 21 = .ok (.if_icmp .eq 33, 3) := by decide +kernel
theorem dX11_isMark_24 : decode cX11_isMark 24 = .ok (.iload_n 0, 1) := by decide +kernel
theorem dX11_isMark_25 : decode cX11_isMark 25 = .ok (.bipush 45, 2) := by decide +kernel
theorem dX11_isMark_27 : decode cX11_isMark 27 = .ok (.if_icmp .eq 27, 3) := by decide +kernel
theorem dX11_isMark_30 : decode cX11_isMark 30 = .ok (.iload_n 0, 1) := by decide +kernel
theorem dX11_isMark_31 : decode cX11_isMark 31 = .ok (.bipush 42, 2) := by decide +kernel
theorem dX11_isMark_33 : decode cX11_isMark 33 = .ok (.if_icmp .eq 21, 3) := by decide +kernel
theorem dX11_isMark_36 : decode cX11_isMark 36 = .ok (.iload_n 0, 1) := by decide +kernel
theorem dX11_isMark_37 : decode cX11_isMark 37 = .ok (.bipush 47, 2) := by decide +kernel
theorem dX11_isMark_39 : decode cX11_isMark 39 = .ok (.if_icmp .eq 15, 3) := by decide +kernel
theorem dX11_isMark_42 : decode cX11_isMark 42 = .ok (.iload_n 0, 1) := by decide +kernel
theorem dX11_isMark_43 : decode cX11_isMark 43 = .ok (.bipush 60, 2) := by decide +kernel
theorem dX11_isMark_45 : decode cX11_isMark 45 = .ok (.if_icmp .eq 9, 3) := by decide +kernel
theorem dX11_isMark_48 : decode cX11_isMark 48 = .ok (.iload_n 0, 1) := by decide +kernel
theorem dX11_isMark_49 : decode cX11_isMark 49 = .ok (.bipush 61, 2) := by decide +kernel
theorem dX11_isMark_51 : decode cX11_isMark 51 = .ok (.if_icmp .ne 7, 3) := by decide +kernel
theorem dX11_isMark_54 : decode cX11_isMark 54 = .ok (.iconst 1, 1) := by decide +kernel
theorem dX11_isMark_55 : decode cX11_isMark 55 = .ok (.goto 4, 3) := by decide +kernel
theorem dX11_isMark_58 : decode cX11_isMark 58 = .ok (.iconst 0, 1) := by decide +kernel
theorem dX11_isMark_59 : decode cX11_isMark 59 = .ok (.ireturn, 1) := by decide +kernel
theorem dX11_stepOn_0 : decode cX11_stepOn 0 = .ok (.aload_n 0, 1) := by decide +kernel
theorem dX11_stepOn_1 : decode cX11_stepOn 1 = .ok (.aload_n 0, 1) := by decide +kernel
theorem dX11_stepOn_2 : decode cX11_stepOn 2 = .ok (.getfield 172, 3) := by decide +kernel
theorem dX11_stepOn_5 : decode cX11_stepOn 5 = .ok (.invokevirtual 175, 3) := by decide +kernel
theorem dX11_stepOn_8 : decode cX11_stepOn 8 = .ok (.bipush 32, 2) := by decide +kernel
theorem dX11_stepOn_10 : decode cX11_stepOn 10 = .ok (.if_icmp .eq 16, 3) := by decide +kernel
theorem dX11_stepOn_13 : decode cX11_stepOn 13 = .ok (.aload_n 0, 1) := by decide +kernel
theorem dX11_stepOn_14 : decode cX11_stepOn 14 = .ok (.aload_n 0, 1) := by decide +kernel
theorem dX11_stepOn_15 : decode cX11_stepOn 15 = .ok (.getfield 172, 3) := by decide +kernel
theorem dX11_stepOn_18 : decode cX11_stepOn 18 = .ok (.invokevirtual 175, 3) := by decide +kernel
theorem dX11_stepOn_21 : decode cX11_stepOn 21 = .ok (.bipush 10, 2) := by decide +kernel
theorem dX11_stepOn_23 : decode cX11_stepOn 23 = .ok (.if_icmp .ne 16, 3) := by decide +kernel
theorem dX11_stepOn_26 : decode cX11_stepOn 26 = .ok (.aload_n 0, 1) := by decide +kernel
theorem dX11_stepOn_27 : decode cX11_stepOn 27 = .ok (.dup, 1) := by decide +kernel
theorem dX11_stepOn_28 : decode cX11_stepOn 28 = .ok (.getfield 172, 3) := by decide +kernel
theorem dX11_stepOn_31 : decode cX11_stepOn 31 = .ok (.iconst 1, 1) := by decide +kernel
theorem dX11_stepOn_32 : decode cX11_stepOn 32 = .ok (.iadd, 1) := by decide +kernel
theorem dX11_stepOn_33 : decode cX11_stepOn 33 = .ok (.putfield 172, 3) := by decide +kernel
theorem dX11_stepOn_36 : decode cX11_stepOn 36 = .ok (.goto (-36), 3) := by decide +kernel
theorem dX11_stepOn_39 : decode cX11_stepOn 39 = .ok (.aload_n 0, 1) := by decide +kernel
theorem dX11_stepOn_40 : decode cX11_stepOn 40 = .ok (.aload_n 0, 1) := by decide +kernel
theorem dX11_stepOn_41 : decode cX11_stepOn 41 = .ok (.getfield 172, 3) := by decide +kernel
theorem dX11_stepOn_44 : decode cX11_stepOn 44 = .ok (.putfield 179, 3) := by decide +kernel
theorem dX11_stepOn_47 : decode cX11_stepOn 47 = .ok (.aload_n 0, 1) := by decide +kernel
theorem dX11_stepOn_48 : decode cX11_stepOn 48 = .ok (.aload_n 0, 1) := by decide +kernel
theorem dX11_stepOn_49 : decode cX11_stepOn 49 = .ok (.getfield 172, 3) := by decide +kernel
theorem dX11_stepOn_52 : decode cX11_stepOn 52 = .ok (.invokevirtual 175, 3) := by decide +kernel
theorem dX11_stepOn_55 : decode cX11_stepOn 55 = .ok (.istore_n 1, 1) := by decide +kernel
theorem dX11_stepOn_56 : decode cX11_stepOn 56 = .ok (.iload_n 1, 1) := by decide +kernel
theorem dX11_stepOn_57 : decode cX11_stepOn 57 = .ok (.iconst (-1), 1) := by decide +kernel
theorem dX11_stepOn_58 : decode cX11_stepOn 58 = .ok (.if_icmp .ne 11, 3) := by decide +kernel
theorem dX11_stepOn_61 : decode cX11_stepOn 61 = .ok (.aload_n 0, 1) := by decide +kernel
theorem dX11_stepOn_62 : decode cX11_stepOn 62 = .ok (.iconst 0, 1) := by decide +kernel
theorem dX11_stepOn_63 : decode cX11_stepOn 63 = .ok (.putfield 182, 3) := by decide +kernel
theorem dX11_stepOn_66 : decode cX11_stepOn 66 = .ok (.goto 146, 3) := by decide +kernel
theorem dX11_stepOn_69 : decode cX11_stepOn 69 = .ok (.iload_n 1, 1) := by decide +kernel
theorem dX11_stepOn_70 : decode cX11_stepOn 70 = .ok (.invokestatic 185, 3) := by decide +kernel
theorem dX11_stepOn_73 : decode cX11_stepOn 73 = .ok (.ifCond .eq 38, 3) := by decide +kernel
theorem dX11_stepOn_76 : decode cX11_stepOn 76 = .ok (.aload_n 0, 1) := by decide +kernel
theorem dX11_stepOn_77 : decode cX11_stepOn 77 = .ok (.aload_n 0, 1) := by decide +kernel
theorem dX11_stepOn_78 : decode cX11_stepOn 78 = .ok (.getfield 172, 3) := by decide +kernel
theorem dX11_stepOn_81 : decode cX11_stepOn 81 = .ok (.invokevirtual 175, 3) := by decide +kernel
theorem dX11_stepOn_84 : decode cX11_stepOn 84 = .ok (.invokestatic 185, 3) := by decide +kernel
theorem dX11_stepOn_87 : decode cX11_stepOn 87 = .ok (.ifCond .eq 16, 3) := by decide +kernel
theorem dX11_stepOn_90 : decode cX11_stepOn 90 = .ok (.aload_n 0, 1) := by decide +kernel
theorem dX11_stepOn_91 : decode cX11_stepOn 91 = .ok (.dup, 1) := by decide +kernel
theorem dX11_stepOn_92 : decode cX11_stepOn 92 = .ok (.getfield 172, 3) := by decide +kernel
theorem dX11_stepOn_95 : decode cX11_stepOn 95 = .ok (.iconst 1, 1) := by decide +kernel
theorem dX11_stepOn_96 : decode cX11_stepOn 96 = .ok (.iadd, 1) := by decide +kernel
theorem dX11_stepOn_97 : decode cX11_stepOn 97 = .ok (.putfield 172, 3) := by decide +kernel
theorem dX11_stepOn_100 : decode cX11_stepOn 100 = .ok (.goto (-24), 3) := by decide +kernel
theorem dX11_stepOn_103 : decode cX11_stepOn 103 = .ok (.aload_n 0, 1) := by decide +kernel
theorem dX11_stepOn_104 : decode cX11_stepOn 104 = .ok (.iconst 1, 1) := by decide +kernel
theorem dX11_stepOn_105 : decode cX11_stepOn 105 = .ok (.putfield 182, 3) := by decide +kernel
theorem dX11_stepOn_108 : decode cX11_stepOn 108 = .ok (.goto 104, 3) := by decide +kernel
theorem dX11_stepOn_111 : decode cX11_stepOn 111 = .ok (.iload_n 1, 1) := by decide +kernel
theorem dX11_stepOn_112 : decode cX11_stepOn 112 = .ok (.invokestatic 189, 3) := by decide +kernel
theorem dX11_stepOn_115 : decode cX11_stepOn 115 = .ok (.ifCond .eq 71, 3) := by decide +kernel
theorem dX11_stepOn_118 : decode cX11_stepOn 118 = .ok (.aload_n 0, 1) := by decide +kernel
theorem dX11_stepOn_119 : decode cX11_stepOn 119 = .ok (.iconst 0, 1) := by decide +kernel
theorem dX11_stepOn_120 : decode cX11_stepOn 120 = .ok (.putfield 192, 3) := by decide +kernel
theorem dX11_stepOn_123 : decode cX11_stepOn 123 = .ok (.aload_n 0, 1) := by decide +kernel
theorem dX11_stepOn_124 : decode cX11_stepOn 124 = .ok (.aload_n 0, 1) := by decide +kernel
theorem dX11_stepOn_125 : decode cX11_stepOn 125 = .ok (.getfield 172, 3) := by decide +kernel
theorem dX11_stepOn_128 : decode cX11_stepOn 128 = .ok (.invokevirtual 175, 3) := by decide +kernel
theorem dX11_stepOn_131 : decode cX11_stepOn 131 = .ok (.invokestatic 189, 3) := by decide +kernel
theorem dX11_stepOn_134 : decode cX11_stepOn 134 = .ok (.ifCond .eq 44, 3) := by decide +kernel
theorem dX11_stepOn_137 : decode cX11_stepOn 137 = .ok (.aload_n 0, 1) := by decide +kernel
theorem dX11_stepOn_138 : decode cX11_stepOn 138 = .ok (.ldc 195, 2) := by decide +kernel
theorem dX11_stepOn_140 : decode cX11_stepOn 140 = .ok (.bipush 10, 2) := by decide +kernel
theorem dX11_stepOn_142 : decode cX11_stepOn 142 = .ok (.aload_n 0, 1) := by decide +kernel
theorem dX11_stepOn_143 : decode cX11_stepOn 143 = .ok (.getfield 192, 3) := by decide +kernel
theorem dX11_stepOn_146 : decode cX11_stepOn 146 = .ok (.imul, 1) := by decide +kernel
theorem dX11_stepOn_147 : decode cX11_stepOn 147 = .ok (.aload_n 0, 1) := by decide +kernel
theorem dX11_stepOn_148 : decode cX11_stepOn 148 = .ok (.aload_n 0, 1) := by decide +kernel
theorem dX11_stepOn_149 : decode cX11_stepOn 149 = .ok (.getfield 172, 3) := by decide +kernel
theorem dX11_stepOn_152 : decode cX11_stepOn 152 = .ok (.invokevirtual 175, 3) := by decide +kernel
theorem dX11_stepOn_155 : decode cX11_stepOn 155 = .ok (.iadd, 1) := by decide +kernel
theorem dX11_stepOn_156 : decode cX11_stepOn 156 = .ok (.bipush 48, 2) := by decide +kernel
theorem dX11_stepOn_158 : decode cX11_stepOn 158 = .ok (.isub, 1) := by decide +kernel
theorem dX11_stepOn_159 : decode cX11_stepOn 159 = .ok (.invokestatic 196, 3) := by decide +kernel
theorem dX11_stepOn_162 : decode cX11_stepOn 162 = .ok (.putfield 192, 3) := by decide +kernel
theorem dX11_stepOn_165 : decode cX11_stepOn 165 = .ok (.aload_n 0, 1) := by decide +kernel
theorem dX11_stepOn_166 : decode cX11_stepOn 166 = .ok (.dup, 1) := by decide +kernel
theorem dX11_stepOn_167 : decode cX11_stepOn 167 = .ok (.getfield 172, 3) := by decide +kernel
theorem dX11_stepOn_170 : decode cX11_stepOn 170 = .ok (.iconst 1, 1) := by decide +kernel
theorem dX11_stepOn_171 : decode cX11_stepOn 171 = .ok (.iadd, 1) := by decide +kernel
theorem dX11_stepOn_172 : decode cX11_stepOn 172 = .ok (.putfield 172, 3) := by decide +kernel
theorem dX11_stepOn_175 : decode cX11_stepOn 175 = .ok (.goto (-52), 3) := by decide +kernel
theorem dX11_stepOn_178 : decode cX11_stepOn 178 = .ok (.aload_n 0, 1) := by decide +kernel
theorem dX11_stepOn_179 : decode cX11_stepOn 179 = .ok (.iconst 2, 1) := by decide +kernel
theorem dX11_stepOn_180 : decode cX11_stepOn 180 = .ok (.putfield 182, 3) := by decide +kernel
theorem dX11_stepOn_183 : decode cX11_stepOn 183 = .ok (.goto 29, 3) := by decide +kernel
theorem dX11_stepOn_186 : decode cX11_stepOn 186 = .ok (.aload_n 0, 1) := by decide +kernel
theorem dX11_stepOn_187 : decode cX11_stepOn 187 = .ok (.dup, 1) := by decide +kernel
theorem dX11_stepOn_188 : decode cX11_stepOn 188 = .ok (.getfield 172, 3) := by decide +kernel
theorem dX11_stepOn_191 : decode cX11_stepOn 191 = .ok (.iconst 1, 1) := by decide +kernel
theorem dX11_stepOn_192 : decode cX11_stepOn 192 = .ok (.iadd, 1) := by decide +kernel
theorem dX11_stepOn_193 : decode cX11_stepOn 193 = .ok (.putfield 172, 3) := by decide +kernel
theorem dX11_stepOn_196 : decode cX11_stepOn 196 = .ok (.aload_n 0, 1) := by decide +kernel
theorem dX11_stepOn_197 : decode cX11_stepOn 197 = .ok (.iload_n 1, 1) := by decide +kernel
theorem dX11_stepOn_198 : decode cX11_stepOn 198 = .ok (.invokestatic 202, 3) := by decide +kernel
theorem dX11_stepOn_201 : decode cX11_stepOn 201 = .ok (.ifCond .eq 7, 3) := by decide +kernel
theorem dX11_stepOn_204 : decode cX11_stepOn 204 = .ok (.iconst 3, 1) := by decide +kernel
theorem dX11_stepOn_205 : decode cX11_stepOn 205 = .ok (.goto 4, 3) := by decide +kernel
theorem dX11_stepOn_208 : decode cX11_stepOn 208 = .ok (.iconst 4, 1) := by decide +kernel
theorem dX11_stepOn_209 : decode cX11_stepOn 209 = .ok (.putfield 182, 3) := by decide +kernel
theorem dX11_stepOn_212 : decode cX11_stepOn 212 = .ok (.aload_n 0, 1) := by decide +kernel
theorem dX11_stepOn_213 : decode cX11_stepOn 213 = .ok (.aload_n 0, 1) := by decide +kernel
theorem dX11_stepOn_214 : decode cX11_stepOn 214 = .ok (.getfield 172, 3) := by decide +kernel
theorem dX11_stepOn_217 : decode cX11_stepOn 217 = .ok (.putfield 205, 3) := by decide +kernel
theorem dX11_stepOn_220 : decode cX11_stepOn 220 = .ok (.return_, 1) := by decide +kernel
theorem dX11_wrong_0 : decode cX11_wrong 0 = .ok (.aload_n 0, 1) := by decide +kernel
theorem dX11_wrong_1 : decode cX11_wrong 1 = .ok (.getfield 208, 3) := by decide +kernel
theorem dX11_wrong_4 : decode cX11_wrong 4 = .ok (.ifCond .eq 4, 3) := by decide +kernel
theorem dX11_wrong_7 : decode cX11_wrong 7 = .ok (.return_, 1) := by decide +kernel
theorem dX11_wrong_8 : decode cX11_wrong 8 = .ok (.aload_n 0, 1) := by decide +kernel
theorem dX11_wrong_9 : decode cX11_wrong 9 = .ok (.iload_n 1, 1) := by decide +kernel
theorem dX11_wrong_10 : decode cX11_wrong 10 = .ok (.putfield 208, 3) := by decide +kernel
theorem dX11_wrong_13 : decode cX11_wrong 13 = .ok (.aload_n 0, 1) := by decide +kernel
theorem dX11_wrong_14 : decode cX11_wrong 14 = .ok (.aload_n 0, 1) := by decide +kernel
theorem dX11_wrong_15 : decode cX11_wrong 15 = .ok (.getfield 179, 3) := by decide +kernel
theorem dX11_wrong_18 : decode cX11_wrong 18 = .ok (.putfield 211, 3) := by decide +kernel
theorem dX11_wrong_21 : decode cX11_wrong 21 = .ok (.return_, 1) := by decide +kernel
theorem dX11_is_0 : decode cX11_is 0 = .ok (.aload_n 0, 1) := by decide +kernel
theorem dX11_is_1 : decode cX11_is 1 = .ok (.getfield 208, 3) := by decide +kernel
theorem dX11_is_4 : decode cX11_is 4 = .ok (.ifCond .ne 31, 3) := by decide +kernel
theorem dX11_is_7 : decode cX11_is 7 = .ok (.aload_n 0, 1) := by decide +kernel
theorem dX11_is_8 : decode cX11_is 8 = .ok (.getfield 182, 3) := by decide +kernel
theorem dX11_is_11 : decode cX11_is 11 = .ok (.iconst 1, 1) := by decide +kernel
theorem dX11_is_12 : decode cX11_is 12 = .ok (.if_icmp .ne 23, 3) := by decide +kernel
theorem dX11_is_15 : decode cX11_is 15 = .ok (.aload_n 1, 1) := by decide +kernel
theorem dX11_is_16 : decode cX11_is 16 = .ok (.invokevirtual 214, 3) := by decide +kernel
theorem dX11_is_19 : decode cX11_is 19 = .ok (.aload_n 0, 1) := by decide +kernel
theorem dX11_is_20 : decode cX11_is 20 = .ok (.getfield 205, 3) := by decide +kernel
theorem dX11_is_23 : decode cX11_is 23 = .ok (.aload_n 0, 1) := by decide +kernel
theorem dX11_is_24 : decode cX11_is 24 = .ok (.getfield 179, 3) := by decide +kernel
theorem dX11_is_27 : decode cX11_is 27 = .ok (.isub, 1) := by decide +kernel
theorem dX11_is_28 : decode cX11_is 28 = .ok (.if_icmp .ne 7, 3) := by decide +kernel
theorem dX11_is_31 : decode cX11_is 31 = .ok (.iconst 1, 1) := by decide +kernel
theorem dX11_is_32 : decode cX11_is 32 = .ok (.goto 4, 3) := by decide +kernel
theorem dX11_is_35 : decode cX11_is 35 = .ok (.iconst 0, 1) := by decide +kernel
theorem dX11_is_36 : decode cX11_is 36 = .ok (.istore_n 2, 1) := by decide +kernel
theorem dX11_is_37 : decode cX11_is 37 = .ok (.iconst 0, 1) := by decide +kernel
theorem dX11_is_38 : decode cX11_is 38 = .ok (.istore_n 3, 1) := by decide +kernel
theorem dX11_is_39 : decode cX11_is 39 = .ok (.iload_n 2, 1) := by decide +kernel
theorem dX11_is_40 : decode cX11_is 40 = .ok (.ifCond .eq 42, 3) := by decide +kernel
theorem dX11_is_43 : decode cX11_is 43 = .ok (.iload_n 3, 1) := by decide +kernel
theorem dX11_is_44 : decode cX11_is 44 = .ok (.aload_n 1, 1) := by decide +kernel
theorem dX11_is_45 : decode cX11_is 45 = .ok (.invokevirtual 214, 3) := by decide +kernel
theorem dX11_is_48 : decode cX11_is 48 = .ok (.if_icmp .ge 34, 3) := by decide +kernel
theorem dX11_is_51 : decode cX11_is 51 = .ok (.aload_n 1, 1) := by decide +kernel
theorem dX11_is_52 : decode cX11_is 52 = .ok (.iload_n 3, 1) := by decide +kernel
theorem dX11_is_53 : decode cX11_is 53 = .ok (.invokevirtual 218, 3) := by decide +kernel
theorem dX11_is_56 : decode cX11_is 56 = .ok (.aload_n 0, 1) := by decide +kernel
theorem dX11_is_57 : decode cX11_is 57 = .ok (.getfield 80, 3) := by decide +kernel
theorem dX11_is_60 : decode cX11_is 60 = .ok (.aload_n 0, 1) := by decide +kernel
theorem dX11_is_61 : decode cX11_is 61 = .ok (.getfield 179, 3) := by decide +kernel
theorem dX11_is_64 : decode cX11_is 64 = .ok (.iload_n 3, 1) := by decide +kernel
theorem dX11_is_65 : decode cX11_is 65 = .ok (.iadd, 1) := by decide +kernel
theorem dX11_is_66 : decode cX11_is 66 = .ok (.iaload, 1) := by decide +kernel
theorem dX11_is_67 : decode cX11_is 67 = .ok (.if_icmp .ne 7, 3) := by decide +kernel
theorem dX11_is_70 : decode cX11_is 70 = .ok (.iconst 1, 1) := by decide +kernel
theorem dX11_is_71 : decode cX11_is 71 = .ok (.goto 4, 3) := by decide +kernel
theorem dX11_is_74 : decode cX11_is 74 = .ok (.iconst 0, 1) := by decide +kernel
theorem dX11_is_75 : decode cX11_is 75 = .ok (.istore_n 2, 1) := by decide +kernel
theorem dX11_is_76 : decode cX11_is 76 = .ok (.iinc 3 1, 3) := by decide +kernel
theorem dX11_is_79 : decode cX11_is 79 = .ok (.goto (-40), 3) := by decide +kernel
theorem dX11_is_82 : decode cX11_is 82 = .ok (.iload_n 2, 1) := by decide +kernel
theorem dX11_is_83 : decode cX11_is 83 = .ok (.ireturn, 1) := by decide +kernel
theorem dX11_which_0 : decode cX11_which 0 = .ok (.iconst 0, 1) := by decide +kernel
theorem dX11_which_1 : decode cX11_which 1 = .ok (.istore_n 2, 1) := by decide +kernel
theorem dX11_which_2 : decode cX11_which 2 = .ok (.iload_n 2, 1) := by decide +kernel
theorem dX11_which_3 : decode cX11_which 3 = .ok (.aload_n 1, 1) := by decide +kernel
theorem dX11_which_4 : decode cX11_which 4 = .ok (.arraylength, 1) := by decide +kernel
theorem dX11_which_5 : decode cX11_which 5 = .ok (.if_icmp .ge 21, 3) := by decide +kernel
theorem dX11_which_8 : decode cX11_which 8 = .ok (.aload_n 0, 1) := by decide +kernel
theorem dX11_which_9 : decode cX11_which 9 = .ok (.aload_n 1, 1) := by decide +kernel
theorem dX11_which_10 : decode cX11_which 10 = .ok (.iload_n 2, 1) := by decide +kernel
theorem dX11_which_11 : decode cX11_which 11 = .ok (.aaload, 1) := by decide +kernel
theorem dX11_which_12 : decode cX11_which 12 = .ok (.invokevirtual 222, 3) := by decide +kernel
theorem dX11_which_15 : decode cX11_which 15 = .ok (.ifCond .eq 5, 3) := by decide +kernel
theorem dX11_which_18 : decode cX11_which 18 = .ok (.iload_n 2, 1) := by decide +kernel
theorem dX11_which_19 : decode cX11_which 19 = .ok (.ireturn, 1) := by decide +kernel
theorem dX11_which_20 : decode cX11_which 20 = .ok (.iinc 2 1, 3) := by decide +kernel
theorem dX11_which_23 : decode cX11_which 23 = .ok (.goto (-21), 3) := by decide +kernel
theorem dX11_which_26 : decode cX11_which 26 = .ok (.iconst (-1), 1) := by decide +kernel
theorem dX11_which_27 : decode cX11_which 27 = .ok (.ireturn, 1) := by decide +kernel
theorem dX11_isMarked_0 : decode cX11_isMarked 0 = .ok (.aload_n 0, 1) := by decide +kernel
theorem dX11_isMarked_1 : decode cX11_isMarked 1 = .ok (.getfield 208, 3) := by decide +kernel
theorem dX11_isMarked_4 : decode cX11_isMarked 4 = .ok (.ifCond .ne 28, 3) := by decide +kernel
theorem dX11_isMarked_7 : decode cX11_isMarked 7 = .ok (.aload_n 0, 1) := by decide +kernel
theorem dX11_isMarked_8 : decode cX11_isMarked 8 = .ok (.getfield 182, 3) := by decide +kernel
theorem dX11_isMarked_11 : decode cX11_isMarked 11 = .ok (.iconst 3, 1) := by decide +kernel
theorem dX11_isMarked_12 : decode cX11_isMarked 12 = .ok (.if_icmp .ne 20, 3) := by decide +kernel
theorem dX11_isMarked_15 : decode cX11_isMarked 15 = .ok (.aload_n 0, 1) := by decide +kernel
theorem dX11_isMarked_16 : decode cX11_isMarked 16 = .ok (.getfield 80, 3) := by decide +kernel
theorem dX11_isMarked_19 : decode cX11_isMarked 19 = .ok (.aload_n 0, 1) := by decide +kernel
theorem dX11_isMarked_20 : decode cX11_isMarked 20 = .ok (.getfield 179, 3) := by decide +kernel
theorem dX11_isMarked_23 : decode cX11_isMarked 23 = .ok (.iaload, 1) := by decide +kernel
theorem dX11_isMarked_24 : decode cX11_isMarked 24 = .ok (.iload_n 1, 1) := by decide +kernel
theorem dX11_isMarked_25 : decode cX11_isMarked 25 = .ok (.if_icmp .ne 7, 3) := by decide +kernel
theorem dX11_isMarked_28 : decode cX11_isMarked 28 = .ok (.iconst 1, 1) := by decide +kernel
theorem dX11_isMarked_29 : decode cX11_isMarked 29 = .ok (.goto 4, 3) := by decide +kernel
theorem dX11_isMarked_32 : decode cX11_isMarked 32 = .ok (.iconst 0, 1) := by decide +kernel
theorem dX11_isMarked_33 : decode cX11_isMarked 33 = .ok (.ireturn, 1) := by decide +kernel
theorem dX11_mark_0 : decode cX11_mark 0 = .ok (.aload_n 0, 1) := by decide +kernel
theorem dX11_mark_1 : decode cX11_mark 1 = .ok (.getfield 208, 3) := by decide +kernel
theorem dX11_mark_4 : decode cX11_mark 4 = .ok (.ifCond .ne 16, 3) := by decide +kernel
theorem dX11_mark_7 : decode cX11_mark 7 = .ok (.aload_n 0, 1) := by decide +kernel
theorem dX11_mark_8 : decode cX11_mark 8 = .ok (.iload_n 1, 1) := by decide +kernel
theorem dX11_mark_9 : decode cX11_mark 9 = .ok (.invokevirtual 226, 3) := by decide +kernel
theorem dX11_mark_12 : decode cX11_mark 12 = .ok (.ifCond .ne 8, 3) := by decide +kernel
theorem dX11_mark_15 : decode cX11_mark 15 = .ok (.aload_n 0, 1) := by decide +kernel
theorem dX11_mark_16 : decode cX11_mark 16 = .ok (.iconst 1, 1) := by decide +kernel
theorem dX11_mark_17 : decode cX11_mark 17 = .ok (.invokevirtual 229, 3) := by decide +kernel
theorem dX11_mark_20 : decode cX11_mark 20 = .ok (.aload_n 0, 1) := by decide +kernel
theorem dX11_mark_21 : decode cX11_mark 21 = .ok (.getfield 208, 3) := by decide +kernel
theorem dX11_mark_24 : decode cX11_mark 24 = .ok (.ifCond .ne 7, 3) := by decide +kernel
theorem dX11_mark_27 : decode cX11_mark 27 = .ok (.aload_n 0, 1) := by decide +kernel
theorem dX11_mark_28 : decode cX11_mark 28 = .ok (.invokevirtual 233, 3) := by decide +kernel
theorem dX11_mark_31 : decode cX11_mark 31 = .ok (.return_, 1) := by decide +kernel
theorem dX11_numberNow_0 : decode cX11_numberNow 0 = .ok (.aload_n 0, 1) := by decide +kernel
theorem dX11_numberNow_1 : decode cX11_numberNow 1 = .ok (.getfield 208, 3) := by decide +kernel
theorem dX11_numberNow_4 : decode cX11_numberNow 4 = .ok (.ifCond .eq 5, 3) := by decide +kernel
theorem dX11_numberNow_7 : decode cX11_numberNow 7 = .ok (.iconst 0, 1) := by decide +kernel
theorem dX11_numberNow_8 : decode cX11_numberNow 8 = .ok (.ireturn, 1) := by decide +kernel
theorem dX11_numberNow_9 : decode cX11_numberNow 9 = .ok (.aload_n 0, 1) := by decide +kernel
theorem dX11_numberNow_10 : decode cX11_numberNow 10 = .ok (.getfield 182, 3) := by decide +kernel
theorem dX11_numberNow_13 : decode cX11_numberNow 13 = .ok (.iconst 2, 1) := by decide +kernel
theorem dX11_numberNow_14 : decode cX11_numberNow 14 = .ok (.if_icmp .eq 11, 3) := by decide +kernel
theorem dX11_numberNow_17 : decode cX11_numberNow 17 = .ok (.aload_n 0, 1) := by decide +kernel
theorem dX11_numberNow_18 : decode cX11_numberNow 18 = .ok (.iconst 1, 1) := by decide +kernel
theorem dX11_numberNow_19 : decode cX11_numberNow 19 = .ok (.invokevirtual 229, 3) := by decide +kernel
theorem dX11_numberNow_22 : decode cX11_numberNow 22 = .ok (.goto 37, 3) := by decide +kernel
theorem dX11_numberNow_25 : decode cX11_numberNow 25 = .ok (.aload_n 0, 1) := by decide +kernel
theorem dX11_numberNow_26 : decode cX11_numberNow 26 = .ok (.getfield 205, 3) := by decide +kernel
theorem dX11_numberNow_29 : decode cX11_numberNow 29 = .ok (.aload_n 0, 1) := by decide +kernel
theorem dX11_numberNow_30 : decode cX11_numberNow 30 = .ok (.getfield 179, 3) := by decide +kernel
theorem dX11_numberNow_33 : decode cX11_numberNow 33 = .ok (.isub, 1) := by decide +kernel
theorem dX11_numberNow_34 : decode cX11_numberNow 34 = .ok (.iconst 4, 1) := by decide +kernel
theorem dX11_numberNow_35 : decode cX11_numberNow 35 = .ok (.if_icmp .gt 19, 3) := by decide +kernel
theorem dX11_numberNow_38 : decode cX11_numberNow 38 = .ok (.aload_n 0, 1) := by decide +kernel
theorem dX11_numberNow_39 : decode cX11_numberNow 39 = .ok (.getfield 192, 3) := by decide +kernel
theorem dX11_numberNow_42 : decode cX11_numberNow 42 = .ok (.iload_n 1, 1) := by decide +kernel
theorem dX11_numberNow_43 : decode cX11_numberNow 43 = .ok (.if_icmp .lt 11, 3) := by decide +kernel
theorem dX11_numberNow_46 : decode cX11_numberNow 46 = .ok (.aload_n 0, 1) := by decide +kernel
theorem dX11_numberNow_47 : decode cX11_numberNow 47 = .ok (.getfield 192, 3) := by decide +kernel
theorem dX11_numberNow_50 : decode cX11_numberNow 50 = .ok (.iload_n 2, 1) := by decide +kernel
theorem dX11_numberNow_51 : decode cX11_numberNow 51 = .ok (.if_icmp .le 8, 3) := by decide +kernel
theorem dX11_numberNow_54 : decode cX11_numberNow 54 = .ok (.aload_n 0, 1) := by decide +kernel
theorem dX11_numberNow_55 : decode cX11_numberNow 55 = .ok (.iconst 2, 1) := by decide +kernel
theorem dX11_numberNow_56 : decode cX11_numberNow 56 = .ok (.invokevirtual 229, 3) := by decide +kernel
theorem dX11_numberNow_59 : decode cX11_numberNow 59 = .ok (.aload_n 0, 1) := by decide +kernel
theorem dX11_numberNow_60 : decode cX11_numberNow 60 = .ok (.getfield 208, 3) := by decide +kernel
theorem dX11_numberNow_63 : decode cX11_numberNow 63 = .ok (.ifCond .ne 10, 3) := by decide +kernel
theorem dX11_numberNow_66 : decode cX11_numberNow 66 = .ok (.aload_n 0, 1) := by decide +kernel
theorem dX11_numberNow_67 : decode cX11_numberNow 67 = .ok (.getfield 192, 3) := by decide +kernel
theorem dX11_numberNow_70 : decode cX11_numberNow 70 = .ok (.goto 4, 3) := by decide +kernel
theorem dX11_numberNow_73 : decode cX11_numberNow 73 = .ok (.iconst 0, 1) := by decide +kernel
theorem dX11_numberNow_74 : decode cX11_numberNow 74 = .ok (.ireturn, 1) := by decide +kernel
theorem dX11_readNumber_0 : decode cX11_readNumber 0 = .ok (.aload_n 0, 1) := by decide +kernel
theorem dX11_readNumber_1 : decode cX11_readNumber 1 = .ok (.iload_n 1, 1) := by decide +kernel
theorem dX11_readNumber_2 : decode cX11_readNumber 2 = .ok (.iload_n 2, 1) := by decide +kernel
theorem dX11_readNumber_3 : decode cX11_readNumber 3 = .ok (.invokevirtual 236, 3) := by decide +kernel
theorem dX11_readNumber_6 : decode cX11_readNumber 6 = .ok (.istore_n 3, 1) := by decide +kernel
theorem dX11_readNumber_7 : decode cX11_readNumber 7 = .ok (.aload_n 0, 1) := by decide +kernel
theorem dX11_readNumber_8 : decode cX11_readNumber 8 = .ok (.getfield 208, 3) := by decide +kernel
theorem dX11_readNumber_11 : decode cX11_readNumber 11 = .ok (.ifCond .ne 7, 3) := by decide +kernel
theorem dX11_readNumber_14 : decode cX11_readNumber 14 = .ok (.aload_n 0, 1) := by decide +kernel
theorem dX11_readNumber_15 : decode cX11_readNumber 15 = .ok (.invokevirtual 233, 3) := by decide +kernel
theorem dX11_readNumber_18 : decode cX11_readNumber 18 = .ok (.iload_n 3, 1) := by decide +kernel
theorem dX11_readNumber_19 : decode cX11_readNumber 19 = .ok (.ireturn, 1) := by decide +kernel
theorem dX11_roomNow_0 : decode cX11_roomNow 0 = .ok (.aload_n 0, 1) := by decide +kernel
theorem dX11_roomNow_1 : decode cX11_roomNow 1 = .ok (.iconst 0, 1) := by decide +kernel
theorem dX11_roomNow_2 : decode cX11_roomNow 2 = .ok (.sipush 9999, 3) := by decide +kernel
theorem dX11_roomNow_5 : decode cX11_roomNow 5 = .ok (.invokevirtual 236, 3) := by decide +kernel
theorem dX11_roomNow_8 : decode cX11_roomNow 8 = .ok (.istore_n 1, 1) := by decide +kernel
theorem dX11_roomNow_9 : decode cX11_roomNow 9 = .ok (.aload_n 0, 1) := by decide +kernel
theorem dX11_roomNow_10 : decode cX11_roomNow 10 = .ok (.getfield 208, 3) := by decide +kernel
theorem dX11_roomNow_13 : decode cX11_roomNow 13 = .ok (.ifCond .ne 19, 3) := by decide +kernel
theorem dX11_roomNow_16 : decode cX11_roomNow 16 = .ok (.iload_n 1, 1) := by decide +kernel
theorem dX11_roomNow_17 : decode cX11_roomNow 17 = .ok (.aload_n 0, 1) := by decide +kernel
theorem dX11_roomNow_18 : decode cX11_roomNow 18 = .ok (.getfield 36, 3) := by decide +kernel
theorem dX11_roomNow_21 : decode cX11_roomNow 21 = .ok (.bipush 7, 2) := by decide +kernel
theorem dX11_roomNow_23 : decode cX11_roomNow 23 = .ok (.iaload, 1) := by decide +kernel
theorem dX11_roomNow_24 : decode cX11_roomNow 24 = .ok (.if_icmp .lt 8, 3) := by decide +kernel
theorem dX11_roomNow_27 : decode cX11_roomNow 27 = .ok (.aload_n 0, 1) := by decide +kernel
theorem dX11_roomNow_28 : decode cX11_roomNow 28 = .ok (.iconst 3, 1) := by decide +kernel
theorem dX11_roomNow_29 : decode cX11_roomNow 29 = .ok (.invokevirtual 229, 3) := by decide +kernel
theorem dX11_roomNow_32 : decode cX11_roomNow 32 = .ok (.aload_n 0, 1) := by decide +kernel
theorem dX11_roomNow_33 : decode cX11_roomNow 33 = .ok (.getfield 208, 3) := by decide +kernel
theorem dX11_roomNow_36 : decode cX11_roomNow 36 = .ok (.ifCond .ne 7, 3) := by decide +kernel
theorem dX11_roomNow_39 : decode cX11_roomNow 39 = .ok (.iload_n 1, 1) := by decide +kernel
theorem dX11_roomNow_40 : decode cX11_roomNow 40 = .ok (.goto 4, 3) := by decide +kernel
theorem dX11_roomNow_43 : decode cX11_roomNow 43 = .ok (.iconst 0, 1) := by decide +kernel
theorem dX11_roomNow_44 : decode cX11_roomNow 44 = .ok (.ireturn, 1) := by decide +kernel
theorem dX11_readRoom_0 : decode cX11_readRoom 0 = .ok (.aload_n 0, 1) := by decide +kernel
theorem dX11_readRoom_1 : decode cX11_readRoom 1 = .ok (.invokevirtual 239, 3) := by decide +kernel
theorem dX11_readRoom_4 : decode cX11_readRoom 4 = .ok (.istore_n 1, 1) := by decide +kernel
theorem dX11_readRoom_5 : decode cX11_readRoom 5 = .ok (.aload_n 0, 1) := by decide +kernel
theorem dX11_readRoom_6 : decode cX11_readRoom 6 = .ok (.getfield 208, 3) := by decide +kernel
theorem dX11_readRoom_9 : decode cX11_readRoom 9 = .ok (.ifCond .ne 7, 3) := by decide +kernel
theorem dX11_readRoom_12 : decode cX11_readRoom 12 = .ok (.aload_n 0, 1) := by decide +kernel
theorem dX11_readRoom_13 : decode cX11_readRoom 13 = .ok (.invokevirtual 233, 3) := by decide +kernel
theorem dX11_readRoom_16 : decode cX11_readRoom 16 = .ok (.iload_n 1, 1) := by decide +kernel
theorem dX11_readRoom_17 : decode cX11_readRoom 17 = .ok (.ireturn, 1) := by decide +kernel
theorem dX11_lay_0 : decode cX11_lay 0 = .ok (.aload_n 0, 1) := by decide +kernel
theorem dX11_lay_1 : decode cX11_lay 1 = .ok (.getfield 208, 3) := by decide +kernel
theorem dX11_lay_4 : decode cX11_lay 4 = .ok (.ifCond .eq 4, 3) := by decide +kernel
theorem dX11_lay_7 : decode cX11_lay 7 = .ok (.return_, 1) := by decide +kernel
theorem dX11_lay_8 : decode cX11_lay 8 = .ok (.aload_n 0, 1) := by decide +kernel
theorem dX11_lay_9 : decode cX11_lay 9 = .ok (.getfield 74, 3) := by decide +kernel
theorem dX11_lay_12 : decode cX11_lay 12 = .ok (.sipush 700, 3) := by decide +kernel
theorem dX11_lay_15 : decode cX11_lay 15 = .ok (.aload_n 0, 1) := by decide +kernel
theorem dX11_lay_16 : decode cX11_lay 16 = .ok (.getfield 36, 3) := by decide +kernel
theorem dX11_lay_19 : decode cX11_lay 19 = .ok (.bipush 13, 2) := by decide +kernel
theorem dX11_lay_21 : decode cX11_lay 21 = .ok (.iaload, 1) := by decide +kernel
theorem dX11_lay_22 : decode cX11_lay 22 = .ok (.iadd, 1) := by decide +kernel
theorem dX11_lay_23 : decode cX11_lay 23 = .ok (.iload_n 1, 1) := by decide +kernel
theorem dX11_lay_24 : decode cX11_lay 24 = .ok (.iastore, 1) := by decide +kernel
theorem dX11_lay_25 : decode cX11_lay 25 = .ok (.aload_n 0, 1) := by decide +kernel
theorem dX11_lay_26 : decode cX11_lay 26 = .ok (.getfield 36, 3) := by decide +kernel
theorem dX11_lay_29 : decode cX11_lay 29 = .ok (.bipush 13, 2) := by decide +kernel
theorem dX11_lay_31 : decode cX11_lay 31 = .ok (.dup2, 1) := by decide +kernel
theorem dX11_lay_32 : decode cX11_lay 32 = .ok (.iaload, 1) := by decide +kernel
theorem dX11_lay_33 : decode cX11_lay 33 = .ok (.iconst 1, 1) := by decide +kernel
theorem dX11_lay_34 : decode cX11_lay 34 = .ok (.iadd, 1) := by decide +kernel
theorem dX11_lay_35 : decode cX11_lay 35 = .ok (.iastore, 1) := by decide +kernel
theorem dX11_lay_36 : decode cX11_lay 36 = .ok (.return_, 1) := by decide +kernel
theorem dX11_readPart_0 : decode cX11_readPart 0 = .ok (.aload_n 0, 1) := by decide +kernel
theorem dX11_readPart_1 : decode cX11_readPart 1 = .ok (.getfield 208, 3) := by decide +kernel
theorem dX11_readPart_4 : decode cX11_readPart 4 = .ok (.ifCond .eq 4, 3) := by decide +kernel
theorem dX11_readPart_7 : decode cX11_readPart 7 = .ok (.return_, 1) := by decide +kernel
theorem dX11_readPart_8 : decode cX11_readPart 8 = .ok (.aload_n 0, 1) := by decide +kernel
theorem dX11_readPart_9 : decode cX11_readPart 9 = .ok (.getfield 182, 3) := by decide +kernel
theorem dX11_readPart_12 : decode cX11_readPart 12 = .ok (.iconst 2, 1) := by decide +kernel
theorem dX11_readPart_13 : decode cX11_readPart 13 = .ok (.if_icmp .ne 16, 3) := by decide +kernel
theorem dX11_readPart_16 : decode cX11_readPart 16 = .ok (.aload_n 0, 1) := by decide +kernel
theorem dX11_readPart_17 : decode cX11_readPart 17 = .ok (.aload_n 0, 1) := by decide +kernel
theorem dX11_readPart_18 : decode cX11_readPart 18 = .ok (.iconst 0, 1) := by decide +kernel
theorem dX11_readPart_19 : decode cX11_readPart 19 = .ok (.sipush 9999, 3) := by decide +kernel
theorem dX11_readPart_22 : decode cX11_readPart 22 = .ok (.invokevirtual 242, 3) := by decide +kernel
theorem dX11_readPart_25 : decode cX11_readPart 25 = .ok (.invokevirtual 245, 3) := by decide +kernel
theorem dX11_readPart_28 : decode cX11_readPart 28 = .ok (.return_, 1) := by decide +kernel
theorem dX11_readPart_29 : decode cX11_readPart 29 = .ok (.aload_n 0, 1) := by decide +kernel
theorem dX11_readPart_30 : decode cX11_readPart 30 = .ok (.getfield 182, 3) := by decide +kernel
theorem dX11_readPart_33 : decode cX11_readPart 33 = .ok (.iconst 1, 1) := by decide +kernel
theorem dX11_readPart_34 : decode cX11_readPart 34 = .ok (.if_icmp .ne 41, 3) := by decide +kernel
theorem dX11_readPart_37 : decode cX11_readPart 37 = .ok (.aload_n 0, 1) := by decide +kernel
theorem dX11_readPart_38 : decode cX11_readPart 38 = .ok (.aload_n 0, 1) := by decide +kernel
theorem dX11_readPart_39 : decode cX11_readPart 39 = .ok (.getfield 33, 3) := by decide +kernel
theorem dX11_readPart_42 : decode cX11_readPart 42 = .ok (.invokevirtual 248, 3) := by decide +kernel
theorem dX11_readPart_45 : decode cX11_readPart 45 = .ok (.istore_n 2, 1) := by decide +kernel
theorem dX11_readPart_46 : decode cX11_readPart 46 = .ok (.iload_n 2, 1) := by decide +kernel
theorem dX11_readPart_47 : decode cX11_readPart 47 = .ok (.iconst (-1), 1) := by decide +kernel
theorem dX11_readPart_48 : decode cX11_readPart 48 = .ok (.if_icmp .ne 8, 3) := by decide +kernel
theorem dX11_readPart_51 : decode cX11_readPart 51 = .ok (.aload_n 0, 1) := by decide +kernel
theorem dX11_readPart_52 : decode cX11_readPart 52 = .ok (.iconst 3, 1) := by decide +kernel
theorem dX11_readPart_53 : decode cX11_readPart 53 = .ok (.invokevirtual 229, 3) := by decide +kernel
theorem dX11_readPart_56 : decode cX11_readPart 56 = .ok (.aload_n 0, 1) := by decide +kernel
theorem dX11_readPart_57 : decode cX11_readPart 57 = .ok (.iconst (-1), 1) := by decide +kernel
theorem dX11_readPart_58 : decode cX11_readPart 58 = .ok (.iload_n 2, 1) := by decide +kernel
theorem dX11_readPart_59 : decode cX11_readPart 59 = .ok (.isub, 1) := by decide +kernel
theorem dX11_readPart_60 : decode cX11_readPart 60 = .ok (.invokevirtual 245, 3) := by decide +kernel
theorem dX11_readPart_63 : decode cX11_readPart 63 = .ok (.aload_n 0, 1) := by decide +kernel
theorem dX11_readPart_64 : decode cX11_readPart 64 = .ok (.getfield 208, 3) := by decide +kernel
theorem dX11_readPart_67 : decode cX11_readPart 67 = .ok (.ifCond .ne 7, 3) := by decide +kernel
theorem dX11_readPart_70 : decode cX11_readPart 70 = .ok (.aload_n 0, 1) := by decide +kernel
theorem dX11_readPart_71 : decode cX11_readPart 71 = .ok (.invokevirtual 233, 3) := by decide +kernel
theorem dX11_readPart_74 : decode cX11_readPart 74 = .ok (.return_, 1) := by decide +kernel
theorem dX11_readPart_75 : decode cX11_readPart 75 = .ok (.aload_n 0, 1) := by decide +kernel
theorem dX11_readPart_76 : decode cX11_readPart 76 = .ok (.bipush 40, 2) := by decide +kernel
theorem dX11_readPart_78 : decode cX11_readPart 78 = .ok (.invokevirtual 252, 3) := by decide +kernel
theorem dX11_readPart_81 : decode cX11_readPart 81 = .ok (.aload_n 0, 1) := by decide +kernel
theorem dX11_readPart_82 : decode cX11_readPart 82 = .ok (.iload_n 1, 1) := by decide +kernel
theorem dX11_readPart_83 : decode cX11_readPart 83 = .ok (.iconst 1, 1) := by decide +kernel
theorem dX11_readPart_84 : decode cX11_readPart 84 = .ok (.iadd, 1) := by decide +kernel
theorem dX11_readPart_85 : decode cX11_readPart 85 = .ok (.invokevirtual 255, 3) := by decide +kernel
theorem dX11_readPart_88 : decode cX11_readPart 88 = .ok (.aload_n 0, 1) := by decide +kernel
theorem dX11_readPart_89 : decode cX11_readPart 89 = .ok (.bipush 41, 2) := by decide +kernel
theorem dX11_readPart_91 : decode cX11_readPart 91 = .ok (.invokevirtual 252, 3) := by decide +kernel
theorem dX11_readPart_94 : decode cX11_readPart 94 = .ok (.return_, 1) := by decide +kernel
theorem dX11_readProduct_0 : decode cX11_readProduct 0 = .ok (.aload_n 0, 1) := by decide +kernel
theorem dX11_readProduct_1 : decode cX11_readProduct 1 = .ok (.iload_n 1, 1) := by decide +kernel
theorem dX11_readProduct_2 : decode cX11_readProduct 2 = .ok (.invokevirtual 258, 3) := by decide +kernel
theorem dX11_readProduct_5 : decode cX11_readProduct 5 = .ok (.aload_n 0, 1) := by decide +kernel
theorem dX11_readProduct_6 : decode cX11_readProduct 6 = .ok (.bipush 42, 2) := by decide +kernel
theorem dX11_readProduct_8 : decode cX11_readProduct 8 = .ok (.invokevirtual 226, 3) := by decide +kernel
theorem dX11_readProduct_11 : decode cX11_readProduct 11 = .ok (.ifCond .ne 12, 3) := by decide +kernel
theorem dX11_readProduct_14 : decode cX11_readProduct 14 = .ok (.aload_n 0, 1) := by decide +kernel
theorem dX11_readProduct_15 : decode cX11_readProduct 15 = .ok (.bipush 47, 2) := by decide +kernel
theorem dX11_readProduct_17 : decode cX11_readProduct 17 = .ok (.invokevirtual 226, 3) := by decide +kernel
theorem dX11_readProduct_20 : decode cX11_readProduct 20 = .ok (.ifCond .eq 37, 3) := by decide +kernel
theorem dX11_readProduct_23 : decode cX11_readProduct 23 = .ok (.aload_n 0, 1) := by decide +kernel
theorem dX11_readProduct_24 : decode cX11_readProduct 24 = .ok (.bipush 42, 2) := by decide +kernel
theorem dX11_readProduct_26 : decode cX11_readProduct 26 = .ok (.invokevirtual 226, 3) := by decide +kernel
theorem dX11_readProduct_29 : decode cX11_readProduct 29 = .ok (.ifCond .eq 8, 3) := by decide +kernel
theorem dX11_readProduct_32 : decode cX11_readProduct 32 = .ok (.bipush (-22), 2) := by decide +kernel
theorem dX11_readProduct_34 : decode cX11_readProduct 34 = .ok (.goto 5, 3) := by decide +kernel
theorem dX11_readProduct_37 : decode cX11_readProduct 37 = .ok (.bipush (-23), 2) := by decide +kernel
theorem dX11_readProduct_39 : decode cX11_readProduct 39 = .ok (.istore_n 2, 1) := by decide +kernel
theorem dX11_readProduct_40 : decode cX11_readProduct 40 = .ok (.aload_n 0, 1) := by decide +kernel
theorem dX11_readProduct_41 : decode cX11_readProduct 41 = .ok (.invokevirtual 233, 3) := by decide +kernel
theorem dX11_readProduct_44 : decode cX11_readProduct 44 = .ok (.aload_n 0, 1) := by decide +kernel
theorem dX11_readProduct_45 : decode cX11_readProduct 45 = .ok (.iload_n 1, 1) := by decide +kernel
theorem dX11_readProduct_46 : decode cX11_readProduct 46 = .ok (.invokevirtual 258, 3) := by decide +kernel
theorem dX11_readProduct_49 : decode cX11_readProduct 49 = .ok (.aload_n 0, 1) := by decide +kernel
theorem dX11_readProduct_50 : decode cX11_readProduct 50 = .ok (.iload_n 2, 1) := by decide +kernel
theorem dX11_readProduct_51 : decode cX11_readProduct 51 = .ok (.invokevirtual 245, 3) := by decide +kernel
theorem dX11_readProduct_54 : decode cX11_readProduct 54 = .ok (.goto (-49), 3) := by decide +kernel
theorem dX11_readProduct_57 : decode cX11_readProduct 57 = .ok (.return_, 1) := by decide +kernel
theorem dX11_readSum_0 : decode cX11_readSum 0 = .ok (.aload_n 0, 1) := by decide +kernel
theorem dX11_readSum_1 : decode cX11_readSum 1 = .ok (.iload_n 1, 1) := by decide +kernel
theorem dX11_readSum_2 : decode cX11_readSum 2 = .ok (.invokevirtual 261, 3) := by decide +kernel
theorem dX11_readSum_5 : decode cX11_readSum 5 = .ok (.aload_n 0, 1) := by decide +kernel
theorem dX11_readSum_6 : decode cX11_readSum 6 = .ok (.bipush 43, 2) := by decide +kernel
theorem dX11_readSum_8 : decode cX11_readSum 8 = .ok (.invokevirtual 226, 3) := by decide +kernel
theorem dX11_readSum_11 : decode cX11_readSum 11 = .ok (.ifCond .ne 12, 3) := by decide +kernel
theorem dX11_readSum_14 : decode cX11_readSum 14 = .ok (.aload_n 0, 1) := by decide +kernel
theorem dX11_readSum_15 : decode cX11_readSum 15 = .ok (.bipush 45, 2) := by decide +kernel
theorem dX11_readSum_17 : decode cX11_readSum 17 = .ok (.invokevirtual 226, 3) := by decide +kernel
theorem dX11_readSum_20 : decode cX11_readSum 20 = .ok (.ifCond .eq 37, 3) := by decide +kernel
theorem dX11_readSum_23 : decode cX11_readSum 23 = .ok (.aload_n 0, 1) := by decide +kernel
theorem dX11_readSum_24 : decode cX11_readSum 24 = .ok (.bipush 43, 2) := by decide +kernel
theorem dX11_readSum_26 : decode cX11_readSum 26 = .ok (.invokevirtual 226, 3) := by decide +kernel
theorem dX11_readSum_29 : decode cX11_readSum 29 = .ok (.ifCond .eq 8, 3) := by decide +kernel
theorem dX11_readSum_32 : decode cX11_readSum 32 = .ok (.bipush (-20), 2) := by decide +kernel
theorem dX11_readSum_34 : decode cX11_readSum 34 = .ok (.goto 5, 3) := by decide +kernel
theorem dX11_readSum_37 : decode cX11_readSum 37 = .ok (.bipush (-21), 2) := by decide +kernel
theorem dX11_readSum_39 : decode cX11_readSum 39 = .ok (.istore_n 2, 1) := by decide +kernel
theorem dX11_readSum_40 : decode cX11_readSum 40 = .ok (.aload_n 0, 1) := by decide +kernel
theorem dX11_readSum_41 : decode cX11_readSum 41 = .ok (.invokevirtual 233, 3) := by decide +kernel
theorem dX11_readSum_44 : decode cX11_readSum 44 = .ok (.aload_n 0, 1) := by decide +kernel
theorem dX11_readSum_45 : decode cX11_readSum 45 = .ok (.iload_n 1, 1) := by decide +kernel
theorem dX11_readSum_46 : decode cX11_readSum 46 = .ok (.invokevirtual 261, 3) := by decide +kernel
theorem dX11_readSum_49 : decode cX11_readSum 49 = .ok (.aload_n 0, 1) := by decide +kernel
theorem dX11_readSum_50 : decode cX11_readSum 50 = .ok (.iload_n 2, 1) := by decide +kernel
theorem dX11_readSum_51 : decode cX11_readSum 51 = .ok (.invokevirtual 245, 3) := by decide +kernel
theorem dX11_readSum_54 : decode cX11_readSum 54 = .ok (.goto (-49), 3) := by decide +kernel
theorem dX11_readSum_57 : decode cX11_readSum 57 = .ok (.return_, 1) := by decide +kernel
theorem dX11_readNot_0 : decode cX11_readNot 0 = .ok (.iconst 0, 1) := by decide +kernel
theorem dX11_readNot_1 : decode cX11_readNot 1 = .ok (.istore_n 2, 1) := by decide +kernel
theorem dX11_readNot_2 : decode cX11_readNot 2 = .ok (.aload_n 0, 1) := by decide +kernel
theorem dX11_readNot_3 : decode cX11_readNot 3 = .ok (.ldc_w 264, 3) := by decide +kernel
theorem dX11_readNot_6 : decode cX11_readNot 6 = .ok (.invokevirtual 222, 3) := by decide +kernel
theorem dX11_readNot_9 : decode cX11_readNot 9 = .ok (.ifCond .eq 31, 3) := by decide +kernel
theorem dX11_readNot_12 : decode cX11_readNot 12 = .ok (.iload_n 2, 1) := by decide +kernel
theorem dX11_readNot_13 : decode cX11_readNot 13 = .ok (.bipush 6, 2) := by decide +kernel
theorem dX11_readNot_15 : decode cX11_readNot 15 = .ok (.if_icmp .ne 8, 3) := by decide +kernel
theorem dX11_readNot_18 : decode cX11_readNot 18 = .ok (.aload_n 0, 1) := by decide +kernel
theorem dX11_readNot_19 : decode cX11_readNot 19 = .ok (.iconst 2, 1) := by decide +kernel
theorem dX11_readNot_20 : decode cX11_readNot 20 = .ok (.invokevirtual 229, 3) := by decide +kernel
theorem dX11_readNot_23 : decode cX11_readNot 23 = .ok (.iinc 2 1, 3) := by decide +kernel
theorem dX11_readNot_26 : decode cX11_readNot 26 = .ok (.aload_n 0, 1) := by decide +kernel
theorem dX11_readNot_27 : decode cX11_readNot 27 = .ok (.getfield 208, 3) := by decide +kernel
theorem dX11_readNot_30 : decode cX11_readNot 30 = .ok (.ifCond .ne (-28), 3) := by decide +kernel
theorem dX11_readNot_33 : decode cX11_readNot 33 = .ok (.aload_n 0, 1) := by decide +kernel
theorem dX11_readNot_34 : decode cX11_readNot 34 = .ok (.invokevirtual 233, 3) := by decide +kernel
theorem dX11_readNot_37 : decode cX11_readNot 37 = .ok (.goto (-35), 3) := by decide +kernel
theorem dX11_readNot_40 : decode cX11_readNot 40 = .ok (.aload_n 0, 1) := by decide +kernel
theorem dX11_readNot_41 : decode cX11_readNot 41 = .ok (.iload_n 1, 1) := by decide +kernel
theorem dX11_readNot_42 : decode cX11_readNot 42 = .ok (.invokevirtual 266, 3) := by decide +kernel
theorem dX11_readNot_45 : decode cX11_readNot 45 = .ok (.aload_n 0, 1) := by decide +kernel
theorem dX11_readNot_46 : decode cX11_readNot 46 = .ok (.bipush 60, 2) := by decide +kernel
theorem dX11_readNot_48 : decode cX11_readNot 48 = .ok (.invokevirtual 226, 3) := by decide +kernel
theorem dX11_readNot_51 : decode cX11_readNot 51 = .ok (.ifCond .ne 12, 3) := by decide +kernel
theorem dX11_readNot_54 : decode cX11_readNot 54 = .ok (.aload_n 0, 1) := by decide +kernel
theorem dX11_readNot_55 : decode cX11_readNot 55 = .ok (.bipush 61, 2) := by decide +kernel
theorem dX11_readNot_57 : decode cX11_readNot 57 = .ok (.invokevirtual 226, 3) := by decide +kernel
theorem dX11_readNot_60 : decode cX11_readNot 60 = .ok (.ifCond .eq 34, 3) := by decide +kernel
theorem dX11_readNot_63 : decode cX11_readNot 63 = .ok (.aload_n 0, 1) := by decide +kernel
theorem dX11_readNot_64 : decode cX11_readNot 64 = .ok (.bipush 60, 2) := by decide +kernel
theorem dX11_readNot_66 : decode cX11_readNot 66 = .ok (.invokevirtual 226, 3) := by decide +kernel
theorem dX11_readNot_69 : decode cX11_readNot 69 = .ok (.ifCond .eq 8, 3) := by decide +kernel
theorem dX11_readNot_72 : decode cX11_readNot 72 = .ok (.bipush (-24), 2) := by decide +kernel
theorem dX11_readNot_74 : decode cX11_readNot 74 = .ok (.goto 5, 3) := by decide +kernel
theorem dX11_readNot_77 : decode cX11_readNot 77 = .ok (.bipush (-25), 2) := by decide +kernel
theorem dX11_readNot_79 : decode cX11_readNot 79 = .ok (.istore_n 3, 1) := by decide +kernel
theorem dX11_readNot_80 : decode cX11_readNot 80 = .ok (.aload_n 0, 1) := by decide +kernel
theorem dX11_readNot_81 : decode cX11_readNot 81 = .ok (.invokevirtual 233, 3) := by decide +kernel
theorem dX11_readNot_84 : decode cX11_readNot 84 = .ok (.aload_n 0, 1) := by decide +kernel
theorem dX11_readNot_85 : decode cX11_readNot 85 = .ok (.iload_n 1, 1) := by decide +kernel
theorem dX11_readNot_86 : decode cX11_readNot 86 = .ok (.invokevirtual 266, 3) := by decide +kernel
theorem dX11_readNot_89 : decode cX11_readNot 89 = .ok (.aload_n 0, 1) := by decide +kernel
theorem dX11_readNot_90 : decode cX11_readNot 90 = .ok (.iload_n 3, 1) := by decide +kernel
theorem dX11_readNot_91 : decode cX11_readNot 91 = .ok (.invokevirtual 245, 3) := by decide +kernel
theorem dX11_readNot_94 : decode cX11_readNot 94 = .ok (.iconst 0, 1) := by decide +kernel
theorem dX11_readNot_95 : decode cX11_readNot 95 = .ok (.istore_n 3, 1) := by decide +kernel
theorem dX11_readNot_96 : decode cX11_readNot 96 = .ok (.iload_n 3, 1) := by decide +kernel
theorem dX11_readNot_97 : decode cX11_readNot 97 = .ok (.iload_n 2, 1) := by decide +kernel
theorem dX11_readNot_98 : decode cX11_readNot 98 = .ok (.if_icmp .ge 15, 3) := by decide +kernel
theorem dX11_readNot_101 : decode cX11_readNot 101 = .ok (.aload_n 0, 1) := by decide +kernel
theorem dX11_readNot_102 : decode cX11_readNot 102 = .ok (.bipush (-28), 2) := by decide +kernel
theorem dX11_readNot_104 : decode cX11_readNot 104 = .ok (.invokevirtual 245, 3) := by decide +kernel
theorem dX11_readNot_107 : decode cX11_readNot 107 = .ok (.iinc 3 1, 3) := by decide +kernel
theorem dX11_readNot_110 : decode cX11_readNot 110 = .ok (.goto (-14), 3) := by decide +kernel
theorem dX11_readNot_113 : decode cX11_readNot 113 = .ok (.return_, 1) := by decide +kernel
theorem dX11_readAnd_0 : decode cX11_readAnd 0 = .ok (.aload_n 0, 1) := by decide +kernel
theorem dX11_readAnd_1 : decode cX11_readAnd 1 = .ok (.iload_n 1, 1) := by decide +kernel
theorem dX11_readAnd_2 : decode cX11_readAnd 2 = .ok (.invokevirtual 269, 3) := by decide +kernel
theorem dX11_readAnd_5 : decode cX11_readAnd 5 = .ok (.aload_n 0, 1) := by decide +kernel
theorem dX11_readAnd_6 : decode cX11_readAnd 6 = .ok (.ldc_w 272, 3) := by decide +kernel
theorem dX11_readAnd_9 : decode cX11_readAnd 9 = .ok (.invokevirtual 222, 3) := by decide +kernel
theorem dX11_readAnd_12 : decode cX11_readAnd 12 = .ok (.ifCond .eq 21, 3) := by decide +kernel
theorem dX11_readAnd_15 : decode cX11_readAnd 15 = .ok (.aload_n 0, 1) := by decide +kernel
theorem dX11_readAnd_16 : decode cX11_readAnd 16 = .ok (.invokevirtual 233, 3) := by decide +kernel
theorem dX11_readAnd_19 : decode cX11_readAnd 19 = .ok (.aload_n 0, 1) := by decide +kernel
theorem dX11_readAnd_20 : decode cX11_readAnd 20 = .ok (.iload_n 1, 1) := by decide +kernel
theorem dX11_readAnd_21 : decode cX11_readAnd 21 = .ok (.invokevirtual 269, 3) := by decide +kernel
theorem dX11_readAnd_24 : decode cX11_readAnd 24 = .ok (.aload_n 0, 1) := by decide +kernel
theorem dX11_readAnd_25 : decode cX11_readAnd 25 = .ok (.bipush (-26), 2) := by decide +kernel
theorem dX11_readAnd_27 : decode cX11_readAnd 27 = .ok (.invokevirtual 245, 3) := by decide +kernel
theorem dX11_readAnd_30 : decode cX11_readAnd 30 = .ok (.goto (-25), 3) := by decide +kernel
theorem dX11_readAnd_33 : decode cX11_readAnd 33 = .ok (.return_, 1) := by decide +kernel
theorem dX11_readExpression_0 : decode cX11_readExpression 0 = .ok (.aload_n 0, 1) := by decide +kernel
theorem dX11_readExpression_1 : decode cX11_readExpression 1 = .ok (.getfield 208, 3) := by decide +kernel
theorem dX11_readExpression_4 : decode cX11_readExpression 4 = .ok (.ifCond .eq 4, 3) := by decide +kernel
theorem dX11_readExpression_7 : decode cX11_readExpression 7 = .ok (.return_, 1) := by decide +kernel
theorem dX11_readExpression_8 : decode cX11_readExpression 8 = .ok (.aload_n 0, 1) := by decide +kernel
theorem dX11_readExpression_9 : decode cX11_readExpression 9 = .ok (.getfield 182, 3) := by decide +kernel
theorem dX11_readExpression_12 : decode cX11_readExpression 12 = .ok (.iconst 2, 1) := by decide +kernel
theorem dX11_readExpression_13 : decode cX11_readExpression 13 = .ok (.if_icmp .eq 20, 3) := by decide +kernel
theorem dX11_readExpression_16 : decode cX11_readExpression 16 = .ok (.aload_n 0, 1) := by decide +kernel
theorem dX11_readExpression_17 : decode cX11_readExpression 17 = .ok (.getfield 182, 3) := by decide +kernel
theorem dX11_readExpression_20 : decode cX11_readExpression 20 = .ok (.iconst 1, 1) := by decide +kernel
theorem dX11_readExpression_21 : decode cX11_readExpression 21 = .ok (.if_icmp .eq 12, 3) := by decide +kernel
theorem dX11_readExpression_24 : decode cX11_readExpression 24 = .ok (.aload_n 0, 1) := by decide +kernel
theorem dX11_readExpression_25 : decode cX11_readExpression 25 = .ok (.bipush 40, 2) := by decide +kernel
theorem dX11_readExpression_27 : decode cX11_readExpression 27 = .ok (.invokevirtual 226, 3) := by decide +kernel
theorem dX11_readExpression_30 : decode cX11_readExpression 30 = .ok (.ifCond .eq 7, 3) := by decide +kernel
theorem dX11_readExpression_33 : decode cX11_readExpression 33 = .ok (.iconst 1, 1) := by decide +kernel
theorem dX11_readExpression_34 : decode cX11_readExpression 34 = .ok (.goto 4, 3) := by decide +kernel
theorem dX11_readExpression_37 : decode cX11_readExpression 37 = .ok (.iconst 0, 1) := by decide +kernel
theorem dX11_readExpression_38 : decode cX11_readExpression 38 = .ok (.istore_n 2, 1) := by decide +kernel
