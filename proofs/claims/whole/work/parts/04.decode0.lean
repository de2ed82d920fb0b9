theorem dX0_init_0 : decode cX0_init 0 = .ok (.aload_n 0, 1) := by decide +kernel
theorem dX0_init_1 : decode cX0_init 1 = .ok (.invokespecial 3, 3) := by decide +kernel
theorem dX0_init_4 : decode cX0_init 4 = .ok (.aload_n 0, 1) := by decide +kernel
theorem dX0_init_5 : decode cX0_init 5 = .ok (.iconst 0, 1) := by decide +kernel
theorem dX0_init_6 : decode cX0_init 6 = .ok (.putfield 9, 3) := by decide +kernel
theorem dX0_init_9 : decode cX0_init 9 = .ok (.aload_n 0, 1) := by decide +kernel
theorem dX0_init_10 : decode cX0_init 10 = .ok (.iconst 0, 1) := by decide +kernel
theorem dX0_init_11 : decode cX0_init 11 = .ok (.putfield 15, 3) := by decide +kernel
theorem dX0_init_14 : decode cX0_init 14 = .ok (.aload_n 0, 1) := by decide +kernel
theorem dX0_init_15 : decode cX0_init 15 = .ok (.bipush 40, 2) := by decide +kernel
theorem dX0_init_17 : decode cX0_init 17 = .ok (.anewarray 18, 3) := by decide +kernel
theorem dX0_init_20 : decode cX0_init 20 = .ok (.putfield 20, 3) := by decide +kernel
theorem dX0_init_23 : decode cX0_init 23 = .ok (.iconst 0, 1) := by decide +kernel
theorem dX0_init_24 : decode cX0_init 24 = .ok (.istore_n 1, 1) := by decide +kernel
theorem dX0_init_25 : decode cX0_init 25 = .ok (.iload_n 1, 1) := by decide +kernel
theorem dX0_init_26 : decode cX0_init 26 = .ok (.bipush 40, 2) := by decide +kernel
theorem dX0_init_28 : decode cX0_init 28 = .ok (.if_icmp .ge 22, 3) := by decide +kernel
theorem dX0_init_31 : decode cX0_init 31 = .ok (.aload_n 0, 1) := by decide +kernel
theorem dX0_init_32 : decode cX0_init 32 = .ok (.getfield 20, 3) := by decide +kernel
theorem dX0_init_35 : decode cX0_init 35 = .ok (.iload_n 1, 1) := by decide +kernel
theorem dX0_init_36 : decode cX0_init 36 = .ok (.new 18, 3) := by decide +kernel
theorem dX0_init_39 : decode cX0_init 39 = .ok (.dup, 1) := by decide +kernel
theorem dX0_init_40 : decode cX0_init 40 = .ok (.invokespecial 24, 3) := by decide +kernel
theorem dX0_init_43 : decode cX0_init 43 = .ok (.aastore, 1) := by decide +kernel
theorem dX0_init_44 : decode cX0_init 44 = .ok (.iinc 1 1, 3) := by decide +kernel
theorem dX0_init_47 : decode cX0_init 47 = .ok (.goto (-22), 3) := by decide +kernel
theorem dX0_init_50 : decode cX0_init 50 = .ok (.return_, 1) := by decide +kernel
theorem dX0_remember_0 : decode cX0_remember 0 = .ok (.aload_n 0, 1) := by decide +kernel
theorem dX0_remember_1 : decode cX0_remember 1 = .ok (.getfield 9, 3) := by decide +kernel
theorem dX0_remember_4 : decode cX0_remember 4 = .ok (.bipush 40, 2) := by decide +kernel
theorem dX0_remember_6 : decode cX0_remember 6 = .ok (.if_icmp .ne 26, 3) := by decide +kernel
theorem dX0_remember_9 : decode cX0_remember 9 = .ok (.aload_n 0, 1) := by decide +kernel
theorem dX0_remember_10 : decode cX0_remember 10 = .ok (.aload_n 0, 1) := by decide +kernel
theorem dX0_remember_11 : decode cX0_remember 11 = .ok (.getfield 15, 3) := by decide +kernel
theorem dX0_remember_14 : decode cX0_remember 14 = .ok (.iconst 1, 1) := by decide +kernel
theorem dX0_remember_15 : decode cX0_remember 15 = .ok (.iadd, 1) := by decide +kernel
theorem dX0_remember_16 : decode cX0_remember 16 = .ok (.bipush 40, 2) := by decide +kernel
theorem dX0_remember_18 : decode cX0_remember 18 = .ok (.irem, 1) := by decide +kernel
theorem dX0_remember_19 : decode cX0_remember 19 = .ok (.putfield 15, 3) := by decide +kernel
theorem dX0_remember_22 : decode cX0_remember 22 = .ok (.aload_n 0, 1) := by decide +kernel
theorem dX0_remember_23 : decode cX0_remember 23 = .ok (.dup, 1) := by decide +kernel
theorem dX0_remember_24 : decode cX0_remember 24 = .ok (.getfield 9, 3) := by decide +kernel
theorem dX0_remember_27 : decode cX0_remember 27 = .ok (.iconst 1, 1) := by decide +kernel
theorem dX0_remember_28 : decode cX0_remember 28 = .ok (.isub, 1) := by decide +kernel
theorem dX0_remember_29 : decode cX0_remember 29 = .ok (.putfield 9, 3) := by decide +kernel
theorem dX0_remember_32 : decode cX0_remember 32 = .ok (.aload_n 0, 1) := by decide +kernel
theorem dX0_remember_33 : decode cX0_remember 33 = .ok (.getfield 20, 3) := by decide +kernel
theorem dX0_remember_36 : decode cX0_remember 36 = .ok (.aload_n 0, 1) := by decide +kernel
theorem dX0_remember_37 : decode cX0_remember 37 = .ok (.getfield 15, 3) := by decide +kernel
theorem dX0_remember_40 : decode cX0_remember 40 = .ok (.aload_n 0, 1) := by decide +kernel
theorem dX0_remember_41 : decode cX0_remember 41 = .ok (.getfield 9, 3) := by decide +kernel
theorem dX0_remember_44 : decode cX0_remember 44 = .ok (.iadd, 1) := by decide +kernel
theorem dX0_remember_45 : decode cX0_remember 45 = .ok (.bipush 40, 2) := by decide +kernel
theorem dX0_remember_47 : decode cX0_remember 47 = .ok (.irem, 1) := by decide +kernel
theorem dX0_remember_48 : decode cX0_remember 48 = .ok (.aaload, 1) := by decide +kernel
theorem dX0_remember_49 : decode cX0_remember 49 = .ok (.aload_n 1, 1) := by decide +kernel
theorem dX0_remember_50 : decode cX0_remember 50 = .ok (.invokevirtual 25, 3) := by decide +kernel
theorem dX0_remember_53 : decode cX0_remember 53 = .ok (.aload_n 0, 1) := by decide +kernel
theorem dX0_remember_54 : decode cX0_remember 54 = .ok (.dup, 1) := by decide +kernel
theorem dX0_remember_55 : decode cX0_remember 55 = .ok (.getfield 9, 3) := by decide +kernel
theorem dX0_remember_58 : decode cX0_remember 58 = .ok (.iconst 1, 1) := by decide +kernel
theorem dX0_remember_59 : decode cX0_remember 59 = .ok (.iadd, 1) := by decide +kernel
theorem dX0_remember_60 : decode cX0_remember 60 = .ok (.putfield 9, 3) := by decide +kernel
theorem dX0_remember_63 : decode cX0_remember 63 = .ok (.return_, 1) := by decide +kernel
theorem dX0_giveBack_0 : decode cX0_giveBack 0 = .ok (.aload_n 0, 1) := by decide +kernel
theorem dX0_giveBack_1 : decode cX0_giveBack 1 = .ok (.getfield 9, 3) := by decide +kernel
theorem dX0_giveBack_4 : decode cX0_giveBack 4 = .ok (.ifCond .le 34, 3) := by decide +kernel
theorem dX0_giveBack_7 : decode cX0_giveBack 7 = .ok (.aload_n 0, 1) := by decide +kernel
theorem dX0_giveBack_8 : decode cX0_giveBack 8 = .ok (.dup, 1) := by decide +kernel
theorem dX0_giveBack_9 : decode cX0_giveBack 9 = .ok (.getfield 9, 3) := by decide +kernel
theorem dX0_giveBack_12 : decode cX0_giveBack 12 = .ok (.iconst 1, 1) := by decide +kernel
theorem dX0_giveBack_13 : decode cX0_giveBack 13 = .ok (.isub, 1) := by decide +kernel
theorem dX0_giveBack_14 : decode cX0_giveBack 14 = .ok (.putfield 9, 3) := by decide +kernel
theorem dX0_giveBack_17 : decode cX0_giveBack 17 = .ok (.aload_n 1, 1) := by decide +kernel
theorem dX0_giveBack_18 : decode cX0_giveBack 18 = .ok (.aload_n 0, 1) := by decide +kernel
theorem dX0_giveBack_19 : decode cX0_giveBack 19 = .ok (.getfield 20, 3) := by decide +kernel
theorem dX0_giveBack_22 : decode cX0_giveBack 22 = .ok (.aload_n 0, 1) := by decide +kernel
theorem dX0_giveBack_23 : decode cX0_giveBack 23 = .ok (.getfield 15, 3) := by decide +kernel
theorem dX0_giveBack_26 : decode cX0_giveBack 26 = .ok (.aload_n 0, 1) := by decide +kernel
theorem dX0_giveBack_27 : decode cX0_giveBack 27 = .ok (.getfield 9, 3) := by decide +kernel
theorem dX0_giveBack_30 : decode cX0_giveBack 30 = .ok (.iadd, 1) := by decide +kernel
theorem dX0_giveBack_31 : decode cX0_giveBack 31 = .ok (.bipush 40, 2) := by decide +kernel
theorem dX0_giveBack_33 : decode cX0_giveBack 33 = .ok (.irem, 1) := by decide +kernel
theorem dX0_giveBack_34 : decode cX0_giveBack 34 = .ok (.aaload, 1) := by decide +kernel
theorem dX0_giveBack_35 : decode cX0_giveBack 35 = .ok (.invokevirtual 25, 3) := by decide +kernel
theorem dX0_giveBack_38 : decode cX0_giveBack 38 = .ok (.return_, 1) := by decide +kernel
theorem dX0_copy_0 : decode cX0_copy 0 = .ok (.aload_n 0, 1) := by decide +kernel
theorem dX0_copy_1 : decode cX0_copy 1 = .ok (.aload_n 1, 1) := by decide +kernel
theorem dX0_copy_2 : decode cX0_copy 2 = .ok (.getfield 9, 3) := by decide +kernel
theorem dX0_copy_5 : decode cX0_copy 5 = .ok (.putfield 9, 3) := by decide +kernel
theorem dX0_copy_8 : decode cX0_copy 8 = .ok (.aload_n 0, 1) := by decide +kernel
theorem dX0_copy_9 : decode cX0_copy 9 = .ok (.aload_n 1, 1) := by decide +kernel
theorem dX0_copy_10 : decode cX0_copy 10 = .ok (.getfield 15, 3) := by decide +kernel
theorem dX0_copy_13 : decode cX0_copy 13 = .ok (.putfield 15, 3) := by decide +kernel
theorem dX0_copy_16 : decode cX0_copy 16 = .ok (.iconst 0, 1) := by decide +kernel
theorem dX0_copy_17 : decode cX0_copy 17 = .ok (.istore_n 2, 1) := by decide +kernel
theorem dX0_copy_18 : decode cX0_copy 18 = .ok (.iload_n 2, 1) := by decide +kernel
theorem dX0_copy_19 : decode cX0_copy 19 = .ok (.bipush 40, 2) := by decide +kernel
theorem dX0_copy_21 : decode cX0_copy 21 = .ok (.if_icmp .ge 24, 3) := by decide +kernel
theorem dX0_copy_24 : decode cX0_copy 24 = .ok (.aload_n 0, 1) := by decide +kernel
theorem dX0_copy_25 : decode cX0_copy 25 = .ok (.getfield 20, 3) := by decide +kernel
theorem dX0_copy_28 : decode cX0_copy 28 = .ok (.iload_n 2, 1) := by decide +kernel
theorem dX0_copy_29 : decode cX0_copy 29 = .ok (.aaload, 1) := by decide +kernel
theorem dX0_copy_30 : decode cX0_copy 30 = .ok (.aload_n 1, 1) := by decide +kernel
theorem dX0_copy_31 : decode cX0_copy 31 = .ok (.getfield 20, 3) := by decide +kernel
theorem dX0_copy_34 : decode cX0_copy 34 = .ok (.iload_n 2, 1) := by decide +kernel
theorem dX0_copy_35 : decode cX0_copy 35 = .ok (.aaload, 1) := by decide +kernel
theorem dX0_copy_36 : decode cX0_copy 36 = .ok (.invokevirtual 25, 3) := by decide +kernel
theorem dX0_copy_39 : decode cX0_copy 39 = .ok (.iinc 2 1, 3) := by decide +kernel
theorem dX0_copy_42 : decode cX0_copy 42 = .ok (.goto (-24), 3) := by decide +kernel
theorem dX0_copy_45 : decode cX0_copy 45 = .ok (.return_, 1) := by decide +kernel
theorem dX1_windOf_0 : decode cX1_windOf 0 = .ok (.aload_n 0, 1) := by decide +kernel
theorem dX1_windOf_1 : decode cX1_windOf 1 = .ok (.getfield 9, 3) := by decide +kernel
theorem dX1_windOf_4 : decode cX1_windOf 4 = .ok (.ifCond .le 21, 3) := by decide +kernel
theorem dX1_windOf_7 : decode cX1_windOf 7 = .ok (.iload_n 2, 1) := by decide +kernel
theorem dX1_windOf_8 : decode cX1_windOf 8 = .ok (.ifCond .lt 17, 3) := by decide +kernel
theorem dX1_windOf_11 : decode cX1_windOf 11 = .ok (.aload_n 1, 1) := by decide +kernel
theorem dX1_windOf_12 : decode cX1_windOf 12 = .ok (.getfield 15, 3) := by decide +kernel
theorem dX1_windOf_15 : decode cX1_windOf 15 = .ok (.iload_n 2, 1) := by decide +kernel
theorem dX1_windOf_16 : decode cX1_windOf 16 = .ok (.aload_n 0, 1) := by decide +kernel
theorem dX1_windOf_17 : decode cX1_windOf 17 = .ok (.getfield 9, 3) := by decide +kernel
theorem dX1_windOf_20 : decode cX1_windOf 20 = .ok (.irem, 1) := by decide +kernel
theorem dX1_windOf_21 : decode cX1_windOf 21 = .ok (.iaload, 1) := by decide +kernel
theorem dX1_windOf_22 : decode cX1_windOf 22 = .ok (.goto 4, 3) := by decide +kernel
theorem dX1_windOf_25 : decode cX1_windOf 25 = .ok (.iconst 5, 1) := by decide +kernel
theorem dX1_windOf_26 : decode cX1_windOf 26 = .ok (.ireturn, 1) := by decide +kernel
theorem dX1_passMany_0 : decode cX1_passMany 0 = .ok (.iconst 0, 1) := by decide +kernel
theorem dX1_passMany_1 : decode cX1_passMany 1 = .ok (.istore_n 3, 1) := by decide +kernel
theorem dX1_passMany_2 : decode cX1_passMany 2 = .ok (.iload_n 3, 1) := by decide +kernel
theorem dX1_passMany_3 : decode cX1_passMany 3 = .ok (.iload_n 2, 1) := by decide +kernel
theorem dX1_passMany_4 : decode cX1_passMany 4 = .ok (.if_icmp .ge 27, 3) := by decide +kernel
theorem dX1_passMany_7 : decode cX1_passMany 7 = .ok (.aload_n 0, 1) := by decide +kernel
theorem dX1_passMany_8 : decode cX1_passMany 8 = .ok (.aload_n 1, 1) := by decide +kernel
theorem dX1_passMany_9 : decode cX1_passMany 9 = .ok (.aload_n 0, 1) := by decide +kernel
theorem dX1_passMany_10 : decode cX1_passMany 10 = .ok (.aload_n 1, 1) := by decide +kernel
theorem dX1_passMany_11 : decode cX1_passMany 11 = .ok (.aload_n 1, 1) := by decide +kernel
theorem dX1_passMany_12 : decode cX1_passMany 12 = .ok (.getfield 21, 3) := by decide +kernel
theorem dX1_passMany_15 : decode cX1_passMany 15 = .ok (.invokestatic 24, 3) := by decide +kernel
theorem dX1_passMany_18 : decode cX1_passMany 18 = .ok (.aload_n 0, 1) := by decide +kernel
theorem dX1_passMany_19 : decode cX1_passMany 19 = .ok (.getfield 30, 3) := by decide +kernel
theorem dX1_passMany_22 : decode cX1_passMany 22 = .ok (.invokestatic 33, 3) := by decide +kernel
theorem dX1_passMany_25 : decode cX1_passMany 25 = .ok (.iinc 3 1, 3) := by decide +kernel
theorem dX1_passMany_28 : decode cX1_passMany 28 = .ok (.goto (-26), 3) := by decide +kernel
theorem dX1_passMany_31 : decode cX1_passMany 31 = .ok (.return_, 1) := by decide +kernel
theorem dX1_pass_0 : decode cX1_pass 0 = .ok (.iconst 0, 1) := by decide +kernel
theorem dX1_pass_1 : decode cX1_pass 1 = .ok (.istore 4, 2) := by decide +kernel
theorem dX1_pass_3 : decode cX1_pass 3 = .ok (.iload 4, 2) := by decide +kernel
theorem dX1_pass_5 : decode cX1_pass 5 = .ok (.aload_n 0, 1) := by decide +kernel
theorem dX1_pass_6 : decode cX1_pass 6 = .ok (.getfield 37, 3) := by decide +kernel
theorem dX1_pass_9 : decode cX1_pass 9 = .ok (.if_icmp .ge 21, 3) := by decide +kernel
theorem dX1_pass_12 : decode cX1_pass 12 = .ok (.aload_n 1, 1) := by decide +kernel
theorem dX1_pass_13 : decode cX1_pass 13 = .ok (.iload 4, 2) := by decide +kernel
theorem dX1_pass_15 : decode cX1_pass 15 = .ok (.aload_n 0, 1) := by decide +kernel
theorem dX1_pass_16 : decode cX1_pass 16 = .ok (.iload 4, 2) := by decide +kernel
theorem dX1_pass_18 : decode cX1_pass 18 = .ok (.invokevirtual 40, 3) := by decide +kernel
theorem dX1_pass_21 : decode cX1_pass 21 = .ok (.invokevirtual 44, 3) := by decide +kernel
theorem dX1_pass_24 : decode cX1_pass 24 = .ok (.iinc 4 1, 3) := by decide +kernel
theorem dX1_pass_27 : decode cX1_pass 27 = .ok (.goto (-24), 3) := by decide +kernel
theorem dX1_pass_30 : decode cX1_pass 30 = .ok (.iload_n 2, 1) := by decide +kernel
theorem dX1_pass_31 : decode cX1_pass 31 = .ok (.ifCond .lt 17, 3) := by decide +kernel
theorem dX1_pass_34 : decode cX1_pass 34 = .ok (.iload_n 2, 1) := by decide +kernel
theorem dX1_pass_35 : decode cX1_pass 35 = .ok (.aload_n 0, 1) := by decide +kernel
theorem dX1_pass_36 : decode cX1_pass 36 = .ok (.getfield 48, 3) := by decide +kernel
theorem dX1_pass_39 : decode cX1_pass 39 = .ok (.if_icmp .ge 9, 3) := by decide +kernel
theorem dX1_pass_42 : decode cX1_pass 42 = .ok (.aload_n 0, 1) := by decide +kernel
theorem dX1_pass_43 : decode cX1_pass 43 = .ok (.aload_n 1, 1) := by decide +kernel
theorem dX1_pass_44 : decode cX1_pass 44 = .ok (.iload_n 2, 1) := by decide +kernel
theorem dX1_pass_45 : decode cX1_pass 45 = .ok (.invokestatic 51, 3) := by decide +kernel
theorem dX1_pass_48 : decode cX1_pass 48 = .ok (.iload_n 3, 1) := by decide +kernel
theorem dX1_pass_49 : decode cX1_pass 49 = .ok (.ifCond .le 19, 3) := by decide +kernel
theorem dX1_pass_52 : decode cX1_pass 52 = .ok (.aload_n 1, 1) := by decide +kernel
theorem dX1_pass_53 : decode cX1_pass 53 = .ok (.getfield 21, 3) := by decide +kernel
theorem dX1_pass_56 : decode cX1_pass 56 = .ok (.iconst 1, 1) := by decide +kernel
theorem dX1_pass_57 : decode cX1_pass 57 = .ok (.iadd, 1) := by decide +kernel
theorem dX1_pass_58 : decode cX1_pass 58 = .ok (.iload_n 3, 1) := by decide +kernel
theorem dX1_pass_59 : decode cX1_pass 59 = .ok (.irem, 1) := by decide +kernel
theorem dX1_pass_60 : decode cX1_pass 60 = .ok (.ifCond .ne 8, 3) := by decide +kernel
theorem dX1_pass_63 : decode cX1_pass 63 = .ok (.aload_n 0, 1) := by decide +kernel
theorem dX1_pass_64 : decode cX1_pass 64 = .ok (.aload_n 1, 1) := by decide +kernel
theorem dX1_pass_65 : decode cX1_pass 65 = .ok (.invokestatic 55, 3) := by decide +kernel
theorem dX1_pass_68 : decode cX1_pass 68 = .ok (.aload_n 1, 1) := by decide +kernel
theorem dX1_pass_69 : decode cX1_pass 69 = .ok (.dup, 1) := by decide +kernel
theorem dX1_pass_70 : decode cX1_pass 70 = .ok (.getfield 21, 3) := by decide +kernel
theorem dX1_pass_73 : decode cX1_pass 73 = .ok (.iconst 1, 1) := by decide +kernel
theorem dX1_pass_74 : decode cX1_pass 74 = .ok (.iadd, 1) := by decide +kernel
theorem dX1_pass_75 : decode cX1_pass 75 = .ok (.putfield 21, 3) := by decide +kernel
theorem dX1_pass_78 : decode cX1_pass 78 = .ok (.return_, 1) := by decide +kernel
theorem dX1_carry_0 : decode cX1_carry 0 = .ok (.iconst 0, 1) := by decide +kernel
theorem dX1_carry_1 : decode cX1_carry 1 = .ok (.istore_n 3, 1) := by decide +kernel
theorem dX1_carry_2 : decode cX1_carry 2 = .ok (.iload_n 3, 1) := by decide +kernel
theorem dX1_carry_3 : decode cX1_carry 3 = .ok (.aload_n 0, 1) := by decide +kernel
theorem dX1_carry_4 : decode cX1_carry 4 = .ok (.getfield 59, 3) := by decide +kernel
theorem dX1_carry_7 : decode cX1_carry 7 = .ok (.iload_n 2, 1) := by decide +kernel
theorem dX1_carry_8 : decode cX1_carry 8 = .ok (.iaload, 1) := by decide +kernel
theorem dX1_carry_9 : decode cX1_carry 9 = .ok (.if_icmp .ge 83, 3) := by decide +kernel
theorem dX1_carry_12 : decode cX1_carry 12 = .ok (.iload_n 2, 1) := by decide +kernel
theorem dX1_carry_13 : decode cX1_carry 13 = .ok (.bipush 8, 2) := by decide +kernel
theorem dX1_carry_15 : decode cX1_carry 15 = .ok (.imul, 1) := by decide +kernel
theorem dX1_carry_16 : decode cX1_carry 16 = .ok (.iload_n 3, 1) := by decide +kernel
theorem dX1_carry_17 : decode cX1_carry 17 = .ok (.iadd, 1) := by decide +kernel
theorem dX1_carry_18 : decode cX1_carry 18 = .ok (.istore 4, 2) := by decide +kernel
theorem dX1_carry_20 : decode cX1_carry 20 = .ok (.aload_n 1, 1) := by decide +kernel
theorem dX1_carry_21 : decode cX1_carry 21 = .ok (.getfield 62, 3) := by decide +kernel
theorem dX1_carry_24 : decode cX1_carry 24 = .ok (.aload_n 0, 1) := by decide +kernel
theorem dX1_carry_25 : decode cX1_carry 25 = .ok (.getfield 65, 3) := by decide +kernel
theorem dX1_carry_28 : decode cX1_carry 28 = .ok (.iload 4, 2) := by decide +kernel
theorem dX1_carry_30 : decode cX1_carry 30 = .ok (.iaload, 1) := by decide +kernel
theorem dX1_carry_31 : decode cX1_carry 31 = .ok (.iaload, 1) := by decide +kernel
theorem dX1_carry_32 : decode cX1_carry 32 = .ok (.aload_n 0, 1) := by decide +kernel
theorem dX1_carry_33 : decode cX1_carry 33 = .ok (.getfield 68, 3) := by decide +kernel
theorem dX1_carry_36 : decode cX1_carry 36 = .ok (.iload 4, 2) := by decide +kernel
theorem dX1_carry_38 : decode cX1_carry 38 = .ok (.iaload, 1) := by decide +kernel
theorem dX1_carry_39 : decode cX1_carry 39 = .ok (.imul, 1) := by decide +kernel
theorem dX1_carry_40 : decode cX1_carry 40 = .ok (.bipush 10, 2) := by decide +kernel
theorem dX1_carry_42 : decode cX1_carry 42 = .ok (.idiv, 1) := by decide +kernel
theorem dX1_carry_43 : decode cX1_carry 43 = .ok (.istore 5, 2) := by decide +kernel
theorem dX1_carry_45 : decode cX1_carry 45 = .ok (.aload_n 1, 1) := by decide +kernel
theorem dX1_carry_46 : decode cX1_carry 46 = .ok (.getfield 62, 3) := by decide +kernel
theorem dX1_carry_49 : decode cX1_carry 49 = .ok (.aload_n 0, 1) := by decide +kernel
theorem dX1_carry_50 : decode cX1_carry 50 = .ok (.getfield 65, 3) := by decide +kernel
theorem dX1_carry_53 : decode cX1_carry 53 = .ok (.iload 4, 2) := by decide +kernel
theorem dX1_carry_55 : decode cX1_carry 55 = .ok (.iaload, 1) := by decide +kernel
theorem dX1_carry_56 : decode cX1_carry 56 = .ok (.dup2, 1) := by decide +kernel
theorem dX1_carry_57 : decode cX1_carry 57 = .ok (.iaload, 1) := by decide +kernel
theorem dX1_carry_58 : decode cX1_carry 58 = .ok (.iload 5, 2) := by decide +kernel
theorem dX1_carry_60 : decode cX1_carry 60 = .ok (.isub, 1) := by decide +kernel
theorem dX1_carry_61 : decode cX1_carry 61 = .ok (.iastore, 1) := by decide +kernel
theorem dX1_carry_62 : decode cX1_carry 62 = .ok (.aload_n 1, 1) := by decide +kernel
theorem dX1_carry_63 : decode cX1_carry 63 = .ok (.aload_n 0, 1) := by decide +kernel
theorem dX1_carry_64 : decode cX1_carry 64 = .ok (.getfield 71, 3) := by decide +kernel
theorem dX1_carry_67 : decode cX1_carry 67 = .ok (.iload 4, 2) := by decide +kernel
theorem dX1_carry_69 : decode cX1_carry 69 = .ok (.iaload, 1) := by decide +kernel
theorem dX1_carry_70 : decode cX1_carry 70 = .ok (.aload_n 0, 1) := by decide +kernel
theorem dX1_carry_71 : decode cX1_carry 71 = .ok (.aload_n 0, 1) := by decide +kernel
theorem dX1_carry_72 : decode cX1_carry 72 = .ok (.getfield 71, 3) := by decide +kernel
theorem dX1_carry_75 : decode cX1_carry 75 = .ok (.iload 4, 2) := by decide +kernel
theorem dX1_carry_77 : decode cX1_carry 77 = .ok (.iaload, 1) := by decide +kernel
theorem dX1_carry_78 : decode cX1_carry 78 = .ok (.iload 5, 2) := by decide +kernel
theorem dX1_carry_80 : decode cX1_carry 80 = .ok (.invokevirtual 74, 3) := by decide +kernel
theorem dX1_carry_83 : decode cX1_carry 83 = .ok (.invokevirtual 44, 3) := by decide +kernel
theorem dX1_carry_86 : decode cX1_carry 86 = .ok (.iinc 3 1, 3) := by decide +kernel
theorem dX1_carry_89 : decode cX1_carry 89 = .ok (.goto (-87), 3) := by decide +kernel
theorem dX1_carry_92 : decode cX1_carry 92 = .ok (.return_, 1) := by decide +kernel
theorem dX1_tithe_0 : decode cX1_tithe 0 = .ok (.iconst 0, 1) := by decide +kernel
theorem dX1_tithe_1 : decode cX1_tithe 1 = .ok (.istore_n 2, 1) := by decide +kernel
theorem dX1_tithe_2 : decode cX1_tithe 2 = .ok (.iload_n 2, 1) := by decide +kernel
theorem dX1_tithe_3 : decode cX1_tithe 3 = .ok (.aload_n 0, 1) := by decide +kernel
theorem dX1_tithe_4 : decode cX1_tithe 4 = .ok (.getfield 37, 3) := by decide +kernel
theorem dX1_tithe_7 : decode cX1_tithe 7 = .ok (.if_icmp .ge 43, 3) := by decide +kernel
theorem dX1_tithe_10 : decode cX1_tithe 10 = .ok (.aload_n 0, 1) := by decide +kernel
theorem dX1_tithe_11 : decode cX1_tithe 11 = .ok (.aload_n 1, 1) := by decide +kernel
theorem dX1_tithe_12 : decode cX1_tithe 12 = .ok (.iload_n 2, 1) := by decide +kernel
theorem dX1_tithe_13 : decode cX1_tithe 13 = .ok (.invokestatic 78, 3) := by decide +kernel
theorem dX1_tithe_16 : decode cX1_tithe 16 = .ok (.istore_n 3, 1) := by decide +kernel
theorem dX1_tithe_17 : decode cX1_tithe 17 = .ok (.aload_n 1, 1) := by decide +kernel
theorem dX1_tithe_18 : decode cX1_tithe 18 = .ok (.getfield 62, 3) := by decide +kernel
theorem dX1_tithe_21 : decode cX1_tithe 21 = .ok (.iload_n 2, 1) := by decide +kernel
theorem dX1_tithe_22 : decode cX1_tithe 22 = .ok (.dup2, 1) := by decide +kernel
theorem dX1_tithe_23 : decode cX1_tithe 23 = .ok (.iaload, 1) := by decide +kernel
theorem dX1_tithe_24 : decode cX1_tithe 24 = .ok (.iload_n 3, 1) := by decide +kernel
theorem dX1_tithe_25 : decode cX1_tithe 25 = .ok (.isub, 1) := by decide +kernel
theorem dX1_tithe_26 : decode cX1_tithe 26 = .ok (.iastore, 1) := by decide +kernel
theorem dX1_tithe_27 : decode cX1_tithe 27 = .ok (.aload_n 1, 1) := by decide +kernel
theorem dX1_tithe_28 : decode cX1_tithe 28 = .ok (.dup, 1) := by decide +kernel
theorem dX1_tithe_29 : decode cX1_tithe 29 = .ok (.getfield 81, 3) := by decide +kernel
theorem dX1_tithe_32 : decode cX1_tithe 32 = .ok (.iload_n 3, 1) := by decide +kernel
theorem dX1_tithe_33 : decode cX1_tithe 33 = .ok (.iadd, 1) := by decide +kernel
theorem dX1_tithe_34 : decode cX1_tithe 34 = .ok (.putfield 81, 3) := by decide +kernel
theorem dX1_tithe_37 : decode cX1_tithe 37 = .ok (.aload_n 1, 1) := by decide +kernel
theorem dX1_tithe_38 : decode cX1_tithe 38 = .ok (.getfield 84, 3) := by decide +kernel
theorem dX1_tithe_41 : decode cX1_tithe 41 = .ok (.iload_n 2, 1) := by decide +kernel
theorem dX1_tithe_42 : decode cX1_tithe 42 = .ok (.iconst 0, 1) := by decide +kernel
theorem dX1_tithe_43 : decode cX1_tithe 43 = .ok (.iastore, 1) := by decide +kernel
theorem dX1_tithe_44 : decode cX1_tithe 44 = .ok (.iinc 2 1, 3) := by decide +kernel
theorem dX1_tithe_47 : decode cX1_tithe 47 = .ok (.goto (-45), 3) := by decide +kernel
theorem dX1_tithe_50 : decode cX1_tithe 50 = .ok (.return_, 1) := by decide +kernel
theorem dX1_titheOf_0 : decode cX1_titheOf 0 = .ok (.aload_n 1, 1) := by decide +kernel
theorem dX1_titheOf_1 : decode cX1_titheOf 1 = .ok (.getfield 62, 3) := by decide +kernel
theorem dX1_titheOf_4 : decode cX1_titheOf 4 = .ok (.iload_n 2, 1) := by decide +kernel
theorem dX1_titheOf_5 : decode cX1_titheOf 5 = .ok (.iaload, 1) := by decide +kernel
theorem dX1_titheOf_6 : decode cX1_titheOf 6 = .ok (.istore_n 3, 1) := by decide +kernel
theorem dX1_titheOf_7 : decode cX1_titheOf 7 = .ok (.aload_n 0, 1) := by decide +kernel
theorem dX1_titheOf_8 : decode cX1_titheOf 8 = .ok (.getfield 87, 3) := by decide +kernel
theorem dX1_titheOf_11 : decode cX1_titheOf 11 = .ok (.invokevirtual 91, 3) := by decide +kernel
theorem dX1_titheOf_14 : decode cX1_titheOf 14 = .ok (.ifCond .eq 8, 3) := by decide +kernel
theorem dX1_titheOf_17 : decode cX1_titheOf 17 = .ok (.iload_n 3, 1) := by decide +kernel
theorem dX1_titheOf_18 : decode cX1_titheOf 18 = .ok (.bipush 10, 2) := by decide +kernel
theorem dX1_titheOf_20 : decode cX1_titheOf 20 = .ok (.idiv, 1) := by decide +kernel
theorem dX1_titheOf_21 : decode cX1_titheOf 21 = .ok (.ireturn, 1) := by decide +kernel
theorem dX1_titheOf_22 : decode cX1_titheOf 22 = .ok (.aload_n 0, 1) := by decide +kernel
theorem dX1_titheOf_23 : decode cX1_titheOf 23 = .ok (.getfield 87, 3) := by decide +kernel
theorem dX1_titheOf_26 : decode cX1_titheOf 26 = .ok (.getfield 97, 3) := by decide +kernel
theorem dX1_titheOf_29 : decode cX1_titheOf 29 = .ok (.astore 4, 2) := by decide +kernel
theorem dX1_titheOf_31 : decode cX1_titheOf 31 = .ok (.aload 4, 2) := by decide +kernel
theorem dX1_titheOf_33 : decode cX1_titheOf 33 = .ok (.iconst 0, 1) := by decide +kernel
theorem dX1_titheOf_34 : decode cX1_titheOf 34 = .ok (.iload_n 3, 1) := by decide +kernel
theorem dX1_titheOf_35 : decode cX1_titheOf 35 = .ok (.iastore, 1) := by decide +kernel
theorem dX1_titheOf_36 : decode cX1_titheOf 36 = .ok (.aload 4, 2) := by decide +kernel
theorem dX1_titheOf_38 : decode cX1_titheOf 38 = .ok (.iconst 1, 1) := by decide +kernel
theorem dX1_titheOf_39 : decode cX1_titheOf 39 = .ok (.aload_n 0, 1) := by decide +kernel
theorem dX1_titheOf_40 : decode cX1_titheOf 40 = .ok (.getfield 100, 3) := by decide +kernel
theorem dX1_titheOf_43 : decode cX1_titheOf 43 = .ok (.iload_n 2, 1) := by decide +kernel
theorem dX1_titheOf_44 : decode cX1_titheOf 44 = .ok (.iaload, 1) := by decide +kernel
theorem dX1_titheOf_45 : decode cX1_titheOf 45 = .ok (.iastore, 1) := by decide +kernel
theorem dX1_titheOf_46 : decode cX1_titheOf 46 = .ok (.aload 4, 2) := by decide +kernel
theorem dX1_titheOf_48 : decode cX1_titheOf 48 = .ok (.iconst 2, 1) := by decide +kernel
theorem dX1_titheOf_49 : decode cX1_titheOf 49 = .ok (.aload_n 0, 1) := by decide +kernel
theorem dX1_titheOf_50 : decode cX1_titheOf 50 = .ok (.getfield 103, 3) := by decide +kernel
theorem dX1_titheOf_53 : decode cX1_titheOf 53 = .ok (.iload_n 2, 1) := by decide +kernel
theorem dX1_titheOf_54 : decode cX1_titheOf 54 = .ok (.iaload, 1) := by decide +kernel
theorem dX1_titheOf_55 : decode cX1_titheOf 55 = .ok (.iastore, 1) := by decide +kernel
theorem dX1_titheOf_56 : decode cX1_titheOf 56 = .ok (.aload 4, 2) := by decide +kernel
theorem dX1_titheOf_58 : decode cX1_titheOf 58 = .ok (.iconst 3, 1) := by decide +kernel
theorem dX1_titheOf_59 : decode cX1_titheOf 59 = .ok (.aload_n 1, 1) := by decide +kernel
theorem dX1_titheOf_60 : decode cX1_titheOf 60 = .ok (.getfield 21, 3) := by decide +kernel
theorem dX1_titheOf_63 : decode cX1_titheOf 63 = .ok (.iastore, 1) := by decide +kernel
theorem dX1_titheOf_64 : decode cX1_titheOf 64 = .ok (.aload 4, 2) := by decide +kernel
theorem dX1_titheOf_66 : decode cX1_titheOf 66 = .ok (.iconst 4, 1) := by decide +kernel
theorem dX1_titheOf_67 : decode cX1_titheOf 67 = .ok (.aload_n 0, 1) := by decide +kernel
theorem dX1_titheOf_68 : decode cX1_titheOf 68 = .ok (.getfield 106, 3) := by decide +kernel
theorem dX1_titheOf_71 : decode cX1_titheOf 71 = .ok (.aload_n 0, 1) := by decide +kernel
theorem dX1_titheOf_72 : decode cX1_titheOf 72 = .ok (.getfield 103, 3) := by decide +kernel
theorem dX1_titheOf_75 : decode cX1_titheOf 75 = .ok (.iload_n 2, 1) := by decide +kernel
theorem dX1_titheOf_76 : decode cX1_titheOf 76 = .ok (.iaload, 1) := by decide +kernel
theorem dX1_titheOf_77 : decode cX1_titheOf 77 = .ok (.iaload, 1) := by decide +kernel
theorem dX1_titheOf_78 : decode cX1_titheOf 78 = .ok (.iastore, 1) := by decide +kernel
theorem dX1_titheOf_79 : decode cX1_titheOf 79 = .ok (.aload 4, 2) := by decide +kernel
theorem dX1_titheOf_81 : decode cX1_titheOf 81 = .ok (.iconst 5, 1) := by decide +kernel
theorem dX1_titheOf_82 : decode cX1_titheOf 82 = .ok (.aload_n 1, 1) := by decide +kernel
theorem dX1_titheOf_83 : decode cX1_titheOf 83 = .ok (.getfield 84, 3) := by decide +kernel
theorem dX1_titheOf_86 : decode cX1_titheOf 86 = .ok (.iload_n 2, 1) := by decide +kernel
theorem dX1_titheOf_87 : decode cX1_titheOf 87 = .ok (.iaload, 1) := by decide +kernel
theorem dX1_titheOf_88 : decode cX1_titheOf 88 = .ok (.iastore, 1) := by decide +kernel
theorem dX1_titheOf_89 : decode cX1_titheOf 89 = .ok (.iconst 0, 1) := by decide +kernel
theorem dX1_titheOf_90 : decode cX1_titheOf 90 = .ok (.iload_n 3, 1) := by decide +kernel
theorem dX1_titheOf_91 : decode cX1_titheOf 91 = .ok (.aload_n 0, 1) := by decide +kernel
theorem dX1_titheOf_92 : decode cX1_titheOf 92 = .ok (.getfield 87, 3) := by decide +kernel
theorem dX1_titheOf_95 : decode cX1_titheOf 95 = .ok (.invokevirtual 109, 3) := by decide +kernel
theorem dX1_titheOf_98 : decode cX1_titheOf 98 = .ok (.invokestatic 113, 3) := by decide +kernel
theorem dX1_titheOf_101 : decode cX1_titheOf 101 = .ok (.invokestatic 118, 3) := by decide +kernel
theorem dX1_titheOf_104 : decode cX1_titheOf 104 = .ok (.ireturn, 1) := by decide +kernel
theorem dX1_dustInAll_0 : decode cX1_dustInAll 0 = .ok (.iconst 0, 1) := by decide +kernel
theorem dX1_dustInAll_1 : decode cX1_dustInAll 1 = .ok (.istore_n 2, 1) := by decide +kernel
theorem dX1_dustInAll_2 : decode cX1_dustInAll 2 = .ok (.iconst 0, 1) := by decide +kernel
theorem dX1_dustInAll_3 : decode cX1_dustInAll 3 = .ok (.istore_n 3, 1) := by decide +kernel
theorem dX1_dustInAll_4 : decode cX1_dustInAll 4 = .ok (.iload_n 3, 1) := by decide +kernel
theorem dX1_dustInAll_5 : decode cX1_dustInAll 5 = .ok (.aload_n 0, 1) := by decide +kernel
theorem dX1_dustInAll_6 : decode cX1_dustInAll 6 = .ok (.getfield 37, 3) := by decide +kernel
theorem dX1_dustInAll_9 : decode cX1_dustInAll 9 = .ok (.if_icmp .ge 18, 3) := by decide +kernel
theorem dX1_dustInAll_12 : decode cX1_dustInAll 12 = .ok (.iload_n 2, 1) := by decide +kernel
theorem dX1_dustInAll_13 : decode cX1_dustInAll 13 = .ok (.aload_n 1, 1) := by decide +kernel
theorem dX1_dustInAll_14 : decode cX1_dustInAll 14 = .ok (.getfield 62, 3) := by decide +kernel
theorem dX1_dustInAll_17 : decode cX1_dustInAll 17 = .ok (.iload_n 3, 1) := by decide +kernel
theorem dX1_dustInAll_18 : decode cX1_dustInAll 18 = .ok (.iaload, 1) := by decide +kernel
theorem dX1_dustInAll_19 : decode cX1_dustInAll 19 = .ok (.iadd, 1) := by decide +kernel
theorem dX1_dustInAll_20 : decode cX1_dustInAll 20 = .ok (.istore_n 2, 1) := by decide +kernel
theorem dX1_dustInAll_21 : decode cX1_dustInAll 21 = .ok (.iinc 3 1, 3) := by decide +kernel
theorem dX1_dustInAll_24 : decode cX1_dustInAll 24 = .ok (.goto (-20), 3) := by decide +kernel
theorem dX1_dustInAll_27 : decode cX1_dustInAll 27 = .ok (.iload_n 2, 1) := by decide +kernel
theorem dX1_dustInAll_28 : decode cX1_dustInAll 28 = .ok (.ireturn, 1) := by decide +kernel
theorem dX1_heretics_0 : decode cX1_heretics 0 = .ok (.iconst 0, 1) := by decide +kernel
theorem dX1_heretics_1 : decode cX1_heretics 1 = .ok (.istore_n 2, 1) := by decide +kernel
theorem dX1_heretics_2 : decode cX1_heretics 2 = .ok (.iconst 0, 1) := by decide +kernel
theorem dX1_heretics_3 : decode cX1_heretics 3 = .ok (.istore_n 3, 1) := by decide +kernel
theorem dX1_heretics_4 : decode cX1_heretics 4 = .ok (.iload_n 3, 1) := by decide +kernel
theorem dX1_heretics_5 : decode cX1_heretics 5 = .ok (.aload_n 0, 1) := by decide +kernel
theorem dX1_heretics_6 : decode cX1_heretics 6 = .ok (.getfield 37, 3) := by decide +kernel
theorem dX1_heretics_9 : decode cX1_heretics 9 = .ok (.if_icmp .ge 29, 3) := by decide +kernel
theorem dX1_heretics_12 : decode cX1_heretics 12 = .ok (.aload_n 0, 1) := by decide +kernel
theorem dX1_heretics_13 : decode cX1_heretics 13 = .ok (.aload_n 1, 1) := by decide +kernel
theorem dX1_heretics_14 : decode cX1_heretics 14 = .ok (.iload_n 3, 1) := by decide +kernel
theorem dX1_heretics_15 : decode cX1_heretics 15 = .ok (.invokestatic 121, 3) := by decide +kernel
theorem dX1_heretics_18 : decode cX1_heretics 18 = .ok (.ifCond .eq 14, 3) := by decide +kernel
theorem dX1_heretics_21 : decode cX1_heretics 21 = .ok (.iload_n 2, 1) := by decide +kernel
theorem dX1_heretics_22 : decode cX1_heretics 22 = .ok (.iconst 1, 1) := by decide +kernel
theorem dX1_heretics_23 : decode cX1_heretics 23 = .ok (.aload_n 0, 1) := by decide +kernel
theorem dX1_heretics_24 : decode cX1_heretics 24 = .ok (.getfield 103, 3) := by decide +kernel
theorem dX1_heretics_27 : decode cX1_heretics 27 = .ok (.iload_n 3, 1) := by decide +kernel
theorem dX1_heretics_28 : decode cX1_heretics 28 = .ok (.iaload, 1) := by decide +kernel
theorem dX1_heretics_29 : decode cX1_heretics 29 = .ok (.ishl, 1) := by decide +kernel
theorem dX1_heretics_30 : decode cX1_heretics 30 = .ok (.ior, 1) := by decide +kernel
theorem dX1_heretics_31 : decode cX1_heretics 31 = .ok (.istore_n 2, 1) := by decide +kernel
theorem dX1_heretics_32 : decode cX1_heretics 32 = .ok (.iinc 3 1, 3) := by decide +kernel
theorem dX1_heretics_35 : decode cX1_heretics 35 = .ok (.goto (-31), 3) := by decide +kernel
theorem dX1_heretics_38 : decode cX1_heretics 38 = .ok (.iload_n 2, 1) := by decide +kernel
theorem dX1_heretics_39 : decode cX1_heretics 39 = .ok (.ireturn, 1) := by decide +kernel
theorem dX1_isUnclean_0 : decode cX1_isUnclean 0 = .ok (.aload_n 0, 1) := by decide +kernel
theorem dX1_isUnclean_1 : decode cX1_isUnclean 1 = .ok (.getfield 100, 3) := by decide +kernel
theorem dX1_isUnclean_4 : decode cX1_isUnclean 4 = .ok (.iload_n 2, 1) := by decide +kernel
theorem dX1_isUnclean_5 : decode cX1_isUnclean 5 = .ok (.iaload, 1) := by decide +kernel
theorem dX1_isUnclean_6 : decode cX1_isUnclean 6 = .ok (.iconst 2, 1) := by decide +kernel
theorem dX1_isUnclean_7 : decode cX1_isUnclean 7 = .ok (.if_icmp .eq 20, 3) := by decide +kernel
theorem dX1_isUnclean_10 : decode cX1_isUnclean 10 = .ok (.aload_n 1, 1) := by decide +kernel
theorem dX1_isUnclean_11 : decode cX1_isUnclean 11 = .ok (.getfield 62, 3) := by decide +kernel
theorem dX1_isUnclean_14 : decode cX1_isUnclean 14 = .ok (.iload_n 2, 1) := by decide +kernel
theorem dX1_isUnclean_15 : decode cX1_isUnclean 15 = .ok (.iaload, 1) := by decide +kernel
theorem dX1_isUnclean_16 : decode cX1_isUnclean 16 = .ok (.aload_n 0, 1) := by decide +kernel
theorem dX1_isUnclean_17 : decode cX1_isUnclean 17 = .ok (.getfield 125, 3) := by decide +kernel
theorem dX1_isUnclean_20 : decode cX1_isUnclean 20 = .ok (.if_icmp .ge 7, 3) := by decide +kernel
theorem dX1_isUnclean_23 : decode cX1_isUnclean 23 = .ok (.iconst 1, 1) := by decide +kernel
theorem dX1_isUnclean_24 : decode cX1_isUnclean 24 = .ok (.goto 4, 3) := by decide +kernel
theorem dX1_isUnclean_27 : decode cX1_isUnclean 27 = .ok (.iconst 0, 1) := by decide +kernel
theorem dX1_isUnclean_28 : decode cX1_isUnclean 28 = .ok (.ireturn, 1) := by decide +kernel
theorem dX2_init_0 : decode cX2_init 0 = .ok (.aload_n 0, 1) := by decide +kernel
theorem dX2_init_1 : decode cX2_init 1 = .ok (.invokespecial 3, 3) := by decide +kernel
theorem dX2_init_4 : decode cX2_init 4 = .ok (.aload_n 0, 1) := by decide +kernel
theorem dX2_init_5 : decode cX2_init 5 = .ok (.bipush 9, 2) := by decide +kernel
theorem dX2_init_7 : decode cX2_init 7 = .ok (.newarray .int, 2) := by decide +kernel
theorem dX2_init_9 : decode cX2_init 9 = .ok (.putfield 9, 3) := by decide +kernel
theorem dX2_init_12 : decode cX2_init 12 = .ok (.aload_n 0, 1) := by decide +kernel
theorem dX2_init_13 : decode cX2_init 13 = .ok (.bipush 9, 2) := by decide +kernel
theorem dX2_init_15 : decode cX2_init 15 = .ok (.newarray .int, 2) := by decide +kernel
theorem dX2_init_17 : decode cX2_init 17 = .ok (.putfield 15, 3) := by decide +kernel
theorem dX2_init_20 : decode cX2_init 20 = .ok (.aload_n 0, 1) := by decide +kernel
theorem dX2_init_21 : decode cX2_init 21 = .ok (.bipush 9, 2) := by decide +kernel
theorem dX2_init_23 : decode cX2_init 23 = .ok (.newarray .int, 2) := by decide +kernel
theorem dX2_init_25 : decode cX2_init 25 = .ok (.putfield 18, 3) := by decide +kernel
theorem dX2_init_28 : decode cX2_init 28 = .ok (.aload_n 0, 1) := by decide +kernel
theorem dX2_init_29 : decode cX2_init 29 = .ok (.bipush 9, 2) := by decide +kernel
theorem dX2_init_31 : decode cX2_init 31 = .ok (.newarray .int, 2) := by decide +kernel
theorem dX2_init_33 : decode cX2_init 33 = .ok (.putfield 21, 3) := by decide +kernel
theorem dX2_init_36 : decode cX2_init 36 = .ok (.aload_n 0, 1) := by decide +kernel
theorem dX2_init_37 : decode cX2_init 37 = .ok (.bipush 14, 2) := by decide +kernel
theorem dX2_init_39 : decode cX2_init 39 = .ok (.newarray .int, 2) := by decide +kernel
theorem dX2_init_41 : decode cX2_init 41 = .ok (.putfield 24, 3) := by decide +kernel
theorem dX2_init_44 : decode cX2_init 44 = .ok (.aload_n 0, 1) := by decide +kernel
theorem dX2_init_45 : decode cX2_init 45 = .ok (.bipush 14, 2) := by decide +kernel
theorem dX2_init_47 : decode cX2_init 47 = .ok (.newarray .int, 2) := by decide +kernel
theorem dX2_init_49 : decode cX2_init 49 = .ok (.putfield 27, 3) := by decide +kernel
theorem dX2_init_52 : decode cX2_init 52 = .ok (.aload_n 0, 1) := by decide +kernel
theorem dX2_init_53 : decode cX2_init 53 = .ok (.iconst 5, 1) := by decide +kernel
theorem dX2_init_54 : decode cX2_init 54 = .ok (.newarray .int, 2) := by decide +kernel
theorem dX2_init_56 : decode cX2_init 56 = .ok (.putfield 30, 3) := by decide +kernel
theorem dX2_init_59 : decode cX2_init 59 = .ok (.aload_n 0, 1) := by decide +kernel
theorem dX2_init_60 : decode cX2_init 60 = .ok (.bipush 40, 2) := by decide +kernel
theorem dX2_init_62 : decode cX2_init 62 = .ok (.newarray .int, 2) := by decide +kernel
theorem dX2_init_64 : decode cX2_init 64 = .ok (.putfield 33, 3) := by decide +kernel
theorem dX2_init_67 : decode cX2_init 67 = .ok (.aload_n 0, 1) := by decide +kernel
theorem dX2_init_68 : decode cX2_init 68 = .ok (.bipush 40, 2) := by decide +kernel
theorem dX2_init_70 : decode cX2_init 70 = .ok (.newarray .int, 2) := by decide +kernel
theorem dX2_init_72 : decode cX2_init 72 = .ok (.putfield 36, 3) := by decide +kernel
theorem dX2_init_75 : decode cX2_init 75 = .ok (.aload_n 0, 1) := by decide +kernel
theorem dX2_init_76 : decode cX2_init 76 = .ok (.bipush 40, 2) := by decide +kernel
theorem dX2_init_78 : decode cX2_init 78 = .ok (.newarray .int, 2) := by decide +kernel
theorem dX2_init_80 : decode cX2_init 80 = .ok (.putfield 39, 3) := by decide +kernel
theorem dX2_init_83 : decode cX2_init 83 = .ok (.aload_n 0, 1) := by decide +kernel
theorem dX2_init_84 : decode cX2_init 84 = .ok (.bipush 10, 2) := by decide +kernel
theorem dX2_init_86 : decode cX2_init 86 = .ok (.newarray .int, 2) := by decide +kernel
theorem dX2_init_88 : decode cX2_init 88 = .ok (.putfield 42, 3) := by decide +kernel
theorem dX2_init_91 : decode cX2_init 91 = .ok (.aload_n 0, 1) := by decide +kernel
theorem dX2_init_92 : decode cX2_init 92 = .ok (.new 45, 3) := by decide +kernel
theorem dX2_init_95 : decode cX2_init 95 = .ok (.dup, 1) := by decide +kernel
theorem dX2_init_96 : decode cX2_init 96 = .ok (.invokespecial 47, 3) := by decide +kernel
theorem dX2_init_99 : decode cX2_init 99 = .ok (.putfield 48, 3) := by decide +kernel
theorem dX2_init_102 : decode cX2_init 102 = .ok (.aload_n 0, 1) := by decide +kernel
theorem dX2_init_103 : decode cX2_init 103 = .ok (.bipush 81, 2) := by decide +kernel
theorem dX2_init_105 : decode cX2_init 105 = .ok (.newarray .int, 2) := by decide +kernel
theorem dX2_init_107 : decode cX2_init 107 = .ok (.putfield 52, 3) := by decide +kernel
theorem dX2_init_110 : decode cX2_init 110 = .ok (.aload_n 0, 1) := by decide +kernel
theorem dX2_init_111 : decode cX2_init 111 = .ok (.bipush 6, 2) := by decide +kernel
theorem dX2_init_113 : decode cX2_init 113 = .ok (.newarray .int, 2) := by decide +kernel
theorem dX2_init_115 : decode cX2_init 115 = .ok (.putfield 55, 3) := by decide +kernel
theorem dX2_init_118 : decode cX2_init 118 = .ok (.return_, 1) := by decide +kernel
theorem dX2_clear_0 : decode cX2_clear 0 = .ok (.aload_n 0, 1) := by decide +kernel
theorem dX2_clear_1 : decode cX2_clear 1 = .ok (.iconst 0, 1) := by decide +kernel
theorem dX2_clear_2 : decode cX2_clear 2 = .ok (.putfield 58, 3) := by decide +kernel
theorem dX2_clear_5 : decode cX2_clear 5 = .ok (.aload_n 0, 1) := by decide +kernel
theorem dX2_clear_6 : decode cX2_clear 6 = .ok (.iconst 0, 1) := by decide +kernel
theorem dX2_clear_7 : decode cX2_clear 7 = .ok (.putfield 62, 3) := by decide +kernel
theorem dX2_clear_10 : decode cX2_clear 10 = .ok (.aload_n 0, 1) := by decide +kernel
theorem dX2_clear_11 : decode cX2_clear 11 = .ok (.iconst 0, 1) := by decide +kernel
theorem dX2_clear_12 : decode cX2_clear 12 = .ok (.putfield 65, 3) := by decide +kernel
theorem dX2_clear_15 : decode cX2_clear 15 = .ok (.aload_n 0, 1) := by decide +kernel
theorem dX2_clear_16 : decode cX2_clear 16 = .ok (.iconst 0, 1) := by decide +kernel
theorem dX2_clear_17 : decode cX2_clear 17 = .ok (.putfield 68, 3) := by decide +kernel
theorem dX2_clear_20 : decode cX2_clear 20 = .ok (.aload_n 0, 1) := by decide +kernel
theorem dX2_clear_21 : decode cX2_clear 21 = .ok (.bipush 7, 2) := by decide +kernel
theorem dX2_clear_23 : decode cX2_clear 23 = .ok (.putfield 71, 3) := by decide +kernel
theorem dX2_clear_26 : decode cX2_clear 26 = .ok (.aload_n 0, 1) := by decide +kernel
theorem dX2_clear_27 : decode cX2_clear 27 = .ok (.bipush 10, 2) := by decide +kernel
theorem dX2_clear_29 : decode cX2_clear 29 = .ok (.putfield 74, 3) := by decide +kernel
theorem dX2_clear_32 : decode cX2_clear 32 = .ok (.aload_n 0, 1) := by decide +kernel
theorem dX2_clear_33 : decode cX2_clear 33 = .ok (.getfield 48, 3) := by decide +kernel
theorem dX2_clear_36 : decode cX2_clear 36 = .ok (.invokevirtual 77, 3) := by decide +kernel
theorem dX2_clear_39 : decode cX2_clear 39 = .ok (.aload_n 0, 1) := by decide +kernel
theorem dX2_clear_40 : decode cX2_clear 40 = .ok (.getfield 52, 3) := by decide +kernel
theorem dX2_clear_43 : decode cX2_clear 43 = .ok (.iconst (-1), 1) := by decide +kernel
theorem dX2_clear_44 : decode cX2_clear 44 = .ok (.invokestatic 80, 3) := by decide +kernel
theorem dX2_clear_47 : decode cX2_clear 47 = .ok (.return_, 1) := by decide +kernel
theorem dX2_addDoor_0 : decode cX2_addDoor 0 = .ok (.aload_n 0, 1) := by decide +kernel
theorem dX2_addDoor_1 : decode cX2_addDoor 1 = .ok (.getfield 62, 3) := by decide +kernel
theorem dX2_addDoor_4 : decode cX2_addDoor 4 = .ok (.bipush 14, 2) := by decide +kernel
theorem dX2_addDoor_6 : decode cX2_addDoor 6 = .ok (.if_icmp .ge 57, 3) := by decide +kernel
theorem dX2_addDoor_9 : decode cX2_addDoor 9 = .ok (.aload_n 0, 1) := by decide +kernel
theorem dX2_addDoor_10 : decode cX2_addDoor 10 = .ok (.getfield 24, 3) := by decide +kernel
theorem dX2_addDoor_13 : decode cX2_addDoor 13 = .ok (.aload_n 0, 1) := by decide +kernel
theorem dX2_addDoor_14 : decode cX2_addDoor 14 = .ok (.getfield 62, 3) := by decide +kernel
theorem dX2_addDoor_17 : decode cX2_addDoor 17 = .ok (.iload_n 1, 1) := by decide +kernel
theorem dX2_addDoor_18 : decode cX2_addDoor 18 = .ok (.iastore, 1) := by decide +kernel
theorem dX2_addDoor_19 : decode cX2_addDoor 19 = .ok (.aload_n 0, 1) := by decide +kernel
theorem dX2_addDoor_20 : decode cX2_addDoor 20 = .ok (.getfield 27, 3) := by decide +kernel
theorem dX2_addDoor_23 : decode cX2_addDoor 23 = .ok (.aload_n 0, 1) := by decide +kernel
theorem dX2_addDoor_24 : decode cX2_addDoor 24 = .ok (.getfield 62, 3) := by decide +kernel
theorem dX2_addDoor_27 : decode cX2_addDoor 27 = .ok (.iload_n 2, 1) := by decide +kernel
theorem dX2_addDoor_28 : decode cX2_addDoor 28 = .ok (.iastore, 1) := by decide +kernel
theorem dX2_addDoor_29 : decode cX2_addDoor 29 = .ok (.aload_n 0, 1) := by decide +kernel
theorem dX2_addDoor_30 : decode cX2_addDoor 30 = .ok (.getfield 52, 3) := by decide +kernel
theorem dX2_addDoor_33 : decode cX2_addDoor 33 = .ok (.iload_n 1, 1) := by decide +kernel
theorem dX2_addDoor_34 : decode cX2_addDoor 34 = .ok (.bipush 9, 2) := by decide +kernel
theorem dX2_addDoor_36 : decode cX2_addDoor 36 = .ok (.imul, 1) := by decide +kernel
theorem dX2_addDoor_37 : decode cX2_addDoor 37 = .ok (.iload_n 2, 1) := by decide +kernel
theorem dX2_addDoor_38 : decode cX2_addDoor 38 = .ok (.iadd, 1) := by decide +kernel
theorem dX2_addDoor_39 : decode cX2_addDoor 39 = .ok (.iload_n 3, 1) := by decide +kernel
theorem dX2_addDoor_40 : decode cX2_addDoor 40 = .ok (.iastore, 1) := by decide +kernel
theorem dX2_addDoor_41 : decode cX2_addDoor 41 = .ok (.aload_n 0, 1) := by decide +kernel
theorem dX2_addDoor_42 : decode cX2_addDoor 42 = .ok (.getfield 52, 3) := by decide +kernel
theorem dX2_addDoor_45 : decode cX2_addDoor 45 = .ok (.iload_n 2, 1) := by decide +kernel
theorem dX2_addDoor_46 : decode cX2_addDoor 46 = .ok (.bipush 9, 2) := by decide +kernel
theorem dX2_addDoor_48 : decode cX2_addDoor 48 = .ok (.imul, 1) := by decide +kernel
theorem dX2_addDoor_49 : decode cX2_addDoor 49 = .ok (.iload_n 1, 1) := by decide +kernel
theorem dX2_addDoor_50 : decode cX2_addDoor 50 = .ok (.iadd, 1) := by decide +kernel
theorem dX2_addDoor_51 : decode cX2_addDoor 51 = .ok (.iload_n 3, 1) := by decide +kernel
theorem dX2_addDoor_52 : decode cX2_addDoor 52 = .ok (.iastore, 1) := by decide +kernel
theorem dX2_addDoor_53 : decode cX2_addDoor 53 = .ok (.aload_n 0, 1) := by decide +kernel
theorem dX2_addDoor_54 : decode cX2_addDoor 54 = .ok (.dup, 1) := by decide +kernel
theorem dX2_addDoor_55 : decode cX2_addDoor 55 = .ok (.getfield 62, 3) := by decide +kernel
theorem dX2_addDoor_58 : decode cX2_addDoor 58 = .ok (.iconst 1, 1) := by decide +kernel
theorem dX2_addDoor_59 : decode cX2_addDoor 59 = .ok (.iadd, 1) := by decide +kernel
theorem dX2_addDoor_60 : decode cX2_addDoor 60 = .ok (.putfield 62, 3) := by decide +kernel
theorem dX2_addDoor_63 : decode cX2_addDoor 63 = .ok (.return_, 1) := by decide +kernel
theorem dX2_measure_0 : decode cX2_measure 0 = .ok (.aload_n 0, 1) := by decide +kernel
theorem dX2_measure_1 : decode cX2_measure 1 = .ok (.getfield 55, 3) := by decide +kernel
theorem dX2_measure_4 : decode cX2_measure 4 = .ok (.iconst 0, 1) := by decide +kernel
theorem dX2_measure_5 : decode cX2_measure 5 = .ok (.invokestatic 80, 3) := by decide +kernel
theorem dX2_measure_8 : decode cX2_measure 8 = .ok (.iconst 0, 1) := by decide +kernel
theorem dX2_measure_9 : decode cX2_measure 9 = .ok (.istore_n 1, 1) := by decide +kernel
theorem dX2_measure_10 : decode cX2_measure 10 = .ok (.iload_n 1, 1) := by decide +kernel
theorem dX2_measure_11 : decode cX2_measure 11 = .ok (.aload_n 0, 1) := by decide +kernel
theorem dX2_measure_12 : decode cX2_measure 12 = .ok (.getfield 58, 3) := by decide +kernel
theorem dX2_measure_15 : decode cX2_measure 15 = .ok (.if_icmp .ge 24, 3) := by decide +kernel
theorem dX2_measure_18 : decode cX2_measure 18 = .ok (.aload_n 0, 1) := by decide +kernel
theorem dX2_measure_19 : decode cX2_measure 19 = .ok (.getfield 55, 3) := by decide +kernel
theorem dX2_measure_22 : decode cX2_measure 22 = .ok (.aload_n 0, 1) := by decide +kernel
theorem dX2_measure_23 : decode cX2_measure 23 = .ok (.getfield 15, 3) := by decide +kernel
theorem dX2_measure_26 : decode cX2_measure 26 = .ok (.iload_n 1, 1) := by decide +kernel
theorem dX2_measure_27 : decode cX2_measure 27 = .ok (.iaload, 1) := by decide +kernel
theorem dX2_measure_28 : decode cX2_measure 28 = .ok (.dup2, 1) := by decide +kernel
theorem dX2_measure_29 : decode cX2_measure 29 = .ok (.iaload, 1) := by decide +kernel
theorem dX2_measure_30 : decode cX2_measure 30 = .ok (.iconst 1, 1) := by decide +kernel
theorem dX2_measure_31 : decode cX2_measure 31 = .ok (.iadd, 1) := by decide +kernel
theorem dX2_measure_32 : decode cX2_measure 32 = .ok (.iastore, 1) := by decide +kernel
theorem dX2_measure_33 : decode cX2_measure 33 = .ok (.iinc 1 1, 3) := by decide +kernel
theorem dX2_measure_36 : decode cX2_measure 36 = .ok (.goto (-26), 3) := by decide +kernel
theorem dX2_measure_39 : decode cX2_measure 39 = .ok (.iconst 0, 1) := by decide +kernel
theorem dX2_measure_40 : decode cX2_measure 40 = .ok (.istore_n 1, 1) := by decide +kernel
theorem dX2_measure_41 : decode cX2_measure 41 = .ok (.iload_n 1, 1) := by decide +kernel
theorem dX2_measure_42 : decode cX2_measure 42 = .ok (.aload_n 0, 1) := by decide +kernel
theorem dX2_measure_43 : decode cX2_measure 43 = .ok (.getfield 58, 3) := by decide +kernel
theorem dX2_measure_46 : decode cX2_measure 46 = .ok (.if_icmp .ge 21, 3) := by decide +kernel
theorem dX2_measure_49 : decode cX2_measure 49 = .ok (.aload_n 0, 1) := by decide +kernel
theorem dX2_measure_50 : decode cX2_measure 50 = .ok (.getfield 52, 3) := by decide +kernel
theorem dX2_measure_53 : decode cX2_measure 53 = .ok (.iload_n 1, 1) := by decide +kernel
theorem dX2_measure_54 : decode cX2_measure 54 = .ok (.bipush 9, 2) := by decide +kernel
theorem dX2_measure_56 : decode cX2_measure 56 = .ok (.imul, 1) := by decide +kernel
theorem dX2_measure_57 : decode cX2_measure 57 = .ok (.iload_n 1, 1) := by decide +kernel
theorem dX2_measure_58 : decode cX2_measure 58 = .ok (.iadd, 1) := by decide +kernel
theorem dX2_measure_59 : decode cX2_measure 59 = .ok (.iconst 0, 1) := by decide +kernel
theorem dX2_measure_60 : decode cX2_measure 60 = .ok (.iastore, 1) := by decide +kernel
theorem dX2_measure_61 : decode cX2_measure 61 = .ok (.iinc 1 1, 3) := by decide +kernel
theorem dX2_measure_64 : decode cX2_measure 64 = .ok (.goto (-23), 3) := by decide +kernel
theorem dX2_measure_67 : decode cX2_measure 67 = .ok (.iconst 0, 1) := by decide +kernel
theorem dX2_measure_68 : decode cX2_measure 68 = .ok (.istore_n 1, 1) := by decide +kernel
theorem dX2_measure_69 : decode cX2_measure 69 = .ok (.iload_n 1, 1) := by decide +kernel
theorem dX2_measure_70 : decode cX2_measure 70 = .ok (.aload_n 0, 1) := by decide +kernel
theorem dX2_measure_71 : decode cX2_measure 71 = .ok (.getfield 58, 3) := by decide +kernel
theorem dX2_measure_74 : decode cX2_measure 74 = .ok (.if_icmp .ge 14, 3) := by decide +kernel
theorem dX2_measure_77 : decode cX2_measure 77 = .ok (.aload_n 0, 1) := by decide +kernel
theorem dX2_measure_78 : decode cX2_measure 78 = .ok (.iload_n 1, 1) := by decide +kernel
theorem dX2_measure_79 : decode cX2_measure 79 = .ok (.invokevirtual 86, 3) := by decide +kernel
theorem dX2_measure_82 : decode cX2_measure 82 = .ok (.iinc 1 1, 3) := by decide +kernel
theorem dX2_measure_85 : decode cX2_measure 85 = .ok (.goto (-16), 3) := by decide +kernel
theorem dX2_measure_88 : decode cX2_measure 88 = .ok (.return_, 1) := by decide +kernel
theorem dX2_shortenBy_0 : decode cX2_shortenBy 0 = .ok (.iconst 0, 1) := by decide +kernel
theorem dX2_shortenBy_1 : decode cX2_shortenBy 1 = .ok (.istore_n 2, 1) := by decide +kernel
theorem dX2_shortenBy_2 : decode cX2_shortenBy 2 = .ok (.iload_n 2, 1) := by decide +kernel
theorem dX2_shortenBy_3 : decode cX2_shortenBy 3 = .ok (.aload_n 0, 1) := by decide +kernel
theorem dX2_shortenBy_4 : decode cX2_shortenBy 4 = .ok (.getfield 58, 3) := by decide +kernel
theorem dX2_shortenBy_7 : decode cX2_shortenBy 7 = .ok (.if_icmp .ge 93, 3) := by decide +kernel
theorem dX2_shortenBy_10 : decode cX2_shortenBy 10 = .ok (.iconst 0, 1) := by decide +kernel
theorem dX2_shortenBy_11 : decode cX2_shortenBy 11 = .ok (.istore_n 3, 1) := by decide +kernel
theorem dX2_shortenBy_12 : decode cX2_shortenBy 12 = .ok (.iload_n 3, 1) := by decide +kernel
theorem dX2_shortenBy_13 : decode cX2_shortenBy 13 = .ok (.aload_n 0, 1) := by decide +kernel
theorem dX2_shortenBy_14 : decode cX2_shortenBy 14 = .ok (.getfield 58, 3) := by decide +kernel
theorem dX2_shortenBy_17 : decode cX2_shortenBy 17 = .ok (.if_icmp .ge 77, 3) := by decide +kernel
theorem dX2_shortenBy_20 : decode cX2_shortenBy 20 = .ok (.aload_n 0, 1) := by decide +kernel
theorem dX2_shortenBy_21 : decode cX2_shortenBy 21 = .ok (.getfield 52, 3) := by decide +kernel
theorem dX2_shortenBy_24 : decode cX2_shortenBy 24 = .ok (.iload_n 2, 1) := by decide +kernel
theorem dX2_shortenBy_25 : decode cX2_shortenBy 25 = .ok (.bipush 9, 2) := by decide +kernel
theorem dX2_shortenBy_27 : decode cX2_shortenBy 27 = .ok (.imul, 1) := by decide +kernel
theorem dX2_shortenBy_28 : decode cX2_shortenBy 28 = .ok (.iload_n 1, 1) := by decide +kernel
theorem dX2_shortenBy_29 : decode cX2_shortenBy 29 = .ok (.iadd, 1) := by decide +kernel
theorem dX2_shortenBy_30 : decode cX2_shortenBy 30 = .ok (.iaload, 1) := by decide +kernel
theorem dX2_shortenBy_31 : decode cX2_shortenBy 31 = .ok (.istore 4, 2) := by decide +kernel
theorem dX2_shortenBy_33 : decode cX2_shortenBy 33 = .ok (.aload_n 0, 1) := by decide +kernel
theorem dX2_shortenBy_34 : decode cX2_shortenBy 34 = .ok (.getfield 52, 3) := by decide +kernel
theorem dX2_shortenBy_37 : decode cX2_shortenBy 37 = .ok (.iload_n 1, 1) := by decide +kernel
theorem dX2_shortenBy_38 : decode cX2_shortenBy 38 = .ok (.bipush 9, 2) := by decide +kernel
theorem dX2_shortenBy_40 : decode cX2_shortenBy 40 = .ok (.imul, 1) := by decide +kernel
theorem dX2_shortenBy_41 : decode cX2_shortenBy 41 = .ok (.iload_n 3, 1) := by decide +kernel
theorem dX2_shortenBy_42 : decode cX2_shortenBy 42 = .ok (.iadd, 1) := by decide +kernel
theorem dX2_shortenBy_43 : decode cX2_shortenBy 43 = .ok (.iaload, 1) := by decide +kernel
theorem dX2_shortenBy_44 : decode cX2_shortenBy 44 = .ok (.istore 5, 2) := by decide +kernel
theorem dX2_shortenBy_46 : decode cX2_shortenBy 46 = .ok (.iload 4, 2) := by decide +kernel
theorem dX2_shortenBy_48 : decode cX2_shortenBy 48 = .ok (.iconst (-1), 1) := by decide +kernel
theorem dX2_shortenBy_49 : decode cX2_shortenBy 49 = .ok (.if_icmp .eq 39, 3) := by decide +kernel
theorem dX2_shortenBy_52 : decode cX2_shortenBy 52 = .ok (.iload 5, 2) := by decide +kernel
theorem dX2_shortenBy_54 : decode cX2_shortenBy 54 = .ok (.iconst (-1), 1) := by decide +kernel
theorem dX2_shortenBy_55 : decode cX2_shortenBy 55 = .ok (.if_icmp .eq 33, 3) := by decide +kernel
theorem dX2_shortenBy_58 : decode cX2_shortenBy 58 = .ok (.iload_n 2, 1) := by decide +kernel
theorem dX2_shortenBy_59 : decode cX2_shortenBy 59 = .ok (.bipush 9, 2) := by decide +kernel
theorem dX2_shortenBy_61 : decode cX2_shortenBy 61 = .ok (.imul, 1) := by decide +kernel
theorem dX2_shortenBy_62 : decode cX2_shortenBy 62 = .ok (.iload_n 3, 1) := by decide +kernel
theorem dX2_shortenBy_63 : decode cX2_shortenBy 63 = .ok (.iadd, 1) := by decide +kernel
theorem dX2_shortenBy_64 : decode cX2_shortenBy 64 = .ok (.istore 6, 2) := by decide +kernel
theorem dX2_shortenBy_66 : decode cX2_shortenBy 66 = .ok (.aload_n 0, 1) := by decide +kernel
theorem dX2_shortenBy_67 : decode cX2_shortenBy 67 = .ok (.getfield 52, 3) := by decide +kernel
theorem dX2_shortenBy_70 : decode cX2_shortenBy 70 = .ok (.iload 6, 2) := by decide +kernel
theorem dX2_shortenBy_72 : decode cX2_shortenBy 72 = .ok (.aload_n 0, 1) := by decide +kernel
theorem dX2_shortenBy_73 : decode cX2_shortenBy 73 = .ok (.getfield 52, 3) := by decide +kernel
theorem dX2_shortenBy_76 : decode cX2_shortenBy 76 = .ok (.iload 6, 2) := by decide +kernel
theorem dX2_shortenBy_78 : decode cX2_shortenBy 78 = .ok (.iaload, 1) := by decide +kernel
theorem dX2_shortenBy_79 : decode cX2_shortenBy 79 = .ok (.iload 4, 2) := by decide +kernel
theorem dX2_shortenBy_81 : decode cX2_shortenBy 81 = .ok (.iload 5, 2) := by decide +kernel
theorem dX2_shortenBy_83 : decode cX2_shortenBy 83 = .ok (.iadd, 1) := by decide +kernel
theorem dX2_shortenBy_84 : decode cX2_shortenBy 84 = .ok (.invokestatic 90, 3) := by decide +kernel
theorem dX2_shortenBy_87 : decode cX2_shortenBy 87 = .ok (.iastore, 1) := by decide +kernel
theorem dX2_shortenBy_88 : decode cX2_shortenBy 88 = .ok (.iinc 3 1, 3) := by decide +kernel
theorem dX2_shortenBy_91 : decode cX2_shortenBy 91 = .ok (.goto (-79), 3) := by decide +kernel
theorem dX2_shortenBy_94 : decode cX2_shortenBy 94 = .ok (.iinc 2 1, 3) := by decide +kernel
theorem dX2_shortenBy_97 : decode cX2_shortenBy 97 = .ok (.goto (-95), 3) := by decide +kernel
theorem dX2_shortenBy_100 : decode cX2_shortenBy 100 = .ok (.return_, 1) := by decide +kernel
theorem dX2_wayFrom_0 : decode cX2_wayFrom 0 = .ok (.aload_n 0, 1) := by decide +kernel
theorem dX2_wayFrom_1 : decode cX2_wayFrom 1 = .ok (.getfield 52, 3) := by decide +kernel
theorem dX2_wayFrom_4 : decode cX2_wayFrom 4 = .ok (.iload_n 1, 1) := by decide +kernel
theorem dX2_wayFrom_5 : decode cX2_wayFrom 5 = .ok (.bipush 9, 2) := by decide +kernel
theorem dX2_wayFrom_7 : decode cX2_wayFrom 7 = .ok (.imul, 1) := by decide +kernel
theorem dX2_wayFrom_8 : decode cX2_wayFrom 8 = .ok (.iload_n 2, 1) := by decide +kernel
theorem dX2_wayFrom_9 : decode cX2_wayFrom 9 = .ok (.iadd, 1) := by decide +kernel
theorem dX2_wayFrom_10 : decode cX2_wayFrom 10 = .ok (.iaload, 1) := by decide +kernel
theorem dX2_wayFrom_11 : decode cX2_wayFrom 11 = .ok (.ireturn, 1) := by decide +kernel
theorem dX2_hasDoor_0 : decode cX2_hasDoor 0 = .ok (.iconst 0, 1) := by decide +kernel
theorem dX2_hasDoor_1 : decode cX2_hasDoor 1 = .ok (.istore_n 3, 1) := by decide +kernel
theorem dX2_hasDoor_2 : decode cX2_hasDoor 2 = .ok (.iload_n 3, 1) := by decide +kernel
theorem dX2_hasDoor_3 : decode cX2_hasDoor 3 = .ok (.aload_n 0, 1) := by decide +kernel
theorem dX2_hasDoor_4 : decode cX2_hasDoor 4 = .ok (.getfield 62, 3) := by decide +kernel
theorem dX2_hasDoor_7 : decode cX2_hasDoor 7 = .ok (.if_icmp .ge 21, 3) := by decide +kernel
theorem dX2_hasDoor_10 : decode cX2_hasDoor 10 = .ok (.aload_n 0, 1) := by decide +kernel
theorem dX2_hasDoor_11 : decode cX2_hasDoor 11 = .ok (.iload_n 3, 1) := by decide +kernel
theorem dX2_hasDoor_12 : decode cX2_hasDoor 12 = .ok (.iload_n 1, 1) := by decide +kernel
theorem dX2_hasDoor_13 : decode cX2_hasDoor 13 = .ok (.invokevirtual 94, 3) := by decide +kernel
theorem dX2_hasDoor_16 : decode cX2_hasDoor 16 = .ok (.iload_n 2, 1) := by decide +kernel
theorem dX2_hasDoor_17 : decode cX2_hasDoor 17 = .ok (.if_icmp .ne 5, 3) := by decide +kernel
theorem dX2_hasDoor_20 : decode cX2_hasDoor 20 = .ok (.iconst 1, 1) := by decide +kernel
theorem dX2_hasDoor_21 : decode cX2_hasDoor 21 = .ok (.ireturn, 1) := by decide +kernel
theorem dX2_hasDoor_22 : decode cX2_hasDoor 22 = .ok (.iinc 3 1, 3) := by decide +kernel
theorem dX2_hasDoor_25 : decode cX2_hasDoor 25 = .ok (.goto (-23), 3) := by decide +kernel
theorem dX2_hasDoor_28 : decode cX2_hasDoor 28 = .ok (.iconst 0, 1) := by decide +kernel
theorem dX2_hasDoor_29 : decode cX2_hasDoor 29 = .ok (.ireturn, 1) := by decide +kernel
theorem dX2_doorsOf_0 : decode cX2_doorsOf 0 = .ok (.iconst 0, 1) := by decide +kernel
theorem dX2_doorsOf_1 : decode cX2_doorsOf 1 = .ok (.istore_n 2, 1) := by decide +kernel
theorem dX2_doorsOf_2 : decode cX2_doorsOf 2 = .ok (.iconst 0, 1) := by decide +kernel
theorem dX2_doorsOf_3 : decode cX2_doorsOf 3 = .ok (.istore_n 3, 1) := by decide +kernel
theorem dX2_doorsOf_4 : decode cX2_doorsOf 4 = .ok (.iload_n 3, 1) := by decide +kernel
theorem dX2_doorsOf_5 : decode cX2_doorsOf 5 = .ok (.aload_n 0, 1) := by decide +kernel
theorem dX2_doorsOf_6 : decode cX2_doorsOf 6 = .ok (.getfield 62, 3) := by decide +kernel
theorem dX2_doorsOf_9 : decode cX2_doorsOf 9 = .ok (.if_icmp .ge 27, 3) := by decide +kernel
theorem dX2_doorsOf_12 : decode cX2_doorsOf 12 = .ok (.iload_n 2, 1) := by decide +kernel
theorem dX2_doorsOf_13 : decode cX2_doorsOf 13 = .ok (.aload_n 0, 1) := by decide +kernel
theorem dX2_doorsOf_14 : decode cX2_doorsOf 14 = .ok (.iload_n 3, 1) := by decide +kernel
theorem dX2_doorsOf_15 : decode cX2_doorsOf 15 = .ok (.iload_n 1, 1) := by decide +kernel
theorem dX2_doorsOf_16 : decode cX2_doorsOf 16 = .ok (.invokevirtual 94, 3) := by decide +kernel
theorem dX2_doorsOf_19 : decode cX2_doorsOf 19 = .ok (.iconst (-1), 1) := by decide +kernel
theorem dX2_doorsOf_20 : decode cX2_doorsOf 20 = .ok (.if_icmp .eq 7, 3) := by decide +kernel
theorem dX2_doorsOf_23 : decode cX2_doorsOf 23 = .ok (.iconst 1, 1) := by decide +kernel
theorem dX2_doorsOf_24 : decode cX2_doorsOf 24 = .ok (.goto 4, 3) := by decide +kernel
theorem dX2_doorsOf_27 : decode cX2_doorsOf 27 = .ok (.iconst 0, 1) := by decide +kernel
theorem dX2_doorsOf_28 : decode cX2_doorsOf 28 = .ok (.iadd, 1) := by decide +kernel
theorem dX2_doorsOf_29 : decode cX2_doorsOf 29 = .ok (.istore_n 2, 1) := by decide +kernel
theorem dX2_doorsOf_30 : decode cX2_doorsOf 30 = .ok (.iinc 3 1, 3) := by decide +kernel
theorem dX2_doorsOf_33 : decode cX2_doorsOf 33 = .ok (.goto (-29), 3) := by decide +kernel
theorem dX2_doorsOf_36 : decode cX2_doorsOf 36 = .ok (.iload_n 2, 1) := by decide +kernel
theorem dX2_doorsOf_37 : decode cX2_doorsOf 37 = .ok (.ireturn, 1) := by decide +kernel
theorem dX2_behindFirstDoor_0 : decode cX2_behindFirstDoor 0 = .ok (.iconst 0, 1) := by decide +kernel
theorem dX2_behindFirstDoor_1 : decode cX2_behindFirstDoor 1 = .ok (.istore_n 2, 1) := by decide +kernel
theorem dX2_behindFirstDoor_2 : decode cX2_behindFirstDoor 2 = .ok (.iload_n 2, 1) := by decide +kernel
theorem dX2_behindFirstDoor_3 : decode cX2_behindFirstDoor 3 = .ok (.aload_n 0, 1) := by decide +kernel
theorem dX2_behindFirstDoor_4 : decode cX2_behindFirstDoor 4 = .ok (.getfield 62, 3) := by decide +kernel
theorem dX2_behindFirstDoor_7 : decode cX2_behindFirstDoor 7 = .ok (.if_icmp .ge 26, 3) := by decide +kernel
theorem dX2_behindFirstDoor_10 : decode cX2_behindFirstDoor 10 = .ok (.aload_n 0, 1) := by decide +kernel
theorem dX2_behindFirstDoor_11 : decode cX2_behindFirstDoor 11 = .ok (.iload_n 2, 1) := by decide +kernel
theorem dX2_behindFirstDoor_12 : decode cX2_behindFirstDoor 12 = .ok (.iload_n 1, 1) := by decide +kernel
theorem dX2_behindFirstDoor_13 : decode cX2_behindFirstDoor 13 = .ok (.invokevirtual 94, 3) := by decide +kernel
theorem dX2_behindFirstDoor_16 : decode cX2_behindFirstDoor 16 = .ok (.iconst (-1), 1) := by decide +kernel
theorem dX2_behindFirstDoor_17 : decode cX2_behindFirstDoor 17 = .ok (.if_icmp .eq 10, 3) := by decide +kernel
theorem dX2_behindFirstDoor_20 : decode cX2_behindFirstDoor 20 = .ok (.aload_n 0, 1) := by decide +kernel
theorem dX2_behindFirstDoor_21 : decode cX2_behindFirstDoor 21 = .ok (.iload_n 2, 1) := by decide +kernel
theorem dX2_behindFirstDoor_22 : decode cX2_behindFirstDoor 22 = .ok (.iload_n 1, 1) := by decide +kernel
theorem dX2_behindFirstDoor_23 : decode cX2_behindFirstDoor 23 = .ok (.invokevirtual 94, 3) := by decide +kernel
theorem dX2_behindFirstDoor_26 : decode cX2_behindFirstDoor 26 = .ok (.ireturn, 1) := by decide +kernel
theorem dX2_behindFirstDoor_27 : decode cX2_behindFirstDoor 27 = .ok (.iinc 2 1, 3) := by decide +kernel
theorem dX2_behindFirstDoor_30 : decode cX2_behindFirstDoor 30 = .ok (.goto (-28), 3) := by decide +kernel
theorem dX2_behindFirstDoor_33 : decode cX2_behindFirstDoor 33 = .ok (.iconst (-1), 1) := by decide +kernel
theorem dX2_behindFirstDoor_34 : decode cX2_behindFirstDoor 34 = .ok (.ireturn, 1) := by decide +kernel
theorem dX2_behind_0 : decode cX2_behind 0 = .ok (.aload_n 0, 1) := by decide +kernel
theorem dX2_behind_1 : decode cX2_behind 1 = .ok (.getfield 24, 3) := by decide +kernel
theorem dX2_behind_4 : decode cX2_behind 4 = .ok (.iload_n 1, 1) := by decide +kernel
theorem dX2_behind_5 : decode cX2_behind 5 = .ok (.iaload, 1) := by decide +kernel
theorem dX2_behind_6 : decode cX2_behind 6 = .ok (.iload_n 2, 1) := by decide +kernel
theorem dX2_behind_7 : decode cX2_behind 7 = .ok (.if_icmp .ne 10, 3) := by decide +kernel
theorem dX2_behind_10 : decode cX2_behind 10 = .ok (.aload_n 0, 1) := by decide +kernel
theorem dX2_behind_11 : decode cX2_behind 11 = .ok (.getfield 27, 3) := by decide +kernel
theorem dX2_behind_14 : decode cX2_behind 14 = .ok (.iload_n 1, 1) := by decide +kernel
theorem dX2_behind_15 : decode cX2_behind 15 = .ok (.iaload, 1) := by decide +kernel
theorem dX2_behind_16 : decode cX2_behind 16 = .ok (.ireturn, 1) := by decide +kernel
theorem dX2_behind_17 : decode cX2_behind 17 = .ok (.aload_n 0, 1) := by decide +kernel
theorem dX2_behind_18 : decode cX2_behind 18 = .ok (.getfield 27, 3) := by decide +kernel
theorem dX2_behind_21 : decode cX2_behind 21 = .ok (.iload_n 1, 1) := by decide +kernel
theorem dX2_behind_22 : decode cX2_behind 22 = .ok (.iaload, 1) := by decide +kernel
theorem dX2_behind_23 : decode cX2_behind 23 = .ok (.iload_n 2, 1) := by decide +kernel
theorem dX2_behind_24 : decode cX2_behind 24 = .ok (.if_icmp .ne 12, 3) := by decide +kernel
theorem dX2_behind_27 : decode cX2_behind 27 = .ok (.aload_n 0, 1) := by decide +kernel
theorem dX2_behind_28 : decode cX2_behind 28 = .ok (.getfield 24, 3) := by decide +kernel
theorem dX2_behind_31 : decode cX2_behind 31 = .ok (.iload_n 1, 1) := by decide +kernel
theorem dX2_behind_32 : decode cX2_behind 32 = .ok (.iaload, 1) := by decide +kernel
theorem dX2_behind_33 : decode cX2_behind 33 = .ok (.goto 4, 3) := by decide +kernel
theorem dX2_behind_36 : decode cX2_behind 36 = .ok (.iconst (-1), 1) := by decide +kernel
theorem dX2_behind_37 : decode cX2_behind 37 = .ok (.ireturn, 1) := by decide +kernel
theorem dX2_comesTo_0 : decode cX2_comesTo 0 = .ok (.aload_n 0, 1) := by decide +kernel
theorem dX2_comesTo_1 : decode cX2_comesTo 1 = .ok (.getfield 9, 3) := by decide +kernel
theorem dX2_comesTo_4 : decode cX2_comesTo 4 = .ok (.iload_n 1, 1) := by decide +kernel
theorem dX2_comesTo_5 : decode cX2_comesTo 5 = .ok (.iaload, 1) := by decide +kernel
theorem dX2_comesTo_6 : decode cX2_comesTo 6 = .ok (.iconst 2, 1) := by decide +kernel
theorem dX2_comesTo_7 : decode cX2_comesTo 7 = .ok (.if_icmp .ne 14, 3) := by decide +kernel
theorem dX2_comesTo_10 : decode cX2_comesTo 10 = .ok (.iconst 2, 1) := by decide +kernel
theorem dX2_comesTo_11 : decode cX2_comesTo 11 = .ok (.aload_n 0, 1) := by decide +kernel
theorem dX2_comesTo_12 : decode cX2_comesTo 12 = .ok (.getfield 21, 3) := by decide +kernel
theorem dX2_comesTo_15 : decode cX2_comesTo 15 = .ok (.iload_n 1, 1) := by decide +kernel
theorem dX2_comesTo_16 : decode cX2_comesTo 16 = .ok (.iaload, 1) := by decide +kernel
theorem dX2_comesTo_17 : decode cX2_comesTo 17 = .ok (.imul, 1) := by decide +kernel
theorem dX2_comesTo_18 : decode cX2_comesTo 18 = .ok (.goto 9, 3) := by decide +kernel
theorem dX2_comesTo_21 : decode cX2_comesTo 21 = .ok (.aload_n 0, 1) := by decide +kernel
theorem dX2_comesTo_22 : decode cX2_comesTo 22 = .ok (.getfield 21, 3) := by decide +kernel
theorem dX2_comesTo_25 : decode cX2_comesTo 25 = .ok (.iload_n 1, 1) := by decide +kernel
theorem dX2_comesTo_26 : decode cX2_comesTo 26 = .ok (.iaload, 1) := by decide +kernel
theorem dX2_comesTo_27 : decode cX2_comesTo 27 = .ok (.ireturn, 1) := by decide +kernel
theorem dX2_arrives_0 : decode cX2_arrives 0 = .ok (.aload_n 0, 1) := by decide +kernel
theorem dX2_arrives_1 : decode cX2_arrives 1 = .ok (.getfield 9, 3) := by decide +kernel
theorem dX2_arrives_4 : decode cX2_arrives 4 = .ok (.iload_n 1, 1) := by decide +kernel
theorem dX2_arrives_5 : decode cX2_arrives 5 = .ok (.iaload, 1) := by decide +kernel
theorem dX2_arrives_6 : decode cX2_arrives 6 = .ok (.iconst 1, 1) := by decide +kernel
theorem dX2_arrives_7 : decode cX2_arrives 7 = .ok (.if_icmp .ne 9, 3) := by decide +kernel
theorem dX2_arrives_10 : decode cX2_arrives 10 = .ok (.iload_n 2, 1) := by decide +kernel
theorem dX2_arrives_11 : decode cX2_arrives 11 = .ok (.iconst 2, 1) := by decide +kernel
theorem dX2_arrives_12 : decode cX2_arrives 12 = .ok (.idiv, 1) := by decide +kernel
theorem dX2_arrives_13 : decode cX2_arrives 13 = .ok (.goto 4, 3) := by decide +kernel
theorem dX2_arrives_16 : decode cX2_arrives 16 = .ok (.iload_n 2, 1) := by decide +kernel
theorem dX2_arrives_17 : decode cX2_arrives 17 = .ok (.ireturn, 1) := by decide +kernel
theorem dX3_init_0 : decode cX3_init 0 = .ok (.aload_n 0, 1) := by decide +kernel
theorem dX3_init_1 : decode cX3_init 1 = .ok (.invokespecial 1, 3) := by decide +kernel
theorem dX3_init_4 : decode cX3_init 4 = .ok (.aload_n 0, 1) := by decide +kernel
theorem dX3_init_5 : decode cX3_init 5 = .ok (.new 7, 3) := by decide +kernel
theorem dX3_init_8 : decode cX3_init 8 = .ok (.dup, 1) := by decide +kernel
theorem dX3_init_9 : decode cX3_init 9 = .ok (.invokespecial 9, 3) := by decide +kernel
theorem dX3_init_12 : decode cX3_init 12 = .ok (.putfield 10, 3) := by decide +kernel
theorem dX3_init_15 : decode cX3_init 15 = .ok (.aload_n 0, 1) := by decide +kernel
theorem dX3_init_16 : decode cX3_init 16 = .ok (.new 16, 3) := by decide +kernel
theorem dX3_init_19 : decode cX3_init 19 = .ok (.dup, 1) := by decide +kernel
theorem dX3_init_20 : decode cX3_init 20 = .ok (.invokespecial 18, 3) := by decide +kernel
theorem dX3_init_23 : decode cX3_init 23 = .ok (.putfield 19, 3) := by decide +kernel
theorem dX3_init_26 : decode cX3_init 26 = .ok (.aload_n 0, 1) := by decide +kernel
theorem dX3_init_27 : decode cX3_init 27 = .ok (.new 23, 3) := by decide +kernel
theorem dX3_init_30 : decode cX3_init 30 = .ok (.dup, 1) := by decide +kernel
theorem dX3_init_31 : decode cX3_init 31 = .ok (.invokespecial 25, 3) := by decide +kernel
theorem dX3_init_34 : decode cX3_init 34 = .ok (.putfield 26, 3) := by decide +kernel
theorem dX3_init_37 : decode cX3_init 37 = .ok (.aload_n 0, 1) := by decide +kernel
theorem dX3_init_38 : decode cX3_init 38 = .ok (.iconst 3, 1) := by decide +kernel
theorem dX3_init_39 : decode cX3_init 39 = .ok (.newarray .int, 2) := by decide +kernel
theorem dX3_init_41 : decode cX3_init 41 = .ok (.putfield 30, 3) := by decide +kernel
theorem dX3_init_44 : decode cX3_init 44 = .ok (.return_, 1) := by decide +kernel
theorem dX3_begin_0 : decode cX3_begin 0 = .ok (.aload_n 0, 1) := by decide +kernel
theorem dX3_begin_1 : decode cX3_begin 1 = .ok (.getfield 10, 3) := by decide +kernel
theorem dX3_begin_4 : decode cX3_begin 4 = .ok (.aload_n 1, 1) := by decide +kernel
theorem dX3_begin_5 : decode cX3_begin 5 = .ok (.invokevirtual 34, 3) := by decide +kernel
theorem dX3_begin_8 : decode cX3_begin 8 = .ok (.aload_n 0, 1) := by decide +kernel
theorem dX3_begin_9 : decode cX3_begin 9 = .ok (.getfield 19, 3) := by decide +kernel
theorem dX3_begin_12 : decode cX3_begin 12 = .ok (.iconst 0, 1) := by decide +kernel
theorem dX3_begin_13 : decode cX3_begin 13 = .ok (.putfield 38, 3) := by decide +kernel
theorem dX3_begin_16 : decode cX3_begin 16 = .ok (.aload_n 0, 1) := by decide +kernel
theorem dX3_begin_17 : decode cX3_begin 17 = .ok (.getfield 26, 3) := by decide +kernel
theorem dX3_begin_20 : decode cX3_begin 20 = .ok (.iconst 0, 1) := by decide +kernel
theorem dX3_begin_21 : decode cX3_begin 21 = .ok (.putfield 42, 3) := by decide +kernel
theorem dX3_begin_24 : decode cX3_begin 24 = .ok (.return_, 1) := by decide +kernel
theorem dX3_copy_0 : decode cX3_copy 0 = .ok (.aload_n 0, 1) := by decide +kernel
theorem dX3_copy_1 : decode cX3_copy 1 = .ok (.getfield 10, 3) := by decide +kernel
theorem dX3_copy_4 : decode cX3_copy 4 = .ok (.aload_n 1, 1) := by decide +kernel
theorem dX3_copy_5 : decode cX3_copy 5 = .ok (.getfield 10, 3) := by decide +kernel
theorem dX3_copy_8 : decode cX3_copy 8 = .ok (.invokevirtual 43, 3) := by decide +kernel
theorem dX3_copy_11 : decode cX3_copy 11 = .ok (.aload_n 0, 1) := by decide +kernel
theorem dX3_copy_12 : decode cX3_copy 12 = .ok (.getfield 19, 3) := by decide +kernel
theorem dX3_copy_15 : decode cX3_copy 15 = .ok (.aload_n 1, 1) := by decide +kernel
theorem dX3_copy_16 : decode cX3_copy 16 = .ok (.getfield 19, 3) := by decide +kernel
theorem dX3_copy_19 : decode cX3_copy 19 = .ok (.invokevirtual 47, 3) := by decide +kernel
theorem dX3_copy_22 : decode cX3_copy 22 = .ok (.aload_n 0, 1) := by decide +kernel
theorem dX3_copy_23 : decode cX3_copy 23 = .ok (.getfield 26, 3) := by decide +kernel
theorem dX3_copy_26 : decode cX3_copy 26 = .ok (.aload_n 1, 1) := by decide +kernel
theorem dX3_copy_27 : decode cX3_copy 27 = .ok (.getfield 26, 3) := by decide +kernel
theorem dX3_copy_30 : decode cX3_copy 30 = .ok (.invokevirtual 50, 3) := by decide +kernel
theorem dX3_copy_33 : decode cX3_copy 33 = .ok (.aload_n 1, 1) := by decide +kernel
theorem dX3_copy_34 : decode cX3_copy 34 = .ok (.getfield 30, 3) := by decide +kernel
theorem dX3_copy_37 : decode cX3_copy 37 = .ok (.iconst 0, 1) := by decide +kernel
theorem dX3_copy_38 : decode cX3_copy 38 = .ok (.aload_n 0, 1) := by decide +kernel
theorem dX3_copy_39 : decode cX3_copy 39 = .ok (.getfield 30, 3) := by decide +kernel
theorem dX3_copy_42 : decode cX3_copy 42 = .ok (.iconst 0, 1) := by decide +kernel
theorem dX3_copy_43 : decode cX3_copy 43 = .ok (.aload_n 0, 1) := by decide +kernel
theorem dX3_copy_44 : decode cX3_copy 44 = .ok (.getfield 30, 3) := by decide +kernel
theorem dX3_copy_47 : decode cX3_copy 47 = .ok (.arraylength, 1) := by decide +kernel
theorem dX3_copy_48 : decode cX3_copy 48 = .ok (.invokestatic 53, 3) := by decide +kernel
theorem dX3_copy_51 : decode cX3_copy 51 = .ok (.return_, 1) := by decide +kernel
theorem dX4_init_0 : decode cX4_init 0 = .ok (.aload_n 0, 1) := by decide +kernel
theorem dX4_init_1 : decode cX4_init 1 = .ok (.invokespecial 3, 3) := by decide +kernel
theorem dX4_init_4 : decode cX4_init 4 = .ok (.aload_n 0, 1) := by decide +kernel
theorem dX4_init_5 : decode cX4_init 5 = .ok (.iconst 0, 1) := by decide +kernel
theorem dX4_init_6 : decode cX4_init 6 = .ok (.putfield 9, 3) := by decide +kernel
theorem dX4_init_9 : decode cX4_init 9 = .ok (.aload_n 0, 1) := by decide +kernel
theorem dX4_init_10 : decode cX4_init 10 = .ok (.iconst 0, 1) := by decide +kernel
theorem dX4_init_11 : decode cX4_init 11 = .ok (.putfield 15, 3) := by decide +kernel
theorem dX4_init_14 : decode cX4_init 14 = .ok (.aload_n 0, 1) := by decide +kernel
theorem dX4_init_15 : decode cX4_init 15 = .ok (.iconst 0, 1) := by decide +kernel
theorem dX4_init_16 : decode cX4_init 16 = .ok (.putfield 19, 3) := by decide +kernel
theorem dX4_init_19 : decode cX4_init 19 = .ok (.aload_n 0, 1) := by decide +kernel
theorem dX4_init_20 : decode cX4_init 20 = .ok (.iconst 0, 1) := by decide +kernel
theorem dX4_init_21 : decode cX4_init 21 = .ok (.putfield 22, 3) := by decide +kernel
theorem dX4_init_24 : decode cX4_init 24 = .ok (.aload_n 0, 1) := by decide +kernel
theorem dX4_init_25 : decode cX4_init 25 = .ok (.iconst 0, 1) := by decide +kernel
theorem dX4_init_26 : decode cX4_init 26 = .ok (.putfield 25, 3) := by decide +kernel
theorem dX4_init_29 : decode cX4_init 29 = .ok (.aload_n 0, 1) := by decide +kernel
theorem dX4_init_30 : decode cX4_init 30 = .ok (.new 28, 3) := by decide +kernel
theorem dX4_init_33 : decode cX4_init 33 = .ok (.dup, 1) := by decide +kernel
theorem dX4_init_34 : decode cX4_init 34 = .ok (.aload_n 1, 1) := by decide +kernel
theorem dX4_init_35 : decode cX4_init 35 = .ok (.invokespecial 30, 3) := by decide +kernel
theorem dX4_init_38 : decode cX4_init 38 = .ok (.putfield 33, 3) := by decide +kernel
theorem dX4_init_41 : decode cX4_init 41 = .ok (.aload_n 0, 1) := by decide +kernel
theorem dX4_init_42 : decode cX4_init 42 = .ok (.new 37, 3) := by decide +kernel
theorem dX4_init_45 : decode cX4_init 45 = .ok (.dup, 1) := by decide +kernel
theorem dX4_init_46 : decode cX4_init 46 = .ok (.aload_n 0, 1) := by decide +kernel
theorem dX4_init_47 : decode cX4_init 47 = .ok (.getfield 33, 3) := by decide +kernel
theorem dX4_init_50 : decode cX4_init 50 = .ok (.aload_n 2, 1) := by decide +kernel
theorem dX4_init_51 : decode cX4_init 51 = .ok (.getfield 39, 3) := by decide +kernel
theorem dX4_init_54 : decode cX4_init 54 = .ok (.invokespecial 45, 3) := by decide +kernel
theorem dX4_init_57 : decode cX4_init 57 = .ok (.putfield 48, 3) := by decide +kernel
theorem dX4_init_60 : decode cX4_init 60 = .ok (.aload_n 0, 1) := by decide +kernel
theorem dX4_init_61 : decode cX4_init 61 = .ok (.aload_n 2, 1) := by decide +kernel
theorem dX4_init_62 : decode cX4_init 62 = .ok (.putfield 52, 3) := by decide +kernel
theorem dX4_init_65 : decode cX4_init 65 = .ok (.return_, 1) := by decide +kernel
theorem dX4_place_0 : decode cX4_place 0 = .ok (.aload_n 0, 1) := by decide +kernel
theorem dX4_place_1 : decode cX4_place 1 = .ok (.getfield 33, 3) := by decide +kernel
theorem dX4_place_4 : decode cX4_place 4 = .ok (.getfield 56, 3) := by decide +kernel
theorem dX4_place_7 : decode cX4_place 7 = .ok (.ireturn, 1) := by decide +kernel
theorem dX4_read_0 : decode cX4_read 0 = .ok (.aload_n 0, 1) := by decide +kernel
theorem dX4_read_1 : decode cX4_read 1 = .ok (.aload_n 2, 1) := by decide +kernel
theorem dX4_read_2 : decode cX4_read 2 = .ok (.putfield 52, 3) := by decide +kernel
theorem dX4_read_5 : decode cX4_read 5 = .ok (.aload_n 0, 1) := by decide +kernel
theorem dX4_read_6 : decode cX4_read 6 = .ok (.getfield 52, 3) := by decide +kernel
theorem dX4_read_9 : decode cX4_read 9 = .ok (.invokevirtual 59, 3) := by decide +kernel
theorem dX4_read_12 : decode cX4_read 12 = .ok (.aload_n 0, 1) := by decide +kernel
theorem dX4_read_13 : decode cX4_read 13 = .ok (.iconst 0, 1) := by decide +kernel
theorem dX4_read_14 : decode cX4_read 14 = .ok (.putfield 15, 3) := by decide +kernel
theorem dX4_read_17 : decode cX4_read 17 = .ok (.aload_n 0, 1) := by decide +kernel
theorem dX4_read_18 : decode cX4_read 18 = .ok (.iconst 0, 1) := by decide +kernel
theorem dX4_read_19 : decode cX4_read 19 = .ok (.putfield 19, 3) := by decide +kernel
theorem dX4_read_22 : decode cX4_read 22 = .ok (.aload_n 0, 1) := by decide +kernel
theorem dX4_read_23 : decode cX4_read 23 = .ok (.iconst 0, 1) := by decide +kernel
theorem dX4_read_24 : decode cX4_read 24 = .ok (.putfield 22, 3) := by decide +kernel
theorem dX4_read_27 : decode cX4_read 27 = .ok (.aload_n 0, 1) := by decide +kernel
theorem dX4_read_28 : decode cX4_read 28 = .ok (.iconst 0, 1) := by decide +kernel
theorem dX4_read_29 : decode cX4_read 29 = .ok (.putfield 25, 3) := by decide +kernel
theorem dX4_read_32 : decode cX4_read 32 = .ok (.aload_n 0, 1) := by decide +kernel
theorem dX4_read_33 : decode cX4_read 33 = .ok (.getfield 33, 3) := by decide +kernel
theorem dX4_read_36 : decode cX4_read 36 = .ok (.iload_n 1, 1) := by decide +kernel
theorem dX4_read_37 : decode cX4_read 37 = .ok (.invokevirtual 62, 3) := by decide +kernel
theorem dX4_read_40 : decode cX4_read 40 = .ok (.iconst 0, 1) := by decide +kernel
theorem dX4_read_41 : decode cX4_read 41 = .ok (.istore_n 3, 1) := by decide +kernel
theorem dX4_read_42 : decode cX4_read 42 = .ok (.iload_n 3, 1) := by decide +kernel
theorem dX4_read_43 : decode cX4_read 43 = .ok (.sipush 700, 3) := by decide +kernel
theorem dX4_read_46 : decode cX4_read 46 = .ok (.if_icmp .gt 60, 3) := by decide +kernel
theorem dX4_read_49 : decode cX4_read 49 = .ok (.aload_n 0, 1) := by decide +kernel
theorem dX4_read_50 : decode cX4_read 50 = .ok (.getfield 33, 3) := by decide +kernel
theorem dX4_read_53 : decode cX4_read 53 = .ok (.getfield 66, 3) := by decide +kernel
theorem dX4_read_56 : decode cX4_read 56 = .ok (.ifCond .eq 50, 3) := by decide +kernel
theorem dX4_read_59 : decode cX4_read 59 = .ok (.aload_n 0, 1) := by decide +kernel
theorem dX4_read_60 : decode cX4_read 60 = .ok (.invokevirtual 69, 3) := by decide +kernel
theorem dX4_read_63 : decode cX4_read 63 = .ok (.istore 4, 2) := by decide +kernel
theorem dX4_read_65 : decode cX4_read 65 = .ok (.iload 4, 2) := by decide +kernel
theorem dX4_read_67 : decode cX4_read 67 = .ok (.ifCond .ne 18, 3) := by decide +kernel
theorem dX4_read_70 : decode cX4_read 70 = .ok (.aload_n 0, 1) := by decide +kernel
theorem dX4_read_71 : decode cX4_read 71 = .ok (.getfield 33, 3) := by decide +kernel
theorem dX4_read_74 : decode cX4_read 74 = .ok (.bipush 59, 2) := by decide +kernel
theorem dX4_read_76 : decode cX4_read 76 = .ok (.invokevirtual 73, 3) := by decide +kernel
theorem dX4_read_79 : decode cX4_read 79 = .ok (.ifCond .ne 6, 3) := by decide +kernel
theorem dX4_read_82 : decode cX4_read 82 = .ok (.iconst 1, 1) := by decide +kernel
theorem dX4_read_83 : decode cX4_read 83 = .ok (.istore 4, 2) := by decide +kernel
theorem dX4_read_85 : decode cX4_read 85 = .ok (.iload 4, 2) := by decide +kernel
theorem dX4_read_87 : decode cX4_read 87 = .ok (.ifCond .eq 6, 3) := by decide +kernel
theorem dX4_read_90 : decode cX4_read 90 = .ok (.iload 4, 2) := by decide +kernel
theorem dX4_read_92 : decode cX4_read 92 = .ok (.ireturn, 1) := by decide +kernel
theorem dX4_read_93 : decode cX4_read 93 = .ok (.aload_n 0, 1) := by decide +kernel
theorem dX4_read_94 : decode cX4_read 94 = .ok (.getfield 33, 3) := by decide +kernel
theorem dX4_read_97 : decode cX4_read 97 = .ok (.invokevirtual 77, 3) := by decide +kernel
theorem dX4_read_100 : decode cX4_read 100 = .ok (.iinc 3 1, 3) := by decide +kernel
theorem dX4_read_103 : decode cX4_read 103 = .ok (.goto (-61), 3) := by decide +kernel
theorem dX4_read_106 : decode cX4_read 106 = .ok (.iconst 0, 1) := by decide +kernel
theorem dX4_read_107 : decode cX4_read 107 = .ok (.ireturn, 1) := by decide +kernel
theorem dX4_readLine_0 : decode cX4_readLine 0 = .ok (.aload_n 0, 1) := by decide +kernel
theorem dX4_readLine_1 : decode cX4_readLine 1 = .ok (.getfield 33, 3) := by decide +kernel
theorem dX4_readLine_4 : decode cX4_readLine 4 = .ok (.ldc 80, 2) := by decide +kernel
theorem dX4_readLine_6 : decode cX4_readLine 6 = .ok (.invokevirtual 82, 3) := by decide +kernel
theorem dX4_readLine_9 : decode cX4_readLine 9 = .ok (.ifCond .eq 9, 3) := by decide +kernel
theorem dX4_readLine_12 : decode cX4_readLine 12 = .ok (.aload_n 0, 1) := by decide +kernel
theorem dX4_readLine_13 : decode cX4_readLine 13 = .ok (.iconst 0, 1) := by decide +kernel
theorem dX4_readLine_14 : decode cX4_readLine 14 = .ok (.invokevirtual 86, 3) := by decide +kernel
theorem dX4_readLine_17 : decode cX4_readLine 17 = .ok (.ireturn, 1) := by decide +kernel
theorem dX4_readLine_18 : decode cX4_readLine 18 = .ok (.aload_n 0, 1) := by decide +kernel
theorem dX4_readLine_19 : decode cX4_readLine 19 = .ok (.getfield 33, 3) := by decide +kernel
theorem dX4_readLine_22 : decode cX4_readLine 22 = .ok (.ldc 90, 2) := by decide +kernel
theorem dX4_readLine_24 : decode cX4_readLine 24 = .ok (.invokevirtual 82, 3) := by decide +kernel
theorem dX4_readLine_27 : decode cX4_readLine 27 = .ok (.ifCond .eq 9, 3) := by decide +kernel
theorem dX4_readLine_30 : decode cX4_readLine 30 = .ok (.aload_n 0, 1) := by decide +kernel
theorem dX4_readLine_31 : decode cX4_readLine 31 = .ok (.iconst 1, 1) := by decide +kernel
theorem dX4_readLine_32 : decode cX4_readLine 32 = .ok (.invokevirtual 86, 3) := by decide +kernel
theorem dX4_readLine_35 : decode cX4_readLine 35 = .ok (.ireturn, 1) := by decide +kernel
theorem dX4_readLine_36 : decode cX4_readLine 36 = .ok (.aload_n 0, 1) := by decide +kernel
theorem dX4_readLine_37 : decode cX4_readLine 37 = .ok (.getfield 33, 3) := by decide +kernel
theorem dX4_readLine_40 : decode cX4_readLine 40 = .ok (.ldc 92, 2) := by decide +kernel
theorem dX4_readLine_42 : decode cX4_readLine 42 = .ok (.invokevirtual 82, 3) := by decide +kernel
theorem dX4_readLine_45 : decode cX4_readLine 45 = .ok (.ifCond .eq 9, 3) := by decide +kernel
theorem dX4_readLine_48 : decode cX4_readLine 48 = .ok (.aload_n 0, 1) := by decide +kernel
theorem dX4_readLine_49 : decode cX4_readLine 49 = .ok (.iconst 2, 1) := by decide +kernel
theorem dX4_readLine_50 : decode cX4_readLine 50 = .ok (.invokevirtual 86, 3) := by decide +kernel
theorem dX4_readLine_53 : decode cX4_readLine 53 = .ok (.ireturn, 1) := by decide +kernel
theorem dX4_readLine_54 : decode cX4_readLine 54 = .ok (.aload_n 0, 1) := by decide +kernel
theorem dX4_readLine_55 : decode cX4_readLine 55 = .ok (.getfield 33, 3) := by decide +kernel
theorem dX4_readLine_58 : decode cX4_readLine 58 = .ok (.ldc 94, 2) := by decide +kernel
theorem dX4_readLine_60 : decode cX4_readLine 60 = .ok (.invokevirtual 82, 3) := by decide +kernel
theorem dX4_readLine_63 : decode cX4_readLine 63 = .ok (.ifCond .eq 8, 3) := by decide +kernel
theorem dX4_readLine_66 : decode cX4_readLine 66 = .ok (.aload_n 0, 1) := by decide +kernel
theorem dX4_readLine_67 : decode cX4_readLine 67 = .ok (.invokevirtual 96, 3) := by decide +kernel
theorem dX4_readLine_70 : decode cX4_readLine 70 = .ok (.ireturn, 1) := by decide +kernel
theorem dX4_readLine_71 : decode cX4_readLine 71 = .ok (.aload_n 0, 1) := by decide +kernel
theorem dX4_readLine_72 : decode cX4_readLine 72 = .ok (.getfield 33, 3) := by decide +kernel
theorem dX4_readLine_75 : decode cX4_readLine 75 = .ok (.ldc 99, 2) := by decide +kernel
theorem dX4_readLine_77 : decode cX4_readLine 77 = .ok (.invokevirtual 82, 3) := by decide +kernel
theorem dX4_readLine_80 : decode cX4_readLine 80 = .ok (.ifCond .eq 8, 3) := by decide +kernel
theorem dX4_readLine_83 : decode cX4_readLine 83 = .ok (.aload_n 0, 1) := by decide +kernel
theorem dX4_readLine_84 : decode cX4_readLine 84 = .ok (.invokevirtual 101, 3) := by decide +kernel
theorem dX4_readLine_87 : decode cX4_readLine 87 = .ok (.ireturn, 1) := by decide +kernel
theorem dX4_readLine_88 : decode cX4_readLine 88 = .ok (.aload_n 0, 1) := by decide +kernel
theorem dX4_readLine_89 : decode cX4_readLine 89 = .ok (.getfield 33, 3) := by decide +kernel
theorem dX4_readLine_92 : decode cX4_readLine 92 = .ok (.ldc 104, 2) := by decide +kernel
theorem dX4_readLine_94 : decode cX4_readLine 94 = .ok (.invokevirtual 82, 3) := by decide +kernel
theorem dX4_readLine_97 : decode cX4_readLine 97 = .ok (.ifCond .eq 8, 3) := by decide +kernel
theorem dX4_readLine_100 : decode cX4_readLine 100 = .ok (.aload_n 0, 1) := by decide +kernel
theorem dX4_readLine_101 : decode cX4_readLine 101 = .ok (.invokevirtual 106, 3) := by decide +kernel
theorem dX4_readLine_104 : decode cX4_readLine 104 = .ok (.ireturn, 1) := by decide +kernel
theorem dX4_readLine_105 : decode cX4_readLine 105 = .ok (.aload_n 0, 1) := by decide +kernel
theorem dX4_readLine_106 : decode cX4_readLine 106 = .ok (.getfield 33, 3) := by decide +kernel
theorem dX4_readLine_109 : decode cX4_readLine 109 = .ok (.ldc 109, 2) := by decide +kernel
theorem dX4_readLine_111 : decode cX4_readLine 111 = .ok (.invokevirtual 82, 3) := by decide +kernel
theorem dX4_readLine_114 : decode cX4_readLine 114 = .ok (.ifCond .eq 8, 3) := by decide +kernel
theorem dX4_readLine_117 : decode cX4_readLine 117 = .ok (.aload_n 0, 1) := by decide +kernel
theorem dX4_readLine_118 : decode cX4_readLine 118 = .ok (.invokevirtual 111, 3) := by decide +kernel
theorem dX4_readLine_121 : decode cX4_readLine 121 = .ok (.ireturn, 1) := by decide +kernel
theorem dX4_readLine_122 : decode cX4_readLine 122 = .ok (.aload_n 0, 1) := by decide +kernel
theorem dX4_readLine_123 : decode cX4_readLine 123 = .ok (.getfield 33, 3) := by decide +kernel
theorem dX4_readLine_126 : decode cX4_readLine 126 = .ok (.ldc 114, 2) := by decide +kernel
theorem dX4_readLine_128 : decode cX4_readLine 128 = .ok (.invokevirtual 82, 3) := by decide +kernel
theorem dX4_readLine_131 : decode cX4_readLine 131 = .ok (.ifCond .eq 8, 3) := by decide +kernel
theorem dX4_readLine_134 : decode cX4_readLine 134 = .ok (.aload_n 0, 1) := by decide +kernel
theorem dX4_readLine_135 : decode cX4_readLine 135 = .ok (.invokevirtual 116, 3) := by decide +kernel
theorem dX4_readLine_138 : decode cX4_readLine 138 = .ok (.ireturn, 1) := by decide +kernel
theorem dX4_readLine_139 : decode cX4_readLine 139 = .ok (.aload_n 0, 1) := by decide +kernel
theorem dX4_readLine_140 : decode cX4_readLine 140 = .ok (.getfield 33, 3) := by decide +kernel
theorem dX4_readLine_143 : decode cX4_readLine 143 = .ok (.ldc 119, 2) := by decide +kernel
theorem dX4_readLine_145 : decode cX4_readLine 145 = .ok (.invokevirtual 82, 3) := by decide +kernel
theorem dX4_readLine_148 : decode cX4_readLine 148 = .ok (.ifCond .eq 8, 3) := by decide +kernel
theorem dX4_readLine_151 : decode cX4_readLine 151 = .ok (.aload_n 0, 1) := by decide +kernel
theorem dX4_readLine_152 : decode cX4_readLine 152 = .ok (.invokevirtual 121, 3) := by decide +kernel
theorem dX4_readLine_155 : decode cX4_readLine 155 = .ok (.ireturn, 1) := by decide +kernel
theorem dX4_readLine_156 : decode cX4_readLine 156 = .ok (.aload_n 0, 1) := by decide +kernel
theorem dX4_readLine_157 : decode cX4_readLine 157 = .ok (.getfield 33, 3) := by decide +kernel
theorem dX4_readLine_160 : decode cX4_readLine 160 = .ok (.ldc 124, 2) := by decide +kernel
theorem dX4_readLine_162 : decode cX4_readLine 162 = .ok (.invokevirtual 82, 3) := by decide +kernel
theorem dX4_readLine_165 : decode cX4_readLine 165 = .ok (.ifCond .ne 5, 3) := by decide +kernel
theorem dX4_readLine_168 : decode cX4_readLine 168 = .ok (.iconst 1, 1) := by decide +kernel
theorem dX4_readLine_169 : decode cX4_readLine 169 = .ok (.ireturn, 1) := by decide +kernel
theorem dX4_readLine_170 : decode cX4_readLine 170 = .ok (.aload_n 0, 1) := by decide +kernel
theorem dX4_readLine_171 : decode cX4_readLine 171 = .ok (.getfield 25, 3) := by decide +kernel
theorem dX4_readLine_174 : decode cX4_readLine 174 = .ok (.ifCond .eq 5, 3) := by decide +kernel
theorem dX4_readLine_177 : decode cX4_readLine 177 = .ok (.iconst 5, 1) := by decide +kernel
theorem dX4_readLine_178 : decode cX4_readLine 178 = .ok (.ireturn, 1) := by decide +kernel
theorem dX4_readLine_179 : decode cX4_readLine 179 = .ok (.aload_n 0, 1) := by decide +kernel
theorem dX4_readLine_180 : decode cX4_readLine 180 = .ok (.iconst 1, 1) := by decide +kernel
theorem dX4_readLine_181 : decode cX4_readLine 181 = .ok (.putfield 25, 3) := by decide +kernel
theorem dX4_readLine_184 : decode cX4_readLine 184 = .ok (.aload_n 0, 1) := by decide +kernel
theorem dX4_readLine_185 : decode cX4_readLine 185 = .ok (.getfield 33, 3) := by decide +kernel
theorem dX4_readLine_188 : decode cX4_readLine 188 = .ok (.invokevirtual 77, 3) := by decide +kernel
theorem dX4_readLine_191 : decode cX4_readLine 191 = .ok (.aload_n 0, 1) := by decide +kernel
theorem dX4_readLine_192 : decode cX4_readLine 192 = .ok (.getfield 48, 3) := by decide +kernel
theorem dX4_readLine_195 : decode cX4_readLine 195 = .ok (.aload_n 0, 1) := by decide +kernel
theorem dX4_readLine_196 : decode cX4_readLine 196 = .ok (.getfield 52, 3) := by decide +kernel
theorem dX4_readLine_199 : decode cX4_readLine 199 = .ok (.getfield 39, 3) := by decide +kernel
theorem dX4_readLine_202 : decode cX4_readLine 202 = .ok (.invokevirtual 126, 3) := by decide +kernel
theorem dX4_readLine_205 : decode cX4_readLine 205 = .ok (.ireturn, 1) := by decide +kernel
theorem dX4_readNumber_0 : decode cX4_readNumber 0 = .ok (.aload_n 0, 1) := by decide +kernel
theorem dX4_readNumber_1 : decode cX4_readNumber 1 = .ok (.invokevirtual 130, 3) := by decide +kernel
theorem dX4_readNumber_4 : decode cX4_readNumber 4 = .ok (.istore_n 3, 1) := by decide +kernel
theorem dX4_readNumber_5 : decode cX4_readNumber 5 = .ok (.iload_n 3, 1) := by decide +kernel
theorem dX4_readNumber_6 : decode cX4_readNumber 6 = .ok (.ifCond .ne 27, 3) := by decide +kernel
theorem dX4_readNumber_9 : decode cX4_readNumber 9 = .ok (.aload_n 0, 1) := by decide +kernel
theorem dX4_readNumber_10 : decode cX4_readNumber 10 = .ok (.getfield 33, 3) := by decide +kernel
theorem dX4_readNumber_13 : decode cX4_readNumber 13 = .ok (.getfield 133, 3) := by decide +kernel
theorem dX4_readNumber_16 : decode cX4_readNumber 16 = .ok (.iload_n 1, 1) := by decide +kernel
theorem dX4_readNumber_17 : decode cX4_readNumber 17 = .ok (.if_icmp .lt 14, 3) := by decide +kernel
theorem dX4_readNumber_20 : decode cX4_readNumber 20 = .ok (.aload_n 0, 1) := by decide +kernel
theorem dX4_readNumber_21 : decode cX4_readNumber 21 = .ok (.getfield 33, 3) := by decide +kernel
theorem dX4_readNumber_24 : decode cX4_readNumber 24 = .ok (.getfield 133, 3) := by decide +kernel
theorem dX4_readNumber_27 : decode cX4_readNumber 27 = .ok (.iload_n 2, 1) := by decide +kernel
theorem dX4_readNumber_28 : decode cX4_readNumber 28 = .ok (.if_icmp .le 5, 3) := by decide +kernel
theorem dX4_readNumber_31 : decode cX4_readNumber 31 = .ok (.iconst 2, 1) := by decide +kernel
theorem dX4_readNumber_32 : decode cX4_readNumber 32 = .ok (.istore_n 3, 1) := by decide +kernel
theorem dX4_readNumber_33 : decode cX4_readNumber 33 = .ok (.iload_n 3, 1) := by decide +kernel
theorem dX4_readNumber_34 : decode cX4_readNumber 34 = .ok (.ifCond .ne 21, 3) := by decide +kernel
theorem dX4_readNumber_37 : decode cX4_readNumber 37 = .ok (.aload_n 0, 1) := by decide +kernel
theorem dX4_readNumber_38 : decode cX4_readNumber 38 = .ok (.aload_n 0, 1) := by decide +kernel
theorem dX4_readNumber_39 : decode cX4_readNumber 39 = .ok (.getfield 33, 3) := by decide +kernel
theorem dX4_readNumber_42 : decode cX4_readNumber 42 = .ok (.getfield 133, 3) := by decide +kernel
theorem dX4_readNumber_45 : decode cX4_readNumber 45 = .ok (.putfield 9, 3) := by decide +kernel
theorem dX4_readNumber_48 : decode cX4_readNumber 48 = .ok (.aload_n 0, 1) := by decide +kernel
theorem dX4_readNumber_49 : decode cX4_readNumber 49 = .ok (.getfield 33, 3) := by decide +kernel
theorem dX4_readNumber_52 : decode cX4_readNumber 52 = .ok (.invokevirtual 77, 3) := by decide +kernel
theorem dX4_readNumber_55 : decode cX4_readNumber 55 = .ok (.iload_n 3, 1) := by decide +kernel
theorem dX4_readNumber_56 : decode cX4_readNumber 56 = .ok (.ireturn, 1) := by decide +kernel
theorem dX4_readRoomNumber_0 : decode cX4_readRoomNumber 0 = .ok (.aload_n 0, 1) := by decide +kernel
theorem dX4_readRoomNumber_1 : decode cX4_readRoomNumber 1 = .ok (.invokevirtual 136, 3) := by decide +kernel
theorem dX4_readRoomNumber_4 : decode cX4_readRoomNumber 4 = .ok (.istore_n 1, 1) := by decide +kernel
theorem dX4_readRoomNumber_5 : decode cX4_readRoomNumber 5 = .ok (.iload_n 1, 1) := by decide +kernel
theorem dX4_readRoomNumber_6 : decode cX4_readRoomNumber 6 = .ok (.ifCond .ne 21, 3) := by decide +kernel
theorem dX4_readRoomNumber_9 : decode cX4_readRoomNumber 9 = .ok (.aload_n 0, 1) := by decide +kernel
theorem dX4_readRoomNumber_10 : decode cX4_readRoomNumber 10 = .ok (.aload_n 0, 1) := by decide +kernel
theorem dX4_readRoomNumber_11 : decode cX4_readRoomNumber 11 = .ok (.getfield 33, 3) := by decide +kernel
theorem dX4_readRoomNumber_14 : decode cX4_readRoomNumber 14 = .ok (.getfield 133, 3) := by decide +kernel
theorem dX4_readRoomNumber_17 : decode cX4_readRoomNumber 17 = .ok (.putfield 9, 3) := by decide +kernel
theorem dX4_readRoomNumber_20 : decode cX4_readRoomNumber 20 = .ok (.aload_n 0, 1) := by decide +kernel
theorem dX4_readRoomNumber_21 : decode cX4_readRoomNumber 21 = .ok (.getfield 33, 3) := by decide +kernel
theorem dX4_readRoomNumber_24 : decode cX4_readRoomNumber 24 = .ok (.invokevirtual 77, 3) := by decide +kernel
theorem dX4_readRoomNumber_27 : decode cX4_readRoomNumber 27 = .ok (.iload_n 1, 1) := by decide +kernel
theorem dX4_readRoomNumber_28 : decode cX4_readRoomNumber 28 = .ok (.ireturn, 1) := by decide +kernel
theorem dX4_lookAtNumber_0 : decode cX4_lookAtNumber 0 = .ok (.aload_n 0, 1) := by decide +kernel
theorem dX4_lookAtNumber_1 : decode cX4_lookAtNumber 1 = .ok (.getfield 33, 3) := by decide +kernel
theorem dX4_lookAtNumber_4 : decode cX4_lookAtNumber 4 = .ok (.getfield 66, 3) := by decide +kernel
theorem dX4_lookAtNumber_7 : decode cX4_lookAtNumber 7 = .ok (.iconst 2, 1) := by decide +kernel
theorem dX4_lookAtNumber_8 : decode cX4_lookAtNumber 8 = .ok (.if_icmp .eq 5, 3) := by decide +kernel
theorem dX4_lookAtNumber_11 : decode cX4_lookAtNumber 11 = .ok (.iconst 1, 1) := by decide +kernel
theorem dX4_lookAtNumber_12 : decode cX4_lookAtNumber 12 = .ok (.ireturn, 1) := by decide +kernel
theorem dX4_lookAtNumber_13 : decode cX4_lookAtNumber 13 = .ok (.aload_n 0, 1) := by decide +kernel
theorem dX4_lookAtNumber_14 : decode cX4_lookAtNumber 14 = .ok (.getfield 33, 3) := by decide +kernel
theorem dX4_lookAtNumber_17 : decode cX4_lookAtNumber 17 = .ok (.getfield 139, 3) := by decide +kernel
theorem dX4_lookAtNumber_20 : decode cX4_lookAtNumber 20 = .ok (.ifCond .eq 7, 3) := by decide +kernel
theorem dX4_lookAtNumber_23 : decode cX4_lookAtNumber 23 = .ok (.iconst 2, 1) := by decide +kernel
theorem dX4_lookAtNumber_24 : decode cX4_lookAtNumber 24 = .ok (.goto 4, 3) := by decide +kernel
theorem dX4_lookAtNumber_27 : decode cX4_lookAtNumber 27 = .ok (.iconst 0, 1) := by decide +kernel
theorem dX4_lookAtNumber_28 : decode cX4_lookAtNumber 28 = .ok (.ireturn, 1) := by decide +kernel
theorem dX4_lookAtRoomNumber_0 : decode cX4_lookAtRoomNumber 0 = .ok (.aload_n 0, 1) := by decide +kernel
theorem dX4_lookAtRoomNumber_1 : decode cX4_lookAtRoomNumber 1 = .ok (.invokevirtual 130, 3) := by decide +kernel
theorem dX4_lookAtRoomNumber_4 : decode cX4_lookAtRoomNumber 4 = .ok (.istore_n 1, 1) := by decide +kernel
theorem dX4_lookAtRoomNumber_5 : decode cX4_lookAtRoomNumber 5 = .ok (.iload_n 1, 1) := by decide +kernel
theorem dX4_lookAtRoomNumber_6 : decode cX4_lookAtRoomNumber 6 = .ok (.ifCond .ne 24, 3) := by decide +kernel
theorem dX4_lookAtRoomNumber_9 : decode cX4_lookAtRoomNumber 9 = .ok (.aload_n 0, 1) := by decide +kernel
theorem dX4_lookAtRoomNumber_10 : decode cX4_lookAtRoomNumber 10 = .ok (.getfield 33, 3) := by decide +kernel
theorem dX4_lookAtRoomNumber_13 : decode cX4_lookAtRoomNumber 13 = .ok (.getfield 133, 3) := by decide +kernel
theorem dX4_lookAtRoomNumber_16 : decode cX4_lookAtRoomNumber 16 = .ok (.aload_n 0, 1) := by decide +kernel
theorem dX4_lookAtRoomNumber_17 : decode cX4_lookAtRoomNumber 17 = .ok (.getfield 52, 3) := by decide +kernel
theorem dX4_lookAtRoomNumber_20 : decode cX4_lookAtRoomNumber 20 = .ok (.getfield 142, 3) := by decide +kernel
theorem dX4_lookAtRoomNumber_23 : decode cX4_lookAtRoomNumber 23 = .ok (.if_icmp .lt 7, 3) := by decide +kernel
theorem dX4_lookAtRoomNumber_26 : decode cX4_lookAtRoomNumber 26 = .ok (.iconst 3, 1) := by decide +kernel
theorem dX4_lookAtRoomNumber_27 : decode cX4_lookAtRoomNumber 27 = .ok (.goto 4, 3) := by decide +kernel
theorem dX4_lookAtRoomNumber_30 : decode cX4_lookAtRoomNumber 30 = .ok (.iload_n 1, 1) := by decide +kernel
theorem dX4_lookAtRoomNumber_31 : decode cX4_lookAtRoomNumber 31 = .ok (.ireturn, 1) := by decide +kernel
theorem dX4_readRoom_0 : decode cX4_readRoom 0 = .ok (.aload_n 0, 1) := by decide +kernel
theorem dX4_readRoom_1 : decode cX4_readRoom 1 = .ok (.getfield 52, 3) := by decide +kernel
theorem dX4_readRoom_4 : decode cX4_readRoom 4 = .ok (.getfield 142, 3) := by decide +kernel
theorem dX4_readRoom_7 : decode cX4_readRoom 7 = .ok (.istore_n 2, 1) := by decide +kernel
theorem dX4_readRoom_8 : decode cX4_readRoom 8 = .ok (.iload_n 2, 1) := by decide +kernel
theorem dX4_readRoom_9 : decode cX4_readRoom 9 = .ok (.bipush 9, 2) := by decide +kernel
theorem dX4_readRoom_11 : decode cX4_readRoom 11 = .ok (.if_icmp .lt 5, 3) := by decide +kernel
theorem dX4_readRoom_14 : decode cX4_readRoom 14 = .ok (.iconst 2, 1) := by decide +kernel
theorem dX4_readRoom_15 : decode cX4_readRoom 15 = .ok (.ireturn, 1) := by decide +kernel
theorem dX4_readRoom_16 : decode cX4_readRoom 16 = .ok (.aload_n 0, 1) := by decide +kernel
theorem dX4_readRoom_17 : decode cX4_readRoom 17 = .ok (.getfield 33, 3) := by decide +kernel
theorem dX4_readRoom_20 : decode cX4_readRoom 20 = .ok (.invokevirtual 77, 3) := by decide +kernel
theorem dX4_readRoom_23 : decode cX4_readRoom 23 = .ok (.aload_n 0, 1) := by decide +kernel
theorem dX4_readRoom_24 : decode cX4_readRoom 24 = .ok (.getfield 52, 3) := by decide +kernel
theorem dX4_readRoom_27 : decode cX4_readRoom 27 = .ok (.getfield 145, 3) := by decide +kernel
theorem dX4_readRoom_30 : decode cX4_readRoom 30 = .ok (.iload_n 2, 1) := by decide +kernel
theorem dX4_readRoom_31 : decode cX4_readRoom 31 = .ok (.iload_n 1, 1) := by decide +kernel
theorem dX4_readRoom_32 : decode cX4_readRoom 32 = .ok (.iastore, 1) := by decide +kernel
theorem dX4_readRoom_33 : decode cX4_readRoom 33 = .ok (.aload_n 0, 1) := by decide +kernel
theorem dX4_readRoom_34 : decode cX4_readRoom 34 = .ok (.iconst 0, 1) := by decide +kernel
theorem dX4_readRoom_35 : decode cX4_readRoom 35 = .ok (.iconst 5, 1) := by decide +kernel
theorem dX4_readRoom_36 : decode cX4_readRoom 36 = .ok (.invokevirtual 149, 3) := by decide +kernel
theorem dX4_readRoom_39 : decode cX4_readRoom 39 = .ok (.istore_n 3, 1) := by decide +kernel
theorem dX4_readRoom_40 : decode cX4_readRoom 40 = .ok (.iload_n 3, 1) := by decide +kernel
theorem dX4_readRoom_41 : decode cX4_readRoom 41 = .ok (.ifCond .eq 5, 3) := by decide +kernel
theorem dX4_readRoom_44 : decode cX4_readRoom 44 = .ok (.iload_n 3, 1) := by decide +kernel
theorem dX4_readRoom_45 : decode cX4_readRoom 45 = .ok (.ireturn, 1) := by decide +kernel
theorem dX4_readRoom_46 : decode cX4_readRoom 46 = .ok (.aload_n 0, 1) := by decide +kernel
theorem dX4_readRoom_47 : decode cX4_readRoom 47 = .ok (.getfield 52, 3) := by decide +kernel
theorem dX4_readRoom_50 : decode cX4_readRoom 50 = .ok (.getfield 153, 3) := by decide +kernel
theorem dX4_readRoom_53 : decode cX4_readRoom 53 = .ok (.iload_n 2, 1) := by decide +kernel
theorem dX4_readRoom_54 : decode cX4_readRoom 54 = .ok (.aload_n 0, 1) := by decide +kernel
theorem dX4_readRoom_55 : decode cX4_readRoom 55 = .ok (.getfield 9, 3) := by decide +kernel
theorem dX4_readRoom_58 : decode cX4_readRoom 58 = .ok (.iastore, 1) := by decide +kernel
theorem dX4_readRoom_59 : decode cX4_readRoom 59 = .ok (.aload_n 0, 1) := by decide +kernel
theorem dX4_readRoom_60 : decode cX4_readRoom 60 = .ok (.iconst 0, 1) := by decide +kernel
theorem dX4_readRoom_61 : decode cX4_readRoom 61 = .ok (.sipush 999, 3) := by decide +kernel
theorem dX4_readRoom_64 : decode cX4_readRoom 64 = .ok (.invokevirtual 149, 3) := by decide +kernel
theorem dX4_readRoom_67 : decode cX4_readRoom 67 = .ok (.istore_n 3, 1) := by decide +kernel
theorem dX4_readRoom_68 : decode cX4_readRoom 68 = .ok (.iload_n 3, 1) := by decide +kernel
theorem dX4_readRoom_69 : decode cX4_readRoom 69 = .ok (.ifCond .eq 5, 3) := by decide +kernel
theorem dX4_readRoom_72 : decode cX4_readRoom 72 = .ok (.iload_n 3, 1) := by decide +kernel
theorem dX4_readRoom_73 : decode cX4_readRoom 73 = .ok (.ireturn, 1) := by decide +kernel
theorem dX4_readRoom_74 : decode cX4_readRoom 74 = .ok (.aload_n 0, 1) := by decide +kernel
theorem dX4_readRoom_75 : decode cX4_readRoom 75 = .ok (.getfield 52, 3) := by decide +kernel
theorem dX4_readRoom_78 : decode cX4_readRoom 78 = .ok (.getfield 156, 3) := by decide +kernel
theorem dX4_readRoom_81 : decode cX4_readRoom 81 = .ok (.iload_n 2, 1) := by decide +kernel
theorem dX4_readRoom_82 : decode cX4_readRoom 82 = .ok (.aload_n 0, 1) := by decide +kernel
theorem dX4_readRoom_83 : decode cX4_readRoom 83 = .ok (.getfield 9, 3) := by decide +kernel
theorem dX4_readRoom_86 : decode cX4_readRoom 86 = .ok (.iastore, 1) := by decide +kernel
theorem dX4_readRoom_87 : decode cX4_readRoom 87 = .ok (.aload_n 0, 1) := by decide +kernel
theorem dX4_readRoom_88 : decode cX4_readRoom 88 = .ok (.iconst 0, 1) := by decide +kernel
theorem dX4_readRoom_89 : decode cX4_readRoom 89 = .ok (.bipush 99, 2) := by decide +kernel
theorem dX4_readRoom_91 : decode cX4_readRoom 91 = .ok (.invokevirtual 149, 3) := by decide +kernel
theorem dX4_readRoom_94 : decode cX4_readRoom 94 = .ok (.istore_n 3, 1) := by decide +kernel
theorem dX4_readRoom_95 : decode cX4_readRoom 95 = .ok (.iload_n 3, 1) := by decide +kernel
theorem dX4_readRoom_96 : decode cX4_readRoom 96 = .ok (.ifCond .eq 5, 3) := by decide +kernel
theorem dX4_readRoom_99 : decode cX4_readRoom 99 = .ok (.iload_n 3, 1) := by decide +kernel
theorem dX4_readRoom_100 : decode cX4_readRoom 100 = .ok (.ireturn, 1) := by decide +kernel
theorem dX4_readRoom_101 : decode cX4_readRoom 101 = .ok (.aload_n 0, 1) := by decide +kernel
theorem dX4_readRoom_102 : decode cX4_readRoom 102 = .ok (.getfield 52, 3) := by decide +kernel
theorem dX4_readRoom_105 : decode cX4_readRoom 105 = .ok (.getfield 159, 3) := by decide +kernel
theorem dX4_readRoom_108 : decode cX4_readRoom 108 = .ok (.iload_n 2, 1) := by decide +kernel
theorem dX4_readRoom_109 : decode cX4_readRoom 109 = .ok (.aload_n 0, 1) := by decide +kernel
theorem dX4_readRoom_110 : decode cX4_readRoom 110 = .ok (.getfield 9, 3) := by decide +kernel
theorem dX4_readRoom_113 : decode cX4_readRoom 113 = .ok (.iastore, 1) := by decide +kernel
theorem dX4_readRoom_114 : decode cX4_readRoom 114 = .ok (.aload_n 0, 1) := by decide +kernel
theorem dX4_readRoom_115 : decode cX4_readRoom 115 = .ok (.getfield 52, 3) := by decide +kernel
theorem dX4_readRoom_118 : decode cX4_readRoom 118 = .ok (.dup, 1) := by decide +kernel
theorem dX4_readRoom_119 : decode cX4_readRoom 119 = .ok (.getfield 142, 3) := by decide +kernel
theorem dX4_readRoom_122 : decode cX4_readRoom 122 = .ok (.iconst 1, 1) := by decide +kernel
theorem dX4_readRoom_123 : decode cX4_readRoom 123 = .ok (.iadd, 1) := by decide +kernel
theorem dX4_readRoom_124 : decode cX4_readRoom 124 = .ok (.putfield 142, 3) := by decide +kernel
theorem dX4_readRoom_127 : decode cX4_readRoom 127 = .ok (.iconst 0, 1) := by decide +kernel
theorem dX4_readRoom_128 : decode cX4_readRoom 128 = .ok (.ireturn, 1) := by decide +kernel
theorem dX4_readDoor_0 : decode cX4_readDoor 0 = .ok (.aload_n 0, 1) := by decide +kernel
theorem dX4_readDoor_1 : decode cX4_readDoor 1 = .ok (.getfield 52, 3) := by decide +kernel
theorem dX4_readDoor_4 : decode cX4_readDoor 4 = .ok (.getfield 162, 3) := by decide +kernel
theorem dX4_readDoor_7 : decode cX4_readDoor 7 = .ok (.bipush 14, 2) := by decide +kernel
theorem dX4_readDoor_9 : decode cX4_readDoor 9 = .ok (.if_icmp .lt 5, 3) := by decide +kernel
theorem dX4_readDoor_12 : decode cX4_readDoor 12 = .ok (.iconst 2, 1) := by decide +kernel
theorem dX4_readDoor_13 : decode cX4_readDoor 13 = .ok (.ireturn, 1) := by decide +kernel
theorem dX4_readDoor_14 : decode cX4_readDoor 14 = .ok (.aload_n 0, 1) := by decide +kernel
theorem dX4_readDoor_15 : decode cX4_readDoor 15 = .ok (.getfield 33, 3) := by decide +kernel
theorem dX4_readDoor_18 : decode cX4_readDoor 18 = .ok (.invokevirtual 77, 3) := by decide +kernel
theorem dX4_readDoor_21 : decode cX4_readDoor 21 = .ok (.aload_n 0, 1) := by decide +kernel
theorem dX4_readDoor_22 : decode cX4_readDoor 22 = .ok (.invokevirtual 165, 3) := by decide +kernel
theorem dX4_readDoor_25 : decode cX4_readDoor 25 = .ok (.istore_n 1, 1) := by decide +kernel
theorem dX4_readDoor_26 : decode cX4_readDoor 26 = .ok (.iload_n 1, 1) := by decide +kernel
theorem dX4_readDoor_27 : decode cX4_readDoor 27 = .ok (.ifCond .eq 5, 3) := by decide +kernel
theorem dX4_readDoor_30 : decode cX4_readDoor 30 = .ok (.iload_n 1, 1) := by decide +kernel
theorem dX4_readDoor_31 : decode cX4_readDoor 31 = .ok (.ireturn, 1) := by decide +kernel
theorem dX4_readDoor_32 : decode cX4_readDoor 32 = .ok (.aload_n 0, 1) := by decide +kernel
theorem dX4_readDoor_33 : decode cX4_readDoor 33 = .ok (.getfield 9, 3) := by decide +kernel
theorem dX4_readDoor_36 : decode cX4_readDoor 36 = .ok (.istore_n 2, 1) := by decide +kernel
theorem dX4_readDoor_37 : decode cX4_readDoor 37 = .ok (.aload_n 0, 1) := by decide +kernel
theorem dX4_readDoor_38 : decode cX4_readDoor 38 = .ok (.invokevirtual 136, 3) := by decide +kernel
theorem dX4_readDoor_41 : decode cX4_readDoor 41 = .ok (.istore_n 1, 1) := by decide +kernel
theorem dX4_readDoor_42 : decode cX4_readDoor 42 = .ok (.iload_n 1, 1) := by decide +kernel
theorem dX4_readDoor_43 : decode cX4_readDoor 43 = .ok (.ifCond .ne 34, 3) := by decide +kernel
theorem dX4_readDoor_46 : decode cX4_readDoor 46 = .ok (.aload_n 0, 1) := by decide +kernel
theorem dX4_readDoor_47 : decode cX4_readDoor 47 = .ok (.getfield 33, 3) := by decide +kernel
theorem dX4_readDoor_50 : decode cX4_readDoor 50 = .ok (.getfield 133, 3) := by decide +kernel
theorem dX4_readDoor_53 : decode cX4_readDoor 53 = .ok (.iload_n 2, 1) := by decide +kernel
theorem dX4_readDoor_54 : decode cX4_readDoor 54 = .ok (.if_icmp .eq 21, 3) := by decide +kernel
theorem dX4_readDoor_57 : decode cX4_readDoor 57 = .ok (.aload_n 0, 1) := by decide +kernel
theorem dX4_readDoor_58 : decode cX4_readDoor 58 = .ok (.getfield 52, 3) := by decide +kernel
theorem dX4_readDoor_61 : decode cX4_readDoor 61 = .ok (.iload_n 2, 1) := by decide +kernel
theorem dX4_readDoor_62 : decode cX4_readDoor 62 = .ok (.aload_n 0, 1) := by decide +kernel
theorem dX4_readDoor_63 : decode cX4_readDoor 63 = .ok (.getfield 33, 3) := by decide +kernel
theorem dX4_readDoor_66 : decode cX4_readDoor 66 = .ok (.getfield 133, 3) := by decide +kernel
theorem dX4_readDoor_69 : decode cX4_readDoor 69 = .ok (.invokevirtual 168, 3) := by decide +kernel
theorem dX4_readDoor_72 : decode cX4_readDoor 72 = .ok (.ifCond .eq 5, 3) := by decide +kernel
theorem dX4_readDoor_75 : decode cX4_readDoor 75 = .ok (.iconst 4, 1) := by decide +kernel
theorem dX4_readDoor_76 : decode cX4_readDoor 76 = .ok (.istore_n 1, 1) := by decide +kernel
theorem dX4_readDoor_77 : decode cX4_readDoor 77 = .ok (.iload_n 1, 1) := by decide +kernel
theorem dX4_readDoor_78 : decode cX4_readDoor 78 = .ok (.ifCond .eq 5, 3) := by decide +kernel
theorem dX4_readDoor_81 : decode cX4_readDoor 81 = .ok (.iload_n 1, 1) := by decide +kernel
theorem dX4_readDoor_82 : decode cX4_readDoor 82 = .ok (.ireturn, 1) := by decide +kernel
theorem dX4_readDoor_83 : decode cX4_readDoor 83 = .ok (.aload_n 0, 1) := by decide +kernel
theorem dX4_readDoor_84 : decode cX4_readDoor 84 = .ok (.getfield 33, 3) := by decide +kernel
theorem dX4_readDoor_87 : decode cX4_readDoor 87 = .ok (.getfield 133, 3) := by decide +kernel
theorem dX4_readDoor_90 : decode cX4_readDoor 90 = .ok (.istore_n 3, 1) := by decide +kernel
theorem dX4_readDoor_91 : decode cX4_readDoor 91 = .ok (.aload_n 0, 1) := by decide +kernel
theorem dX4_readDoor_92 : decode cX4_readDoor 92 = .ok (.getfield 33, 3) := by decide +kernel
theorem dX4_readDoor_95 : decode cX4_readDoor 95 = .ok (.invokevirtual 77, 3) := by decide +kernel
theorem dX4_readDoor_98 : decode cX4_readDoor 98 = .ok (.aload_n 0, 1) := by decide +kernel
theorem dX4_readDoor_99 : decode cX4_readDoor 99 = .ok (.iconst 1, 1) := by decide +kernel
theorem dX4_readDoor_100 : decode cX4_readDoor 100 = .ok (.bipush 9, 2) := by decide +kernel
theorem dX4_readDoor_102 : decode cX4_readDoor 102 = .ok (.invokevirtual 149, 3) := by decide +kernel
theorem dX4_readDoor_105 : decode cX4_readDoor 105 = .ok (.istore_n 1, 1) := by decide +kernel
theorem dX4_readDoor_106 : decode cX4_readDoor 106 = .ok (.iload_n 1, 1) := by decide +kernel
theorem dX4_readDoor_107 : decode cX4_readDoor 107 = .ok (.ifCond .ne 16, 3) := by decide +kernel
theorem dX4_readDoor_110 : decode cX4_readDoor 110 = .ok (.aload_n 0, 1) := by decide +kernel
theorem dX4_readDoor_111 : decode cX4_readDoor 111 = .ok (.getfield 52, 3) := by decide +kernel
theorem dX4_readDoor_114 : decode cX4_readDoor 114 = .ok (.iload_n 2, 1) := by decide +kernel
theorem dX4_readDoor_115 : decode cX4_readDoor 115 = .ok (.iload_n 3, 1) := by decide +kernel
theorem dX4_readDoor_116 : decode cX4_readDoor 116 = .ok (.aload_n 0, 1) := by decide +kernel
theorem dX4_readDoor_117 : decode cX4_readDoor 117 = .ok (.getfield 9, 3) := by decide +kernel
theorem dX4_readDoor_120 : decode cX4_readDoor 120 = .ok (.invokevirtual 172, 3) := by decide +kernel
theorem dX4_readDoor_123 : decode cX4_readDoor 123 = .ok (.iload_n 1, 1) := by decide +kernel
theorem dX4_readDoor_124 : decode cX4_readDoor 124 = .ok (.ireturn, 1) := by decide +kernel
theorem dX4_readWind_0 : decode cX4_readWind 0 = .ok (.aload_n 0, 1) := by decide +kernel
theorem dX4_readWind_1 : decode cX4_readWind 1 = .ok (.getfield 52, 3) := by decide +kernel
theorem dX4_readWind_4 : decode cX4_readWind 4 = .ok (.getfield 176, 3) := by decide +kernel
theorem dX4_readWind_7 : decode cX4_readWind 7 = .ok (.iconst 5, 1) := by decide +kernel
theorem dX4_readWind_8 : decode cX4_readWind 8 = .ok (.if_icmp .lt 5, 3) := by decide +kernel
theorem dX4_readWind_11 : decode cX4_readWind 11 = .ok (.iconst 2, 1) := by decide +kernel
theorem dX4_readWind_12 : decode cX4_readWind 12 = .ok (.ireturn, 1) := by decide +kernel
theorem dX4_readWind_13 : decode cX4_readWind 13 = .ok (.aload_n 0, 1) := by decide +kernel
theorem dX4_readWind_14 : decode cX4_readWind 14 = .ok (.getfield 33, 3) := by decide +kernel
theorem dX4_readWind_17 : decode cX4_readWind 17 = .ok (.invokevirtual 77, 3) := by decide +kernel
theorem dX4_readWind_20 : decode cX4_readWind 20 = .ok (.aload_n 0, 1) := by decide +kernel
theorem dX4_readWind_21 : decode cX4_readWind 21 = .ok (.getfield 52, 3) := by decide +kernel
theorem dX4_readWind_24 : decode cX4_readWind 24 = .ok (.getfield 179, 3) := by decide +kernel
theorem dX4_readWind_27 : decode cX4_readWind 27 = .ok (.aload_n 0, 1) := by decide +kernel
theorem dX4_readWind_28 : decode cX4_readWind 28 = .ok (.getfield 52, 3) := by decide +kernel
theorem dX4_readWind_31 : decode cX4_readWind 31 = .ok (.getfield 176, 3) := by decide +kernel
theorem dX4_readWind_34 : decode cX4_readWind 34 = .ok (.iconst 0, 1) := by decide +kernel
theorem dX4_readWind_35 : decode cX4_readWind 35 = .ok (.iastore, 1) := by decide +kernel
theorem dX4_readWind_36 : decode cX4_readWind 36 = .ok (.aload_n 0, 1) := by decide +kernel
theorem dX4_readWind_37 : decode cX4_readWind 37 = .ok (.getfield 52, 3) := by decide +kernel
theorem dX4_readWind_40 : decode cX4_readWind 40 = .ok (.dup, 1) := by decide +kernel
theorem dX4_readWind_41 : decode cX4_readWind 41 = .ok (.getfield 176, 3) := by decide +kernel
theorem dX4_readWind_44 : decode cX4_readWind 44 = .ok (.iconst 1, 1) := by decide +kernel
theorem dX4_readWind_45 : decode cX4_readWind 45 = .ok (.iadd, 1) := by decide +kernel
theorem dX4_readWind_46 : decode cX4_readWind 46 = .ok (.putfield 176, 3) := by decide +kernel
theorem dX4_readWind_49 : decode cX4_readWind 49 = .ok (.iconst 0, 1) := by decide +kernel
theorem dX4_readWind_50 : decode cX4_readWind 50 = .ok (.ireturn, 1) := by decide +kernel
theorem dX4_readBlow_0 : decode cX4_readBlow 0 = .ok (.aload_n 0, 1) := by decide +kernel
theorem dX4_readBlow_1 : decode cX4_readBlow 1 = .ok (.getfield 52, 3) := by decide +kernel
theorem dX4_readBlow_4 : decode cX4_readBlow 4 = .ok (.getfield 176, 3) := by decide +kernel
theorem dX4_readBlow_7 : decode cX4_readBlow 7 = .ok (.iconst 1, 1) := by decide +kernel
theorem dX4_readBlow_8 : decode cX4_readBlow 8 = .ok (.isub, 1) := by decide +kernel
theorem dX4_readBlow_9 : decode cX4_readBlow 9 = .ok (.istore_n 1, 1) := by decide +kernel
theorem dX4_readBlow_10 : decode cX4_readBlow 10 = .ok (.iload_n 1, 1) := by decide +kernel
theorem dX4_readBlow_11 : decode cX4_readBlow 11 = .ok (.ifCond .ge 5, 3) := by decide +kernel
theorem dX4_readBlow_14 : decode cX4_readBlow 14 = .ok (.iconst 1, 1) := by decide +kernel
theorem dX4_readBlow_15 : decode cX4_readBlow 15 = .ok (.ireturn, 1) := by decide +kernel
theorem dX4_readBlow_16 : decode cX4_readBlow 16 = .ok (.aload_n 0, 1) := by decide +kernel
theorem dX4_readBlow_17 : decode cX4_readBlow 17 = .ok (.getfield 52, 3) := by decide +kernel
theorem dX4_readBlow_20 : decode cX4_readBlow 20 = .ok (.getfield 179, 3) := by decide +kernel
theorem dX4_readBlow_23 : decode cX4_readBlow 23 = .ok (.iload_n 1, 1) := by decide +kernel
theorem dX4_readBlow_24 : decode cX4_readBlow 24 = .ok (.iaload, 1) := by decide +kernel
theorem dX4_readBlow_25 : decode cX4_readBlow 25 = .ok (.bipush 8, 2) := by decide +kernel
theorem dX4_readBlow_27 : decode cX4_readBlow 27 = .ok (.if_icmp .lt 5, 3) := by decide +kernel
theorem dX4_readBlow_30 : decode cX4_readBlow 30 = .ok (.iconst 2, 1) := by decide +kernel
theorem dX4_readBlow_31 : decode cX4_readBlow 31 = .ok (.ireturn, 1) := by decide +kernel
theorem dX4_readBlow_32 : decode cX4_readBlow 32 = .ok (.iload_n 1, 1) := by decide +kernel
theorem dX4_readBlow_33 : decode cX4_readBlow 33 = .ok (.bipush 8, 2) := by decide +kernel
theorem dX4_readBlow_35 : decode cX4_readBlow 35 = .ok (.imul, 1) := by decide +kernel
theorem dX4_readBlow_36 : decode cX4_readBlow 36 = .ok (.aload_n 0, 1) := by decide +kernel
theorem dX4_readBlow_37 : decode cX4_readBlow 37 = .ok (.getfield 52, 3) := by decide +kernel
theorem dX4_readBlow_40 : decode cX4_readBlow 40 = .ok (.getfield 179, 3) := by decide +kernel
theorem dX4_readBlow_43 : decode cX4_readBlow 43 = .ok (.iload_n 1, 1) := by decide +kernel
theorem dX4_readBlow_44 : decode cX4_readBlow 44 = .ok (.iaload, 1) := by decide +kernel
theorem dX4_readBlow_45 : decode cX4_readBlow 45 = .ok (.iadd, 1) := by decide +kernel
theorem dX4_readBlow_46 : decode cX4_readBlow 46 = .ok (.istore_n 2, 1) := by decide +kernel
theorem dX4_readBlow_47 : decode cX4_readBlow 47 = .ok (.aload_n 0, 1) := by decide +kernel
theorem dX4_readBlow_48 : decode cX4_readBlow 48 = .ok (.getfield 33, 3) := by decide +kernel
theorem dX4_readBlow_51 : decode cX4_readBlow 51 = .ok (.invokevirtual 77, 3) := by decide +kernel
theorem dX4_readBlow_54 : decode cX4_readBlow 54 = .ok (.aload_n 0, 1) := by decide +kernel
theorem dX4_readBlow_55 : decode cX4_readBlow 55 = .ok (.invokevirtual 165, 3) := by decide +kernel
theorem dX4_readBlow_58 : decode cX4_readBlow 58 = .ok (.istore_n 3, 1) := by decide +kernel
theorem dX4_readBlow_59 : decode cX4_readBlow 59 = .ok (.iload_n 3, 1) := by decide +kernel
theorem dX4_readBlow_60 : decode cX4_readBlow 60 = .ok (.ifCond .eq 5, 3) := by decide +kernel
theorem dX4_readBlow_63 : decode cX4_readBlow 63 = .ok (.iload_n 3, 1) := by decide +kernel
theorem dX4_readBlow_64 : decode cX4_readBlow 64 = .ok (.ireturn, 1) := by decide +kernel
theorem dX4_readBlow_65 : decode cX4_readBlow 65 = .ok (.aload_n 0, 1) := by decide +kernel
theorem dX4_readBlow_66 : decode cX4_readBlow 66 = .ok (.getfield 52, 3) := by decide +kernel
theorem dX4_readBlow_69 : decode cX4_readBlow 69 = .ok (.getfield 182, 3) := by decide +kernel
theorem dX4_readBlow_72 : decode cX4_readBlow 72 = .ok (.iload_n 2, 1) := by decide +kernel
theorem dX4_readBlow_73 : decode cX4_readBlow 73 = .ok (.aload_n 0, 1) := by decide +kernel
theorem dX4_readBlow_74 : decode cX4_readBlow 74 = .ok (.getfield 9, 3) := by decide +kernel
theorem dX4_readBlow_77 : decode cX4_readBlow 77 = .ok (.iastore, 1) := by decide +kernel
theorem dX4_readBlow_78 : decode cX4_readBlow 78 = .ok (.aload_n 0, 1) := by decide +kernel
theorem dX4_readBlow_79 : decode cX4_readBlow 79 = .ok (.invokevirtual 136, 3) := by decide +kernel
theorem dX4_readBlow_82 : decode cX4_readBlow 82 = .ok (.istore_n 3, 1) := by decide +kernel
theorem dX4_readBlow_83 : decode cX4_readBlow 83 = .ok (.iload_n 3, 1) := by decide +kernel
theorem dX4_readBlow_84 : decode cX4_readBlow 84 = .ok (.ifCond .ne 27, 3) := by decide +kernel
theorem dX4_readBlow_87 : decode cX4_readBlow 87 = .ok (.aload_n 0, 1) := by decide +kernel
theorem dX4_readBlow_88 : decode cX4_readBlow 88 = .ok (.getfield 52, 3) := by decide +kernel
theorem dX4_readBlow_91 : decode cX4_readBlow 91 = .ok (.aload_n 0, 1) := by decide +kernel
theorem dX4_readBlow_92 : decode cX4_readBlow 92 = .ok (.getfield 9, 3) := by decide +kernel
theorem dX4_readBlow_95 : decode cX4_readBlow 95 = .ok (.aload_n 0, 1) := by decide +kernel
theorem dX4_readBlow_96 : decode cX4_readBlow 96 = .ok (.getfield 33, 3) := by decide +kernel
theorem dX4_readBlow_99 : decode cX4_readBlow 99 = .ok (.getfield 133, 3) := by decide +kernel
theorem dX4_readBlow_102 : decode cX4_readBlow 102 = .ok (.invokevirtual 168, 3) := by decide +kernel
theorem dX4_readBlow_105 : decode cX4_readBlow 105 = .ok (.ifCond .ne 6, 3) := by decide +kernel
theorem dX4_readBlow_108 : decode cX4_readBlow 108 = .ok (.bipush 6, 2) := by decide +kernel
theorem dX4_readBlow_110 : decode cX4_readBlow 110 = .ok (.istore_n 3, 1) := by decide +kernel
theorem dX4_readBlow_111 : decode cX4_readBlow 111 = .ok (.iload_n 3, 1) := by decide +kernel
theorem dX4_readBlow_112 : decode cX4_readBlow 112 = .ok (.ifCond .eq 5, 3) := by decide +kernel
theorem dX4_readBlow_115 : decode cX4_readBlow 115 = .ok (.iload_n 3, 1) := by decide +kernel
theorem dX4_readBlow_116 : decode cX4_readBlow 116 = .ok (.ireturn, 1) := by decide +kernel
theorem dX4_readBlow_117 : decode cX4_readBlow 117 = .ok (.aload_n 0, 1) := by decide +kernel
theorem dX4_readBlow_118 : decode cX4_readBlow 118 = .ok (.getfield 52, 3) := by decide +kernel
theorem dX4_readBlow_121 : decode cX4_readBlow 121 = .ok (.getfield 185, 3) := by decide +kernel
theorem dX4_readBlow_124 : decode cX4_readBlow 124 = .ok (.iload_n 2, 1) := by decide +kernel
theorem dX4_readBlow_125 : decode cX4_readBlow 125 = .ok (.aload_n 0, 1) := by decide +kernel
theorem dX4_readBlow_126 : decode cX4_readBlow 126 = .ok (.getfield 33, 3) := by decide +kernel
theorem dX4_readBlow_129 : decode cX4_readBlow 129 = .ok (.getfield 133, 3) := by decide +kernel
theorem dX4_readBlow_132 : decode cX4_readBlow 132 = .ok (.iastore, 1) := by decide +kernel
theorem dX4_readBlow_133 : decode cX4_readBlow 133 = .ok (.aload_n 0, 1) := by decide +kernel
theorem dX4_readBlow_134 : decode cX4_readBlow 134 = .ok (.getfield 33, 3) := by decide +kernel
theorem dX4_readBlow_137 : decode cX4_readBlow 137 = .ok (.invokevirtual 77, 3) := by decide +kernel
theorem dX4_readBlow_140 : decode cX4_readBlow 140 = .ok (.aload_n 0, 1) := by decide +kernel
theorem dX4_readBlow_141 : decode cX4_readBlow 141 = .ok (.iconst 1, 1) := by decide +kernel
theorem dX4_readBlow_142 : decode cX4_readBlow 142 = .ok (.bipush 9, 2) := by decide +kernel
theorem dX4_readBlow_144 : decode cX4_readBlow 144 = .ok (.invokevirtual 149, 3) := by decide +kernel
theorem dX4_readBlow_147 : decode cX4_readBlow 147 = .ok (.istore_n 3, 1) := by decide +kernel
theorem dX4_readBlow_148 : decode cX4_readBlow 148 = .ok (.iload_n 3, 1) := by decide +kernel
theorem dX4_readBlow_149 : decode cX4_readBlow 149 = .ok (.ifCond .eq 5, 3) := by decide +kernel
theorem dX4_readBlow_152 : decode cX4_readBlow 152 = .ok (.iload_n 3, 1) := by decide +kernel
theorem dX4_readBlow_153 : decode cX4_readBlow 153 = .ok (.ireturn, 1) := by decide +kernel
theorem dX4_readBlow_154 : decode cX4_readBlow 154 = .ok (.aload_n 0, 1) := by decide +kernel
theorem dX4_readBlow_155 : decode cX4_readBlow 155 = .ok (.getfield 52, 3) := by decide +kernel
theorem dX4_readBlow_158 : decode cX4_readBlow 158 = .ok (.getfield 188, 3) := by decide +kernel
theorem dX4_readBlow_161 : decode cX4_readBlow 161 = .ok (.iload_n 2, 1) := by decide +kernel
theorem dX4_readBlow_162 : decode cX4_readBlow 162 = .ok (.aload_n 0, 1) := by decide +kernel
theorem dX4_readBlow_163 : decode cX4_readBlow 163 = .ok (.getfield 9, 3) := by decide +kernel
theorem dX4_readBlow_166 : decode cX4_readBlow 166 = .ok (.iastore, 1) := by decide +kernel
theorem dX4_readBlow_167 : decode cX4_readBlow 167 = .ok (.aload_n 0, 1) := by decide +kernel
theorem dX4_readBlow_168 : decode cX4_readBlow 168 = .ok (.getfield 52, 3) := by decide +kernel
theorem dX4_readBlow_171 : decode cX4_readBlow 171 = .ok (.getfield 179, 3) := by decide +kernel
theorem dX4_readBlow_174 : decode cX4_readBlow 174 = .ok (.iload_n 1, 1) := by decide +kernel
theorem dX4_readBlow_175 : decode cX4_readBlow 175 = .ok (.dup2, 1) := by decide +kernel
theorem dX4_readBlow_176 : decode cX4_readBlow 176 = .ok (.iaload, 1) := by decide +kernel
theorem dX4_readBlow_177 : decode cX4_readBlow 177 = .ok (.iconst 1, 1) := by decide +kernel
theorem dX4_readBlow_178 : decode cX4_readBlow 178 = .ok (.iadd, 1) := by decide +kernel
theorem dX4_readBlow_179 : decode cX4_readBlow 179 = .ok (.iastore, 1) := by decide +kernel
theorem dX4_readBlow_180 : decode cX4_readBlow 180 = .ok (.iconst 0, 1) := by decide +kernel
theorem dX4_readBlow_181 : decode cX4_readBlow 181 = .ok (.ireturn, 1) := by decide +kernel
theorem dX4_readCalendar_0 : decode cX4_readCalendar 0 = .ok (.aload_n 0, 1) := by decide +kernel
theorem dX4_readCalendar_1 : decode cX4_readCalendar 1 = .ok (.getfield 15, 3) := by decide +kernel
theorem dX4_readCalendar_4 : decode cX4_readCalendar 4 = .ok (.ifCond .eq 5, 3) := by decide +kernel
theorem dX4_readCalendar_7 : decode cX4_readCalendar 7 = .ok (.iconst 5, 1) := by decide +kernel
theorem dX4_readCalendar_8 : decode cX4_readCalendar 8 = .ok (.ireturn, 1) := by decide +kernel
theorem dX4_readCalendar_9 : decode cX4_readCalendar 9 = .ok (.aload_n 0, 1) := by decide +kernel
theorem dX4_readCalendar_10 : decode cX4_readCalendar 10 = .ok (.iconst 1, 1) := by decide +kernel
theorem dX4_readCalendar_11 : decode cX4_readCalendar 11 = .ok (.putfield 15, 3) := by decide +kernel
theorem dX4_readCalendar_14 : decode cX4_readCalendar 14 = .ok (.aload_n 0, 1) := by decide +kernel
theorem dX4_readCalendar_15 : decode cX4_readCalendar 15 = .ok (.getfield 33, 3) := by decide +kernel
theorem dX4_readCalendar_18 : decode cX4_readCalendar 18 = .ok (.invokevirtual 77, 3) := by decide +kernel
theorem dX4_readCalendar_21 : decode cX4_readCalendar 21 = .ok (.iconst 0, 1) := by decide +kernel
theorem dX4_readCalendar_22 : decode cX4_readCalendar 22 = .ok (.istore_n 1, 1) := by decide +kernel
theorem dX4_readCalendar_23 : decode cX4_readCalendar 23 = .ok (.iload_n 1, 1) := by decide +kernel
theorem dX4_readCalendar_24 : decode cX4_readCalendar 24 = .ok (.bipush 10, 2) := by decide +kernel
theorem dX4_readCalendar_26 : decode cX4_readCalendar 26 = .ok (.if_icmp .gt 116, 3) := by decide +kernel
theorem dX4_readCalendar_29 : decode cX4_readCalendar 29 = .ok (.iload_n 1, 1) := by decide +kernel
theorem dX4_readCalendar_30 : decode cX4_readCalendar 30 = .ok (.ifCond .le 16, 3) := by decide +kernel
theorem dX4_readCalendar_33 : decode cX4_readCalendar 33 = .ok (.aload_n 0, 1) := by decide +kernel
theorem dX4_readCalendar_34 : decode cX4_readCalendar 34 = .ok (.getfield 33, 3) := by decide +kernel
theorem dX4_readCalendar_37 : decode cX4_readCalendar 37 = .ok (.getfield 66, 3) := by decide +kernel
theorem dX4_readCalendar_40 : decode cX4_readCalendar 40 = .ok (.iconst 2, 1) := by decide +kernel
theorem dX4_readCalendar_41 : decode cX4_readCalendar 41 = .ok (.if_icmp .eq 5, 3) := by decide +kernel
theorem dX4_readCalendar_44 : decode cX4_readCalendar 44 = .ok (.iconst 0, 1) := by decide +kernel
theorem dX4_readCalendar_45 : decode cX4_readCalendar 45 = .ok (.ireturn, 1) := by decide +kernel
theorem dX4_readCalendar_46 : decode cX4_readCalendar 46 = .ok (.aload_n 0, 1) := by decide +kernel
theorem dX4_readCalendar_47 : decode cX4_readCalendar 47 = .ok (.invokevirtual 130, 3) := by decide +kernel
theorem dX4_readCalendar_50 : decode cX4_readCalendar 50 = .ok (.istore_n 2, 1) := by decide +kernel
theorem dX4_readCalendar_51 : decode cX4_readCalendar 51 = .ok (.iload_n 2, 1) := by decide +kernel
theorem dX4_readCalendar_52 : decode cX4_readCalendar 52 = .ok (.ifCond .ne 11, 3) := by decide +kernel
theorem dX4_readCalendar_55 : decode cX4_readCalendar 55 = .ok (.iload_n 1, 1) := by decide +kernel
theorem dX4_readCalendar_56 : decode cX4_readCalendar 56 = .ok (.bipush 10, 2) := by decide +kernel
theorem dX4_readCalendar_58 : decode cX4_readCalendar 58 = .ok (.if_icmp .ne 5, 3) := by decide +kernel
theorem dX4_readCalendar_61 : decode cX4_readCalendar 61 = .ok (.iconst 2, 1) := by decide +kernel
theorem dX4_readCalendar_62 : decode cX4_readCalendar 62 = .ok (.istore_n 2, 1) := by decide +kernel
theorem dX4_readCalendar_63 : decode cX4_readCalendar 63 = .ok (.iload_n 2, 1) := by decide +kernel
theorem dX4_readCalendar_64 : decode cX4_readCalendar 64 = .ok (.ifCond .ne 33, 3) := by decide +kernel
theorem dX4_readCalendar_67 : decode cX4_readCalendar 67 = .ok (.aload_n 0, 1) := by decide +kernel
theorem dX4_readCalendar_68 : decode cX4_readCalendar 68 = .ok (.getfield 33, 3) := by decide +kernel
theorem dX4_readCalendar_71 : decode cX4_readCalendar 71 = .ok (.getfield 133, 3) := by decide +kernel
theorem dX4_readCalendar_74 : decode cX4_readCalendar 74 = .ok (.iconst 5, 1) := by decide +kernel
theorem dX4_readCalendar_75 : decode cX4_readCalendar 75 = .ok (.if_icmp .eq 22, 3) := by decide +kernel
theorem dX4_readCalendar_78 : decode cX4_readCalendar 78 = .ok (.aload_n 0, 1) := by decide +kernel
theorem dX4_readCalendar_79 : decode cX4_readCalendar 79 = .ok (.getfield 33, 3) := by decide +kernel
theorem dX4_readCalendar_82 : decode cX4_readCalendar 82 = .ok (.getfield 133, 3) := by decide +kernel
theorem dX4_readCalendar_85 : decode cX4_readCalendar 85 = .ok (.aload_n 0, 1) := by decide +kernel
theorem dX4_readCalendar_86 : decode cX4_readCalendar 86 = .ok (.getfield 52, 3) := by decide +kernel
theorem dX4_readCalendar_89 : decode cX4_readCalendar 89 = .ok (.getfield 176, 3) := by decide +kernel
theorem dX4_readCalendar_92 : decode cX4_readCalendar 92 = .ok (.if_icmp .lt 5, 3) := by decide +kernel
theorem dX4_readCalendar_95 : decode cX4_readCalendar 95 = .ok (.iconst 3, 1) := by decide +kernel
theorem dX4_readCalendar_96 : decode cX4_readCalendar 96 = .ok (.istore_n 2, 1) := by decide +kernel
theorem dX4_readCalendar_97 : decode cX4_readCalendar 97 = .ok (.iload_n 2, 1) := by decide +kernel
theorem dX4_readCalendar_98 : decode cX4_readCalendar 98 = .ok (.ifCond .eq 5, 3) := by decide +kernel
theorem dX4_readCalendar_101 : decode cX4_readCalendar 101 = .ok (.iload_n 2, 1) := by decide +kernel
theorem dX4_readCalendar_102 : decode cX4_readCalendar 102 = .ok (.ireturn, 1) := by decide +kernel
theorem dX4_readCalendar_103 : decode cX4_readCalendar 103 = .ok (.aload_n 0, 1) := by decide +kernel
theorem dX4_readCalendar_104 : decode cX4_readCalendar 104 = .ok (.getfield 52, 3) := by decide +kernel
theorem dX4_readCalendar_107 : decode cX4_readCalendar 107 = .ok (.getfield 191, 3) := by decide +kernel
theorem dX4_readCalendar_110 : decode cX4_readCalendar 110 = .ok (.iload_n 1, 1) := by decide +kernel
theorem dX4_readCalendar_111 : decode cX4_readCalendar 111 = .ok (.aload_n 0, 1) := by decide +kernel
theorem dX4_readCalendar_112 : decode cX4_readCalendar 112 = .ok (.getfield 33, 3) := by decide +kernel
theorem dX4_readCalendar_115 : decode cX4_readCalendar 115 = .ok (.getfield 133, 3) := by decide +kernel
theorem dX4_readCalendar_118 : decode cX4_readCalendar 118 = .ok (.iastore, 1) := by decide +kernel
theorem dX4_readCalendar_119 : decode cX4_readCalendar 119 = .ok (.aload_n 0, 1) := by decide +kernel
theorem dX4_readCalendar_120 : decode cX4_readCalendar 120 = .ok (.getfield 52, 3) := by decide +kernel
theorem dX4_readCalendar_123 : decode cX4_readCalendar 123 = .ok (.iload_n 1, 1) := by decide +kernel
theorem dX4_readCalendar_124 : decode cX4_readCalendar 124 = .ok (.iconst 1, 1) := by decide +kernel
theorem dX4_readCalendar_125 : decode cX4_readCalendar 125 = .ok (.iadd, 1) := by decide +kernel
theorem dX4_readCalendar_126 : decode cX4_readCalendar 126 = .ok (.putfield 193, 3) := by decide +kernel
theorem dX4_readCalendar_129 : decode cX4_readCalendar 129 = .ok (.aload_n 0, 1) := by decide +kernel
theorem dX4_readCalendar_130 : decode cX4_readCalendar 130 = .ok (.getfield 33, 3) := by decide +kernel
theorem dX4_readCalendar_133 : decode cX4_readCalendar 133 = .ok (.invokevirtual 77, 3) := by decide +kernel
theorem dX4_readCalendar_136 : decode cX4_readCalendar 136 = .ok (.iinc 1 1, 3) := by decide +kernel
theorem dX4_readCalendar_139 : decode cX4_readCalendar 139 = .ok (.goto (-116), 3) := by decide +kernel
theorem dX4_readCalendar_142 : decode cX4_readCalendar 142 = .ok (.iconst 0, 1) := by decide +kernel
theorem dX4_readCalendar_143 : decode cX4_readCalendar 143 = .ok (.ireturn, 1) := by decide +kernel
theorem dX4_readEvery_0 : decode cX4_readEvery 0 = .ok (.aload_n 0, 1) := by decide +kernel
theorem dX4_readEvery_1 : decode cX4_readEvery 1 = .ok (.getfield 19, 3) := by decide +kernel
theorem dX4_readEvery_4 : decode cX4_readEvery 4 = .ok (.ifCond .eq 5, 3) := by decide +kernel
theorem dX4_readEvery_7 : decode cX4_readEvery 7 = .ok (.iconst 5, 1) := by decide +kernel
theorem dX4_readEvery_8 : decode cX4_readEvery 8 = .ok (.ireturn, 1) := by decide +kernel
theorem dX4_readEvery_9 : decode cX4_readEvery 9 = .ok (.aload_n 0, 1) := by decide +kernel
theorem dX4_readEvery_10 : decode cX4_readEvery 10 = .ok (.iconst 1, 1) := by decide +kernel
theorem dX4_readEvery_11 : decode cX4_readEvery 11 = .ok (.putfield 19, 3) := by decide +kernel
theorem dX4_readEvery_14 : decode cX4_readEvery 14 = .ok (.aload_n 0, 1) := by decide +kernel
theorem dX4_readEvery_15 : decode cX4_readEvery 15 = .ok (.getfield 33, 3) := by decide +kernel
theorem dX4_readEvery_18 : decode cX4_readEvery 18 = .ok (.invokevirtual 77, 3) := by decide +kernel
theorem dX4_readEvery_21 : decode cX4_readEvery 21 = .ok (.aload_n 0, 1) := by decide +kernel
theorem dX4_readEvery_22 : decode cX4_readEvery 22 = .ok (.iconst 1, 1) := by decide +kernel
theorem dX4_readEvery_23 : decode cX4_readEvery 23 = .ok (.bipush 30, 2) := by decide +kernel
theorem dX4_readEvery_25 : decode cX4_readEvery 25 = .ok (.invokevirtual 149, 3) := by decide +kernel
theorem dX4_readEvery_28 : decode cX4_readEvery 28 = .ok (.istore_n 1, 1) := by decide +kernel
theorem dX4_readEvery_29 : decode cX4_readEvery 29 = .ok (.aload_n 0, 1) := by decide +kernel
theorem dX4_readEvery_30 : decode cX4_readEvery 30 = .ok (.getfield 52, 3) := by decide +kernel
theorem dX4_readEvery_33 : decode cX4_readEvery 33 = .ok (.iload_n 1, 1) := by decide +kernel
theorem dX4_readEvery_34 : decode cX4_readEvery 34 = .ok (.ifCond .ne 10, 3) := by decide +kernel
theorem dX4_readEvery_37 : decode cX4_readEvery 37 = .ok (.aload_n 0, 1) := by decide +kernel
theorem dX4_readEvery_38 : decode cX4_readEvery 38 = .ok (.getfield 9, 3) := by decide +kernel
theorem dX4_readEvery_41 : decode cX4_readEvery 41 = .ok (.goto 10, 3) := by decide +kernel
theorem dX4_readEvery_44 : decode cX4_readEvery 44 = .ok (.aload_n 0, 1) := by decide +kernel
theorem dX4_readEvery_45 : decode cX4_readEvery 45 = .ok (.getfield 52, 3) := by decide +kernel
theorem dX4_readEvery_48 : decode cX4_readEvery 48 = .ok (.getfield 196, 3) := by decide +kernel
theorem dX4_readEvery_51 : decode cX4_readEvery 51 = .ok (.putfield 196, 3) := by decide +kernel
theorem dX4_readEvery_54 : decode cX4_readEvery 54 = .ok (.iload_n 1, 1) := by decide +kernel
theorem dX4_readEvery_55 : decode cX4_readEvery 55 = .ok (.ireturn, 1) := by decide +kernel
theorem dX4_readClean_0 : decode cX4_readClean 0 = .ok (.aload_n 0, 1) := by decide +kernel
theorem dX4_readClean_1 : decode cX4_readClean 1 = .ok (.getfield 22, 3) := by decide +kernel
theorem dX4_readClean_4 : decode cX4_readClean 4 = .ok (.ifCond .eq 5, 3) := by decide +kernel
theorem dX4_readClean_7 : decode cX4_readClean 7 = .ok (.iconst 5, 1) := by decide +kernel
theorem dX4_readClean_8 : decode cX4_readClean 8 = .ok (.ireturn, 1) := by decide +kernel
theorem dX4_readClean_9 : decode cX4_readClean 9 = .ok (.aload_n 0, 1) := by decide +kernel
theorem dX4_readClean_10 : decode cX4_readClean 10 = .ok (.iconst 1, 1) := by decide +kernel
theorem dX4_readClean_11 : decode cX4_readClean 11 = .ok (.putfield 22, 3) := by decide +kernel
theorem dX4_readClean_14 : decode cX4_readClean 14 = .ok (.aload_n 0, 1) := by decide +kernel
theorem dX4_readClean_15 : decode cX4_readClean 15 = .ok (.getfield 33, 3) := by decide +kernel
theorem dX4_readClean_18 : decode cX4_readClean 18 = .ok (.invokevirtual 77, 3) := by decide +kernel
theorem dX4_readClean_21 : decode cX4_readClean 21 = .ok (.aload_n 0, 1) := by decide +kernel
theorem dX4_readClean_22 : decode cX4_readClean 22 = .ok (.iconst 0, 1) := by decide +kernel
theorem dX4_readClean_23 : decode cX4_readClean 23 = .ok (.sipush 999, 3) := by decide +kernel
theorem dX4_readClean_26 : decode cX4_readClean 26 = .ok (.invokevirtual 149, 3) := by decide +kernel
theorem dX4_readClean_29 : decode cX4_readClean 29 = .ok (.istore_n 1, 1) := by decide +kernel
theorem dX4_readClean_30 : decode cX4_readClean 30 = .ok (.aload_n 0, 1) := by decide +kernel
theorem dX4_readClean_31 : decode cX4_readClean 31 = .ok (.getfield 52, 3) := by decide +kernel
theorem dX4_readClean_34 : decode cX4_readClean 34 = .ok (.iload_n 1, 1) := by decide +kernel
theorem dX4_readClean_35 : decode cX4_readClean 35 = .ok (.ifCond .ne 10, 3) := by decide +kernel
theorem dX4_readClean_38 : decode cX4_readClean 38 = .ok (.aload_n 0, 1) := by decide +kernel
theorem dX4_readClean_39 : decode cX4_readClean 39 = .ok (.getfield 9, 3) := by decide +kernel
theorem dX4_readClean_42 : decode cX4_readClean 42 = .ok (.goto 10, 3) := by decide +kernel
theorem dX4_readClean_45 : decode cX4_readClean 45 = .ok (.aload_n 0, 1) := by decide +kernel
theorem dX4_readClean_46 : decode cX4_readClean 46 = .ok (.getfield 52, 3) := by decide +kernel
theorem dX4_readClean_49 : decode cX4_readClean 49 = .ok (.getfield 198, 3) := by decide +kernel
theorem dX4_readClean_52 : decode cX4_readClean 52 = .ok (.putfield 198, 3) := by decide +kernel
theorem dX4_readClean_55 : decode cX4_readClean 55 = .ok (.iload_n 1, 1) := by decide +kernel
theorem dX4_readClean_56 : decode cX4_readClean 56 = .ok (.ireturn, 1) := by decide +kernel
theorem dX5_init_0 : decode cX5_init 0 = .ok (.aload_n 0, 1) := by decide +kernel
theorem dX5_init_1 : decode cX5_init 1 = .ok (.invokespecial 3, 3) := by decide +kernel
theorem dX5_init_4 : decode cX5_init 4 = .ok (.aload_n 0, 1) := by decide +kernel
theorem dX5_init_5 : decode cX5_init 5 = .ok (.bipush 6, 2) := by decide +kernel
theorem dX5_init_7 : decode cX5_init 7 = .ok (.newarray .int, 2) := by decide +kernel
theorem dX5_init_9 : decode cX5_init 9 = .ok (.putfield 11, 3) := by decide +kernel
theorem dX5_init_12 : decode cX5_init 12 = .ok (.aload_n 0, 1) := by decide +kernel
theorem dX5_init_13 : decode cX5_init 13 = .ok (.iconst 0, 1) := by decide +kernel
theorem dX5_init_14 : decode cX5_init 14 = .ok (.putfield 15, 3) := by decide +kernel
theorem dX5_init_17 : decode cX5_init 17 = .ok (.aload_n 0, 1) := by decide +kernel
theorem dX5_init_18 : decode cX5_init 18 = .ok (.sipush 700, 3) := by decide +kernel
theorem dX5_init_21 : decode cX5_init 21 = .ok (.newarray .int, 2) := by decide +kernel
theorem dX5_init_23 : decode cX5_init 23 = .ok (.putfield 19, 3) := by decide +kernel
theorem dX5_init_26 : decode cX5_init 26 = .ok (.aload_n 0, 1) := by decide +kernel
theorem dX5_init_27 : decode cX5_init 27 = .ok (.bipush 40, 2) := by decide +kernel
theorem dX5_init_29 : decode cX5_init 29 = .ok (.newarray .int, 2) := by decide +kernel
theorem dX5_init_31 : decode cX5_init 31 = .ok (.putfield 22, 3) := by decide +kernel
theorem dX5_init_34 : decode cX5_init 34 = .ok (.return_, 1) := by decide +kernel
theorem dX5_clear_0 : decode cX5_clear 0 = .ok (.aload_n 0, 1) := by decide +kernel
theorem dX5_clear_1 : decode cX5_clear 1 = .ok (.iconst 0, 1) := by decide +kernel
theorem dX5_clear_2 : decode cX5_clear 2 = .ok (.putfield 15, 3) := by decide +kernel
theorem dX5_clear_5 : decode cX5_clear 5 = .ok (.return_, 1) := by decide +kernel
theorem dX5_isEmpty_0 : decode cX5_isEmpty 0 = .ok (.aload_n 0, 1) := by decide +kernel
theorem dX5_isEmpty_1 : decode cX5_isEmpty 1 = .ok (.getfield 15, 3) := by decide +kernel
theorem dX5_isEmpty_4 : decode cX5_isEmpty 4 = .ok (.ifCond .ne 7, 3) := by decide +kernel
theorem dX5_isEmpty_7 : decode cX5_isEmpty 7 = .ok (.iconst 1, 1) := by decide +kernel
theorem dX5_isEmpty_8 : decode cX5_isEmpty 8 = .ok (.goto 4, 3) := by decide +kernel
theorem dX5_isEmpty_11 : decode cX5_isEmpty 11 = .ok (.iconst 0, 1) := by decide +kernel
theorem dX5_isEmpty_12 : decode cX5_isEmpty 12 = .ok (.ireturn, 1) := by decide +kernel
theorem dX5_put_0 : decode cX5_put 0 = .ok (.aload_n 0, 1) := by decide +kernel
theorem dX5_put_1 : decode cX5_put 1 = .ok (.getfield 15, 3) := by decide +kernel
theorem dX5_put_4 : decode cX5_put 4 = .ok (.sipush 700, 3) := by decide +kernel
theorem dX5_put_7 : decode cX5_put 7 = .ok (.if_icmp .ge 23, 3) := by decide +kernel
theorem dX5_put_10 : decode cX5_put 10 = .ok (.aload_n 0, 1) := by decide +kernel
theorem dX5_put_11 : decode cX5_put 11 = .ok (.getfield 19, 3) := by decide +kernel
theorem dX5_put_14 : decode cX5_put 14 = .ok (.aload_n 0, 1) := by decide +kernel
theorem dX5_put_15 : decode cX5_put 15 = .ok (.getfield 15, 3) := by decide +kernel
theorem dX5_put_18 : decode cX5_put 18 = .ok (.iload_n 1, 1) := by decide +kernel
theorem dX5_put_19 : decode cX5_put 19 = .ok (.iastore, 1) := by decide +kernel
theorem dX5_put_20 : decode cX5_put 20 = .ok (.aload_n 0, 1) := by decide +kernel
theorem dX5_put_21 : decode cX5_put 21 = .ok (.dup, 1) := by decide +kernel
theorem dX5_put_22 : decode cX5_put 22 = .ok (.getfield 15, 3) := by decide +kernel
theorem dX5_put_25 : decode cX5_put 25 = .ok (.iconst 1, 1) := by decide +kernel
theorem dX5_put_26 : decode cX5_put 26 = .ok (.iadd, 1) := by decide +kernel
theorem dX5_put_27 : decode cX5_put 27 = .ok (.putfield 15, 3) := by decide +kernel
theorem dX5_put_30 : decode cX5_put 30 = .ok (.return_, 1) := by decide +kernel
theorem dX5_amount_0 : decode cX5_amount 0 = .ok (.iconst 0, 1) := by decide +kernel
theorem dX5_amount_1 : decode cX5_amount 1 = .ok (.istore_n 1, 1) := by decide +kernel
theorem dX5_amount_2 : decode cX5_amount 2 = .ok (.iconst 0, 1) := by decide +kernel
theorem dX5_amount_3 : decode cX5_amount 3 = .ok (.istore_n 2, 1) := by decide +kernel
theorem dX5_amount_4 : decode cX5_amount 4 = .ok (.iload_n 2, 1) := by decide +kernel
theorem dX5_amount_5 : decode cX5_amount 5 = .ok (.aload_n 0, 1) := by decide +kernel
theorem dX5_amount_6 : decode cX5_amount 6 = .ok (.getfield 15, 3) := by decide +kernel
theorem dX5_amount_9 : decode cX5_amount 9 = .ok (.if_icmp .ge 134, 3) := by decide +kernel
theorem dX5_amount_12 : decode cX5_amount 12 = .ok (.aload_n 0, 1) := by decide +kernel
theorem dX5_amount_13 : decode cX5_amount 13 = .ok (.getfield 19, 3) := by decide +kernel
theorem dX5_amount_16 : decode cX5_amount 16 = .ok (.iload_n 2, 1) := by decide +kernel
theorem dX5_amount_17 : decode cX5_amount 17 = .ok (.iaload, 1) := by decide +kernel
theorem dX5_amount_18 : decode cX5_amount 18 = .ok (.istore_n 3, 1) := by decide +kernel
theorem dX5_amount_19 : decode cX5_amount 19 = .ok (.iload_n 3, 1) := by decide +kernel
theorem dX5_amount_20 : decode cX5_amount 20 = .ok (.bipush (-6), 2) := by decide +kernel
theorem dX5_amount_22 : decode cX5_amount 22 = .ok (.if_icmp .lt 39, 3) := by decide +kernel
theorem dX5_amount_25 : decode cX5_amount 25 = .ok (.iload_n 1, 1) := by decide +kernel
theorem dX5_amount_26 : decode cX5_amount 26 = .ok (.bipush 40, 2) := by decide +kernel
theorem dX5_amount_28 : decode cX5_amount 28 = .ok (.if_icmp .lt 5, 3) := by decide +kernel
theorem dX5_amount_31 : decode cX5_amount 31 = .ok (.iconst 0, 1) := by decide +kernel
theorem dX5_amount_32 : decode cX5_amount 32 = .ok (.ireturn, 1) := by decide +kernel
theorem dX5_amount_33 : decode cX5_amount 33 = .ok (.aload_n 0, 1) := by decide +kernel
theorem dX5_amount_34 : decode cX5_amount 34 = .ok (.getfield 22, 3) := by decide +kernel
theorem dX5_amount_37 : decode cX5_amount 37 = .ok (.iload_n 1, 1) := by decide +kernel
theorem dX5_amount_38 : decode cX5_amount 38 = .ok (.iload_n 3, 1) := by decide +kernel
theorem dX5_amount_39 : decode cX5_amount 39 = .ok (.ifCond .lt 7, 3) := by decide +kernel
theorem dX5_amount_42 : decode cX5_amount 42 = .ok (.iload_n 3, 1) := by decide +kernel
theorem dX5_amount_43 : decode cX5_amount 43 = .ok (.goto 11, 3) := by decide +kernel
theorem dX5_amount_46 : decode cX5_amount 46 = .ok (.aload_n 0, 1) := by decide +kernel
theorem dX5_amount_47 : decode cX5_amount 47 = .ok (.getfield 11, 3) := by decide +kernel
theorem dX5_amount_50 : decode cX5_amount 50 = .ok (.iconst (-1), 1) := by decide +kernel
theorem dX5_amount_51 : decode cX5_amount 51 = .ok (.iload_n 3, 1) := by decide +kernel
theorem dX5_amount_52 : decode cX5_amount 52 = .ok (.isub, 1) := by decide +kernel
theorem dX5_amount_53 : decode cX5_amount 53 = .ok (.iaload, 1) := by decide +kernel
theorem dX5_amount_54 : decode cX5_amount 54 = .ok (.iastore, 1) := by decide +kernel
theorem dX5_amount_55 : decode cX5_amount 55 = .ok (.iinc 1 1, 3) := by decide +kernel
theorem dX5_amount_58 : decode cX5_amount 58 = .ok (.goto 79, 3) := by decide +kernel
theorem dX5_amount_61 : decode cX5_amount 61 = .ok (.iload_n 3, 1) := by decide +kernel
theorem dX5_amount_62 : decode cX5_amount 62 = .ok (.bipush (-13), 2) := by decide +kernel
theorem dX5_amount_64 : decode cX5_amount 64 = .ok (.if_icmp .ne 37, 3) := by decide +kernel
theorem dX5_amount_67 : decode cX5_amount 67 = .ok (.iload_n 1, 1) := by decide +kernel
theorem dX5_amount_68 : decode cX5_amount 68 = .ok (.iconst 1, 1) := by decide +kernel
theorem dX5_amount_69 : decode cX5_amount 69 = .ok (.if_icmp .ge 5, 3) := by decide +kernel
theorem dX5_amount_72 : decode cX5_amount 72 = .ok (.iconst 0, 1) := by decide +kernel
theorem dX5_amount_73 : decode cX5_amount 73 = .ok (.ireturn, 1) := by decide +kernel
theorem dX5_amount_74 : decode cX5_amount 74 = .ok (.aload_n 0, 1) := by decide +kernel
theorem dX5_amount_75 : decode cX5_amount 75 = .ok (.getfield 22, 3) := by decide +kernel
theorem dX5_amount_78 : decode cX5_amount 78 = .ok (.iload_n 1, 1) := by decide +kernel
theorem dX5_amount_79 : decode cX5_amount 79 = .ok (.iconst 1, 1) := by decide +kernel
theorem dX5_amount_80 : decode cX5_amount 80 = .ok (.isub, 1) := by decide +kernel
theorem dX5_amount_81 : decode cX5_amount 81 = .ok (.aload_n 0, 1) := by decide +kernel
theorem dX5_amount_82 : decode cX5_amount 82 = .ok (.getfield 22, 3) := by decide +kernel
theorem dX5_amount_85 : decode cX5_amount 85 = .ok (.iload_n 1, 1) := by decide +kernel
theorem dX5_amount_86 : decode cX5_amount 86 = .ok (.iconst 1, 1) := by decide +kernel
theorem dX5_amount_87 : decode cX5_amount 87 = .ok (.isub, 1) := by decide +kernel
theorem dX5_amount_88 : decode cX5_amount 88 = .ok (.iaload, 1) := by decide +kernel
theorem dX5_amount_89 : decode cX5_amount 89 = .ok (.ifCond .ne 7, 3) := by decide +kernel
theorem dX5_amount_92 : decode cX5_amount 92 = .ok (.iconst 1, 1) := by decide +kernel
theorem dX5_amount_93 : decode cX5_amount 93 = .ok (.goto 4, 3) := by decide +kernel
theorem dX5_amount_96 : decode cX5_amount 96 = .ok (.iconst 0, 1) := by decide +kernel
theorem dX5_amount_97 : decode cX5_amount 97 = .ok (.iastore, 1) := by decide +kernel
theorem dX5_amount_98 : decode cX5_amount 98 = .ok (.goto 39, 3) := by decide +kernel
theorem dX5_amount_101 : decode cX5_amount 101 = .ok (.iload_n 1, 1) := by decide +kernel
theorem dX5_amount_102 : decode cX5_amount 102 = .ok (.iconst 2, 1) := by decide +kernel
theorem dX5_amount_103 : decode cX5_amount 103 = .ok (.if_icmp .ge 5, 3) := by decide +kernel
theorem dX5_amount_106 : decode cX5_amount 106 = .ok (.iconst 0, 1) := by decide +kernel
theorem dX5_amount_107 : decode cX5_amount 107 = .ok (.ireturn, 1) := by decide +kernel
theorem dX5_amount_108 : decode cX5_amount 108 = .ok (.iinc 1 (-1), 3) := by decide +kernel
theorem dX5_amount_111 : decode cX5_amount 111 = .ok (.aload_n 0, 1) := by decide +kernel
theorem dX5_amount_112 : decode cX5_amount 112 = .ok (.getfield 22, 3) := by decide +kernel
theorem dX5_amount_115 : decode cX5_amount 115 = .ok (.iload_n 1, 1) := by decide +kernel
theorem dX5_amount_116 : decode cX5_amount 116 = .ok (.iconst 1, 1) := by decide +kernel
theorem dX5_amount_117 : decode cX5_amount 117 = .ok (.isub, 1) := by decide +kernel
theorem dX5_amount_118 : decode cX5_amount 118 = .ok (.iload_n 3, 1) := by decide +kernel
theorem dX5_amount_119 : decode cX5_amount 119 = .ok (.aload_n 0, 1) := by decide +kernel
theorem dX5_amount_120 : decode cX5_amount 120 = .ok (.getfield 22, 3) := by decide +kernel
theorem dX5_amount_123 : decode cX5_amount 123 = .ok (.iload_n 1, 1) := by decide +kernel
theorem dX5_amount_124 : decode cX5_amount 124 = .ok (.iconst 1, 1) := by decide +kernel
theorem dX5_amount_125 : decode cX5_amount 125 = .ok (.isub, 1) := by decide +kernel
theorem dX5_amount_126 : decode cX5_amount 126 = .ok (.iaload, 1) := by decide +kernel
theorem dX5_amount_127 : decode cX5_amount 127 = .ok (.aload_n 0, 1) := by decide +kernel
theorem dX5_amount_128 : decode cX5_amount 128 = .ok (.getfield 22, 3) := by decide +kernel
theorem dX5_amount_131 : decode cX5_amount 131 = .ok (.iload_n 1, 1) := by decide +kernel
theorem dX5_amount_132 : decode cX5_amount 132 = .ok (.iaload, 1) := by decide +kernel
theorem dX5_amount_133 : decode cX5_amount 133 = .ok (.invokestatic 25, 3) := by decide +kernel
theorem dX5_amount_136 : decode cX5_amount 136 = .ok (.iastore, 1) := by decide +kernel
theorem dX5_amount_137 : decode cX5_amount 137 = .ok (.iinc 2 1, 3) := by decide +kernel
theorem dX5_amount_140 : decode cX5_amount 140 = .ok (.goto (-136), 3) := by decide +kernel
theorem dX5_amount_143 : decode cX5_amount 143 = .ok (.aload_n 0, 1) := by decide +kernel
theorem dX5_amount_144 : decode cX5_amount 144 = .ok (.getfield 22, 3) := by decide +kernel
theorem dX5_amount_147 : decode cX5_amount 147 = .ok (.iconst 0, 1) := by decide +kernel
theorem dX5_amount_148 : decode cX5_amount 148 = .ok (.iaload, 1) := by decide +kernel
theorem dX5_amount_149 : decode cX5_amount 149 = .ok (.ireturn, 1) := by decide +kernel
theorem dX5_join_0 : decode cX5_join 0 = .ok (.iload_n 0, 1) := by decide +kernel
theorem dX5_join_1 : decode cX5_join 1 = .ok (.tableswitch 107 (-14) (-7) #[93, 107, 82, 71, 59, 55, 51, 47], 47) := by decide +kernel
theorem dX5_join_48 : decode cX5_join 48 = .ok (.iload_n 1, 1) := by decide +kernel
theorem dX5_join_49 : decode cX5_join 49 = .ok (.iload_n 2, 1) := by decide +kernel
theorem dX5_join_50 : decode cX5_join 50 = .ok (.iadd, 1) := by decide +kernel
theorem dX5_join_51 : decode cX5_join 51 = .ok (.ireturn, 1) := by decide +kernel
theorem dX5_join_52 : decode cX5_join 52 = .ok (.iload_n 1, 1) := by decide +kernel
theorem dX5_join_53 : decode cX5_join 53 = .ok (.iload_n 2, 1) := by decide +kernel
theorem dX5_join_54 : decode cX5_join 54 = .ok (.isub, 1) := by decide +kernel
theorem dX5_join_55 : decode cX5_join 55 = .ok (.ireturn, 1) := by decide +kernel
theorem dX5_join_56 : decode cX5_join 56 = .ok (.iload_n 1, 1) := by decide +kernel
theorem dX5_join_57 : decode cX5_join 57 = .ok (.iload_n 2, 1) := by decide +kernel
theorem dX5_join_58 : decode cX5_join 58 = .ok (.imul, 1) := by decide +kernel
theorem dX5_join_59 : decode cX5_join 59 = .ok (.ireturn, 1) := by decide +kernel
theorem dX5_join_60 : decode cX5_join 60 = .ok (.iload_n 2, 1) := by decide +kernel
theorem dX5_join_61 : decode cX5_join 61 = .ok (.ifCond .ne 7, 3) := by decide +kernel
theorem dX5_join_64 : decode cX5_join 64 = .ok (.iconst 0, 1) := by decide +kernel
theorem dX5_join_65 : decode cX5_join 65 = .ok (.goto 6, 3) := by decide +kernel
theorem dX5_join_68 : decode cX5_join 68 = .ok (.iload_n 1, 1) := by decide +kernel
theorem dX5_join_69 : decode cX5_join 69 = .ok (.iload_n 2, 1) := by decide +kernel
theorem dX5_join_70 : decode cX5_join 70 = .ok (.idiv, 1) := by decide +kernel
theorem dX5_join_71 : decode cX5_join 71 = .ok (.ireturn, 1) := by decide +kernel
theorem dX5_join_72 : decode cX5_join 72 = .ok (.iload_n 1, 1) := by decide +kernel
theorem dX5_join_73 : decode cX5_join 73 = .ok (.iload_n 2, 1) := by decide +kernel
theorem dX5_join_74 : decode cX5_join 74 = .ok (.if_icmp .ge 7, 3) := by decide +kernel
theorem dX5_join_77 : decode cX5_join 77 = .ok (.iconst 1, 1) := by decide +kernel
theorem dX5_join_78 : decode cX5_join 78 = .ok (.goto 4, 3) := by decide +kernel
theorem dX5_join_81 : decode cX5_join 81 = .ok (.iconst 0, 1) := by decide +kernel
theorem dX5_join_82 : decode cX5_join 82 = .ok (.ireturn, 1) := by decide +kernel
theorem dX5_join_83 : decode cX5_join 83 = .ok (.iload_n 1, 1) := by decide +kernel
theorem dX5_join_84 : decode cX5_join 84 = .ok (.iload_n 2, 1) := by decide +kernel
theorem dX5_join_85 : decode cX5_join 85 = .ok (.if_icmp .ne 7, 3) := by decide +kernel
theorem dX5_join_88 : decode cX5_join 88 = .ok (.iconst 1, 1) := by decide +kernel
theorem dX5_join_89 : decode cX5_join 89 = .ok (.goto 4, 3) := by decide +kernel
theorem dX5_join_92 : decode cX5_join 92 = .ok (.iconst 0, 1) := by decide +kernel
theorem dX5_join_93 : decode cX5_join 93 = .ok (.ireturn, 1) := by decide +kernel
theorem dX5_join_94 : decode cX5_join 94 = .ok (.iload_n 1, 1) := by decide +kernel
theorem dX5_join_95 : decode cX5_join 95 = .ok (.ifCond .eq 11, 3) := by decide +kernel
theorem dX5_join_98 : decode cX5_join 98 = .ok (.iload_n 2, 1) := by decide +kernel
theorem dX5_join_99 : decode cX5_join 99 = .ok (.ifCond .eq 7, 3) := by decide +kernel
theorem dX5_join_102 : decode cX5_join 102 = .ok (.iconst 1, 1) := by decide +kernel
theorem dX5_join_103 : decode cX5_join 103 = .ok (.goto 4, 3) := by decide +kernel
theorem dX5_join_106 : decode cX5_join 106 = .ok (.iconst 0, 1) := by decide +kernel
theorem dX5_join_107 : decode cX5_join 107 = .ok (.ireturn, 1) := by decide +kernel
theorem dX5_join_108 : decode cX5_join 108 = .ok (.iload_n 1, 1) := by decide +kernel
theorem dX5_join_109 : decode cX5_join 109 = .ok (.ifCond .ne 7, 3) := by decide +kernel
theorem dX5_join_112 : decode cX5_join 112 = .ok (.iload_n 2, 1) := by decide +kernel
theorem dX5_join_113 : decode cX5_join 113 = .ok (.ifCond .eq 7, 3) := by decide +kernel
theorem dX5_join_116 : decode cX5_join 116 = .ok (.iconst 1, 1) := by decide +kernel
theorem dX5_join_117 : decode cX5_join 117 = .ok (.goto 4, 3) := by decide +kernel
theorem dX5_join_120 : decode cX5_join 120 = .ok (.iconst 0, 1) := by decide +kernel
theorem dX5_join_121 : decode cX5_join 121 = .ok (.ireturn, 1) := by decide +kernel
theorem dX6_init_0 : decode cX6_init 0 = .ok (.aload_n 0, 1) := by decide +kernel
theorem dX6_init_1 : decode cX6_init 1 = .ok (.invokespecial 3, 3) := by decide +kernel
theorem dX6_init_4 : decode cX6_init 4 = .ok (.aload_n 0, 1) := by decide +kernel
theorem dX6_init_5 : decode cX6_init 5 = .ok (.bipush 80, 2) := by decide +kernel
theorem dX6_init_7 : decode cX6_init 7 = .ok (.newarray .int, 2) := by decide +kernel
theorem dX6_init_9 : decode cX6_init 9 = .ok (.putfield 11, 3) := by decide +kernel
theorem dX6_init_12 : decode cX6_init 12 = .ok (.aload_n 0, 1) := by decide +kernel
theorem dX6_init_13 : decode cX6_init 13 = .ok (.iconst 0, 1) := by decide +kernel
theorem dX6_init_14 : decode cX6_init 14 = .ok (.putfield 15, 3) := by decide +kernel
theorem dX6_init_17 : decode cX6_init 17 = .ok (.aload_n 0, 1) := by decide +kernel
theorem dX6_init_18 : decode cX6_init 18 = .ok (.iconst 0, 1) := by decide +kernel
theorem dX6_init_19 : decode cX6_init 19 = .ok (.putfield 19, 3) := by decide +kernel
theorem dX6_init_22 : decode cX6_init 22 = .ok (.aload_n 0, 1) := by decide +kernel
theorem dX6_init_23 : decode cX6_init 23 = .ok (.iconst 0, 1) := by decide +kernel
theorem dX6_init_24 : decode cX6_init 24 = .ok (.putfield 22, 3) := by decide +kernel
theorem dX6_init_27 : decode cX6_init 27 = .ok (.aload_n 0, 1) := by decide +kernel
theorem dX6_init_28 : decode cX6_init 28 = .ok (.iconst 1, 1) := by decide +kernel
theorem dX6_init_29 : decode cX6_init 29 = .ok (.putfield 25, 3) := by decide +kernel
theorem dX6_init_32 : decode cX6_init 32 = .ok (.aload_n 0, 1) := by decide +kernel
theorem dX6_init_33 : decode cX6_init 33 = .ok (.iconst 1, 1) := by decide +kernel
theorem dX6_init_34 : decode cX6_init 34 = .ok (.putfield 29, 3) := by decide +kernel
theorem dX6_init_37 : decode cX6_init 37 = .ok (.aload_n 0, 1) := by decide +kernel
theorem dX6_init_38 : decode cX6_init 38 = .ok (.aload_n 1, 1) := by decide +kernel
theorem dX6_init_39 : decode cX6_init 39 = .ok (.putfield 32, 3) := by decide +kernel
theorem dX6_init_42 : decode cX6_init 42 = .ok (.aload_n 0, 1) := by decide +kernel
theorem dX6_init_43 : decode cX6_init 43 = .ok (.aload_n 2, 1) := by decide +kernel
theorem dX6_init_44 : decode cX6_init 44 = .ok (.putfield 36, 3) := by decide +kernel
theorem dX6_init_47 : decode cX6_init 47 = .ok (.return_, 1) := by decide +kernel
theorem dX6_read_0 : decode cX6_read 0 = .ok (.aload_n 0, 1) := by decide +kernel
theorem dX6_read_1 : decode cX6_read 1 = .ok (.aload_n 1, 1) := by decide +kernel
theorem dX6_read_2 : decode cX6_read 2 = .ok (.putfield 36, 3) := by decide +kernel
theorem dX6_read_5 : decode cX6_read 5 = .ok (.aload_n 0, 1) := by decide +kernel
theorem dX6_read_6 : decode cX6_read 6 = .ok (.iconst 0, 1) := by decide +kernel
theorem dX6_read_7 : decode cX6_read 7 = .ok (.putfield 15, 3) := by decide +kernel
theorem dX6_read_10 : decode cX6_read 10 = .ok (.aload_n 0, 1) := by decide +kernel
theorem dX6_read_11 : decode cX6_read 11 = .ok (.iconst 0, 1) := by decide +kernel
theorem dX6_read_12 : decode cX6_read 12 = .ok (.putfield 19, 3) := by decide +kernel
theorem dX6_read_15 : decode cX6_read 15 = .ok (.aload_n 0, 1) := by decide +kernel
theorem dX6_read_16 : decode cX6_read 16 = .ok (.invokevirtual 40, 3) := by decide +kernel
theorem dX6_read_19 : decode cX6_read 19 = .ok (.iconst 0, 1) := by decide +kernel
theorem dX6_read_20 : decode cX6_read 20 = .ok (.istore_n 2, 1) := by decide +kernel
theorem dX6_read_21 : decode cX6_read 21 = .ok (.iload_n 2, 1) := by decide +kernel
theorem dX6_read_22 : decode cX6_read 22 = .ok (.sipush 700, 3) := by decide +kernel
theorem dX6_read_25 : decode cX6_read 25 = .ok (.if_icmp .gt 74, 3) := by decide +kernel
theorem dX6_read_28 : decode cX6_read 28 = .ok (.aload_n 0, 1) := by decide +kernel
theorem dX6_read_29 : decode cX6_read 29 = .ok (.getfield 25, 3) := by decide +kernel
theorem dX6_read_32 : decode cX6_read 32 = .ok (.ifCond .ne 29, 3) := by decide +kernel
theorem dX6_read_35 : decode cX6_read 35 = .ok (.aload_n 0, 1) := by decide +kernel
theorem dX6_read_36 : decode cX6_read 36 = .ok (.getfield 19, 3) := by decide +kernel
theorem dX6_read_39 : decode cX6_read 39 = .ok (.ifCond .ne 22, 3) := by decide +kernel
theorem dX6_read_42 : decode cX6_read 42 = .ok (.aload_n 0, 1) := by decide +kernel
theorem dX6_read_43 : decode cX6_read 43 = .ok (.getfield 32, 3) := by decide +kernel
theorem dX6_read_46 : decode cX6_read 46 = .ok (.bipush 59, 2) := by decide +kernel
theorem dX6_read_48 : decode cX6_read 48 = .ok (.invokevirtual 43, 3) := by decide +kernel
theorem dX6_read_51 : decode cX6_read 51 = .ok (.ifCond .eq 10, 3) := by decide +kernel
theorem dX6_read_54 : decode cX6_read 54 = .ok (.aload_n 0, 1) := by decide +kernel
theorem dX6_read_55 : decode cX6_read 55 = .ok (.iconst 1, 1) := by decide +kernel
theorem dX6_read_56 : decode cX6_read 56 = .ok (.invokevirtual 49, 3) := by decide +kernel
theorem dX6_read_59 : decode cX6_read 59 = .ok (.iconst 0, 1) := by decide +kernel
theorem dX6_read_60 : decode cX6_read 60 = .ok (.ireturn, 1) := by decide +kernel
theorem dX6_read_61 : decode cX6_read 61 = .ok (.aload_n 0, 1) := by decide +kernel
theorem dX6_read_62 : decode cX6_read 62 = .ok (.getfield 25, 3) := by decide +kernel
theorem dX6_read_65 : decode cX6_read 65 = .ok (.ifCond .eq 10, 3) := by decide +kernel
theorem dX6_read_68 : decode cX6_read 68 = .ok (.aload_n 0, 1) := by decide +kernel
theorem dX6_read_69 : decode cX6_read 69 = .ok (.invokevirtual 53, 3) := by decide +kernel
theorem dX6_read_72 : decode cX6_read 72 = .ok (.goto 7, 3) := by decide +kernel
theorem dX6_read_75 : decode cX6_read 75 = .ok (.aload_n 0, 1) := by decide +kernel
theorem dX6_read_76 : decode cX6_read 76 = .ok (.invokevirtual 57, 3) := by decide +kernel
theorem dX6_read_79 : decode cX6_read 79 = .ok (.istore_n 3, 1) := by decide +kernel
theorem dX6_read_80 : decode cX6_read 80 = .ok (.iload_n 3, 1) := by decide +kernel
theorem dX6_read_81 : decode cX6_read 81 = .ok (.ifCond .eq 5, 3) := by decide +kernel
theorem dX6_read_84 : decode cX6_read 84 = .ok (.iload_n 3, 1) := by decide +kernel
theorem dX6_read_85 : decode cX6_read 85 = .ok (.ireturn, 1) := by decide +kernel
theorem dX6_read_86 : decode cX6_read 86 = .ok (.aload_n 0, 1) := by decide +kernel
theorem dX6_read_87 : decode cX6_read 87 = .ok (.getfield 32, 3) := by decide +kernel
theorem dX6_read_90 : decode cX6_read 90 = .ok (.invokevirtual 60, 3) := by decide +kernel
theorem dX6_read_93 : decode cX6_read 93 = .ok (.iinc 2 1, 3) := by decide +kernel
theorem dX6_read_96 : decode cX6_read 96 = .ok (.goto (-75), 3) := by decide +kernel
theorem dX6_read_99 : decode cX6_read 99 = .ok (.iconst 1, 1) := by decide +kernel
theorem dX6_read_100 : decode cX6_read 100 = .ok (.ireturn, 1) := by decide +kernel
theorem dX6_wantNot_0 : decode cX6_wantNot 0 = .ok (.aload_n 0, 1) := by decide +kernel
theorem dX6_wantNot_1 : decode cX6_wantNot 1 = .ok (.invokevirtual 63, 3) := by decide +kernel
theorem dX6_wantNot_4 : decode cX6_wantNot 4 = .ok (.aload_n 0, 1) := by decide +kernel
theorem dX6_wantNot_5 : decode cX6_wantNot 5 = .ok (.iconst 1, 1) := by decide +kernel
theorem dX6_wantNot_6 : decode cX6_wantNot 6 = .ok (.putfield 29, 3) := by decide +kernel
theorem dX6_wantNot_9 : decode cX6_wantNot 9 = .ok (.aload_n 0, 1) := by decide +kernel
theorem dX6_wantNot_10 : decode cX6_wantNot 10 = .ok (.iconst 0, 1) := by decide +kernel
theorem dX6_wantNot_11 : decode cX6_wantNot 11 = .ok (.putfield 22, 3) := by decide +kernel
theorem dX6_wantNot_14 : decode cX6_wantNot 14 = .ok (.return_, 1) := by decide +kernel
theorem dX6_wantPart_0 : decode cX6_wantPart 0 = .ok (.aload_n 0, 1) := by decide +kernel
theorem dX6_wantPart_1 : decode cX6_wantPart 1 = .ok (.iconst 1, 1) := by decide +kernel
theorem dX6_wantPart_2 : decode cX6_wantPart 2 = .ok (.putfield 25, 3) := by decide +kernel
theorem dX6_wantPart_5 : decode cX6_wantPart 5 = .ok (.aload_n 0, 1) := by decide +kernel
theorem dX6_wantPart_6 : decode cX6_wantPart 6 = .ok (.iconst 0, 1) := by decide +kernel
theorem dX6_wantPart_7 : decode cX6_wantPart 7 = .ok (.putfield 29, 3) := by decide +kernel
theorem dX6_wantPart_10 : decode cX6_wantPart 10 = .ok (.return_, 1) := by decide +kernel
theorem dX6_readPart_0 : decode cX6_readPart 0 = .ok (.aload_n 0, 1) := by decide +kernel
theorem dX6_readPart_1 : decode cX6_readPart 1 = .ok (.getfield 32, 3) := by decide +kernel
theorem dX6_readPart_4 : decode cX6_readPart 4 = .ok (.bipush 40, 2) := by decide +kernel
theorem dX6_readPart_6 : decode cX6_readPart 6 = .ok (.invokevirtual 43, 3) := by decide +kernel
theorem dX6_readPart_9 : decode cX6_readPart 9 = .ok (.istore_n 1, 1) := by decide +kernel
theorem dX6_readPart_10 : decode cX6_readPart 10 = .ok (.iload_n 1, 1) := by decide +kernel
theorem dX6_readPart_11 : decode cX6_readPart 11 = .ok (.ifCond .ne 27, 3) := by decide +kernel
theorem dX6_readPart_14 : decode cX6_readPart 14 = .ok (.aload_n 0, 1) := by decide +kernel
theorem dX6_readPart_15 : decode cX6_readPart 15 = .ok (.getfield 32, 3) := by decide +kernel
theorem dX6_readPart_18 : decode cX6_readPart 18 = .ok (.getfield 66, 3) := by decide +kernel
theorem dX6_readPart_21 : decode cX6_readPart 21 = .ok (.iconst 1, 1) := by decide +kernel
theorem dX6_readPart_22 : decode cX6_readPart 22 = .ok (.if_icmp .eq 16, 3) := by decide +kernel
theorem dX6_readPart_25 : decode cX6_readPart 25 = .ok (.aload_n 0, 1) := by decide +kernel
theorem dX6_readPart_26 : decode cX6_readPart 26 = .ok (.getfield 32, 3) := by decide +kernel
theorem dX6_readPart_29 : decode cX6_readPart 29 = .ok (.getfield 66, 3) := by decide +kernel
theorem dX6_readPart_32 : decode cX6_readPart 32 = .ok (.iconst 2, 1) := by decide +kernel
theorem dX6_readPart_33 : decode cX6_readPart 33 = .ok (.if_icmp .eq 5, 3) := by decide +kernel
theorem dX6_readPart_36 : decode cX6_readPart 36 = .ok (.iconst 1, 1) := by decide +kernel
theorem dX6_readPart_37 : decode cX6_readPart 37 = .ok (.ireturn, 1) := by decide +kernel
theorem dX6_readPart_38 : decode cX6_readPart 38 = .ok (.aload_n 0, 1) := by decide +kernel
theorem dX6_readPart_39 : decode cX6_readPart 39 = .ok (.getfield 19, 3) := by decide +kernel
theorem dX6_readPart_42 : decode cX6_readPart 42 = .ok (.bipush 6, 2) := by decide +kernel
theorem dX6_readPart_44 : decode cX6_readPart 44 = .ok (.if_icmp .lt 5, 3) := by decide +kernel
theorem dX6_readPart_47 : decode cX6_readPart 47 = .ok (.iconst 2, 1) := by decide +kernel
theorem dX6_readPart_48 : decode cX6_readPart 48 = .ok (.ireturn, 1) := by decide +kernel
theorem dX6_readPart_49 : decode cX6_readPart 49 = .ok (.iload_n 1, 1) := by decide +kernel
theorem dX6_readPart_50 : decode cX6_readPart 50 = .ok (.ifCond .eq 23, 3) := by decide +kernel
theorem dX6_readPart_53 : decode cX6_readPart 53 = .ok (.aload_n 0, 1) := by decide +kernel
theorem dX6_readPart_54 : decode cX6_readPart 54 = .ok (.dup, 1) := by decide +kernel
theorem dX6_readPart_55 : decode cX6_readPart 55 = .ok (.getfield 19, 3) := by decide +kernel
theorem dX6_readPart_58 : decode cX6_readPart 58 = .ok (.iconst 1, 1) := by decide +kernel
theorem dX6_readPart_59 : decode cX6_readPart 59 = .ok (.iadd, 1) := by decide +kernel
theorem dX6_readPart_60 : decode cX6_readPart 60 = .ok (.putfield 19, 3) := by decide +kernel
theorem dX6_readPart_63 : decode cX6_readPart 63 = .ok (.aload_n 0, 1) := by decide +kernel
theorem dX6_readPart_64 : decode cX6_readPart 64 = .ok (.invokevirtual 40, 3) := by decide +kernel
theorem dX6_readPart_67 : decode cX6_readPart 67 = .ok (.aload_n 0, 1) := by decide +kernel
theorem dX6_readPart_68 : decode cX6_readPart 68 = .ok (.iconst 0, 1) := by decide +kernel
theorem dX6_readPart_69 : decode cX6_readPart 69 = .ok (.invokevirtual 69, 3) := by decide +kernel
theorem dX6_readPart_72 : decode cX6_readPart 72 = .ok (.ireturn, 1) := by decide +kernel
theorem dX6_readPart_73 : decode cX6_readPart 73 = .ok (.aload_n 0, 1) := by decide +kernel
theorem dX6_readPart_74 : decode cX6_readPart 74 = .ok (.getfield 29, 3) := by decide +kernel
theorem dX6_readPart_77 : decode cX6_readPart 77 = .ok (.ifCond .eq 45, 3) := by decide +kernel
theorem dX6_readPart_80 : decode cX6_readPart 80 = .ok (.aload_n 0, 1) := by decide +kernel
theorem dX6_readPart_81 : decode cX6_readPart 81 = .ok (.getfield 32, 3) := by decide +kernel
theorem dX6_readPart_84 : decode cX6_readPart 84 = .ok (.ldc 73, 2) := by decide +kernel
theorem dX6_readPart_86 : decode cX6_readPart 86 = .ok (.invokevirtual 75, 3) := by decide +kernel
theorem dX6_readPart_89 : decode cX6_readPart 89 = .ok (.ifCond .eq 33, 3) := by decide +kernel
theorem dX6_readPart_92 : decode cX6_readPart 92 = .ok (.aload_n 0, 1) := by decide +kernel
theorem dX6_readPart_93 : decode cX6_readPart 93 = .ok (.dup, 1) := by decide +kernel
theorem dX6_readPart_94 : decode cX6_readPart 94 = .ok (.getfield 22, 3) := by decide +kernel
theorem dX6_readPart_97 : decode cX6_readPart 97 = .ok (.iconst 1, 1) := by decide +kernel
theorem dX6_readPart_98 : decode cX6_readPart 98 = .ok (.iadd, 1) := by decide +kernel
theorem dX6_readPart_99 : decode cX6_readPart 99 = .ok (.putfield 22, 3) := by decide +kernel
theorem dX6_readPart_102 : decode cX6_readPart 102 = .ok (.aload_n 0, 1) := by decide +kernel
theorem dX6_readPart_103 : decode cX6_readPart 103 = .ok (.getfield 22, 3) := by decide +kernel
theorem dX6_readPart_106 : decode cX6_readPart 106 = .ok (.bipush 6, 2) := by decide +kernel
theorem dX6_readPart_108 : decode cX6_readPart 108 = .ok (.if_icmp .le 7, 3) := by decide +kernel
theorem dX6_readPart_111 : decode cX6_readPart 111 = .ok (.iconst 2, 1) := by decide +kernel
theorem dX6_readPart_112 : decode cX6_readPart 112 = .ok (.goto 9, 3) := by decide +kernel
theorem dX6_readPart_115 : decode cX6_readPart 115 = .ok (.aload_n 0, 1) := by decide +kernel
theorem dX6_readPart_116 : decode cX6_readPart 116 = .ok (.bipush (-13), 2) := by decide +kernel
theorem dX6_readPart_118 : decode cX6_readPart 118 = .ok (.invokevirtual 69, 3) := by decide +kernel
theorem dX6_readPart_121 : decode cX6_readPart 121 = .ok (.ireturn, 1) := by decide +kernel
theorem dX6_readPart_122 : decode cX6_readPart 122 = .ok (.aload_n 0, 1) := by decide +kernel
theorem dX6_readPart_123 : decode cX6_readPart 123 = .ok (.iconst 0, 1) := by decide +kernel
theorem dX6_readPart_124 : decode cX6_readPart 124 = .ok (.putfield 25, 3) := by decide +kernel
theorem dX6_readPart_127 : decode cX6_readPart 127 = .ok (.aload_n 0, 1) := by decide +kernel
theorem dX6_readPart_128 : decode cX6_readPart 128 = .ok (.getfield 32, 3) := by decide +kernel
theorem dX6_readPart_131 : decode cX6_readPart 131 = .ok (.getfield 66, 3) := by decide +kernel
theorem dX6_readPart_134 : decode cX6_readPart 134 = .ok (.iconst 2, 1) := by decide +kernel
theorem dX6_readPart_135 : decode cX6_readPart 135 = .ok (.if_icmp .ne 33, 3) := by decide +kernel
theorem dX6_readPart_138 : decode cX6_readPart 138 = .ok (.aload_n 0, 1) := by decide +kernel
theorem dX6_readPart_139 : decode cX6_readPart 139 = .ok (.getfield 36, 3) := by decide +kernel
theorem dX6_readPart_142 : decode cX6_readPart 142 = .ok (.aload_n 0, 1) := by decide +kernel
theorem dX6_readPart_143 : decode cX6_readPart 143 = .ok (.getfield 32, 3) := by decide +kernel
theorem dX6_readPart_146 : decode cX6_readPart 146 = .ok (.getfield 81, 3) := by decide +kernel
theorem dX6_readPart_149 : decode cX6_readPart 149 = .ok (.invokevirtual 84, 3) := by decide +kernel
theorem dX6_readPart_152 : decode cX6_readPart 152 = .ok (.aload_n 0, 1) := by decide +kernel
theorem dX6_readPart_153 : decode cX6_readPart 153 = .ok (.getfield 32, 3) := by decide +kernel
theorem dX6_readPart_156 : decode cX6_readPart 156 = .ok (.getfield 87, 3) := by decide +kernel
theorem dX6_readPart_159 : decode cX6_readPart 159 = .ok (.ifCond .eq 7, 3) := by decide +kernel
theorem dX6_readPart_162 : decode cX6_readPart 162 = .ok (.iconst 2, 1) := by decide +kernel
theorem dX6_readPart_163 : decode cX6_readPart 163 = .ok (.goto 4, 3) := by decide +kernel
theorem dX6_readPart_166 : decode cX6_readPart 166 = .ok (.iconst 0, 1) := by decide +kernel
theorem dX6_readPart_167 : decode cX6_readPart 167 = .ok (.ireturn, 1) := by decide +kernel
theorem dX6_readPart_168 : decode cX6_readPart 168 = .ok (.aload_n 0, 1) := by decide +kernel
theorem dX6_readPart_169 : decode cX6_readPart 169 = .ok (.invokevirtual 90, 3) := by decide +kernel
theorem dX6_readPart_172 : decode cX6_readPart 172 = .ok (.istore_n 2, 1) := by decide +kernel
theorem dX6_readPart_173 : decode cX6_readPart 173 = .ok (.aload_n 0, 1) := by decide +kernel
theorem dX6_readPart_174 : decode cX6_readPart 174 = .ok (.getfield 36, 3) := by decide +kernel
theorem dX6_readPart_177 : decode cX6_readPart 177 = .ok (.iload_n 2, 1) := by decide +kernel
theorem dX6_readPart_178 : decode cX6_readPart 178 = .ok (.invokevirtual 84, 3) := by decide +kernel
theorem dX6_readPart_181 : decode cX6_readPart 181 = .ok (.iload_n 2, 1) := by decide +kernel
theorem dX6_readPart_182 : decode cX6_readPart 182 = .ok (.ifCond .ne 7, 3) := by decide +kernel
theorem dX6_readPart_185 : decode cX6_readPart 185 = .ok (.iconst 3, 1) := by decide +kernel
theorem dX6_readPart_186 : decode cX6_readPart 186 = .ok (.goto 4, 3) := by decide +kernel
theorem dX6_readPart_189 : decode cX6_readPart 189 = .ok (.iconst 0, 1) := by decide +kernel
theorem dX6_readPart_190 : decode cX6_readPart 190 = .ok (.ireturn, 1) := by decide +kernel
theorem dX6_valueAtHand_0 : decode cX6_valueAtHand 0 = .ok (.aload_n 0, 1) := by decide +kernel
theorem dX6_valueAtHand_1 : decode cX6_valueAtHand 1 = .ok (.getfield 32, 3) := by decide +kernel
theorem dX6_valueAtHand_4 : decode cX6_valueAtHand 4 = .ok (.ldc 93, 2) := by decide +kernel
theorem dX6_valueAtHand_6 : decode cX6_valueAtHand 6 = .ok (.invokevirtual 75, 3) := by decide +kernel
theorem dX6_valueAtHand_9 : decode cX6_valueAtHand 9 = .ok (.ifCond .eq 5, 3) := by decide +kernel
theorem dX6_valueAtHand_12 : decode cX6_valueAtHand 12 = .ok (.iconst (-1), 1) := by decide +kernel
theorem dX6_valueAtHand_13 : decode cX6_valueAtHand 13 = .ok (.ireturn, 1) := by decide +kernel
theorem dX6_valueAtHand_14 : decode cX6_valueAtHand 14 = .ok (.aload_n 0, 1) := by decide +kernel
theorem dX6_valueAtHand_15 : decode cX6_valueAtHand 15 = .ok (.getfield 32, 3) := by decide +kernel
theorem dX6_valueAtHand_18 : decode cX6_valueAtHand 18 = .ok (.ldc 95, 2) := by decide +kernel
theorem dX6_valueAtHand_20 : decode cX6_valueAtHand 20 = .ok (.invokevirtual 75, 3) := by decide +kernel
theorem dX6_valueAtHand_23 : decode cX6_valueAtHand 23 = .ok (.ifCond .eq 6, 3) := by decide +kernel
theorem dX6_valueAtHand_26 : decode cX6_valueAtHand 26 = .ok (.bipush (-2), 2) := by decide +kernel
theorem dX6_valueAtHand_28 : decode cX6_valueAtHand 28 = .ok (.ireturn, 1) := by decide +kernel
theorem dX6_valueAtHand_29 : decode cX6_valueAtHand 29 = .ok (.aload_n 0, 1) := by decide +kernel
theorem dX6_valueAtHand_30 : decode cX6_valueAtHand 30 = .ok (.getfield 32, 3) := by decide +kernel
theorem dX6_valueAtHand_33 : decode cX6_valueAtHand 33 = .ok (.ldc 97, 2) := by decide +kernel
theorem dX6_valueAtHand_35 : decode cX6_valueAtHand 35 = .ok (.invokevirtual 75, 3) := by decide +kernel
theorem dX6_valueAtHand_38 : decode cX6_valueAtHand 38 = .ok (.ifCond .eq 6, 3) := by decide +kernel
theorem dX6_valueAtHand_41 : decode cX6_valueAtHand 41 = .ok (.bipush (-3), 2) := by decide +kernel
theorem dX6_valueAtHand_43 : decode cX6_valueAtHand 43 = .ok (.ireturn, 1) := by decide +kernel
theorem dX6_valueAtHand_44 : decode cX6_valueAtHand 44 = .ok (.aload_n 0, 1) := by decide +kernel
theorem dX6_valueAtHand_45 : decode cX6_valueAtHand 45 = .ok (.getfield 32, 3) := by decide +kernel
theorem dX6_valueAtHand_48 : decode cX6_valueAtHand 48 = .ok (.ldc 99, 2) := by decide +kernel
theorem dX6_valueAtHand_50 : decode cX6_valueAtHand 50 = .ok (.invokevirtual 75, 3) := by decide +kernel
theorem dX6_valueAtHand_53 : decode cX6_valueAtHand 53 = .ok (.ifCond .eq 6, 3) := by decide +kernel
theorem dX6_valueAtHand_56 : decode cX6_valueAtHand 56 = .ok (.bipush (-4), 2) := by decide +kernel
theorem dX6_valueAtHand_58 : decode cX6_valueAtHand 58 = .ok (.ireturn, 1) := by decide +kernel
theorem dX6_valueAtHand_59 : decode cX6_valueAtHand 59 = .ok (.aload_n 0, 1) := by decide +kernel
theorem dX6_valueAtHand_60 : decode cX6_valueAtHand 60 = .ok (.getfield 32, 3) := by decide +kernel
theorem dX6_valueAtHand_63 : decode cX6_valueAtHand 63 = .ok (.ldc 101, 2) := by decide +kernel
theorem dX6_valueAtHand_65 : decode cX6_valueAtHand 65 = .ok (.invokevirtual 75, 3) := by decide +kernel
theorem dX6_valueAtHand_68 : decode cX6_valueAtHand 68 = .ok (.ifCond .eq 6, 3) := by decide +kernel
theorem dX6_valueAtHand_71 : decode cX6_valueAtHand 71 = .ok (.bipush (-5), 2) := by decide +kernel
theorem dX6_valueAtHand_73 : decode cX6_valueAtHand 73 = .ok (.ireturn, 1) := by decide +kernel
theorem dX6_valueAtHand_74 : decode cX6_valueAtHand 74 = .ok (.aload_n 0, 1) := by decide +kernel
theorem dX6_valueAtHand_75 : decode cX6_valueAtHand 75 = .ok (.getfield 32, 3) := by decide +kernel
theorem dX6_valueAtHand_78 : decode cX6_valueAtHand 78 = .ok (.ldc 103, 2) := by decide +kernel
theorem dX6_valueAtHand_80 : decode cX6_valueAtHand 80 = .ok (.invokevirtual 75, 3) := by decide +kernel
theorem dX6_valueAtHand_83 : decode cX6_valueAtHand 83 = .ok (.ifCond .eq 8, 3) := by decide +kernel
theorem dX6_valueAtHand_86 : decode cX6_valueAtHand 86 = .ok (.bipush (-6), 2) := by decide +kernel
theorem dX6_valueAtHand_88 : decode cX6_valueAtHand 88 = .ok (.goto 4, 3) := by decide +kernel
theorem dX6_valueAtHand_91 : decode cX6_valueAtHand 91 = .ok (.iconst 0, 1) := by decide +kernel
theorem dX6_valueAtHand_92 : decode cX6_valueAtHand 92 = .ok (.ireturn, 1) := by decide +kernel
theorem dX6_readSign_0 : decode cX6_readSign 0 = .ok (.aload_n 0, 1) := by decide +kernel
theorem dX6_readSign_1 : decode cX6_readSign 1 = .ok (.getfield 32, 3) := by decide +kernel
theorem dX6_readSign_4 : decode cX6_readSign 4 = .ok (.bipush 41, 2) := by decide +kernel
theorem dX6_readSign_6 : decode cX6_readSign 6 = .ok (.invokevirtual 43, 3) := by decide +kernel
theorem dX6_readSign_9 : decode cX6_readSign 9 = .ok (.ifCond .eq 8, 3) := by decide +kernel
theorem dX6_readSign_12 : decode cX6_readSign 12 = .ok (.aload_n 0, 1) := by decide +kernel
theorem dX6_readSign_13 : decode cX6_readSign 13 = .ok (.invokevirtual 105, 3) := by decide +kernel
theorem dX6_readSign_16 : decode cX6_readSign 16 = .ok (.ireturn, 1) := by decide +kernel
theorem dX6_readSign_17 : decode cX6_readSign 17 = .ok (.aload_n 0, 1) := by decide +kernel
theorem dX6_readSign_18 : decode cX6_readSign 18 = .ok (.invokevirtual 108, 3) := by decide +kernel
theorem dX6_readSign_21 : decode cX6_readSign 21 = .ok (.istore_n 1, 1) := by decide +kernel
theorem dX6_readSign_22 : decode cX6_readSign 22 = .ok (.iload_n 1, 1) := by decide +kernel
theorem dX6_readSign_23 : decode cX6_readSign 23 = .ok (.ifCond .ne 5, 3) := by decide +kernel
theorem dX6_readSign_26 : decode cX6_readSign 26 = .ok (.iconst 1, 1) := by decide +kernel
theorem dX6_readSign_27 : decode cX6_readSign 27 = .ok (.ireturn, 1) := by decide +kernel
theorem dX6_readSign_28 : decode cX6_readSign 28 = .ok (.iload_n 1, 1) := by decide +kernel
theorem dX6_readSign_29 : decode cX6_readSign 29 = .ok (.invokestatic 111, 3) := by decide +kernel
theorem dX6_readSign_32 : decode cX6_readSign 32 = .ok (.istore_n 2, 1) := by decide +kernel
theorem dX6_readSign_33 : decode cX6_readSign 33 = .ok (.aload_n 0, 1) := by decide +kernel
theorem dX6_readSign_34 : decode cX6_readSign 34 = .ok (.iload_n 2, 1) := by decide +kernel
theorem dX6_readSign_35 : decode cX6_readSign 35 = .ok (.iconst 4, 1) := by decide +kernel
theorem dX6_readSign_36 : decode cX6_readSign 36 = .ok (.if_icmp .ne 7, 3) := by decide +kernel
theorem dX6_readSign_39 : decode cX6_readSign 39 = .ok (.iconst 5, 1) := by decide +kernel
theorem dX6_readSign_40 : decode cX6_readSign 40 = .ok (.goto 4, 3) := by decide +kernel
theorem dX6_readSign_43 : decode cX6_readSign 43 = .ok (.iload_n 2, 1) := by decide +kernel
theorem dX6_readSign_44 : decode cX6_readSign 44 = .ok (.invokevirtual 49, 3) := by decide +kernel
theorem dX6_readSign_47 : decode cX6_readSign 47 = .ok (.iload_n 2, 1) := by decide +kernel
theorem dX6_readSign_48 : decode cX6_readSign 48 = .ok (.iconst 4, 1) := by decide +kernel
theorem dX6_readSign_49 : decode cX6_readSign 49 = .ok (.if_icmp .ne 13, 3) := by decide +kernel
theorem dX6_readSign_52 : decode cX6_readSign 52 = .ok (.aload_n 0, 1) := by decide +kernel
theorem dX6_readSign_53 : decode cX6_readSign 53 = .ok (.invokevirtual 114, 3) := by decide +kernel
theorem dX6_readSign_56 : decode cX6_readSign 56 = .ok (.iconst 4, 1) := by decide +kernel
theorem dX6_readSign_57 : decode cX6_readSign 57 = .ok (.if_icmp .ne 5, 3) := by decide +kernel
theorem dX6_readSign_60 : decode cX6_readSign 60 = .ok (.iconst 1, 1) := by decide +kernel
theorem dX6_readSign_61 : decode cX6_readSign 61 = .ok (.ireturn, 1) := by decide +kernel
theorem dX6_readSign_62 : decode cX6_readSign 62 = .ok (.iload_n 2, 1) := by decide +kernel
theorem dX6_readSign_63 : decode cX6_readSign 63 = .ok (.iconst 2, 1) := by decide +kernel
theorem dX6_readSign_64 : decode cX6_readSign 64 = .ok (.if_icmp .gt 10, 3) := by decide +kernel
theorem dX6_readSign_67 : decode cX6_readSign 67 = .ok (.aload_n 0, 1) := by decide +kernel
theorem dX6_readSign_68 : decode cX6_readSign 68 = .ok (.invokevirtual 40, 3) := by decide +kernel
theorem dX6_readSign_71 : decode cX6_readSign 71 = .ok (.goto 7, 3) := by decide +kernel
theorem dX6_readSign_74 : decode cX6_readSign 74 = .ok (.aload_n 0, 1) := by decide +kernel
theorem dX6_readSign_75 : decode cX6_readSign 75 = .ok (.invokevirtual 63, 3) := by decide +kernel
theorem dX6_readSign_78 : decode cX6_readSign 78 = .ok (.aload_n 0, 1) := by decide +kernel
theorem dX6_readSign_79 : decode cX6_readSign 79 = .ok (.iload_n 1, 1) := by decide +kernel
theorem dX6_readSign_80 : decode cX6_readSign 80 = .ok (.invokevirtual 69, 3) := by decide +kernel
theorem dX6_readSign_83 : decode cX6_readSign 83 = .ok (.ireturn, 1) := by decide +kernel
theorem dX6_close_0 : decode cX6_close 0 = .ok (.aload_n 0, 1) := by decide +kernel
theorem dX6_close_1 : decode cX6_close 1 = .ok (.getfield 19, 3) := by decide +kernel
theorem dX6_close_4 : decode cX6_close 4 = .ok (.ifCond .ne 5, 3) := by decide +kernel
theorem dX6_close_7 : decode cX6_close 7 = .ok (.iconst 1, 1) := by decide +kernel
theorem dX6_close_8 : decode cX6_close 8 = .ok (.ireturn, 1) := by decide +kernel
theorem dX6_close_9 : decode cX6_close 9 = .ok (.aload_n 0, 1) := by decide +kernel
theorem dX6_close_10 : decode cX6_close 10 = .ok (.iconst 1, 1) := by decide +kernel
theorem dX6_close_11 : decode cX6_close 11 = .ok (.invokevirtual 49, 3) := by decide +kernel
theorem dX6_close_14 : decode cX6_close 14 = .ok (.aload_n 0, 1) := by decide +kernel
theorem dX6_close_15 : decode cX6_close 15 = .ok (.iconst 0, 1) := by decide +kernel
theorem dX6_close_16 : decode cX6_close 16 = .ok (.aload_n 0, 1) := by decide +kernel
theorem dX6_close_17 : decode cX6_close 17 = .ok (.getfield 15, 3) := by decide +kernel
theorem dX6_close_20 : decode cX6_close 20 = .ok (.iconst 1, 1) := by decide +kernel
theorem dX6_close_21 : decode cX6_close 21 = .ok (.isub, 1) := by decide +kernel
theorem dX6_close_22 : decode cX6_close 22 = .ok (.invokestatic 117, 3) := by decide +kernel
theorem dX6_close_25 : decode cX6_close 25 = .ok (.putfield 15, 3) := by decide +kernel
theorem dX6_close_28 : decode cX6_close 28 = .ok (.aload_n 0, 1) := by decide +kernel
theorem dX6_close_29 : decode cX6_close 29 = .ok (.dup, 1) := by decide +kernel
theorem dX6_close_30 : decode cX6_close 30 = .ok (.getfield 19, 3) := by decide +kernel
theorem dX6_close_33 : decode cX6_close 33 = .ok (.iconst 1, 1) := by decide +kernel
theorem dX6_close_34 : decode cX6_close 34 = .ok (.isub, 1) := by decide +kernel
theorem dX6_close_35 : decode cX6_close 35 = .ok (.putfield 19, 3) := by decide +kernel
theorem dX6_close_38 : decode cX6_close 38 = .ok (.iconst 0, 1) := by decide +kernel
theorem dX6_close_39 : decode cX6_close 39 = .ok (.ireturn, 1) := by decide +kernel
theorem dX6_signAtHand_0 : decode cX6_signAtHand 0 = .ok (.aload_n 0, 1) := by decide +kernel
theorem dX6_signAtHand_1 : decode cX6_signAtHand 1 = .ok (.getfield 32, 3) := by decide +kernel
theorem dX6_signAtHand_4 : decode cX6_signAtHand 4 = .ok (.bipush 43, 2) := by decide +kernel
theorem dX6_signAtHand_6 : decode cX6_signAtHand 6 = .ok (.invokevirtual 43, 3) := by decide +kernel
theorem dX6_signAtHand_9 : decode cX6_signAtHand 9 = .ok (.ifCond .eq 6, 3) := by decide +kernel
theorem dX6_signAtHand_12 : decode cX6_signAtHand 12 = .ok (.bipush (-7), 2) := by decide +kernel
theorem dX6_signAtHand_14 : decode cX6_signAtHand 14 = .ok (.ireturn, 1) := by decide +kernel
theorem dX6_signAtHand_15 : decode cX6_signAtHand 15 = .ok (.aload_n 0, 1) := by decide +kernel
theorem dX6_signAtHand_16 : decode cX6_signAtHand 16 = .ok (.getfield 32, 3) := by decide +kernel
theorem dX6_signAtHand_19 : decode cX6_signAtHand 19 = .ok (.bipush 45, 2) := by decide +kernel
theorem dX6_signAtHand_21 : decode cX6_signAtHand 21 = .ok (.invokevirtual 43, 3) := by decide +kernel
theorem dX6_signAtHand_24 : decode cX6_signAtHand 24 = .ok (.ifCond .eq 6, 3) := by decide +kernel
theorem dX6_signAtHand_27 : decode cX6_signAtHand 27 = .ok (.bipush (-8), 2) := by decide +kernel
theorem dX6_signAtHand_29 : decode cX6_signAtHand 29 = .ok (.ireturn, 1) := by decide +kernel
theorem dX6_signAtHand_30 : decode cX6_signAtHand 30 = .ok (.aload_n 0, 1) := by decide +kernel
theorem dX6_signAtHand_31 : decode cX6_signAtHand 31 = .ok (.getfield 32, 3) := by decide +kernel
theorem dX6_signAtHand_34 : decode cX6_signAtHand 34 = .ok (.bipush 42, 2) := by decide +kernel
theorem dX6_signAtHand_36 : decode cX6_signAtHand 36 = .ok (.invokevirtual 43, 3) := by decide +kernel
theorem dX6_signAtHand_39 : decode cX6_signAtHand 39 = .ok (.ifCond .eq 6, 3) := by decide +kernel
theorem dX6_signAtHand_42 : decode cX6_signAtHand 42 = .ok (.bipush (-9), 2) := by decide +kernel
theorem dX6_signAtHand_44 : decode cX6_signAtHand 44 = .ok (.ireturn, 1) := by decide +kernel
theorem dX6_signAtHand_45 : decode cX6_signAtHand 45 = .ok (.aload_n 0, 1) := by decide +kernel
theorem dX6_signAtHand_46 : decode cX6_signAtHand 46 = .ok (.getfield 32, 3) := by decide +kernel
theorem dX6_signAtHand_49 : decode cX6_signAtHand 49 = .ok (.bipush 47, 2) := by decide +kernel
theorem dX6_signAtHand_51 : decode cX6_signAtHand 51 = .ok (.invokevirtual 43, 3) := by decide +kernel
theorem dX6_signAtHand_54 : decode cX6_signAtHand 54 = .ok (.ifCond .eq 6, 3) := by decide +kernel
theorem dX6_signAtHand_57 : decode cX6_signAtHand 57 = .ok (.bipush (-10), 2) := by decide +kernel
theorem dX6_signAtHand_59 : decode cX6_signAtHand 59 = .ok (.ireturn, 1) := by decide +kernel
theorem dX6_signAtHand_60 : decode cX6_signAtHand 60 = .ok (.aload_n 0, 1) := by decide +kernel
theorem dX6_signAtHand_61 : decode cX6_signAtHand 61 = .ok (.getfield 32, 3) := by decide +kernel
theorem dX6_signAtHand_64 : decode cX6_signAtHand 64 = .ok (.bipush 60, 2) := by decide +kernel
theorem dX6_signAtHand_66 : decode cX6_signAtHand 66 = .ok (.invokevirtual 43, 3) := by decide +kernel
theorem dX6_signAtHand_69 : decode cX6_signAtHand 69 = .ok (.ifCond .eq 6, 3) := by decide +kernel
theorem dX6_signAtHand_72 : decode cX6_signAtHand 72 = .ok (.bipush (-11), 2) := by decide +kernel
theorem dX6_signAtHand_74 : decode cX6_signAtHand 74 = .ok (.ireturn, 1) := by decide +kernel
theorem dX6_signAtHand_75 : decode cX6_signAtHand 75 = .ok (.aload_n 0, 1) := by decide +kernel
theorem dX6_signAtHand_76 : decode cX6_signAtHand 76 = .ok (.getfield 32, 3) := by decide +kernel
theorem dX6_signAtHand_79 : decode cX6_signAtHand 79 = .ok (.bipush 61, 2) := by decide +kernel
theorem dX6_signAtHand_81 : decode cX6_signAtHand 81 = .ok (.invokevirtual 43, 3) := by decide +kernel
theorem dX6_signAtHand_84 : decode cX6_signAtHand 84 = .ok (.ifCond .eq 6, 3) := by decide +kernel
theorem dX6_signAtHand_87 : decode cX6_signAtHand 87 = .ok (.bipush (-12), 2) := by decide +kernel
theorem dX6_signAtHand_89 : decode cX6_signAtHand 89 = .ok (.ireturn, 1) := by decide +kernel
theorem dX6_signAtHand_90 : decode cX6_signAtHand 90 = .ok (.aload_n 0, 1) := by decide +kernel
theorem dX6_signAtHand_91 : decode cX6_signAtHand 91 = .ok (.getfield 32, 3) := by decide +kernel
theorem dX6_signAtHand_94 : decode cX6_signAtHand 94 = .ok (.ldc 123, 2) := by decide +kernel
theorem dX6_signAtHand_96 : decode cX6_signAtHand 96 = .ok (.invokevirtual 75, 3) := by decide +kernel
theorem dX6_signAtHand_99 : decode cX6_signAtHand 99 = .ok (.ifCond .eq 6, 3) := by decide +kernel
theorem dX6_signAtHand_102 : decode cX6_signAtHand 102 = .ok (.bipush (-14), 2) := by decide +kernel
theorem dX6_signAtHand_104 : decode cX6_signAtHand 104 = .ok (.ireturn, 1) := by decide +kernel
theorem dX6_signAtHand_105 : decode cX6_signAtHand 105 = .ok (.aload_n 0, 1) := by decide +kernel
theorem dX6_signAtHand_106 : decode cX6_signAtHand 106 = .ok (.getfield 32, 3) := by decide +kernel
theorem dX6_signAtHand_109 : decode cX6_signAtHand 109 = .ok (.ldc 125, 2) := by decide +kernel
theorem dX6_signAtHand_111 : decode cX6_signAtHand 111 = .ok (.invokevirtual 75, 3) := by decide +kernel
theorem dX6_signAtHand_114 : decode cX6_signAtHand 114 = .ok (.ifCond .eq 8, 3) := by decide +kernel
theorem dX6_signAtHand_117 : decode cX6_signAtHand 117 = .ok (.bipush (-15), 2) := by decide +kernel
theorem dX6_signAtHand_119 : decode cX6_signAtHand 119 = .ok (.goto 4, 3) := by decide +kernel
theorem dX6_signAtHand_122 : decode cX6_signAtHand 122 = .ok (.iconst 0, 1) := by decide +kernel
theorem dX6_signAtHand_123 : decode cX6_signAtHand 123 = .ok (.ireturn, 1) := by decide +kernel
theorem dX6_strengthOf_0 : decode cX6_strengthOf 0 = .ok (.iload_n 0, 1) := by decide +kernel
theorem dX6_strengthOf_1 : decode cX6_strengthOf 1 = .ok (.tableswitch 64 (-15) (-7) #[51, 53, 55, 57, 57, 61, 61, 59, 59], 51) := by decide +kernel
theorem dX6_strengthOf_52 : decode cX6_strengthOf 52 = .ok (.iconst 1, 1) := by decide +kernel
theorem dX6_strengthOf_53 : decode cX6_strengthOf 53 = .ok (.ireturn, 1) := by decide +kernel
theorem dX6_strengthOf_54 : decode cX6_strengthOf 54 = .ok (.iconst 2, 1) := by decide +kernel
theorem dX6_strengthOf_55 : decode cX6_strengthOf 55 = .ok (.ireturn, 1) := by decide +kernel
theorem dX6_strengthOf_56 : decode cX6_strengthOf 56 = .ok (.iconst 3, 1) := by decide +kernel
theorem dX6_strengthOf_57 : decode cX6_strengthOf 57 = .ok (.ireturn, 1) := by decide +kernel
theorem dX6_strengthOf_58 : decode cX6_strengthOf 58 = .ok (.iconst 4, 1) := by decide +kernel
theorem dX6_strengthOf_59 : decode cX6_strengthOf 59 = .ok (.ireturn, 1) := by decide +kernel
theorem dX6_strengthOf_60 : decode cX6_strengthOf 60 = .ok (.iconst 5, 1) := by decide +kernel
theorem dX6_strengthOf_61 : decode cX6_strengthOf 61 = .ok (.ireturn, 1) := by decide +kernel
theorem dX6_strengthOf_62 : decode cX6_strengthOf 62 = .ok (.bipush 6, 2) := by decide +kernel
theorem dX6_strengthOf_64 : decode cX6_strengthOf 64 = .ok (.ireturn, 1) := by decide +kernel
theorem dX6_strengthOf_65 : decode cX6_strengthOf 65 = .ok (.iconst 0, 1) := by decide +kernel
theorem dX6_strengthOf_66 : decode cX6_strengthOf 66 = .ok (.ireturn, 1) := by decide +kernel
theorem dX6_strengthWaiting_0 : decode cX6_strengthWaiting 0 = .ok (.aload_n 0, 1) := by decide +kernel
theorem dX6_strengthWaiting_1 : decode cX6_strengthWaiting 1 = .ok (.getfield 15, 3) := by decide +kernel
theorem dX6_strengthWaiting_4 : decode cX6_strengthWaiting 4 = .ok (.ifCond .le 20, 3) := by decide +kernel
theorem dX6_strengthWaiting_7 : decode cX6_strengthWaiting 7 = .ok (.aload_n 0, 1) := by decide +kernel
theorem dX6_strengthWaiting_8 : decode cX6_strengthWaiting 8 = .ok (.getfield 11, 3) := by decide +kernel
theorem dX6_strengthWaiting_11 : decode cX6_strengthWaiting 11 = .ok (.aload_n 0, 1) := by decide +kernel
theorem dX6_strengthWaiting_12 : decode cX6_strengthWaiting 12 = .ok (.getfield 15, 3) := by decide +kernel
theorem dX6_strengthWaiting_15 : decode cX6_strengthWaiting 15 = .ok (.iconst 1, 1) := by decide +kernel
theorem dX6_strengthWaiting_16 : decode cX6_strengthWaiting 16 = .ok (.isub, 1) := by decide +kernel
theorem dX6_strengthWaiting_17 : decode cX6_strengthWaiting 17 = .ok (.iaload, 1) := by decide +kernel
theorem dX6_strengthWaiting_18 : decode cX6_strengthWaiting 18 = .ok (.invokestatic 111, 3) := by decide +kernel
theorem dX6_strengthWaiting_21 : decode cX6_strengthWaiting 21 = .ok (.goto 4, 3) := by decide +kernel
theorem dX6_strengthWaiting_24 : decode cX6_strengthWaiting 24 = .ok (.iconst 0, 1) := by decide +kernel
theorem dX6_strengthWaiting_25 : decode cX6_strengthWaiting 25 = .ok (.ireturn, 1) := by decide +kernel
theorem dX6_release_0 : decode cX6_release 0 = .ok (.aload_n 0, 1) := by decide +kernel
theorem dX6_release_1 : decode cX6_release 1 = .ok (.getfield 15, 3) := by decide +kernel
theorem dX6_release_4 : decode cX6_release 4 = .ok (.ifCond .le 50, 3) := by decide +kernel
theorem dX6_release_7 : decode cX6_release 7 = .ok (.aload_n 0, 1) := by decide +kernel
theorem dX6_release_8 : decode cX6_release 8 = .ok (.getfield 11, 3) := by decide +kernel
theorem dX6_release_11 : decode cX6_release 11 = .ok (.aload_n 0, 1) := by decide +kernel
theorem dX6_release_12 : decode cX6_release 12 = .ok (.getfield 15, 3) := by decide +kernel
theorem dX6_release_15 : decode cX6_release 15 = .ok (.iconst 1, 1) := by decide +kernel
theorem dX6_release_16 : decode cX6_release 16 = .ok (.isub, 1) := by decide +kernel
theorem dX6_release_17 : decode cX6_release 17 = .ok (.iaload, 1) := by decide +kernel
theorem dX6_release_18 : decode cX6_release 18 = .ok (.invokestatic 111, 3) := by decide +kernel
theorem dX6_release_21 : decode cX6_release 21 = .ok (.iload_n 1, 1) := by decide +kernel
theorem dX6_release_22 : decode cX6_release 22 = .ok (.if_icmp .lt 32, 3) := by decide +kernel
theorem dX6_release_25 : decode cX6_release 25 = .ok (.aload_n 0, 1) := by decide +kernel
theorem dX6_release_26 : decode cX6_release 26 = .ok (.dup, 1) := by decide +kernel
theorem dX6_release_27 : decode cX6_release 27 = .ok (.getfield 15, 3) := by decide +kernel
theorem dX6_release_30 : decode cX6_release 30 = .ok (.iconst 1, 1) := by decide +kernel
theorem dX6_release_31 : decode cX6_release 31 = .ok (.isub, 1) := by decide +kernel
theorem dX6_release_32 : decode cX6_release 32 = .ok (.putfield 15, 3) := by decide +kernel
theorem dX6_release_35 : decode cX6_release 35 = .ok (.aload_n 0, 1) := by decide +kernel
theorem dX6_release_36 : decode cX6_release 36 = .ok (.getfield 36, 3) := by decide +kernel
theorem dX6_release_39 : decode cX6_release 39 = .ok (.aload_n 0, 1) := by decide +kernel
theorem dX6_release_40 : decode cX6_release 40 = .ok (.getfield 11, 3) := by decide +kernel
theorem dX6_release_43 : decode cX6_release 43 = .ok (.aload_n 0, 1) := by decide +kernel
theorem dX6_release_44 : decode cX6_release 44 = .ok (.getfield 15, 3) := by decide +kernel
theorem dX6_release_47 : decode cX6_release 47 = .ok (.iaload, 1) := by decide +kernel
theorem dX6_release_48 : decode cX6_release 48 = .ok (.invokevirtual 84, 3) := by decide +kernel
theorem dX6_release_51 : decode cX6_release 51 = .ok (.goto (-51), 3) := by decide +kernel
theorem dX6_release_54 : decode cX6_release 54 = .ok (.return_, 1) := by decide +kernel
theorem dX6_hold_0 : decode cX6_hold 0 = .ok (.aload_n 0, 1) := by decide +kernel
theorem dX6_hold_1 : decode cX6_hold 1 = .ok (.getfield 15, 3) := by decide +kernel
theorem dX6_hold_4 : decode cX6_hold 4 = .ok (.bipush 80, 2) := by decide +kernel
theorem dX6_hold_6 : decode cX6_hold 6 = .ok (.if_icmp .lt 5, 3) := by decide +kernel
theorem dX6_hold_9 : decode cX6_hold 9 = .ok (.iconst 2, 1) := by decide +kernel
theorem dX6_hold_10 : decode cX6_hold 10 = .ok (.ireturn, 1) := by decide +kernel
theorem dX6_hold_11 : decode cX6_hold 11 = .ok (.aload_n 0, 1) := by decide +kernel
theorem dX6_hold_12 : decode cX6_hold 12 = .ok (.getfield 11, 3) := by decide +kernel
theorem dX6_hold_15 : decode cX6_hold 15 = .ok (.aload_n 0, 1) := by decide +kernel
theorem dX6_hold_16 : decode cX6_hold 16 = .ok (.getfield 15, 3) := by decide +kernel
theorem dX6_hold_19 : decode cX6_hold 19 = .ok (.iload_n 1, 1) := by decide +kernel
theorem dX6_hold_20 : decode cX6_hold 20 = .ok (.iastore, 1) := by decide +kernel
theorem dX6_hold_21 : decode cX6_hold 21 = .ok (.aload_n 0, 1) := by decide +kernel
theorem dX6_hold_22 : decode cX6_hold 22 = .ok (.dup, 1) := by decide +kernel
theorem dX6_hold_23 : decode cX6_hold 23 = .ok (.getfield 15, 3) := by decide +kernel
theorem dX6_hold_26 : decode cX6_hold 26 = .ok (.iconst 1, 1) := by decide +kernel
theorem dX6_hold_27 : decode cX6_hold 27 = .ok (.iadd, 1) := by decide +kernel
theorem dX6_hold_28 : decode cX6_hold 28 = .ok (.putfield 15, 3) := by decide +kernel
theorem dX6_hold_31 : decode cX6_hold 31 = .ok (.iconst 0, 1) := by decide +kernel
theorem dX6_hold_32 : decode cX6_hold 32 = .ok (.ireturn, 1) := by decide +kernel
theorem dX7_init_0 : decode cX7_init 0 = .ok (.aload_n 0, 1) := by decide +kernel
theorem dX7_init_1 : decode cX7_init 1 = .ok (.invokespecial 3, 3) := by decide +kernel
theorem dX7_init_4 : decode cX7_init 4 = .ok (.aload_n 0, 1) := by decide +kernel
theorem dX7_init_5 : decode cX7_init 5 = .ok (.iconst 0, 1) := by decide +kernel
theorem dX7_init_6 : decode cX7_init 6 = .ok (.putfield 9, 3) := by decide +kernel
theorem dX7_init_9 : decode cX7_init 9 = .ok (.aload_n 0, 1) := by decide +kernel
theorem dX7_init_10 : decode cX7_init 10 = .ok (.bipush 8, 2) := by decide +kernel
theorem dX7_init_12 : decode cX7_init 12 = .ok (.newarray .int, 2) := by decide +kernel
theorem dX7_init_14 : decode cX7_init 14 = .ok (.putfield 15, 3) := by decide +kernel
theorem dX7_init_17 : decode cX7_init 17 = .ok (.aload_n 0, 1) := by decide +kernel
theorem dX7_init_18 : decode cX7_init 18 = .ok (.bipush 8, 2) := by decide +kernel
theorem dX7_init_20 : decode cX7_init 20 = .ok (.newarray .int, 2) := by decide +kernel
theorem dX7_init_22 : decode cX7_init 22 = .ok (.putfield 19, 3) := by decide +kernel
theorem dX7_init_25 : decode cX7_init 25 = .ok (.aload_n 0, 1) := by decide +kernel
theorem dX7_init_26 : decode cX7_init 26 = .ok (.bipush 8, 2) := by decide +kernel
theorem dX7_init_28 : decode cX7_init 28 = .ok (.newarray .int, 2) := by decide +kernel
theorem dX7_init_30 : decode cX7_init 30 = .ok (.putfield 22, 3) := by decide +kernel
theorem dX7_init_33 : decode cX7_init 33 = .ok (.return_, 1) := by decide +kernel
theorem dX7_add_0 : decode cX7_add 0 = .ok (.aload_n 0, 1) := by decide +kernel
theorem dX7_add_1 : decode cX7_add 1 = .ok (.getfield 9, 3) := by decide +kernel
theorem dX7_add_4 : decode cX7_add 4 = .ok (.bipush 8, 2) := by decide +kernel
theorem dX7_add_6 : decode cX7_add 6 = .ok (.if_icmp .ge 43, 3) := by decide +kernel
theorem dX7_add_9 : decode cX7_add 9 = .ok (.aload_n 0, 1) := by decide +kernel
theorem dX7_add_10 : decode cX7_add 10 = .ok (.getfield 15, 3) := by decide +kernel
theorem dX7_add_13 : decode cX7_add 13 = .ok (.aload_n 0, 1) := by decide +kernel
theorem dX7_add_14 : decode cX7_add 14 = .ok (.getfield 9, 3) := by decide +kernel
theorem dX7_add_17 : decode cX7_add 17 = .ok (.iload_n 1, 1) := by decide +kernel
theorem dX7_add_18 : decode cX7_add 18 = .ok (.iastore, 1) := by decide +kernel
theorem dX7_add_19 : decode cX7_add 19 = .ok (.aload_n 0, 1) := by decide +kernel
theorem dX7_add_20 : decode cX7_add 20 = .ok (.getfield 19, 3) := by decide +kernel
theorem dX7_add_23 : decode cX7_add 23 = .ok (.aload_n 0, 1) := by decide +kernel
theorem dX7_add_24 : decode cX7_add 24 = .ok (.getfield 9, 3) := by decide +kernel
theorem dX7_add_27 : decode cX7_add 27 = .ok (.iload_n 2, 1) := by decide +kernel
theorem dX7_add_28 : decode cX7_add 28 = .ok (.iastore, 1) := by decide +kernel
theorem dX7_add_29 : decode cX7_add 29 = .ok (.aload_n 0, 1) := by decide +kernel
theorem dX7_add_30 : decode cX7_add 30 = .ok (.getfield 22, 3) := by decide +kernel
theorem dX7_add_33 : decode cX7_add 33 = .ok (.aload_n 0, 1) := by decide +kernel
theorem dX7_add_34 : decode cX7_add 34 = .ok (.getfield 9, 3) := by decide +kernel
theorem dX7_add_37 : decode cX7_add 37 = .ok (.iload_n 3, 1) := by decide +kernel
theorem dX7_add_38 : decode cX7_add 38 = .ok (.iastore, 1) := by decide +kernel
theorem dX7_add_39 : decode cX7_add 39 = .ok (.aload_n 0, 1) := by decide +kernel
theorem dX7_add_40 : decode cX7_add 40 = .ok (.dup, 1) := by decide +kernel
theorem dX7_add_41 : decode cX7_add 41 = .ok (.getfield 9, 3) := by decide +kernel
theorem dX7_add_44 : decode cX7_add 44 = .ok (.iconst 1, 1) := by decide +kernel
theorem dX7_add_45 : decode cX7_add 45 = .ok (.iadd, 1) := by decide +kernel
theorem dX7_add_46 : decode cX7_add 46 = .ok (.putfield 9, 3) := by decide +kernel
theorem dX7_add_49 : decode cX7_add 49 = .ok (.return_, 1) := by decide +kernel
theorem dX7_lastDay_0 : decode cX7_lastDay 0 = .ok (.iconst (-1), 1) := by decide +kernel
theorem dX7_lastDay_1 : decode cX7_lastDay 1 = .ok (.istore_n 1, 1) := by decide +kernel
theorem dX7_lastDay_2 : decode cX7_lastDay 2 = .ok (.iconst 0, 1) := by decide +kernel
theorem dX7_lastDay_3 : decode cX7_lastDay 3 = .ok (.istore_n 2, 1) := by decide +kernel
theorem dX7_lastDay_4 : decode cX7_lastDay 4 = .ok (.iload_n 2, 1) := by decide +kernel
theorem dX7_lastDay_5 : decode cX7_lastDay 5 = .ok (.aload_n 0, 1) := by decide +kernel
theorem dX7_lastDay_6 : decode cX7_lastDay 6 = .ok (.getfield 9, 3) := by decide +kernel
theorem dX7_lastDay_9 : decode cX7_lastDay 9 = .ok (.if_icmp .ge 20, 3) := by decide +kernel
theorem dX7_lastDay_12 : decode cX7_lastDay 12 = .ok (.iload_n 1, 1) := by decide +kernel
theorem dX7_lastDay_13 : decode cX7_lastDay 13 = .ok (.aload_n 0, 1) := by decide +kernel
theorem dX7_lastDay_14 : decode cX7_lastDay 14 = .ok (.getfield 19, 3) := by decide +kernel
theorem dX7_lastDay_17 : decode cX7_lastDay 17 = .ok (.iload_n 2, 1) := by decide +kernel
theorem dX7_lastDay_18 : decode cX7_lastDay 18 = .ok (.iaload, 1) := by decide +kernel
theorem dX7_lastDay_19 : decode cX7_lastDay 19 = .ok (.invokestatic 25, 3) := by decide +kernel
theorem dX7_lastDay_22 : decode cX7_lastDay 22 = .ok (.istore_n 1, 1) := by decide +kernel
theorem dX7_lastDay_23 : decode cX7_lastDay 23 = .ok (.iinc 2 1, 3) := by decide +kernel
theorem dX7_lastDay_26 : decode cX7_lastDay 26 = .ok (.goto (-22), 3) := by decide +kernel
theorem dX7_lastDay_29 : decode cX7_lastDay 29 = .ok (.iload_n 1, 1) := by decide +kernel
theorem dX7_lastDay_30 : decode cX7_lastDay 30 = .ok (.ireturn, 1) := by decide +kernel
theorem dX7_areSo_0 : decode cX7_areSo 0 = .ok (.iconst 0, 1) := by decide +kernel
theorem dX7_areSo_1 : decode cX7_areSo 1 = .ok (.istore_n 3, 1) := by decide +kernel
theorem dX7_areSo_2 : decode cX7_areSo 2 = .ok (.iload_n 3, 1) := by decide +kernel
theorem dX7_areSo_3 : decode cX7_areSo 3 = .ok (.aload_n 0, 1) := by decide +kernel
theorem dX7_areSo_4 : decode cX7_areSo 4 = .ok (.getfield 9, 3) := by decide +kernel
theorem dX7_areSo_7 : decode cX7_areSo 7 = .ok (.if_icmp .ge 41, 3) := by decide +kernel
theorem dX7_areSo_10 : decode cX7_areSo 10 = .ok (.aload_n 0, 1) := by decide +kernel
theorem dX7_areSo_11 : decode cX7_areSo 11 = .ok (.getfield 19, 3) := by decide +kernel
theorem dX7_areSo_14 : decode cX7_areSo 14 = .ok (.iload_n 3, 1) := by decide +kernel
theorem dX7_areSo_15 : decode cX7_areSo 15 = .ok (.iaload, 1) := by decide +kernel
theorem dX7_areSo_16 : decode cX7_areSo 16 = .ok (.iload_n 1, 1) := by decide +kernel
theorem dX7_areSo_17 : decode cX7_areSo 17 = .ok (.if_icmp .ne 25, 3) := by decide +kernel
theorem dX7_areSo_20 : decode cX7_areSo 20 = .ok (.aload_n 2, 1) := by decide +kernel
theorem dX7_areSo_21 : decode cX7_areSo 21 = .ok (.getfield 31, 3) := by decide +kernel
theorem dX7_areSo_24 : decode cX7_areSo 24 = .ok (.aload_n 0, 1) := by decide +kernel
theorem dX7_areSo_25 : decode cX7_areSo 25 = .ok (.getfield 15, 3) := by decide +kernel
theorem dX7_areSo_28 : decode cX7_areSo 28 = .ok (.iload_n 3, 1) := by decide +kernel
theorem dX7_areSo_29 : decode cX7_areSo 29 = .ok (.iaload, 1) := by decide +kernel
theorem dX7_areSo_30 : decode cX7_areSo 30 = .ok (.iaload, 1) := by decide +kernel
theorem dX7_areSo_31 : decode cX7_areSo 31 = .ok (.aload_n 0, 1) := by decide +kernel
theorem dX7_areSo_32 : decode cX7_areSo 32 = .ok (.getfield 22, 3) := by decide +kernel
theorem dX7_areSo_35 : decode cX7_areSo 35 = .ok (.iload_n 3, 1) := by decide +kernel
theorem dX7_areSo_36 : decode cX7_areSo 36 = .ok (.iaload, 1) := by decide +kernel
theorem dX7_areSo_37 : decode cX7_areSo 37 = .ok (.if_icmp .eq 5, 3) := by decide +kernel
theorem dX7_areSo_40 : decode cX7_areSo 40 = .ok (.iconst 0, 1) := by decide +kernel
theorem dX7_areSo_41 : decode cX7_areSo 41 = .ok (.ireturn, 1) := by decide +kernel
theorem dX7_areSo_42 : decode cX7_areSo 42 = .ok (.iinc 3 1, 3) := by decide +kernel
theorem dX7_areSo_45 : decode cX7_areSo 45 = .ok (.goto (-43), 3) := by decide +kernel
theorem dX7_areSo_48 : decode cX7_areSo 48 = .ok (.iconst 1, 1) := by decide +kernel
theorem dX7_areSo_49 : decode cX7_areSo 49 = .ok (.ireturn, 1) := by decide +kernel
theorem dX7_copy_0 : decode cX7_copy 0 = .ok (.aload_n 0, 1) := by decide +kernel
theorem dX7_copy_1 : decode cX7_copy 1 = .ok (.aload_n 1, 1) := by decide +kernel
theorem dX7_copy_2 : decode cX7_copy 2 = .ok (.getfield 9, 3) := by decide +kernel
theorem dX7_copy_5 : decode cX7_copy 5 = .ok (.putfield 9, 3) := by decide +kernel
theorem dX7_copy_8 : decode cX7_copy 8 = .ok (.aload_n 1, 1) := by decide +kernel
theorem dX7_copy_9 : decode cX7_copy 9 = .ok (.getfield 15, 3) := by decide +kernel
theorem dX7_copy_12 : decode cX7_copy 12 = .ok (.iconst 0, 1) := by decide +kernel
theorem dX7_copy_13 : decode cX7_copy 13 = .ok (.aload_n 0, 1) := by decide +kernel
theorem dX7_copy_14 : decode cX7_copy 14 = .ok (.getfield 15, 3) := by decide +kernel
theorem dX7_copy_17 : decode cX7_copy 17 = .ok (.iconst 0, 1) := by decide +kernel
theorem dX7_copy_18 : decode cX7_copy 18 = .ok (.bipush 8, 2) := by decide +kernel
theorem dX7_copy_20 : decode cX7_copy 20 = .ok (.invokestatic 36, 3) := by decide +kernel
theorem dX7_copy_23 : decode cX7_copy 23 = .ok (.aload_n 1, 1) := by decide +kernel
theorem dX7_copy_24 : decode cX7_copy 24 = .ok (.getfield 19, 3) := by decide +kernel
theorem dX7_copy_27 : decode cX7_copy 27 = .ok (.iconst 0, 1) := by decide +kernel
theorem dX7_copy_28 : decode cX7_copy 28 = .ok (.aload_n 0, 1) := by decide +kernel
theorem dX7_copy_29 : decode cX7_copy 29 = .ok (.getfield 19, 3) := by decide +kernel
theorem dX7_copy_32 : decode cX7_copy 32 = .ok (.iconst 0, 1) := by decide +kernel
theorem dX7_copy_33 : decode cX7_copy 33 = .ok (.bipush 8, 2) := by decide +kernel
theorem dX7_copy_35 : decode cX7_copy 35 = .ok (.invokestatic 36, 3) := by decide +kernel
theorem dX7_copy_38 : decode cX7_copy 38 = .ok (.aload_n 1, 1) := by decide +kernel
theorem dX7_copy_39 : decode cX7_copy 39 = .ok (.getfield 22, 3) := by decide +kernel
theorem dX7_copy_42 : decode cX7_copy 42 = .ok (.iconst 0, 1) := by decide +kernel
theorem dX7_copy_43 : decode cX7_copy 43 = .ok (.aload_n 0, 1) := by decide +kernel
theorem dX7_copy_44 : decode cX7_copy 44 = .ok (.getfield 22, 3) := by decide +kernel
theorem dX7_copy_47 : decode cX7_copy 47 = .ok (.iconst 0, 1) := by decide +kernel
theorem dX7_copy_48 : decode cX7_copy 48 = .ok (.bipush 8, 2) := by decide +kernel
theorem dX7_copy_50 : decode cX7_copy 50 = .ok (.invokestatic 36, 3) := by decide +kernel
theorem dX7_copy_53 : decode cX7_copy 53 = .ok (.return_, 1) := by decide +kernel
theorem dX8_init_0 : decode cX8_init 0 = .ok (.aload_n 0, 1) := by decide +kernel
theorem dX8_init_1 : decode cX8_init 1 = .ok (.invokespecial 3, 3) := by decide +kernel
theorem dX8_init_4 : decode cX8_init 4 = .ok (.aload_n 0, 1) := by decide +kernel
theorem dX8_init_5 : decode cX8_init 5 = .ok (.bipush 9, 2) := by decide +kernel
theorem dX8_init_7 : decode cX8_init 7 = .ok (.newarray .int, 2) := by decide +kernel
theorem dX8_init_9 : decode cX8_init 9 = .ok (.putfield 9, 3) := by decide +kernel
theorem dX8_init_12 : decode cX8_init 12 = .ok (.aload_n 0, 1) := by decide +kernel
theorem dX8_init_13 : decode cX8_init 13 = .ok (.bipush 9, 2) := by decide +kernel
theorem dX8_init_15 : decode cX8_init 15 = .ok (.newarray .int, 2) := by decide +kernel
theorem dX8_init_17 : decode cX8_init 17 = .ok (.putfield 15, 3) := by decide +kernel
theorem dX8_init_20 : decode cX8_init 20 = .ok (.aload_n 0, 1) := by decide +kernel
theorem dX8_init_21 : decode cX8_init 21 = .ok (.bipush 10, 2) := by decide +kernel
theorem dX8_init_23 : decode cX8_init 23 = .ok (.newarray .int, 2) := by decide +kernel
theorem dX8_init_25 : decode cX8_init 25 = .ok (.putfield 18, 3) := by decide +kernel
theorem dX8_init_28 : decode cX8_init 28 = .ok (.return_, 1) := by decide +kernel
theorem dX8_begin_0 : decode cX8_begin 0 = .ok (.aload_n 0, 1) := by decide +kernel
theorem dX8_begin_1 : decode cX8_begin 1 = .ok (.iconst 0, 1) := by decide +kernel
theorem dX8_begin_2 : decode cX8_begin 2 = .ok (.putfield 21, 3) := by decide +kernel
theorem dX8_begin_5 : decode cX8_begin 5 = .ok (.aload_n 0, 1) := by decide +kernel
theorem dX8_begin_6 : decode cX8_begin 6 = .ok (.iconst 0, 1) := by decide +kernel
theorem dX8_begin_7 : decode cX8_begin 7 = .ok (.putfield 25, 3) := by decide +kernel
theorem dX8_begin_10 : decode cX8_begin 10 = .ok (.aload_n 0, 1) := by decide +kernel
theorem dX8_begin_11 : decode cX8_begin 11 = .ok (.iconst 0, 1) := by decide +kernel
theorem dX8_begin_12 : decode cX8_begin 12 = .ok (.putfield 28, 3) := by decide +kernel
theorem dX8_begin_15 : decode cX8_begin 15 = .ok (.aload_n 1, 1) := by decide +kernel
theorem dX8_begin_16 : decode cX8_begin 16 = .ok (.getfield 31, 3) := by decide +kernel
theorem dX8_begin_19 : decode cX8_begin 19 = .ok (.iconst 0, 1) := by decide +kernel
theorem dX8_begin_20 : decode cX8_begin 20 = .ok (.aload_n 0, 1) := by decide +kernel
theorem dX8_begin_21 : decode cX8_begin 21 = .ok (.getfield 9, 3) := by decide +kernel
theorem dX8_begin_24 : decode cX8_begin 24 = .ok (.iconst 0, 1) := by decide +kernel
theorem dX8_begin_25 : decode cX8_begin 25 = .ok (.bipush 9, 2) := by decide +kernel
theorem dX8_begin_27 : decode cX8_begin 27 = .ok (.invokestatic 34, 3) := by decide +kernel
theorem dX8_begin_30 : decode cX8_begin 30 = .ok (.aload_n 0, 1) := by decide +kernel
theorem dX8_begin_31 : decode cX8_begin 31 = .ok (.getfield 15, 3) := by decide +kernel
theorem dX8_begin_34 : decode cX8_begin 34 = .ok (.iconst 0, 1) := by decide +kernel
theorem dX8_begin_35 : decode cX8_begin 35 = .ok (.invokestatic 40, 3) := by decide +kernel
theorem dX8_begin_38 : decode cX8_begin 38 = .ok (.aload_n 1, 1) := by decide +kernel
theorem dX8_begin_39 : decode cX8_begin 39 = .ok (.getfield 46, 3) := by decide +kernel
theorem dX8_begin_42 : decode cX8_begin 42 = .ok (.iconst 0, 1) := by decide +kernel
theorem dX8_begin_43 : decode cX8_begin 43 = .ok (.aload_n 0, 1) := by decide +kernel
theorem dX8_begin_44 : decode cX8_begin 44 = .ok (.getfield 18, 3) := by decide +kernel
theorem dX8_begin_47 : decode cX8_begin 47 = .ok (.iconst 0, 1) := by decide +kernel
theorem dX8_begin_48 : decode cX8_begin 48 = .ok (.bipush 10, 2) := by decide +kernel
theorem dX8_begin_50 : decode cX8_begin 50 = .ok (.invokestatic 34, 3) := by decide +kernel
theorem dX8_begin_53 : decode cX8_begin 53 = .ok (.return_, 1) := by decide +kernel
theorem dX8_copy_0 : decode cX8_copy 0 = .ok (.aload_n 0, 1) := by decide +kernel
theorem dX8_copy_1 : decode cX8_copy 1 = .ok (.aload_n 1, 1) := by decide +kernel
theorem dX8_copy_2 : decode cX8_copy 2 = .ok (.getfield 21, 3) := by decide +kernel
theorem dX8_copy_5 : decode cX8_copy 5 = .ok (.putfield 21, 3) := by decide +kernel
theorem dX8_copy_8 : decode cX8_copy 8 = .ok (.aload_n 0, 1) := by decide +kernel
theorem dX8_copy_9 : decode cX8_copy 9 = .ok (.aload_n 1, 1) := by decide +kernel
theorem dX8_copy_10 : decode cX8_copy 10 = .ok (.getfield 25, 3) := by decide +kernel
theorem dX8_copy_13 : decode cX8_copy 13 = .ok (.putfield 25, 3) := by decide +kernel
theorem dX8_copy_16 : decode cX8_copy 16 = .ok (.aload_n 0, 1) := by decide +kernel
theorem dX8_copy_17 : decode cX8_copy 17 = .ok (.aload_n 1, 1) := by decide +kernel
theorem dX8_copy_18 : decode cX8_copy 18 = .ok (.getfield 28, 3) := by decide +kernel
theorem dX8_copy_21 : decode cX8_copy 21 = .ok (.putfield 28, 3) := by decide +kernel
theorem dX8_copy_24 : decode cX8_copy 24 = .ok (.aload_n 1, 1) := by decide +kernel
theorem dX8_copy_25 : decode cX8_copy 25 = .ok (.getfield 9, 3) := by decide +kernel
theorem dX8_copy_28 : decode cX8_copy 28 = .ok (.iconst 0, 1) := by decide +kernel
theorem dX8_copy_29 : decode cX8_copy 29 = .ok (.aload_n 0, 1) := by decide +kernel
theorem dX8_copy_30 : decode cX8_copy 30 = .ok (.getfield 9, 3) := by decide +kernel
theorem dX8_copy_33 : decode cX8_copy 33 = .ok (.iconst 0, 1) := by decide +kernel
theorem dX8_copy_34 : decode cX8_copy 34 = .ok (.bipush 9, 2) := by decide +kernel
theorem dX8_copy_36 : decode cX8_copy 36 = .ok (.invokestatic 34, 3) := by decide +kernel
theorem dX8_copy_39 : decode cX8_copy 39 = .ok (.aload_n 1, 1) := by decide +kernel
theorem dX8_copy_40 : decode cX8_copy 40 = .ok (.getfield 15, 3) := by decide +kernel
theorem dX8_copy_43 : decode cX8_copy 43 = .ok (.iconst 0, 1) := by decide +kernel
theorem dX8_copy_44 : decode cX8_copy 44 = .ok (.aload_n 0, 1) := by decide +kernel
theorem dX8_copy_45 : decode cX8_copy 45 = .ok (.getfield 15, 3) := by decide +kernel
theorem dX8_copy_48 : decode cX8_copy 48 = .ok (.iconst 0, 1) := by decide +kernel
theorem dX8_copy_49 : decode cX8_copy 49 = .ok (.bipush 9, 2) := by decide +kernel
theorem dX8_copy_51 : decode cX8_copy 51 = .ok (.invokestatic 34, 3) := by decide +kernel
theorem dX8_copy_54 : decode cX8_copy 54 = .ok (.aload_n 1, 1) := by decide +kernel
theorem dX8_copy_55 : decode cX8_copy 55 = .ok (.getfield 18, 3) := by decide +kernel
theorem dX8_copy_58 : decode cX8_copy 58 = .ok (.iconst 0, 1) := by decide +kernel
theorem dX8_copy_59 : decode cX8_copy 59 = .ok (.aload_n 0, 1) := by decide +kernel
theorem dX8_copy_60 : decode cX8_copy 60 = .ok (.getfield 18, 3) := by decide +kernel
theorem dX8_copy_63 : decode cX8_copy 63 = .ok (.iconst 0, 1) := by decide +kernel
theorem dX8_copy_64 : decode cX8_copy 64 = .ok (.bipush 10, 2) := by decide +kernel
theorem dX8_copy_66 : decode cX8_copy 66 = .ok (.invokestatic 34, 3) := by decide +kernel
theorem dX8_copy_69 : decode cX8_copy 69 = .ok (.return_, 1) := by decide +kernel
theorem dX8_lay_0 : decode cX8_lay 0 = .ok (.aload_n 0, 1) := by decide +kernel
theorem dX8_lay_1 : decode cX8_lay 1 = .ok (.getfield 9, 3) := by decide +kernel
theorem dX8_lay_4 : decode cX8_lay 4 = .ok (.iload_n 1, 1) := by decide +kernel
theorem dX8_lay_5 : decode cX8_lay 5 = .ok (.sipush 9999, 3) := by decide +kernel
theorem dX8_lay_8 : decode cX8_lay 8 = .ok (.aload_n 0, 1) := by decide +kernel
theorem dX8_lay_9 : decode cX8_lay 9 = .ok (.getfield 9, 3) := by decide +kernel
theorem dX8_lay_12 : decode cX8_lay 12 = .ok (.iload_n 1, 1) := by decide +kernel
theorem dX8_lay_13 : decode cX8_lay 13 = .ok (.iaload, 1) := by decide +kernel
theorem dX8_lay_14 : decode cX8_lay 14 = .ok (.iload_n 2, 1) := by decide +kernel
theorem dX8_lay_15 : decode cX8_lay 15 = .ok (.iadd, 1) := by decide +kernel
theorem dX8_lay_16 : decode cX8_lay 16 = .ok (.invokestatic 47, 3) := by decide +kernel
theorem dX8_lay_19 : decode cX8_lay 19 = .ok (.iastore, 1) := by decide +kernel
theorem dX8_lay_20 : decode cX8_lay 20 = .ok (.return_, 1) := by decide +kernel
theorem dX8_bring_0 : decode cX8_bring 0 = .ok (.aload_n 0, 1) := by decide +kernel
theorem dX8_bring_1 : decode cX8_bring 1 = .ok (.getfield 9, 3) := by decide +kernel
theorem dX8_bring_4 : decode cX8_bring 4 = .ok (.iload_n 1, 1) := by decide +kernel
theorem dX8_bring_5 : decode cX8_bring 5 = .ok (.dup2, 1) := by decide +kernel
theorem dX8_bring_6 : decode cX8_bring 6 = .ok (.iaload, 1) := by decide +kernel
theorem dX8_bring_7 : decode cX8_bring 7 = .ok (.iload_n 3, 1) := by decide +kernel
theorem dX8_bring_8 : decode cX8_bring 8 = .ok (.isub, 1) := by decide +kernel
theorem dX8_bring_9 : decode cX8_bring 9 = .ok (.iastore, 1) := by decide +kernel
theorem dX8_bring_10 : decode cX8_bring 10 = .ok (.aload_n 0, 1) := by decide +kernel
theorem dX8_bring_11 : decode cX8_bring 11 = .ok (.iload_n 2, 1) := by decide +kernel
theorem dX8_bring_12 : decode cX8_bring 12 = .ok (.iload_n 3, 1) := by decide +kernel
theorem dX8_bring_13 : decode cX8_bring 13 = .ok (.invokevirtual 53, 3) := by decide +kernel
theorem dX8_bring_16 : decode cX8_bring 16 = .ok (.aload_n 0, 1) := by decide +kernel
theorem dX8_bring_17 : decode cX8_bring 17 = .ok (.getfield 15, 3) := by decide +kernel
theorem dX8_bring_20 : decode cX8_bring 20 = .ok (.iload_n 2, 1) := by decide +kernel
theorem dX8_bring_21 : decode cX8_bring 21 = .ok (.dup2, 1) := by decide +kernel
theorem dX8_bring_22 : decode cX8_bring 22 = .ok (.iaload, 1) := by decide +kernel
theorem dX8_bring_23 : decode cX8_bring 23 = .ok (.iload_n 3, 1) := by decide +kernel
theorem dX8_bring_24 : decode cX8_bring 24 = .ok (.iadd, 1) := by decide +kernel
theorem dX8_bring_25 : decode cX8_bring 25 = .ok (.iastore, 1) := by decide +kernel
theorem dX8_bring_26 : decode cX8_bring 26 = .ok (.return_, 1) := by decide +kernel
theorem dX8_steal_0 : decode cX8_steal 0 = .ok (.iload_n 2, 1) := by decide +kernel
theorem dX8_steal_1 : decode cX8_steal 1 = .ok (.aload_n 0, 1) := by decide +kernel
theorem dX8_steal_2 : decode cX8_steal 2 = .ok (.getfield 9, 3) := by decide +kernel
theorem dX8_steal_5 : decode cX8_steal 5 = .ok (.iload_n 1, 1) := by decide +kernel
theorem dX8_steal_6 : decode cX8_steal 6 = .ok (.iaload, 1) := by decide +kernel
theorem dX8_steal_7 : decode cX8_steal 7 = .ok (.invokestatic 47, 3) := by decide +kernel
theorem dX8_steal_10 : decode cX8_steal 10 = .ok (.istore_n 3, 1) := by decide +kernel
theorem dX8_steal_11 : decode cX8_steal 11 = .ok (.aload_n 0, 1) := by decide +kernel
theorem dX8_steal_12 : decode cX8_steal 12 = .ok (.getfield 9, 3) := by decide +kernel
theorem dX8_steal_15 : decode cX8_steal 15 = .ok (.iload_n 1, 1) := by decide +kernel
theorem dX8_steal_16 : decode cX8_steal 16 = .ok (.dup2, 1) := by decide +kernel
theorem dX8_steal_17 : decode cX8_steal 17 = .ok (.iaload, 1) := by decide +kernel
theorem dX8_steal_18 : decode cX8_steal 18 = .ok (.iload_n 3, 1) := by decide +kernel
theorem dX8_steal_19 : decode cX8_steal 19 = .ok (.isub, 1) := by decide +kernel
theorem dX8_steal_20 : decode cX8_steal 20 = .ok (.iastore, 1) := by decide +kernel
theorem dX8_steal_21 : decode cX8_steal 21 = .ok (.aload_n 0, 1) := by decide +kernel
theorem dX8_steal_22 : decode cX8_steal 22 = .ok (.dup, 1) := by decide +kernel
theorem dX8_steal_23 : decode cX8_steal 23 = .ok (.getfield 28, 3) := by decide +kernel
theorem dX8_steal_26 : decode cX8_steal 26 = .ok (.iload_n 3, 1) := by decide +kernel
theorem dX8_steal_27 : decode cX8_steal 27 = .ok (.iadd, 1) := by decide +kernel
theorem dX8_steal_28 : decode cX8_steal 28 = .ok (.putfield 28, 3) := by decide +kernel
theorem dX8_steal_31 : decode cX8_steal 31 = .ok (.iload_n 3, 1) := by decide +kernel
theorem dX8_steal_32 : decode cX8_steal 32 = .ok (.ireturn, 1) := by decide +kernel
theorem dX9_init_0 : decode cX9_init 0 = .ok (.aload_n 0, 1) := by decide +kernel
theorem dX9_init_1 : decode cX9_init 1 = .ok (.invokespecial 1, 3) := by decide +kernel
theorem dX9_init_4 : decode cX9_init 4 = .ok (.aload_n 0, 1) := by decide +kernel
theorem dX9_init_5 : decode cX9_init 5 = .ok (.iconst 0, 1) := by decide +kernel
theorem dX9_init_6 : decode cX9_init 6 = .ok (.putfield 9, 3) := by decide +kernel
theorem dX9_init_9 : decode cX9_init 9 = .ok (.aload_n 0, 1) := by decide +kernel
theorem dX9_init_10 : decode cX9_init 10 = .ok (.iconst 0, 1) := by decide +kernel
theorem dX9_init_11 : decode cX9_init 11 = .ok (.putfield 13, 3) := by decide +kernel
theorem dX9_init_14 : decode cX9_init 14 = .ok (.aload_n 0, 1) := by decide +kernel
theorem dX9_init_15 : decode cX9_init 15 = .ok (.iconst 0, 1) := by decide +kernel
theorem dX9_init_16 : decode cX9_init 16 = .ok (.putfield 16, 3) := by decide +kernel
theorem dX9_init_19 : decode cX9_init 19 = .ok (.aload_n 0, 1) := by decide +kernel
theorem dX9_init_20 : decode cX9_init 20 = .ok (.iconst 0, 1) := by decide +kernel
theorem dX9_init_21 : decode cX9_init 21 = .ok (.putfield 19, 3) := by decide +kernel
theorem dX9_init_24 : decode cX9_init 24 = .ok (.aload_n 0, 1) := by decide +kernel
theorem dX9_init_25 : decode cX9_init 25 = .ok (.iconst 0, 1) := by decide +kernel
theorem dX9_init_26 : decode cX9_init 26 = .ok (.putfield 23, 3) := by decide +kernel
theorem dX9_init_29 : decode cX9_init 29 = .ok (.aload_n 0, 1) := by decide +kernel
theorem dX9_init_30 : decode cX9_init 30 = .ok (.iconst 0, 1) := by decide +kernel
theorem dX9_init_31 : decode cX9_init 31 = .ok (.putfield 26, 3) := by decide +kernel
theorem dX9_init_34 : decode cX9_init 34 = .ok (.aload_n 0, 1) := by decide +kernel
theorem dX9_init_35 : decode cX9_init 35 = .ok (.aload_n 1, 1) := by decide +kernel
theorem dX9_init_36 : decode cX9_init 36 = .ok (.putfield 29, 3) := by decide +kernel
theorem dX9_init_39 : decode cX9_init 39 = .ok (.return_, 1) := by decide +kernel
theorem dX9_begin_0 : decode cX9_begin 0 = .ok (.aload_n 0, 1) := by decide +kernel
theorem dX9_begin_1 : decode cX9_begin 1 = .ok (.iload_n 1, 1) := by decide +kernel
theorem dX9_begin_2 : decode cX9_begin 2 = .ok (.aload_n 0, 1) := by decide +kernel
theorem dX9_begin_3 : decode cX9_begin 3 = .ok (.getfield 29, 3) := by decide +kernel
theorem dX9_begin_6 : decode cX9_begin 6 = .ok (.arraylength, 1) := by decide +kernel
theorem dX9_begin_7 : decode cX9_begin 7 = .ok (.invokestatic 33, 3) := by decide +kernel
theorem dX9_begin_10 : decode cX9_begin 10 = .ok (.putfield 26, 3) := by decide +kernel
theorem dX9_begin_13 : decode cX9_begin 13 = .ok (.aload_n 0, 1) := by decide +kernel
theorem dX9_begin_14 : decode cX9_begin 14 = .ok (.iconst 0, 1) := by decide +kernel
theorem dX9_begin_15 : decode cX9_begin 15 = .ok (.putfield 23, 3) := by decide +kernel
theorem dX9_begin_18 : decode cX9_begin 18 = .ok (.aload_n 0, 1) := by decide +kernel
theorem dX9_begin_19 : decode cX9_begin 19 = .ok (.invokevirtual 39, 3) := by decide +kernel
theorem dX9_begin_22 : decode cX9_begin 22 = .ok (.return_, 1) := by decide +kernel
theorem dX9_step_0 : decode cX9_step 0 = .ok (.aload_n 0, 1) := by decide +kernel
theorem dX9_step_1 : decode cX9_step 1 = .ok (.getfield 23, 3) := by decide +kernel
theorem dX9_step_4 : decode cX9_step 4 = .ok (.aload_n 0, 1) := by decide +kernel
theorem dX9_step_5 : decode cX9_step 5 = .ok (.getfield 26, 3) := by decide +kernel
theorem dX9_step_8 : decode cX9_step 8 = .ok (.if_icmp .ge 31, 3) := by decide +kernel
theorem dX9_step_11 : decode cX9_step 11 = .ok (.aload_n 0, 1) := by decide +kernel
theorem dX9_step_12 : decode cX9_step 12 = .ok (.getfield 29, 3) := by decide +kernel
theorem dX9_step_15 : decode cX9_step 15 = .ok (.aload_n 0, 1) := by decide +kernel
theorem dX9_step_16 : decode cX9_step 16 = .ok (.getfield 23, 3) := by decide +kernel
theorem dX9_step_19 : decode cX9_step 19 = .ok (.baload, 1) := by decide +kernel
theorem dX9_step_20 : decode cX9_step 20 = .ok (.invokestatic 42, 3) := by decide +kernel
theorem dX9_step_23 : decode cX9_step 23 = .ok (.ifCond .eq 16, 3) := by decide +kernel
theorem dX9_step_26 : decode cX9_step 26 = .ok (.aload_n 0, 1) := by decide +kernel
theorem dX9_step_27 : decode cX9_step 27 = .ok (.dup, 1) := by decide +kernel
theorem dX9_step_28 : decode cX9_step 28 = .ok (.getfield 23, 3) := by decide +kernel
theorem dX9_step_31 : decode cX9_step 31 = .ok (.iconst 1, 1) := by decide +kernel
theorem dX9_step_32 : decode cX9_step 32 = .ok (.iadd, 1) := by decide +kernel
theorem dX9_step_33 : decode cX9_step 33 = .ok (.putfield 23, 3) := by decide +kernel
theorem dX9_step_36 : decode cX9_step 36 = .ok (.goto (-36), 3) := by decide +kernel
theorem dX9_step_39 : decode cX9_step 39 = .ok (.aload_n 0, 1) := by decide +kernel
theorem dX9_step_40 : decode cX9_step 40 = .ok (.aload_n 0, 1) := by decide +kernel
theorem dX9_step_41 : decode cX9_step 41 = .ok (.getfield 23, 3) := by decide +kernel
theorem dX9_step_44 : decode cX9_step 44 = .ok (.putfield 13, 3) := by decide +kernel
theorem dX9_step_47 : decode cX9_step 47 = .ok (.aload_n 0, 1) := by decide +kernel
theorem dX9_step_48 : decode cX9_step 48 = .ok (.getfield 23, 3) := by decide +kernel
theorem dX9_step_51 : decode cX9_step 51 = .ok (.aload_n 0, 1) := by decide +kernel
theorem dX9_step_52 : decode cX9_step 52 = .ok (.getfield 26, 3) := by decide +kernel
theorem dX9_step_55 : decode cX9_step 55 = .ok (.if_icmp .lt 11, 3) := by decide +kernel
theorem dX9_step_58 : decode cX9_step 58 = .ok (.aload_n 0, 1) := by decide +kernel
theorem dX9_step_59 : decode cX9_step 59 = .ok (.iconst 0, 1) := by decide +kernel
theorem dX9_step_60 : decode cX9_step 60 = .ok (.putfield 9, 3) := by decide +kernel
theorem dX9_step_63 : decode cX9_step 63 = .ok (.goto 130, 3) := by decide +kernel
theorem dX9_step_66 : decode cX9_step 66 = .ok (.aload_n 0, 1) := by decide +kernel
theorem dX9_step_67 : decode cX9_step 67 = .ok (.getfield 29, 3) := by decide +kernel
theorem dX9_step_70 : decode cX9_step 70 = .ok (.aload_n 0, 1) := by decide +kernel
theorem dX9_step_71 : decode cX9_step 71 = .ok (.getfield 23, 3) := by decide +kernel
theorem dX9_step_74 : decode cX9_step 74 = .ok (.baload, 1) := by decide +kernel
theorem dX9_step_75 : decode cX9_step 75 = .ok (.invokestatic 46, 3) := by decide +kernel
theorem dX9_step_78 : decode cX9_step 78 = .ok (.ifCond .eq 47, 3) := by decide +kernel
theorem dX9_step_81 : decode cX9_step 81 = .ok (.aload_n 0, 1) := by decide +kernel
theorem dX9_step_82 : decode cX9_step 82 = .ok (.iconst 1, 1) := by decide +kernel
theorem dX9_step_83 : decode cX9_step 83 = .ok (.putfield 9, 3) := by decide +kernel
theorem dX9_step_86 : decode cX9_step 86 = .ok (.aload_n 0, 1) := by decide +kernel
theorem dX9_step_87 : decode cX9_step 87 = .ok (.getfield 23, 3) := by decide +kernel
theorem dX9_step_90 : decode cX9_step 90 = .ok (.aload_n 0, 1) := by decide +kernel
theorem dX9_step_91 : decode cX9_step 91 = .ok (.getfield 26, 3) := by decide +kernel
theorem dX9_step_94 : decode cX9_step 94 = .ok (.if_icmp .ge 99, 3) := by decide +kernel
theorem dX9_step_97 : decode cX9_step 97 = .ok (.aload_n 0, 1) := by decide +kernel
theorem dX9_step_98 : decode cX9_step 98 = .ok (.getfield 29, 3) := by decide +kernel
theorem dX9_step_101 : decode cX9_step 101 = .ok (.aload_n 0, 1) := by decide +kernel
theorem dX9_step_102 : decode cX9_step 102 = .ok (.getfield 23, 3) := by decide +kernel
theorem dX9_step_105 : decode cX9_step 105 = .ok (.baload, 1) := by decide +kernel
theorem dX9_step_106 : decode cX9_step 106 = .ok (.invokestatic 46, 3) := by decide +kernel
theorem dX9_step_109 : decode cX9_step 109 = .ok (.ifCond .eq 84, 3) := by decide +kernel
theorem dX9_step_112 : decode cX9_step 112 = .ok (.aload_n 0, 1) := by decide +kernel
theorem dX9_step_113 : decode cX9_step 113 = .ok (.dup, 1) := by decide +kernel
theorem dX9_step_114 : decode cX9_step 114 = .ok (.getfield 23, 3) := by decide +kernel
theorem dX9_step_117 : decode cX9_step 117 = .ok (.iconst 1, 1) := by decide +kernel
theorem dX9_step_118 : decode cX9_step 118 = .ok (.iadd, 1) := by decide +kernel
theorem dX9_step_119 : decode cX9_step 119 = .ok (.putfield 23, 3) := by decide +kernel
theorem dX9_step_122 : decode cX9_step 122 = .ok (.goto (-36), 3) := by decide +kernel
theorem dX9_step_125 : decode cX9_step 125 = .ok (.aload_n 0, 1) := by decide +kernel
theorem dX9_step_126 : decode cX9_step 126 = .ok (.getfield 29, 3) := by decide +kernel
theorem dX9_step_129 : decode cX9_step 129 = .ok (.aload_n 0, 1) := by decide +kernel
theorem dX9_step_130 : decode cX9_step 130 = .ok (.getfield 23, 3) := by decide +kernel
theorem dX9_step_133 : decode cX9_step 133 = .ok (.baload, 1) := by decide +kernel
theorem dX9_step_134 : decode cX9_step 134 = .ok (.invokestatic 49, 3) := by decide +kernel
theorem dX9_step_137 : decode cX9_step 137 = .ok (.ifCond .eq 15, 3) := by decide +kernel
theorem dX9_step_140 : decode cX9_step 140 = .ok (.aload_n 0, 1) := by decide +kernel
theorem dX9_step_141 : decode cX9_step 141 = .ok (.iconst 2, 1) := by decide +kernel
theorem dX9_step_142 : decode cX9_step 142 = .ok (.putfield 9, 3) := by decide +kernel
theorem dX9_step_145 : decode cX9_step 145 = .ok (.aload_n 0, 1) := by decide +kernel
theorem dX9_step_146 : decode cX9_step 146 = .ok (.invokevirtual 52, 3) := by decide +kernel
theorem dX9_step_149 : decode cX9_step 149 = .ok (.goto 44, 3) := by decide +kernel
theorem dX9_step_152 : decode cX9_step 152 = .ok (.aload_n 0, 1) := by decide +kernel
theorem dX9_step_153 : decode cX9_step 153 = .ok (.ldc 55, 2) := by decide +kernel
theorem dX9_step_155 : decode cX9_step 155 = .ok (.aload_n 0, 1) := by decide +kernel
theorem dX9_step_156 : decode cX9_step 156 = .ok (.getfield 29, 3) := by decide +kernel
theorem dX9_step_159 : decode cX9_step 159 = .ok (.aload_n 0, 1) := by decide +kernel
theorem dX9_step_160 : decode cX9_step 160 = .ok (.getfield 23, 3) := by decide +kernel
theorem dX9_step_163 : decode cX9_step 163 = .ok (.baload, 1) := by decide +kernel
theorem dX9_step_164 : decode cX9_step 164 = .ok (.sipush 255, 3) := by decide +kernel
theorem dX9_step_167 : decode cX9_step 167 = .ok (.iand, 1) := by decide +kernel
theorem dX9_step_168 : decode cX9_step 168 = .ok (.i2c, 1) := by decide +kernel
theorem dX9_step_169 : decode cX9_step 169 = .ok (.invokevirtual 57, 3) := by decide +kernel
theorem dX9_step_172 : decode cX9_step 172 = .ok (.ifCond .lt 7, 3) := by decide +kernel
theorem dX9_step_175 : decode cX9_step 175 = .ok (.iconst 3, 1) := by decide +kernel
theorem dX9_step_176 : decode cX9_step 176 = .ok (.goto 4, 3) := by decide +kernel
theorem dX9_step_179 : decode cX9_step 179 = .ok (.iconst 4, 1) := by decide +kernel
theorem dX9_step_180 : decode cX9_step 180 = .ok (.putfield 9, 3) := by decide +kernel
theorem dX9_step_183 : decode cX9_step 183 = .ok (.aload_n 0, 1) := by decide +kernel
theorem dX9_step_184 : decode cX9_step 184 = .ok (.dup, 1) := by decide +kernel
theorem dX9_step_185 : decode cX9_step 185 = .ok (.getfield 23, 3) := by decide +kernel
theorem dX9_step_188 : decode cX9_step 188 = .ok (.iconst 1, 1) := by decide +kernel
theorem dX9_step_189 : decode cX9_step 189 = .ok (.iadd, 1) := by decide +kernel
theorem dX9_step_190 : decode cX9_step 190 = .ok (.putfield 23, 3) := by decide +kernel
theorem dX9_step_193 : decode cX9_step 193 = .ok (.return_, 1) := by decide +kernel
theorem dX9_takeNumber_0 : decode cX9_takeNumber 0 = .ok (.aload_n 0, 1) := by decide +kernel
theorem dX9_takeNumber_1 : decode cX9_takeNumber 1 = .ok (.iconst 0, 1) := by decide +kernel
theorem dX9_takeNumber_2 : decode cX9_takeNumber 2 = .ok (.putfield 16, 3) := by decide +kernel
theorem dX9_takeNumber_5 : decode cX9_takeNumber 5 = .ok (.aload_n 0, 1) := by decide +kernel
theorem dX9_takeNumber_6 : decode cX9_takeNumber 6 = .ok (.getfield 23, 3) := by decide +kernel
theorem dX9_takeNumber_9 : decode cX9_takeNumber 9 = .ok (.aload_n 0, 1) := by decide +kernel
theorem dX9_takeNumber_10 : decode cX9_takeNumber 10 = .ok (.getfield 26, 3) := by decide +kernel
theorem dX9_takeNumber_13 : decode cX9_takeNumber 13 = .ok (.if_icmp .ge 75, 3) := by decide +kernel
theorem dX9_takeNumber_16 : decode cX9_takeNumber 16 = .ok (.aload_n 0, 1) := by decide +kernel
theorem dX9_takeNumber_17 : decode cX9_takeNumber 17 = .ok (.getfield 29, 3) := by decide +kernel
theorem dX9_takeNumber_20 : decode cX9_takeNumber 20 = .ok (.aload_n 0, 1) := by decide +kernel
theorem dX9_takeNumber_21 : decode cX9_takeNumber 21 = .ok (.getfield 23, 3) := by decide +kernel
theorem dX9_takeNumber_24 : decode cX9_takeNumber 24 = .ok (.baload, 1) := by decide +kernel
theorem dX9_takeNumber_25 : decode cX9_takeNumber 25 = .ok (.invokestatic 49, 3) := by decide +kernel
theorem dX9_takeNumber_28 : decode cX9_takeNumber 28 = .ok (.ifCond .eq 60, 3) := by decide +kernel
theorem dX9_takeNumber_31 : decode cX9_takeNumber 31 = .ok (.aload_n 0, 1) := by decide +kernel
theorem dX9_takeNumber_32 : decode cX9_takeNumber 32 = .ok (.aload_n 0, 1) := by decide +kernel
theorem dX9_takeNumber_33 : decode cX9_takeNumber 33 = .ok (.getfield 23, 3) := by decide +kernel
theorem dX9_takeNumber_36 : decode cX9_takeNumber 36 = .ok (.aload_n 0, 1) := by decide +kernel
theorem dX9_takeNumber_37 : decode cX9_takeNumber 37 = .ok (.getfield 13, 3) := by decide +kernel
theorem dX9_takeNumber_40 : decode cX9_takeNumber 40 = .ok (.isub, 1) := by decide +kernel
theorem dX9_takeNumber_41 : decode cX9_takeNumber 41 = .ok (.iconst 4, 1) := by decide +kernel
theorem dX9_takeNumber_42 : decode cX9_takeNumber 42 = .ok (.if_icmp .ge 26, 3) := by decide +kernel
theorem dX9_takeNumber_45 : decode cX9_takeNumber 45 = .ok (.aload_n 0, 1) := by decide +kernel
theorem dX9_takeNumber_46 : decode cX9_takeNumber 46 = .ok (.getfield 16, 3) := by decide +kernel
theorem dX9_takeNumber_49 : decode cX9_takeNumber 49 = .ok (.bipush 10, 2) := by decide +kernel
theorem dX9_takeNumber_51 : decode cX9_takeNumber 51 = .ok (.imul, 1) := by decide +kernel
theorem dX9_takeNumber_52 : decode cX9_takeNumber 52 = .ok (.aload_n 0, 1) := by decide +kernel
theorem dX9_takeNumber_53 : decode cX9_takeNumber 53 = .ok (.getfield 29, 3) := by decide +kernel
theorem dX9_takeNumber_56 : decode cX9_takeNumber 56 = .ok (.aload_n 0, 1) := by decide +kernel
theorem dX9_takeNumber_57 : decode cX9_takeNumber 57 = .ok (.getfield 23, 3) := by decide +kernel
theorem dX9_takeNumber_60 : decode cX9_takeNumber 60 = .ok (.baload, 1) := by decide +kernel
theorem dX9_takeNumber_61 : decode cX9_takeNumber 61 = .ok (.iadd, 1) := by decide +kernel
theorem dX9_takeNumber_62 : decode cX9_takeNumber 62 = .ok (.bipush 48, 2) := by decide +kernel
theorem dX9_takeNumber_64 : decode cX9_takeNumber 64 = .ok (.isub, 1) := by decide +kernel
theorem dX9_takeNumber_65 : decode cX9_takeNumber 65 = .ok (.goto 7, 3) := by decide +kernel
theorem dX9_takeNumber_68 : decode cX9_takeNumber 68 = .ok (.aload_n 0, 1) := by decide +kernel
theorem dX9_takeNumber_69 : decode cX9_takeNumber 69 = .ok (.getfield 16, 3) := by decide +kernel
theorem dX9_takeNumber_72 : decode cX9_takeNumber 72 = .ok (.putfield 16, 3) := by decide +kernel
theorem dX9_takeNumber_75 : decode cX9_takeNumber 75 = .ok (.aload_n 0, 1) := by decide +kernel
theorem dX9_takeNumber_76 : decode cX9_takeNumber 76 = .ok (.dup, 1) := by decide +kernel
theorem dX9_takeNumber_77 : decode cX9_takeNumber 77 = .ok (.getfield 23, 3) := by decide +kernel
theorem dX9_takeNumber_80 : decode cX9_takeNumber 80 = .ok (.iconst 1, 1) := by decide +kernel
theorem dX9_takeNumber_81 : decode cX9_takeNumber 81 = .ok (.iadd, 1) := by decide +kernel
theorem dX9_takeNumber_82 : decode cX9_takeNumber 82 = .ok (.putfield 23, 3) := by decide +kernel
theorem dX9_takeNumber_85 : decode cX9_takeNumber 85 = .ok (.goto (-80), 3) := by decide +kernel
theorem dX9_takeNumber_88 : decode cX9_takeNumber 88 = .ok (.aload_n 0, 1) := by decide +kernel
theorem dX9_takeNumber_89 : decode cX9_takeNumber 89 = .ok (.aload_n 0, 1) := by decide +kernel
theorem dX9_takeNumber_90 : decode cX9_takeNumber 90 = .ok (.getfield 23, 3) := by decide +kernel
theorem dX9_takeNumber_93 : decode cX9_takeNumber 93 = .ok (.aload_n 0, 1) := by decide +kernel
theorem dX9_takeNumber_94 : decode cX9_takeNumber 94 = .ok (.getfield 13, 3) := by decide +kernel
theorem dX9_takeNumber_97 : decode cX9_takeNumber 97 = .ok (.isub, 1) := by decide +kernel
theorem dX9_takeNumber_98 : decode cX9_takeNumber 98 = .ok (.iconst 4, 1) := by decide +kernel
theorem dX9_takeNumber_99 : decode cX9_takeNumber 99 = .ok (.if_icmp .le 7, 3) := by decide +kernel
theorem dX9_takeNumber_102 : decode cX9_takeNumber 102 = .ok (.iconst 1, 1) := by decide +kernel
theorem dX9_takeNumber_103 : decode cX9_takeNumber 103 = .ok (.goto 4, 3) := by decide +kernel
theorem dX9_takeNumber_106 : decode cX9_takeNumber 106 = .ok (.iconst 0, 1) := by decide +kernel
theorem dX9_takeNumber_107 : decode cX9_takeNumber 107 = .ok (.putfield 19, 3) := by decide +kernel
theorem dX9_takeNumber_110 : decode cX9_takeNumber 110 = .ok (.return_, 1) := by decide +kernel
theorem dX9_isWord_0 : decode cX9_isWord 0 = .ok (.aload_n 0, 1) := by decide +kernel
theorem dX9_isWord_1 : decode cX9_isWord 1 = .ok (.getfield 9, 3) := by decide +kernel
theorem dX9_isWord_4 : decode cX9_isWord 4 = .ok (.iconst 1, 1) := by decide +kernel
theorem dX9_isWord_5 : decode cX9_isWord 5 = .ok (.if_icmp .ne 19, 3) := by decide +kernel
theorem dX9_isWord_8 : decode cX9_isWord 8 = .ok (.aload_n 0, 1) := by decide +kernel
theorem dX9_isWord_9 : decode cX9_isWord 9 = .ok (.getfield 23, 3) := by decide +kernel
theorem dX9_isWord_12 : decode cX9_isWord 12 = .ok (.aload_n 0, 1) := by decide +kernel
theorem dX9_isWord_13 : decode cX9_isWord 13 = .ok (.getfield 13, 3) := by decide +kernel
theorem dX9_isWord_16 : decode cX9_isWord 16 = .ok (.isub, 1) := by decide +kernel
theorem dX9_isWord_17 : decode cX9_isWord 17 = .ok (.aload_n 1, 1) := by decide +kernel
theorem dX9_isWord_18 : decode cX9_isWord 18 = .ok (.invokevirtual 63, 3) := by decide +kernel
theorem dX9_isWord_21 : decode cX9_isWord 21 = .ok (.if_icmp .eq 5, 3) := by decide +kernel
theorem dX9_isWord_24 : decode cX9_isWord 24 = .ok (.iconst 0, 1) := by decide +kernel
theorem dX9_isWord_25 : decode cX9_isWord 25 = .ok (.ireturn, 1) := by decide +kernel
theorem dX9_isWord_26 : decode cX9_isWord 26 = .ok (.iconst 0, 1) := by decide +kernel
theorem dX9_isWord_27 : decode cX9_isWord 27 = .ok (.istore_n 2, 1) := by decide +kernel
theorem dX9_isWord_28 : decode cX9_isWord 28 = .ok (.iload_n 2, 1) := by decide +kernel
theorem dX9_isWord_29 : decode cX9_isWord 29 = .ok (.aload_n 1, 1) := by decide +kernel
theorem dX9_isWord_30 : decode cX9_isWord 30 = .ok (.invokevirtual 63, 3) := by decide +kernel
theorem dX9_isWord_33 : decode cX9_isWord 33 = .ok (.if_icmp .ge 30, 3) := by decide +kernel
theorem dX9_isWord_36 : decode cX9_isWord 36 = .ok (.aload_n 0, 1) := by decide +kernel
theorem dX9_isWord_37 : decode cX9_isWord 37 = .ok (.getfield 29, 3) := by decide +kernel
theorem dX9_isWord_40 : decode cX9_isWord 40 = .ok (.aload_n 0, 1) := by decide +kernel
theorem dX9_isWord_41 : decode cX9_isWord 41 = .ok (.getfield 13, 3) := by decide +kernel
theorem dX9_isWord_44 : decode cX9_isWord 44 = .ok (.iload_n 2, 1) := by decide +kernel
theorem dX9_isWord_45 : decode cX9_isWord 45 = .ok (.iadd, 1) := by decide +kernel
theorem dX9_isWord_46 : decode cX9_isWord 46 = .ok (.baload, 1) := by decide +kernel
theorem dX9_isWord_47 : decode cX9_isWord 47 = .ok (.aload_n 1, 1) := by decide +kernel
theorem dX9_isWord_48 : decode cX9_isWord 48 = .ok (.iload_n 2, 1) := by decide +kernel
theorem dX9_isWord_49 : decode cX9_isWord 49 = .ok (.invokevirtual 66, 3) := by decide +kernel
theorem dX9_isWord_52 : decode cX9_isWord 52 = .ok (.if_icmp .eq 5, 3) := by decide +kernel
theorem dX9_isWord_55 : decode cX9_isWord 55 = .ok (.iconst 0, 1) := by decide +kernel
theorem dX9_isWord_56 : decode cX9_isWord 56 = .ok (.ireturn, 1) := by decide +kernel
theorem dX9_isWord_57 : decode cX9_isWord 57 = .ok (.iinc 2 1, 3) := by decide +kernel
theorem dX9_isWord_60 : decode cX9_isWord 60 = .ok (.goto (-32), 3) := by decide +kernel
theorem dX9_isWord_63 : decode cX9_isWord 63 = .ok (.iconst 1, 1) := by decide +kernel
theorem dX9_isWord_64 : decode cX9_isWord 64 = .ok (.ireturn, 1) := by decide +kernel
theorem dX9_isSign_0 : decode cX9_isSign 0 = .ok (.aload_n 0, 1) := by decide +kernel
theorem dX9_isSign_1 : decode cX9_isSign 1 = .ok (.getfield 9, 3) := by decide +kernel
theorem dX9_isSign_4 : decode cX9_isSign 4 = .ok (.iconst 3, 1) := by decide +kernel
theorem dX9_isSign_5 : decode cX9_isSign 5 = .ok (.if_icmp .ne 20, 3) := by decide +kernel
theorem dX9_isSign_8 : decode cX9_isSign 8 = .ok (.aload_n 0, 1) := by decide +kernel
theorem dX9_isSign_9 : decode cX9_isSign 9 = .ok (.getfield 29, 3) := by decide +kernel
theorem dX9_isSign_12 : decode cX9_isSign 12 = .ok (.aload_n 0, 1) := by decide +kernel
theorem dX9_isSign_13 : decode cX9_isSign 13 = .ok (.getfield 13, 3) := by decide +kernel
theorem dX9_isSign_16 : decode cX9_isSign 16 = .ok (.baload, 1) := by decide +kernel
theorem dX9_isSign_17 : decode cX9_isSign 17 = .ok (.iload_n 1, 1) := by decide +kernel
theorem dX9_isSign_18 : decode cX9_isSign 18 = .ok (.if_icmp .ne 7, 3) := by decide +kernel
theorem dX9_isSign_21 : decode cX9_isSign 21 = .ok (.iconst 1, 1) := by decide +kernel
theorem dX9_isSign_22 : decode cX9_isSign 22 = .ok (.goto 4, 3) := by decide +kernel
theorem dX9_isSign_25 : decode cX9_isSign 25 = .ok (.iconst 0, 1) := by decide +kernel
theorem dX9_isSign_26 : decode cX9_isSign 26 = .ok (.ireturn, 1) := by decide +kernel
theorem dX9_isBlank_0 : decode cX9_isBlank 0 = .ok (.iload_n 0, 1) := by decide +kernel
theorem dX9_isBlank_1 : decode cX9_isBlank 1 = .ok (.bipush 32, 2) := by decide +kernel
theorem dX9_isBlank_3 : decode cX9_isBlank 3 = .ok (.if_icmp .eq 9, 3) := by decide +kernel
theorem dX9_isBlank_6 : decode cX9_isBlank 6 = .ok (.iload_n 0, 1) := by decide +kernel
theorem dX9_isBlank_7 : decode cX9_isBlank 7 = .ok (.bipush 10, 2) := by decide +kernel
theorem dX9_isBlank_9 : decode cX9_isBlank 9 = .ok (.if_icmp .ne 7, 3) := by decide +kernel
theorem dX9_isBlank_12 : decode cX9_isBlank 12 = .ok (.iconst 1, 1) := by decide +kernel
theorem dX9_isBlank_13 : decode cX9_isBlank 13 = .ok (.goto 4, 3) := by decide +kernel
theorem dX9_isBlank_16 : decode cX9_isBlank 16 = .ok (.iconst 0, 1) := by decide +kernel
theorem dX9_isBlank_17 : decode cX9_isBlank 17 = .ok (.ireturn, 1) := by decide +kernel
theorem dX9_isLetter_0 : decode cX9_isLetter 0 = .ok (.iload_n 0, 1) := by decide +kernel
theorem dX9_isLetter_1 : decode cX9_isLetter 1 = .ok (.bipush 97, 2) := by decide +kernel
theorem dX9_isLetter_3 : decode cX9_isLetter 3 = .ok (.if_icmp .lt 13, 3) := by decide +kernel
theorem dX9_isLetter_6 : decode cX9_isLetter 6 = .ok (.iload_n 0, 1) := by decide +kernel
theorem dX9_isLetter_7 : decode cX9_isLetter 7 = .ok (.bipush 122, 2) := by decide +kernel
theorem dX9_isLetter_9 : decode cX9_isLetter 9 = .ok (.if_icmp .gt 7, 3) := by decide +kernel
theorem dX9_isLetter_12 : decode cX9_isLetter 12 = .ok (.iconst 1, 1) := by decide +kernel
theorem dX9_isLetter_13 : decode cX9_isLetter 13 = .ok (.goto 4, 3) := by decide +kernel
theorem dX9_isLetter_16 : decode cX9_isLetter 16 = .ok (.iconst 0, 1) := by decide +kernel
theorem dX9_isLetter_17 : decode cX9_isLetter 17 = .ok (.ireturn, 1) := by decide +kernel
theorem dX9_isDigit_0 : decode cX9_isDigit 0 = .ok (.iload_n 0, 1) := by decide +kernel
theorem dX9_isDigit_1 : decode cX9_isDigit 1 = .ok (.bipush 48, 2) := by decide +kernel
theorem dX9_isDigit_3 : decode cX9_isDigit 3 = .ok (.if_icmp .lt 13, 3) := by decide +kernel
theorem dX9_isDigit_6 : decode cX9_isDigit 6 = .ok (.iload_n 0, 1) := by decide +kernel
theorem dX9_isDigit_7 : decode cX9_isDigit 7 = .ok (.bipush 57, 2) := by decide +kernel
theorem dX9_isDigit_9 : decode cX9_isDigit 9 = .ok (.if_icmp .gt 7, 3) := by decide +kernel
theorem dX9_isDigit_12 : decode cX9_isDigit 12 = .ok (.iconst 1, 1) := by decide +kernel
theorem dX9_isDigit_13 : decode cX9_isDigit 13 = .ok (.goto 4, 3) := by decide +kernel
theorem dX9_isDigit_16 : decode cX9_isDigit 16 = .ok (.iconst 0, 1) := by decide +kernel
theorem dX9_isDigit_17 : decode cX9_isDigit 17 = .ok (.ireturn, 1) := by decide +kernel
theorem dX10_init_0 : decode cX10_init 0 = .ok (.aload_n 0, 1) := by decide +kernel
theorem dX10_init_1 : decode cX10_init 1 = .ok (.invokespecial 1, 3) := by decide +kernel
theorem dX10_init_4 : decode cX10_init 4 = .ok (.aload_n 0, 1) := by decide +kernel
theorem dX10_init_5 : decode cX10_init 5 = .ok (.sipush 700, 3) := by decide +kernel
theorem dX10_init_8 : decode cX10_init 8 = .ok (.newarray .byte, 2) := by decide +kernel
theorem dX10_init_10 : decode cX10_init 10 = .ok (.putfield 9, 3) := by decide +kernel
theorem dX10_init_13 : decode cX10_init 13 = .ok (.aload_n 0, 1) := by decide +kernel
theorem dX10_init_14 : decode cX10_init 14 = .ok (.iconst 0, 1) := by decide +kernel
theorem dX10_init_15 : decode cX10_init 15 = .ok (.putfield 13, 3) := by decide +kernel
theorem dX10_init_18 : decode cX10_init 18 = .ok (.aload_n 0, 1) := by decide +kernel
theorem dX10_init_19 : decode cX10_init 19 = .ok (.iconst (-1), 1) := by decide +kernel
theorem dX10_init_20 : decode cX10_init 20 = .ok (.putfield 17, 3) := by decide +kernel
theorem dX10_init_23 : decode cX10_init 23 = .ok (.aload_n 0, 1) := by decide +kernel
theorem dX10_init_24 : decode cX10_init 24 = .ok (.new 20, 3) := by decide +kernel
theorem dX10_init_27 : decode cX10_init 27 = .ok (.dup, 1) := by decide +kernel
theorem dX10_init_28 : decode cX10_init 28 = .ok (.invokespecial 22, 3) := by decide +kernel
theorem dX10_init_31 : decode cX10_init 31 = .ok (.putfield 23, 3) := by decide +kernel
theorem dX10_init_34 : decode cX10_init 34 = .ok (.aload_n 0, 1) := by decide +kernel
theorem dX10_init_35 : decode cX10_init 35 = .ok (.new 20, 3) := by decide +kernel
theorem dX10_init_38 : decode cX10_init 38 = .ok (.dup, 1) := by decide +kernel
theorem dX10_init_39 : decode cX10_init 39 = .ok (.invokespecial 22, 3) := by decide +kernel
theorem dX10_init_42 : decode cX10_init 42 = .ok (.putfield 27, 3) := by decide +kernel
theorem dX10_init_45 : decode cX10_init 45 = .ok (.aload_n 0, 1) := by decide +kernel
theorem dX10_init_46 : decode cX10_init 46 = .ok (.new 30, 3) := by decide +kernel
theorem dX10_init_49 : decode cX10_init 49 = .ok (.dup, 1) := by decide +kernel
theorem dX10_init_50 : decode cX10_init 50 = .ok (.aload_n 0, 1) := by decide +kernel
theorem dX10_init_51 : decode cX10_init 51 = .ok (.getfield 9, 3) := by decide +kernel
theorem dX10_init_54 : decode cX10_init 54 = .ok (.aload_n 0, 1) := by decide +kernel
theorem dX10_init_55 : decode cX10_init 55 = .ok (.getfield 27, 3) := by decide +kernel
theorem dX10_init_58 : decode cX10_init 58 = .ok (.invokespecial 32, 3) := by decide +kernel
theorem dX10_init_61 : decode cX10_init 61 = .ok (.putfield 35, 3) := by decide +kernel
theorem dX10_init_64 : decode cX10_init 64 = .ok (.aload_n 0, 1) := by decide +kernel
theorem dX10_init_65 : decode cX10_init 65 = .ok (.new 39, 3) := by decide +kernel
theorem dX10_init_68 : decode cX10_init 68 = .ok (.dup, 1) := by decide +kernel
theorem dX10_init_69 : decode cX10_init 69 = .ok (.invokespecial 41, 3) := by decide +kernel
theorem dX10_init_72 : decode cX10_init 72 = .ok (.putfield 42, 3) := by decide +kernel
theorem dX10_init_75 : decode cX10_init 75 = .ok (.aload_n 0, 1) := by decide +kernel
theorem dX10_init_76 : decode cX10_init 76 = .ok (.new 39, 3) := by decide +kernel
theorem dX10_init_79 : decode cX10_init 79 = .ok (.dup, 1) := by decide +kernel
theorem dX10_init_80 : decode cX10_init 80 = .ok (.invokespecial 41, 3) := by decide +kernel
theorem dX10_init_83 : decode cX10_init 83 = .ok (.putfield 46, 3) := by decide +kernel
theorem dX10_init_86 : decode cX10_init 86 = .ok (.aload_n 0, 1) := by decide +kernel
theorem dX10_init_87 : decode cX10_init 87 = .ok (.iconst 0, 1) := by decide +kernel
theorem dX10_init_88 : decode cX10_init 88 = .ok (.putfield 49, 3) := by decide +kernel
theorem dX10_init_91 : decode cX10_init 91 = .ok (.aload_n 0, 1) := by decide +kernel
theorem dX10_init_92 : decode cX10_init 92 = .ok (.new 53, 3) := by decide +kernel
theorem dX10_init_95 : decode cX10_init 95 = .ok (.dup, 1) := by decide +kernel
theorem dX10_init_96 : decode cX10_init 96 = .ok (.invokespecial 55, 3) := by decide +kernel
theorem dX10_init_99 : decode cX10_init 99 = .ok (.putfield 56, 3) := by decide +kernel
theorem dX10_init_102 : decode cX10_init 102 = .ok (.aload_n 0, 1) := by decide +kernel
theorem dX10_init_103 : decode cX10_init 103 = .ok (.iconst 5, 1) := by decide +kernel
theorem dX10_init_104 : decode cX10_init 104 = .ok (.newarray .int, 2) := by decide +kernel
theorem dX10_init_106 : decode cX10_init 106 = .ok (.putfield 60, 3) := by decide +kernel
theorem dX10_init_109 : decode cX10_init 109 = .ok (.aload_n 0, 1) := by decide +kernel
theorem dX10_init_110 : decode cX10_init 110 = .ok (.iconst 5, 1) := by decide +kernel
theorem dX10_init_111 : decode cX10_init 111 = .ok (.newarray .int, 2) := by decide +kernel
theorem dX10_init_113 : decode cX10_init 113 = .ok (.putfield 64, 3) := by decide +kernel
theorem dX10_init_116 : decode cX10_init 116 = .ok (.aload_n 0, 1) := by decide +kernel
theorem dX10_init_117 : decode cX10_init 117 = .ok (.bipush 9, 2) := by decide +kernel
theorem dX10_init_119 : decode cX10_init 119 = .ok (.newarray .int, 2) := by decide +kernel
theorem dX10_init_121 : decode cX10_init 121 = .ok (.putfield 67, 3) := by decide +kernel
theorem dX10_init_124 : decode cX10_init 124 = .ok (.aload_n 0, 1) := by decide +kernel
theorem dX10_init_125 : decode cX10_init 125 = .ok (.iconst 4, 1) := by decide +kernel
theorem dX10_init_126 : decode cX10_init 126 = .ok (.newarray .int, 2) := by decide +kernel
theorem dX10_init_128 : decode cX10_init 128 = .ok (.putfield 70, 3) := by decide +kernel
theorem dX10_init_131 : decode cX10_init 131 = .ok (.aload_n 0, 1) := by decide +kernel
theorem dX10_init_132 : decode cX10_init 132 = .ok (.sipush 4608, 3) := by decide +kernel
theorem dX10_init_135 : decode cX10_init 135 = .ok (.newarray .int, 2) := by decide +kernel
theorem dX10_init_137 : decode cX10_init 137 = .ok (.putfield 73, 3) := by decide +kernel
theorem dX10_init_140 : decode cX10_init 140 = .ok (.aload_n 0, 1) := by decide +kernel
theorem dX10_init_141 : decode cX10_init 141 = .ok (.getfield 23, 3) := by decide +kernel
theorem dX10_init_144 : decode cX10_init 144 = .ok (.invokevirtual 76, 3) := by decide +kernel
theorem dX10_init_147 : decode cX10_init 147 = .ok (.return_, 1) := by decide +kernel
theorem dX10_feed_0 : decode cX10_feed 0 = .ok (.aload_n 0, 1) := by decide +kernel
theorem dX10_feed_1 : decode cX10_feed 1 = .ok (.getfield 13, 3) := by decide +kernel
theorem dX10_feed_4 : decode cX10_feed 4 = .ok (.bipush 20, 2) := by decide +kernel
theorem dX10_feed_6 : decode cX10_feed 6 = .ok (.iadd, 1) := by decide +kernel
theorem dX10_feed_7 : decode cX10_feed 7 = .ok (.sipush 700, 3) := by decide +kernel
theorem dX10_feed_10 : decode cX10_feed 10 = .ok (.if_icmp .le 5, 3) := by decide +kernel
theorem dX10_feed_13 : decode cX10_feed 13 = .ok (.iconst (-1), 1) := by decide +kernel
theorem dX10_feed_14 : decode cX10_feed 14 = .ok (.ireturn, 1) := by decide +kernel
theorem dX10_feed_15 : decode cX10_feed 15 = .ok (.aload_n 0, 1) := by decide +kernel
theorem dX10_feed_16 : decode cX10_feed 16 = .ok (.iload_n 1, 1) := by decide +kernel
theorem dX10_feed_17 : decode cX10_feed 17 = .ok (.invokevirtual 79, 3) := by decide +kernel
theorem dX10_feed_20 : decode cX10_feed 20 = .ok (.aload_n 0, 1) := by decide +kernel
theorem dX10_feed_21 : decode cX10_feed 21 = .ok (.iload_n 2, 1) := by decide +kernel
theorem dX10_feed_22 : decode cX10_feed 22 = .ok (.invokevirtual 79, 3) := by decide +kernel
theorem dX10_feed_25 : decode cX10_feed 25 = .ok (.aload_n 0, 1) := by decide +kernel
theorem dX10_feed_26 : decode cX10_feed 26 = .ok (.iload_n 3, 1) := by decide +kernel
theorem dX10_feed_27 : decode cX10_feed 27 = .ok (.invokevirtual 79, 3) := by decide +kernel
theorem dX10_feed_30 : decode cX10_feed 30 = .ok (.aload_n 0, 1) := by decide +kernel
theorem dX10_feed_31 : decode cX10_feed 31 = .ok (.iload 4, 2) := by decide +kernel
theorem dX10_feed_33 : decode cX10_feed 33 = .ok (.invokevirtual 79, 3) := by decide +kernel
theorem dX10_feed_36 : decode cX10_feed 36 = .ok (.aload_n 0, 1) := by decide +kernel
theorem dX10_feed_37 : decode cX10_feed 37 = .ok (.iload 5, 2) := by decide +kernel
theorem dX10_feed_39 : decode cX10_feed 39 = .ok (.invokevirtual 79, 3) := by decide +kernel
theorem dX10_feed_42 : decode cX10_feed 42 = .ok (.aload_n 0, 1) := by decide +kernel
theorem dX10_feed_43 : decode cX10_feed 43 = .ok (.getfield 13, 3) := by decide +kernel
theorem dX10_feed_46 : decode cX10_feed 46 = .ok (.ireturn, 1) := by decide +kernel
theorem dX10_append_0 : decode cX10_append 0 = .ok (.bipush 24, 2) := by decide +kernel
theorem dX10_append_2 : decode cX10_append 2 = .ok (.istore_n 2, 1) := by decide +kernel
theorem dX10_append_3 : decode cX10_append 3 = .ok (.iload_n 2, 1) := by decide +kernel
theorem dX10_append_4 : decode cX10_append 4 = .ok (.ifCond .lt 42, 3) := by decide +kernel
theorem dX10_append_7 : decode cX10_append 7 = .ok (.aload_n 0, 1) := by decide +kernel
theorem dX10_append_8 : decode cX10_append 8 = .ok (.getfield 13, 3) := by decide +kernel
theorem dX10_append_11 : decode cX10_append 11 = .ok (.sipush 700, 3) := by decide +kernel
theorem dX10_append_14 : decode cX10_append 14 = .ok (.if_icmp .ge 32, 3) := by decide +kernel
theorem dX10_append_17 : decode cX10_append 17 = .ok (.aload_n 0, 1) := by decide +kernel
theorem dX10_append_18 : decode cX10_append 18 = .ok (.getfield 9, 3) := by decide +kernel
theorem dX10_append_21 : decode cX10_append 21 = .ok (.aload_n 0, 1) := by decide +kernel
theorem dX10_append_22 : decode cX10_append 22 = .ok (.getfield 13, 3) := by decide +kernel
theorem dX10_append_25 : decode cX10_append 25 = .ok (.iload_n 1, 1) := by decide +kernel
theorem dX10_append_26 : decode cX10_append 26 = .ok (.iload_n 2, 1) := by decide +kernel
theorem dX10_append_27 : decode cX10_append 27 = .ok (.ishr, 1) := by decide +kernel
theorem dX10_append_28 : decode cX10_append 28 = .ok (.i2b, 1) := by decide +kernel
theorem dX10_append_29 : decode cX10_append 29 = .ok (.bastore, 1) := by decide +kernel
theorem dX10_append_30 : decode cX10_append 30 = .ok (.aload_n 0, 1) := by decide +kernel
theorem dX10_append_31 : decode cX10_append 31 = .ok (.dup, 1) := by decide +kernel
theorem dX10_append_32 : decode cX10_append 32 = .ok (.getfield 13, 3) := by decide +kernel
theorem dX10_append_35 : decode cX10_append 35 = .ok (.iconst 1, 1) := by decide +kernel
theorem dX10_append_36 : decode cX10_append 36 = .ok (.iadd, 1) := by decide +kernel
theorem dX10_append_37 : decode cX10_append 37 = .ok (.putfield 13, 3) := by decide +kernel
theorem dX10_append_40 : decode cX10_append 40 = .ok (.iinc 2 (-8), 3) := by decide +kernel
theorem dX10_append_43 : decode cX10_append 43 = .ok (.goto (-40), 3) := by decide +kernel
theorem dX10_append_46 : decode cX10_append 46 = .ok (.return_, 1) := by decide +kernel
theorem dX10_parish_0 : decode cX10_parish 0 = .ok (.iload_n 1, 1) := by decide +kernel
theorem dX10_parish_1 : decode cX10_parish 1 = .ok (.ifCond .lt 11, 3) := by decide +kernel
theorem dX10_parish_4 : decode cX10_parish 4 = .ok (.iload_n 1, 1) := by decide +kernel
theorem dX10_parish_5 : decode cX10_parish 5 = .ok (.aload_n 0, 1) := by decide +kernel
theorem dX10_parish_6 : decode cX10_parish 6 = .ok (.getfield 13, 3) := by decide +kernel
theorem dX10_parish_9 : decode cX10_parish 9 = .ok (.if_icmp .le 11, 3) := by decide +kernel
theorem dX10_parish_12 : decode cX10_parish 12 = .ok (.new 83, 3) := by decide +kernel
theorem dX10_parish_15 : decode cX10_parish 15 = .ok (.dup, 1) := by decide +kernel
theorem dX10_parish_16 : decode cX10_parish 16 = .ok (.invokespecial 85, 3) := by decide +kernel
theorem dX10_parish_19 : decode cX10_parish 19 = .ok (.athrow, 1) := by decide +kernel
theorem dX10_parish_20 : decode cX10_parish 20 = .ok (.aload_n 0, 1) := by decide +kernel
theorem dX10_parish_21 : decode cX10_parish 21 = .ok (.iconst 0, 1) := by decide +kernel
theorem dX10_parish_22 : decode cX10_parish 22 = .ok (.putfield 13, 3) := by decide +kernel
theorem dX10_parish_25 : decode cX10_parish 25 = .ok (.aload_n 0, 1) := by decide +kernel
theorem dX10_parish_26 : decode cX10_parish 26 = .ok (.getfield 35, 3) := by decide +kernel
theorem dX10_parish_29 : decode cX10_parish 29 = .ok (.iload_n 1, 1) := by decide +kernel
theorem dX10_parish_30 : decode cX10_parish 30 = .ok (.aload_n 0, 1) := by decide +kernel
theorem dX10_parish_31 : decode cX10_parish 31 = .ok (.getfield 27, 3) := by decide +kernel
theorem dX10_parish_34 : decode cX10_parish 34 = .ok (.invokevirtual 86, 3) := by decide +kernel
theorem dX10_parish_37 : decode cX10_parish 37 = .ok (.istore_n 2, 1) := by decide +kernel
theorem dX10_parish_38 : decode cX10_parish 38 = .ok (.iload_n 2, 1) := by decide +kernel
theorem dX10_parish_39 : decode cX10_parish 39 = .ok (.ifCond .eq 29, 3) := by decide +kernel
theorem dX10_parish_42 : decode cX10_parish 42 = .ok (.aload_n 0, 1) := by decide +kernel
theorem dX10_parish_43 : decode cX10_parish 43 = .ok (.aload_n 0, 1) := by decide +kernel
theorem dX10_parish_44 : decode cX10_parish 44 = .ok (.getfield 35, 3) := by decide +kernel
theorem dX10_parish_47 : decode cX10_parish 47 = .ok (.invokevirtual 90, 3) := by decide +kernel
theorem dX10_parish_50 : decode cX10_parish 50 = .ok (.putfield 17, 3) := by decide +kernel
theorem dX10_parish_53 : decode cX10_parish 53 = .ok (.aload_n 0, 1) := by decide +kernel
theorem dX10_parish_54 : decode cX10_parish 54 = .ok (.getfield 42, 3) := by decide +kernel
theorem dX10_parish_57 : decode cX10_parish 57 = .ok (.getfield 94, 3) := by decide +kernel
theorem dX10_parish_60 : decode cX10_parish 60 = .ok (.iconst 0, 1) := by decide +kernel
theorem dX10_parish_61 : decode cX10_parish 61 = .ok (.dup2, 1) := by decide +kernel
theorem dX10_parish_62 : decode cX10_parish 62 = .ok (.iaload, 1) := by decide +kernel
theorem dX10_parish_63 : decode cX10_parish 63 = .ok (.iconst 1, 1) := by decide +kernel
theorem dX10_parish_64 : decode cX10_parish 64 = .ok (.iadd, 1) := by decide +kernel
theorem dX10_parish_65 : decode cX10_parish 65 = .ok (.iastore, 1) := by decide +kernel
theorem dX10_parish_66 : decode cX10_parish 66 = .ok (.iload_n 2, 1) := by decide +kernel
theorem dX10_parish_67 : decode cX10_parish 67 = .ok (.ireturn, 1) := by decide +kernel
theorem dX10_parish_68 : decode cX10_parish 68 = .ok (.aload_n 0, 1) := by decide +kernel
theorem dX10_parish_69 : decode cX10_parish 69 = .ok (.iconst (-1), 1) := by decide +kernel
theorem dX10_parish_70 : decode cX10_parish 70 = .ok (.putfield 17, 3) := by decide +kernel
theorem dX10_parish_73 : decode cX10_parish 73 = .ok (.aload_n 0, 1) := by decide +kernel
theorem dX10_parish_74 : decode cX10_parish 74 = .ok (.getfield 23, 3) := by decide +kernel
theorem dX10_parish_77 : decode cX10_parish 77 = .ok (.astore_n 3, 1) := by decide +kernel
theorem dX10_parish_78 : decode cX10_parish 78 = .ok (.aload_n 0, 1) := by decide +kernel
theorem dX10_parish_79 : decode cX10_parish 79 = .ok (.aload_n 0, 1) := by decide +kernel
theorem dX10_parish_80 : decode cX10_parish 80 = .ok (.getfield 27, 3) := by decide +kernel
theorem dX10_parish_83 : decode cX10_parish 83 = .ok (.putfield 23, 3) := by decide +kernel
theorem dX10_parish_86 : decode cX10_parish 86 = .ok (.aload_n 0, 1) := by decide +kernel
theorem dX10_parish_87 : decode cX10_parish 87 = .ok (.aload_n 3, 1) := by decide +kernel
theorem dX10_parish_88 : decode cX10_parish 88 = .ok (.putfield 27, 3) := by decide +kernel
theorem dX10_parish_91 : decode cX10_parish 91 = .ok (.aload_n 0, 1) := by decide +kernel
theorem dX10_parish_92 : decode cX10_parish 92 = .ok (.getfield 23, 3) := by decide +kernel
theorem dX10_parish_95 : decode cX10_parish 95 = .ok (.invokevirtual 97, 3) := by decide +kernel
theorem dX10_parish_98 : decode cX10_parish 98 = .ok (.aload_n 0, 1) := by decide +kernel
theorem dX10_parish_99 : decode cX10_parish 99 = .ok (.getfield 42, 3) := by decide +kernel
theorem dX10_parish_102 : decode cX10_parish 102 = .ok (.aload_n 0, 1) := by decide +kernel
theorem dX10_parish_103 : decode cX10_parish 103 = .ok (.getfield 23, 3) := by decide +kernel
theorem dX10_parish_106 : decode cX10_parish 106 = .ok (.invokevirtual 100, 3) := by decide +kernel
theorem dX10_parish_109 : decode cX10_parish 109 = .ok (.aload_n 0, 1) := by decide +kernel
theorem dX10_parish_110 : decode cX10_parish 110 = .ok (.iconst 0, 1) := by decide +kernel
theorem dX10_parish_111 : decode cX10_parish 111 = .ok (.putfield 49, 3) := by decide +kernel
theorem dX10_parish_114 : decode cX10_parish 114 = .ok (.iconst 0, 1) := by decide +kernel
theorem dX10_parish_115 : decode cX10_parish 115 = .ok (.ireturn, 1) := by decide +kernel
theorem dX10_fault_0 : decode cX10_fault 0 = .ok (.aload_n 0, 1) := by decide +kernel
theorem dX10_fault_1 : decode cX10_fault 1 = .ok (.getfield 17, 3) := by decide +kernel
theorem dX10_fault_4 : decode cX10_fault 4 = .ok (.ireturn, 1) := by decide +kernel
theorem dX10_count_0 : decode cX10_count 0 = .ok (.iload_n 1, 1) := by decide +kernel
theorem dX10_count_1 : decode cX10_count 1 = .ok (.tableswitch 251 0 16 #[83, 91, 99, 107, 115, 123, 131, 142, 157, 168, 179, 194, 205, 216, 221, 231, 241], 83) := by decide +kernel
theorem dX10_count_84 : decode cX10_count 84 = .ok (.aload_n 0, 1) := by decide +kernel
theorem dX10_count_85 : decode cX10_count 85 = .ok (.getfield 23, 3) := by decide +kernel
theorem dX10_count_88 : decode cX10_count 88 = .ok (.getfield 104, 3) := by decide +kernel
theorem dX10_count_91 : decode cX10_count 91 = .ok (.ireturn, 1) := by decide +kernel
theorem dX10_count_92 : decode cX10_count 92 = .ok (.aload_n 0, 1) := by decide +kernel
theorem dX10_count_93 : decode cX10_count 93 = .ok (.getfield 23, 3) := by decide +kernel
theorem dX10_count_96 : decode cX10_count 96 = .ok (.getfield 107, 3) := by decide +kernel
theorem dX10_count_99 : decode cX10_count 99 = .ok (.ireturn, 1) := by decide +kernel
theorem dX10_count_100 : decode cX10_count 100 = .ok (.aload_n 0, 1) := by decide +kernel
theorem dX10_count_101 : decode cX10_count 101 = .ok (.getfield 23, 3) := by decide +kernel
theorem dX10_count_104 : decode cX10_count 104 = .ok (.getfield 110, 3) := by decide +kernel
theorem dX10_count_107 : decode cX10_count 107 = .ok (.ireturn, 1) := by decide +kernel
theorem dX10_count_108 : decode cX10_count 108 = .ok (.aload_n 0, 1) := by decide +kernel
theorem dX10_count_109 : decode cX10_count 109 = .ok (.getfield 23, 3) := by decide +kernel
theorem dX10_count_112 : decode cX10_count 112 = .ok (.getfield 113, 3) := by decide +kernel
theorem dX10_count_115 : decode cX10_count 115 = .ok (.ireturn, 1) := by decide +kernel
theorem dX10_count_116 : decode cX10_count 116 = .ok (.aload_n 0, 1) := by decide +kernel
theorem dX10_count_117 : decode cX10_count 117 = .ok (.getfield 23, 3) := by decide +kernel
theorem dX10_count_120 : decode cX10_count 120 = .ok (.getfield 116, 3) := by decide +kernel
theorem dX10_count_123 : decode cX10_count 123 = .ok (.ireturn, 1) := by decide +kernel
theorem dX10_count_124 : decode cX10_count 124 = .ok (.aload_n 0, 1) := by decide +kernel
theorem dX10_count_125 : decode cX10_count 125 = .ok (.getfield 23, 3) := by decide +kernel
theorem dX10_count_128 : decode cX10_count 128 = .ok (.getfield 119, 3) := by decide +kernel
theorem dX10_count_131 : decode cX10_count 131 = .ok (.ireturn, 1) := by decide +kernel
theorem dX10_count_132 : decode cX10_count 132 = .ok (.aload_n 0, 1) := by decide +kernel
theorem dX10_count_133 : decode cX10_count 133 = .ok (.getfield 42, 3) := by decide +kernel
theorem dX10_count_136 : decode cX10_count 136 = .ok (.getfield 122, 3) := by decide +kernel
theorem dX10_count_139 : decode cX10_count 139 = .ok (.getfield 125, 3) := by decide +kernel
theorem dX10_count_142 : decode cX10_count 142 = .ok (.ireturn, 1) := by decide +kernel
theorem dX10_count_143 : decode cX10_count 143 = .ok (.aload_n 0, 1) := by decide +kernel
theorem dX10_count_144 : decode cX10_count 144 = .ok (.getfield 23, 3) := by decide +kernel
theorem dX10_count_147 : decode cX10_count 147 = .ok (.aload_n 0, 1) := by decide +kernel
theorem dX10_count_148 : decode cX10_count 148 = .ok (.getfield 42, 3) := by decide +kernel
theorem dX10_count_151 : decode cX10_count 151 = .ok (.getfield 122, 3) := by decide +kernel
theorem dX10_count_154 : decode cX10_count 154 = .ok (.invokestatic 128, 3) := by decide +kernel
theorem dX10_count_157 : decode cX10_count 157 = .ok (.ireturn, 1) := by decide +kernel
theorem dX10_count_158 : decode cX10_count 158 = .ok (.aload_n 0, 1) := by decide +kernel
theorem dX10_count_159 : decode cX10_count 159 = .ok (.getfield 42, 3) := by decide +kernel
theorem dX10_count_162 : decode cX10_count 162 = .ok (.getfield 122, 3) := by decide +kernel
theorem dX10_count_165 : decode cX10_count 165 = .ok (.getfield 134, 3) := by decide +kernel
theorem dX10_count_168 : decode cX10_count 168 = .ok (.ireturn, 1) := by decide +kernel
theorem dX10_count_169 : decode cX10_count 169 = .ok (.aload_n 0, 1) := by decide +kernel
theorem dX10_count_170 : decode cX10_count 170 = .ok (.getfield 42, 3) := by decide +kernel
theorem dX10_count_173 : decode cX10_count 173 = .ok (.getfield 122, 3) := by decide +kernel
theorem dX10_count_176 : decode cX10_count 176 = .ok (.getfield 137, 3) := by decide +kernel
theorem dX10_count_179 : decode cX10_count 179 = .ok (.ireturn, 1) := by decide +kernel
theorem dX10_count_180 : decode cX10_count 180 = .ok (.aload_n 0, 1) := by decide +kernel
theorem dX10_count_181 : decode cX10_count 181 = .ok (.getfield 23, 3) := by decide +kernel
theorem dX10_count_184 : decode cX10_count 184 = .ok (.aload_n 0, 1) := by decide +kernel
theorem dX10_count_185 : decode cX10_count 185 = .ok (.getfield 42, 3) := by decide +kernel
theorem dX10_count_188 : decode cX10_count 188 = .ok (.getfield 122, 3) := by decide +kernel
theorem dX10_count_191 : decode cX10_count 191 = .ok (.invokestatic 140, 3) := by decide +kernel
theorem dX10_count_194 : decode cX10_count 194 = .ok (.ireturn, 1) := by decide +kernel
theorem dX10_count_195 : decode cX10_count 195 = .ok (.aload_n 0, 1) := by decide +kernel
theorem dX10_count_196 : decode cX10_count 196 = .ok (.getfield 42, 3) := by decide +kernel
theorem dX10_count_199 : decode cX10_count 199 = .ok (.getfield 143, 3) := by decide +kernel
theorem dX10_count_202 : decode cX10_count 202 = .ok (.getfield 147, 3) := by decide +kernel
theorem dX10_count_205 : decode cX10_count 205 = .ok (.ireturn, 1) := by decide +kernel
theorem dX10_count_206 : decode cX10_count 206 = .ok (.aload_n 0, 1) := by decide +kernel
theorem dX10_count_207 : decode cX10_count 207 = .ok (.getfield 42, 3) := by decide +kernel
theorem dX10_count_210 : decode cX10_count 210 = .ok (.getfield 152, 3) := by decide +kernel
theorem dX10_count_213 : decode cX10_count 213 = .ok (.getfield 156, 3) := by decide +kernel
theorem dX10_count_216 : decode cX10_count 216 = .ok (.ireturn, 1) := by decide +kernel
theorem dX10_count_217 : decode cX10_count 217 = .ok (.aload_n 0, 1) := by decide +kernel
theorem dX10_count_218 : decode cX10_count 218 = .ok (.getfield 13, 3) := by decide +kernel
theorem dX10_count_221 : decode cX10_count 221 = .ok (.ireturn, 1) := by decide +kernel
theorem dX10_count_222 : decode cX10_count 222 = .ok (.aload_n 0, 1) := by decide +kernel
theorem dX10_count_223 : decode cX10_count 223 = .ok (.getfield 42, 3) := by decide +kernel
theorem dX10_count_226 : decode cX10_count 226 = .ok (.getfield 94, 3) := by decide +kernel
theorem dX10_count_229 : decode cX10_count 229 = .ok (.iconst 0, 1) := by decide +kernel
theorem dX10_count_230 : decode cX10_count 230 = .ok (.iaload, 1) := by decide +kernel
theorem dX10_count_231 : decode cX10_count 231 = .ok (.ireturn, 1) := by decide +kernel
theorem dX10_count_232 : decode cX10_count 232 = .ok (.aload_n 0, 1) := by decide +kernel
theorem dX10_count_233 : decode cX10_count 233 = .ok (.getfield 42, 3) := by decide +kernel
theorem dX10_count_236 : decode cX10_count 236 = .ok (.getfield 94, 3) := by decide +kernel
theorem dX10_count_239 : decode cX10_count 239 = .ok (.iconst 1, 1) := by decide +kernel
theorem dX10_count_240 : decode cX10_count 240 = .ok (.iaload, 1) := by decide +kernel
theorem dX10_count_241 : decode cX10_count 241 = .ok (.ireturn, 1) := by decide +kernel
theorem dX10_count_242 : decode cX10_count 242 = .ok (.aload_n 0, 1) := by decide +kernel
theorem dX10_count_243 : decode cX10_count 243 = .ok (.getfield 42, 3) := by decide +kernel
theorem dX10_count_246 : decode cX10_count 246 = .ok (.getfield 94, 3) := by decide +kernel
theorem dX10_count_249 : decode cX10_count 249 = .ok (.iconst 2, 1) := by decide +kernel
theorem dX10_count_250 : decode cX10_count 250 = .ok (.iaload, 1) := by decide +kernel
theorem dX10_count_251 : decode cX10_count 251 = .ok (.ireturn, 1) := by decide +kernel
theorem dX10_count_252 : decode cX10_count 252 = .ok (.new 159, 3) := by decide +kernel
theorem dX10_count_255 : decode cX10_count 255 = .ok (.dup, 1) := by decide +kernel
theorem dX10_count_256 : decode cX10_count 256 = .ok (.invokespecial 161, 3) := by decide +kernel
theorem dX10_count_259 : decode cX10_count 259 = .ok (.athrow, 1) := by decide +kernel
theorem dX10_room_0 : decode cX10_room 0 = .ok (.aload_n 0, 1) := by decide +kernel
theorem dX10_room_1 : decode cX10_room 1 = .ok (.iload_n 1, 1) := by decide +kernel
theorem dX10_room_2 : decode cX10_room 2 = .ok (.invokevirtual 162, 3) := by decide +kernel
theorem dX10_room_5 : decode cX10_room 5 = .ok (.iload_n 2, 1) := by decide +kernel
theorem dX10_room_6 : decode cX10_room 6 = .ok (.tableswitch 123 0 6 #[42, 52, 62, 75, 85, 98, 114], 42) := by decide +kernel
theorem dX10_room_48 : decode cX10_room 48 = .ok (.aload_n 0, 1) := by decide +kernel
theorem dX10_room_49 : decode cX10_room 49 = .ok (.getfield 23, 3) := by decide +kernel
theorem dX10_room_52 : decode cX10_room 52 = .ok (.getfield 165, 3) := by decide +kernel
theorem dX10_room_55 : decode cX10_room 55 = .ok (.iload_n 1, 1) := by decide +kernel
theorem dX10_room_56 : decode cX10_room 56 = .ok (.iaload, 1) := by decide +kernel
theorem dX10_room_57 : decode cX10_room 57 = .ok (.ireturn, 1) := by decide +kernel
theorem dX10_room_58 : decode cX10_room 58 = .ok (.aload_n 0, 1) := by decide +kernel
theorem dX10_room_59 : decode cX10_room 59 = .ok (.getfield 23, 3) := by decide +kernel
theorem dX10_room_62 : decode cX10_room 62 = .ok (.getfield 168, 3) := by decide +kernel
theorem dX10_room_65 : decode cX10_room 65 = .ok (.iload_n 1, 1) := by decide +kernel
theorem dX10_room_66 : decode cX10_room 66 = .ok (.iaload, 1) := by decide +kernel
theorem dX10_room_67 : decode cX10_room 67 = .ok (.ireturn, 1) := by decide +kernel
theorem dX10_room_68 : decode cX10_room 68 = .ok (.aload_n 0, 1) := by decide +kernel
theorem dX10_room_69 : decode cX10_room 69 = .ok (.getfield 42, 3) := by decide +kernel
theorem dX10_room_72 : decode cX10_room 72 = .ok (.getfield 122, 3) := by decide +kernel
theorem dX10_room_75 : decode cX10_room 75 = .ok (.getfield 171, 3) := by decide +kernel
theorem dX10_room_78 : decode cX10_room 78 = .ok (.iload_n 1, 1) := by decide +kernel
theorem dX10_room_79 : decode cX10_room 79 = .ok (.iaload, 1) := by decide +kernel
theorem dX10_room_80 : decode cX10_room 80 = .ok (.ireturn, 1) := by decide +kernel
theorem dX10_room_81 : decode cX10_room 81 = .ok (.aload_n 0, 1) := by decide +kernel
theorem dX10_room_82 : decode cX10_room 82 = .ok (.getfield 23, 3) := by decide +kernel
theorem dX10_room_85 : decode cX10_room 85 = .ok (.getfield 174, 3) := by decide +kernel
theorem dX10_room_88 : decode cX10_room 88 = .ok (.iload_n 1, 1) := by decide +kernel
theorem dX10_room_89 : decode cX10_room 89 = .ok (.iaload, 1) := by decide +kernel
theorem dX10_room_90 : decode cX10_room 90 = .ok (.ireturn, 1) := by decide +kernel
theorem dX10_room_91 : decode cX10_room 91 = .ok (.aload_n 0, 1) := by decide +kernel
theorem dX10_room_92 : decode cX10_room 92 = .ok (.getfield 42, 3) := by decide +kernel
theorem dX10_room_95 : decode cX10_room 95 = .ok (.getfield 122, 3) := by decide +kernel
theorem dX10_room_98 : decode cX10_room 98 = .ok (.getfield 177, 3) := by decide +kernel
theorem dX10_room_101 : decode cX10_room 101 = .ok (.iload_n 1, 1) := by decide +kernel
theorem dX10_room_102 : decode cX10_room 102 = .ok (.iaload, 1) := by decide +kernel
theorem dX10_room_103 : decode cX10_room 103 = .ok (.ireturn, 1) := by decide +kernel
theorem dX10_room_104 : decode cX10_room 104 = .ok (.aload_n 0, 1) := by decide +kernel
