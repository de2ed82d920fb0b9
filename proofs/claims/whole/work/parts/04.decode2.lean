theorem dX11_readExpression_39 : decode cX11_readExpression 39 = .ok (.iload_n 2, 1) := by decide +kernel
theorem dX11_readExpression_40 : decode cX11_readExpression 40 = .ok (.ifCond .ne 11, 3) := by decide +kernel
theorem dX11_readExpression_43 : decode cX11_readExpression 43 = .ok (.aload_n 0, 1) := by decide +kernel
theorem dX11_readExpression_44 : decode cX11_readExpression 44 = .ok (.iconst 1, 1) := by decide +kernel
theorem dX11_readExpression_45 : decode cX11_readExpression 45 = .ok (.invokevirtual 229, 3) := by decide +kernel
theorem dX11_readExpression_48 : decode cX11_readExpression 48 = .ok (.goto 14, 3) := by decide +kernel
theorem dX11_readExpression_51 : decode cX11_readExpression 51 = .ok (.iload_n 1, 1) := by decide +kernel
theorem dX11_readExpression_52 : decode cX11_readExpression 52 = .ok (.bipush 6, 2) := by decide +kernel
theorem dX11_readExpression_54 : decode cX11_readExpression 54 = .ok (.if_icmp .ne 8, 3) := by decide +kernel
theorem dX11_readExpression_57 : decode cX11_readExpression 57 = .ok (.aload_n 0, 1) := by decide +kernel
theorem dX11_readExpression_58 : decode cX11_readExpression 58 = .ok (.iconst 2, 1) := by decide +kernel
theorem dX11_readExpression_59 : decode cX11_readExpression 59 = .ok (.invokevirtual 229, 3) := by decide +kernel
theorem dX11_readExpression_62 : decode cX11_readExpression 62 = .ok (.aload_n 0, 1) := by decide +kernel
theorem dX11_readExpression_63 : decode cX11_readExpression 63 = .ok (.iload_n 1, 1) := by decide +kernel
theorem dX11_readExpression_64 : decode cX11_readExpression 64 = .ok (.invokevirtual 274, 3) := by decide +kernel
theorem dX11_readExpression_67 : decode cX11_readExpression 67 = .ok (.aload_n 0, 1) := by decide +kernel
theorem dX11_readExpression_68 : decode cX11_readExpression 68 = .ok (.ldc_w 277, 3) := by decide +kernel
theorem dX11_readExpression_71 : decode cX11_readExpression 71 = .ok (.invokevirtual 222, 3) := by decide +kernel
theorem dX11_readExpression_74 : decode cX11_readExpression 74 = .ok (.ifCond .eq 21, 3) := by decide +kernel
theorem dX11_readExpression_77 : decode cX11_readExpression 77 = .ok (.aload_n 0, 1) := by decide +kernel
theorem dX11_readExpression_78 : decode cX11_readExpression 78 = .ok (.invokevirtual 233, 3) := by decide +kernel
theorem dX11_readExpression_81 : decode cX11_readExpression 81 = .ok (.aload_n 0, 1) := by decide +kernel
theorem dX11_readExpression_82 : decode cX11_readExpression 82 = .ok (.iload_n 1, 1) := by decide +kernel
theorem dX11_readExpression_83 : decode cX11_readExpression 83 = .ok (.invokevirtual 274, 3) := by decide +kernel
theorem dX11_readExpression_86 : decode cX11_readExpression 86 = .ok (.aload_n 0, 1) := by decide +kernel
theorem dX11_readExpression_87 : decode cX11_readExpression 87 = .ok (.bipush (-27), 2) := by decide +kernel
theorem dX11_readExpression_89 : decode cX11_readExpression 89 = .ok (.invokevirtual 245, 3) := by decide +kernel
theorem dX11_readExpression_92 : decode cX11_readExpression 92 = .ok (.goto (-25), 3) := by decide +kernel
theorem dX11_readExpression_95 : decode cX11_readExpression 95 = .ok (.return_, 1) := by decide +kernel
theorem dX11_another_0 : decode cX11_another 0 = .ok (.aload_n 0, 1) := by decide +kernel
theorem dX11_another_1 : decode cX11_another 1 = .ok (.getfield 36, 3) := by decide +kernel
theorem dX11_another_4 : decode cX11_another 4 = .ok (.bipush 7, 2) := by decide +kernel
theorem dX11_another_6 : decode cX11_another 6 = .ok (.iload_n 1, 1) := by decide +kernel
theorem dX11_another_7 : decode cX11_another 7 = .ok (.iadd, 1) := by decide +kernel
theorem dX11_another_8 : decode cX11_another 8 = .ok (.iaload, 1) := by decide +kernel
theorem dX11_another_9 : decode cX11_another 9 = .ok (.iload_n 2, 1) := by decide +kernel
theorem dX11_another_10 : decode cX11_another 10 = .ok (.if_icmp .ne 8, 3) := by decide +kernel
theorem dX11_another_13 : decode cX11_another 13 = .ok (.aload_n 0, 1) := by decide +kernel
theorem dX11_another_14 : decode cX11_another 14 = .ok (.iconst 2, 1) := by decide +kernel
theorem dX11_another_15 : decode cX11_another 15 = .ok (.invokevirtual 229, 3) := by decide +kernel
theorem dX11_another_18 : decode cX11_another 18 = .ok (.aload_n 0, 1) := by decide +kernel
theorem dX11_another_19 : decode cX11_another 19 = .ok (.getfield 208, 3) := by decide +kernel
theorem dX11_another_22 : decode cX11_another 22 = .ok (.ifCond .eq 5, 3) := by decide +kernel
theorem dX11_another_25 : decode cX11_another 25 = .ok (.iconst 0, 1) := by decide +kernel
theorem dX11_another_26 : decode cX11_another 26 = .ok (.ireturn, 1) := by decide +kernel
theorem dX11_another_27 : decode cX11_another 27 = .ok (.aload_n 0, 1) := by decide +kernel
theorem dX11_another_28 : decode cX11_another 28 = .ok (.invokevirtual 233, 3) := by decide +kernel
theorem dX11_another_31 : decode cX11_another 31 = .ok (.iconst 1, 1) := by decide +kernel
theorem dX11_another_32 : decode cX11_another 32 = .ok (.ireturn, 1) := by decide +kernel
theorem dX11_sayRoom_0 : decode cX11_sayRoom 0 = .ok (.aload_n 0, 1) := by decide +kernel
theorem dX11_sayRoom_1 : decode cX11_sayRoom 1 = .ok (.iconst 0, 1) := by decide +kernel
theorem dX11_sayRoom_2 : decode cX11_sayRoom 2 = .ok (.bipush 9, 2) := by decide +kernel
theorem dX11_sayRoom_4 : decode cX11_sayRoom 4 = .ok (.invokevirtual 279, 3) := by decide +kernel
theorem dX11_sayRoom_7 : decode cX11_sayRoom 7 = .ok (.ifCond .ne 4, 3) := by decide +kernel
theorem dX11_sayRoom_10 : decode cX11_sayRoom 10 = .ok (.return_, 1) := by decide +kernel
theorem dX11_sayRoom_11 : decode cX11_sayRoom 11 = .ok (.bipush 9, 2) := by decide +kernel
theorem dX11_sayRoom_13 : decode cX11_sayRoom 13 = .ok (.aload_n 0, 1) := by decide +kernel
theorem dX11_sayRoom_14 : decode cX11_sayRoom 14 = .ok (.getfield 36, 3) := by decide +kernel
theorem dX11_sayRoom_17 : decode cX11_sayRoom 17 = .ok (.bipush 7, 2) := by decide +kernel
theorem dX11_sayRoom_19 : decode cX11_sayRoom 19 = .ok (.iaload, 1) := by decide +kernel
theorem dX11_sayRoom_20 : decode cX11_sayRoom 20 = .ok (.iadd, 1) := by decide +kernel
theorem dX11_sayRoom_21 : decode cX11_sayRoom 21 = .ok (.istore_n 2, 1) := by decide +kernel
theorem dX11_sayRoom_22 : decode cX11_sayRoom 22 = .ok (.aload_n 0, 1) := by decide +kernel
theorem dX11_sayRoom_23 : decode cX11_sayRoom 23 = .ok (.getfield 40, 3) := by decide +kernel
theorem dX11_sayRoom_26 : decode cX11_sayRoom 26 = .ok (.iload_n 2, 1) := by decide +kernel
theorem dX11_sayRoom_27 : decode cX11_sayRoom 27 = .ok (.iload_n 1, 1) := by decide +kernel
theorem dX11_sayRoom_28 : decode cX11_sayRoom 28 = .ok (.iastore, 1) := by decide +kernel
theorem dX11_sayRoom_29 : decode cX11_sayRoom 29 = .ok (.aload_n 0, 1) := by decide +kernel
theorem dX11_sayRoom_30 : decode cX11_sayRoom 30 = .ok (.getfield 42, 3) := by decide +kernel
theorem dX11_sayRoom_33 : decode cX11_sayRoom 33 = .ok (.iload_n 2, 1) := by decide +kernel
theorem dX11_sayRoom_34 : decode cX11_sayRoom 34 = .ok (.aload_n 0, 1) := by decide +kernel
theorem dX11_sayRoom_35 : decode cX11_sayRoom 35 = .ok (.iconst 0, 1) := by decide +kernel
theorem dX11_sayRoom_36 : decode cX11_sayRoom 36 = .ok (.iconst 5, 1) := by decide +kernel
theorem dX11_sayRoom_37 : decode cX11_sayRoom 37 = .ok (.invokevirtual 242, 3) := by decide +kernel
theorem dX11_sayRoom_40 : decode cX11_sayRoom 40 = .ok (.iastore, 1) := by decide +kernel
theorem dX11_sayRoom_41 : decode cX11_sayRoom 41 = .ok (.aload_n 0, 1) := by decide +kernel
theorem dX11_sayRoom_42 : decode cX11_sayRoom 42 = .ok (.getfield 44, 3) := by decide +kernel
theorem dX11_sayRoom_45 : decode cX11_sayRoom 45 = .ok (.iload_n 2, 1) := by decide +kernel
theorem dX11_sayRoom_46 : decode cX11_sayRoom 46 = .ok (.aload_n 0, 1) := by decide +kernel
theorem dX11_sayRoom_47 : decode cX11_sayRoom 47 = .ok (.iconst 0, 1) := by decide +kernel
theorem dX11_sayRoom_48 : decode cX11_sayRoom 48 = .ok (.sipush 999, 3) := by decide +kernel
theorem dX11_sayRoom_51 : decode cX11_sayRoom 51 = .ok (.invokevirtual 242, 3) := by decide +kernel
theorem dX11_sayRoom_54 : decode cX11_sayRoom 54 = .ok (.iastore, 1) := by decide +kernel
theorem dX11_sayRoom_55 : decode cX11_sayRoom 55 = .ok (.aload_n 0, 1) := by decide +kernel
theorem dX11_sayRoom_56 : decode cX11_sayRoom 56 = .ok (.getfield 47, 3) := by decide +kernel
theorem dX11_sayRoom_59 : decode cX11_sayRoom 59 = .ok (.iload_n 2, 1) := by decide +kernel
theorem dX11_sayRoom_60 : decode cX11_sayRoom 60 = .ok (.aload_n 0, 1) := by decide +kernel
theorem dX11_sayRoom_61 : decode cX11_sayRoom 61 = .ok (.iconst 0, 1) := by decide +kernel
theorem dX11_sayRoom_62 : decode cX11_sayRoom 62 = .ok (.bipush 99, 2) := by decide +kernel
theorem dX11_sayRoom_64 : decode cX11_sayRoom 64 = .ok (.invokevirtual 242, 3) := by decide +kernel
theorem dX11_sayRoom_67 : decode cX11_sayRoom 67 = .ok (.iastore, 1) := by decide +kernel
theorem dX11_sayRoom_68 : decode cX11_sayRoom 68 = .ok (.aload_n 0, 1) := by decide +kernel
theorem dX11_sayRoom_69 : decode cX11_sayRoom 69 = .ok (.getfield 36, 3) := by decide +kernel
theorem dX11_sayRoom_72 : decode cX11_sayRoom 72 = .ok (.bipush 7, 2) := by decide +kernel
theorem dX11_sayRoom_74 : decode cX11_sayRoom 74 = .ok (.dup2, 1) := by decide +kernel
theorem dX11_sayRoom_75 : decode cX11_sayRoom 75 = .ok (.iaload, 1) := by decide +kernel
theorem dX11_sayRoom_76 : decode cX11_sayRoom 76 = .ok (.iconst 1, 1) := by decide +kernel
theorem dX11_sayRoom_77 : decode cX11_sayRoom 77 = .ok (.iadd, 1) := by decide +kernel
theorem dX11_sayRoom_78 : decode cX11_sayRoom 78 = .ok (.iastore, 1) := by decide +kernel
theorem dX11_sayRoom_79 : decode cX11_sayRoom 79 = .ok (.return_, 1) := by decide +kernel
theorem dX11_isDoor_0 : decode cX11_isDoor 0 = .ok (.bipush 14, 2) := by decide +kernel
theorem dX11_isDoor_2 : decode cX11_isDoor 2 = .ok (.istore_n 3, 1) := by decide +kernel
theorem dX11_isDoor_3 : decode cX11_isDoor 3 = .ok (.iload_n 3, 1) := by decide +kernel
theorem dX11_isDoor_4 : decode cX11_isDoor 4 = .ok (.bipush 14, 2) := by decide +kernel
theorem dX11_isDoor_6 : decode cX11_isDoor 6 = .ok (.aload_n 0, 1) := by decide +kernel
theorem dX11_isDoor_7 : decode cX11_isDoor 7 = .ok (.getfield 36, 3) := by decide +kernel
theorem dX11_isDoor_10 : decode cX11_isDoor 10 = .ok (.bipush 8, 2) := by decide +kernel
theorem dX11_isDoor_12 : decode cX11_isDoor 12 = .ok (.iaload, 1) := by decide +kernel
theorem dX11_isDoor_13 : decode cX11_isDoor 13 = .ok (.iadd, 1) := by decide +kernel
theorem dX11_isDoor_14 : decode cX11_isDoor 14 = .ok (.if_icmp .ge 51, 3) := by decide +kernel
theorem dX11_isDoor_17 : decode cX11_isDoor 17 = .ok (.aload_n 0, 1) := by decide +kernel
theorem dX11_isDoor_18 : decode cX11_isDoor 18 = .ok (.getfield 50, 3) := by decide +kernel
theorem dX11_isDoor_21 : decode cX11_isDoor 21 = .ok (.iload_n 3, 1) := by decide +kernel
theorem dX11_isDoor_22 : decode cX11_isDoor 22 = .ok (.iaload, 1) := by decide +kernel
theorem dX11_isDoor_23 : decode cX11_isDoor 23 = .ok (.iload_n 1, 1) := by decide +kernel
theorem dX11_isDoor_24 : decode cX11_isDoor 24 = .ok (.if_icmp .ne 13, 3) := by decide +kernel
theorem dX11_isDoor_27 : decode cX11_isDoor 27 = .ok (.aload_n 0, 1) := by decide +kernel
theorem dX11_isDoor_28 : decode cX11_isDoor 28 = .ok (.getfield 53, 3) := by decide +kernel
theorem dX11_isDoor_31 : decode cX11_isDoor 31 = .ok (.iload_n 3, 1) := by decide +kernel
theorem dX11_isDoor_32 : decode cX11_isDoor 32 = .ok (.iaload, 1) := by decide +kernel
theorem dX11_isDoor_33 : decode cX11_isDoor 33 = .ok (.iload_n 2, 1) := by decide +kernel
theorem dX11_isDoor_34 : decode cX11_isDoor 34 = .ok (.if_icmp .eq 23, 3) := by decide +kernel
theorem dX11_isDoor_37 : decode cX11_isDoor 37 = .ok (.aload_n 0, 1) := by decide +kernel
theorem dX11_isDoor_38 : decode cX11_isDoor 38 = .ok (.getfield 50, 3) := by decide +kernel
theorem dX11_isDoor_41 : decode cX11_isDoor 41 = .ok (.iload_n 3, 1) := by decide +kernel
theorem dX11_isDoor_42 : decode cX11_isDoor 42 = .ok (.iaload, 1) := by decide +kernel
theorem dX11_isDoor_43 : decode cX11_isDoor 43 = .ok (.iload_n 2, 1) := by decide +kernel
theorem dX11_isDoor_44 : decode cX11_isDoor 44 = .ok (.if_icmp .ne 15, 3) := by decide +kernel
theorem dX11_isDoor_47 : decode cX11_isDoor 47 = .ok (.aload_n 0, 1) := by decide +kernel
theorem dX11_isDoor_48 : decode cX11_isDoor 48 = .ok (.getfield 53, 3) := by decide +kernel
theorem dX11_isDoor_51 : decode cX11_isDoor 51 = .ok (.iload_n 3, 1) := by decide +kernel
theorem dX11_isDoor_52 : decode cX11_isDoor 52 = .ok (.iaload, 1) := by decide +kernel
theorem dX11_isDoor_53 : decode cX11_isDoor 53 = .ok (.iload_n 1, 1) := by decide +kernel
theorem dX11_isDoor_54 : decode cX11_isDoor 54 = .ok (.if_icmp .ne 5, 3) := by decide +kernel
theorem dX11_isDoor_57 : decode cX11_isDoor 57 = .ok (.iconst 1, 1) := by decide +kernel
theorem dX11_isDoor_58 : decode cX11_isDoor 58 = .ok (.ireturn, 1) := by decide +kernel
theorem dX11_isDoor_59 : decode cX11_isDoor 59 = .ok (.iinc 3 1, 3) := by decide +kernel
theorem dX11_isDoor_62 : decode cX11_isDoor 62 = .ok (.goto (-59), 3) := by decide +kernel
theorem dX11_isDoor_65 : decode cX11_isDoor 65 = .ok (.iconst 0, 1) := by decide +kernel
theorem dX11_isDoor_66 : decode cX11_isDoor 66 = .ok (.ireturn, 1) := by decide +kernel
theorem dX11_sayDoor_0 : decode cX11_sayDoor 0 = .ok (.aload_n 0, 1) := by decide +kernel
theorem dX11_sayDoor_1 : decode cX11_sayDoor 1 = .ok (.iconst 1, 1) := by decide +kernel
theorem dX11_sayDoor_2 : decode cX11_sayDoor 2 = .ok (.bipush 14, 2) := by decide +kernel
theorem dX11_sayDoor_4 : decode cX11_sayDoor 4 = .ok (.invokevirtual 279, 3) := by decide +kernel
theorem dX11_sayDoor_7 : decode cX11_sayDoor 7 = .ok (.ifCond .ne 4, 3) := by decide +kernel
theorem dX11_sayDoor_10 : decode cX11_sayDoor 10 = .ok (.return_, 1) := by decide +kernel
theorem dX11_sayDoor_11 : decode cX11_sayDoor 11 = .ok (.aload_n 0, 1) := by decide +kernel
theorem dX11_sayDoor_12 : decode cX11_sayDoor 12 = .ok (.invokevirtual 283, 3) := by decide +kernel
theorem dX11_sayDoor_15 : decode cX11_sayDoor 15 = .ok (.istore_n 1, 1) := by decide +kernel
theorem dX11_sayDoor_16 : decode cX11_sayDoor 16 = .ok (.aload_n 0, 1) := by decide +kernel
theorem dX11_sayDoor_17 : decode cX11_sayDoor 17 = .ok (.invokevirtual 239, 3) := by decide +kernel
theorem dX11_sayDoor_20 : decode cX11_sayDoor 20 = .ok (.istore_n 2, 1) := by decide +kernel
theorem dX11_sayDoor_21 : decode cX11_sayDoor 21 = .ok (.aload_n 0, 1) := by decide +kernel
theorem dX11_sayDoor_22 : decode cX11_sayDoor 22 = .ok (.getfield 208, 3) := by decide +kernel
theorem dX11_sayDoor_25 : decode cX11_sayDoor 25 = .ok (.ifCond .ne 22, 3) := by decide +kernel
theorem dX11_sayDoor_28 : decode cX11_sayDoor 28 = .ok (.iload_n 1, 1) := by decide +kernel
theorem dX11_sayDoor_29 : decode cX11_sayDoor 29 = .ok (.iload_n 2, 1) := by decide +kernel
theorem dX11_sayDoor_30 : decode cX11_sayDoor 30 = .ok (.if_icmp .eq 12, 3) := by decide +kernel
theorem dX11_sayDoor_33 : decode cX11_sayDoor 33 = .ok (.aload_n 0, 1) := by decide +kernel
theorem dX11_sayDoor_34 : decode cX11_sayDoor 34 = .ok (.iload_n 1, 1) := by decide +kernel
theorem dX11_sayDoor_35 : decode cX11_sayDoor 35 = .ok (.iload_n 2, 1) := by decide +kernel
theorem dX11_sayDoor_36 : decode cX11_sayDoor 36 = .ok (.invokevirtual 286, 3) := by decide +kernel
theorem dX11_sayDoor_39 : decode cX11_sayDoor 39 = .ok (.ifCond .eq 8, 3) := by decide +kernel
theorem dX11_sayDoor_42 : decode cX11_sayDoor 42 = .ok (.aload_n 0, 1) := by decide +kernel
theorem dX11_sayDoor_43 : decode cX11_sayDoor 43 = .ok (.iconst 4, 1) := by decide +kernel
theorem dX11_sayDoor_44 : decode cX11_sayDoor 44 = .ok (.invokevirtual 229, 3) := by decide +kernel
theorem dX11_sayDoor_47 : decode cX11_sayDoor 47 = .ok (.aload_n 0, 1) := by decide +kernel
theorem dX11_sayDoor_48 : decode cX11_sayDoor 48 = .ok (.getfield 208, 3) := by decide +kernel
theorem dX11_sayDoor_51 : decode cX11_sayDoor 51 = .ok (.ifCond .ne 7, 3) := by decide +kernel
theorem dX11_sayDoor_54 : decode cX11_sayDoor 54 = .ok (.aload_n 0, 1) := by decide +kernel
theorem dX11_sayDoor_55 : decode cX11_sayDoor 55 = .ok (.invokevirtual 233, 3) := by decide +kernel
theorem dX11_sayDoor_58 : decode cX11_sayDoor 58 = .ok (.bipush 14, 2) := by decide +kernel
theorem dX11_sayDoor_60 : decode cX11_sayDoor 60 = .ok (.aload_n 0, 1) := by decide +kernel
theorem dX11_sayDoor_61 : decode cX11_sayDoor 61 = .ok (.getfield 36, 3) := by decide +kernel
theorem dX11_sayDoor_64 : decode cX11_sayDoor 64 = .ok (.bipush 8, 2) := by decide +kernel
theorem dX11_sayDoor_66 : decode cX11_sayDoor 66 = .ok (.iaload, 1) := by decide +kernel
theorem dX11_sayDoor_67 : decode cX11_sayDoor 67 = .ok (.iadd, 1) := by decide +kernel
theorem dX11_sayDoor_68 : decode cX11_sayDoor 68 = .ok (.istore_n 3, 1) := by decide +kernel
theorem dX11_sayDoor_69 : decode cX11_sayDoor 69 = .ok (.aload_n 0, 1) := by decide +kernel
theorem dX11_sayDoor_70 : decode cX11_sayDoor 70 = .ok (.getfield 50, 3) := by decide +kernel
theorem dX11_sayDoor_73 : decode cX11_sayDoor 73 = .ok (.iload_n 3, 1) := by decide +kernel
theorem dX11_sayDoor_74 : decode cX11_sayDoor 74 = .ok (.iload_n 1, 1) := by decide +kernel
theorem dX11_sayDoor_75 : decode cX11_sayDoor 75 = .ok (.iastore, 1) := by decide +kernel
theorem dX11_sayDoor_76 : decode cX11_sayDoor 76 = .ok (.aload_n 0, 1) := by decide +kernel
theorem dX11_sayDoor_77 : decode cX11_sayDoor 77 = .ok (.getfield 53, 3) := by decide +kernel
theorem dX11_sayDoor_80 : decode cX11_sayDoor 80 = .ok (.iload_n 3, 1) := by decide +kernel
theorem dX11_sayDoor_81 : decode cX11_sayDoor 81 = .ok (.iload_n 2, 1) := by decide +kernel
theorem dX11_sayDoor_82 : decode cX11_sayDoor 82 = .ok (.iastore, 1) := by decide +kernel
theorem dX11_sayDoor_83 : decode cX11_sayDoor 83 = .ok (.aload_n 0, 1) := by decide +kernel
theorem dX11_sayDoor_84 : decode cX11_sayDoor 84 = .ok (.getfield 56, 3) := by decide +kernel
theorem dX11_sayDoor_87 : decode cX11_sayDoor 87 = .ok (.iload_n 3, 1) := by decide +kernel
theorem dX11_sayDoor_88 : decode cX11_sayDoor 88 = .ok (.aload_n 0, 1) := by decide +kernel
theorem dX11_sayDoor_89 : decode cX11_sayDoor 89 = .ok (.iconst 1, 1) := by decide +kernel
theorem dX11_sayDoor_90 : decode cX11_sayDoor 90 = .ok (.bipush 9, 2) := by decide +kernel
theorem dX11_sayDoor_92 : decode cX11_sayDoor 92 = .ok (.invokevirtual 242, 3) := by decide +kernel
theorem dX11_sayDoor_95 : decode cX11_sayDoor 95 = .ok (.iastore, 1) := by decide +kernel
theorem dX11_sayDoor_96 : decode cX11_sayDoor 96 = .ok (.aload_n 0, 1) := by decide +kernel
theorem dX11_sayDoor_97 : decode cX11_sayDoor 97 = .ok (.getfield 36, 3) := by decide +kernel
theorem dX11_sayDoor_100 : decode cX11_sayDoor 100 = .ok (.bipush 8, 2) := by decide +kernel
theorem dX11_sayDoor_102 : decode cX11_sayDoor 102 = .ok (.dup2, 1) := by decide +kernel
theorem dX11_sayDoor_103 : decode cX11_sayDoor 103 = .ok (.iaload, 1) := by decide +kernel
theorem dX11_sayDoor_104 : decode cX11_sayDoor 104 = .ok (.iconst 1, 1) := by decide +kernel
theorem dX11_sayDoor_105 : decode cX11_sayDoor 105 = .ok (.iadd, 1) := by decide +kernel
theorem dX11_sayDoor_106 : decode cX11_sayDoor 106 = .ok (.iastore, 1) := by decide +kernel
theorem dX11_sayDoor_107 : decode cX11_sayDoor 107 = .ok (.return_, 1) := by decide +kernel
theorem dX11_sayWind_0 : decode cX11_sayWind 0 = .ok (.aload_n 0, 1) := by decide +kernel
theorem dX11_sayWind_1 : decode cX11_sayWind 1 = .ok (.iconst 2, 1) := by decide +kernel
theorem dX11_sayWind_2 : decode cX11_sayWind 2 = .ok (.iconst 5, 1) := by decide +kernel
theorem dX11_sayWind_3 : decode cX11_sayWind 3 = .ok (.invokevirtual 279, 3) := by decide +kernel
theorem dX11_sayWind_6 : decode cX11_sayWind 6 = .ok (.ifCond .ne 4, 3) := by decide +kernel
theorem dX11_sayWind_9 : decode cX11_sayWind 9 = .ok (.return_, 1) := by decide +kernel
theorem dX11_sayWind_10 : decode cX11_sayWind 10 = .ok (.aload_n 0, 1) := by decide +kernel
theorem dX11_sayWind_11 : decode cX11_sayWind 11 = .ok (.getfield 59, 3) := by decide +kernel
theorem dX11_sayWind_14 : decode cX11_sayWind 14 = .ok (.iconst 5, 1) := by decide +kernel
theorem dX11_sayWind_15 : decode cX11_sayWind 15 = .ok (.aload_n 0, 1) := by decide +kernel
theorem dX11_sayWind_16 : decode cX11_sayWind 16 = .ok (.getfield 36, 3) := by decide +kernel
theorem dX11_sayWind_19 : decode cX11_sayWind 19 = .ok (.bipush 9, 2) := by decide +kernel
theorem dX11_sayWind_21 : decode cX11_sayWind 21 = .ok (.iaload, 1) := by decide +kernel
theorem dX11_sayWind_22 : decode cX11_sayWind 22 = .ok (.iadd, 1) := by decide +kernel
theorem dX11_sayWind_23 : decode cX11_sayWind 23 = .ok (.iconst 0, 1) := by decide +kernel
theorem dX11_sayWind_24 : decode cX11_sayWind 24 = .ok (.iastore, 1) := by decide +kernel
theorem dX11_sayWind_25 : decode cX11_sayWind 25 = .ok (.aload_n 0, 1) := by decide +kernel
theorem dX11_sayWind_26 : decode cX11_sayWind 26 = .ok (.getfield 36, 3) := by decide +kernel
theorem dX11_sayWind_29 : decode cX11_sayWind 29 = .ok (.bipush 9, 2) := by decide +kernel
theorem dX11_sayWind_31 : decode cX11_sayWind 31 = .ok (.dup2, 1) := by decide +kernel
theorem dX11_sayWind_32 : decode cX11_sayWind 32 = .ok (.iaload, 1) := by decide +kernel
theorem dX11_sayWind_33 : decode cX11_sayWind 33 = .ok (.iconst 1, 1) := by decide +kernel
theorem dX11_sayWind_34 : decode cX11_sayWind 34 = .ok (.iadd, 1) := by decide +kernel
theorem dX11_sayWind_35 : decode cX11_sayWind 35 = .ok (.iastore, 1) := by decide +kernel
theorem dX11_sayWind_36 : decode cX11_sayWind 36 = .ok (.return_, 1) := by decide +kernel
theorem dX11_sayBlow_0 : decode cX11_sayBlow 0 = .ok (.aload_n 0, 1) := by decide +kernel
theorem dX11_sayBlow_1 : decode cX11_sayBlow 1 = .ok (.getfield 36, 3) := by decide +kernel
theorem dX11_sayBlow_4 : decode cX11_sayBlow 4 = .ok (.bipush 9, 2) := by decide +kernel
theorem dX11_sayBlow_6 : decode cX11_sayBlow 6 = .ok (.iaload, 1) := by decide +kernel
theorem dX11_sayBlow_7 : decode cX11_sayBlow 7 = .ok (.ifCond .ne 8, 3) := by decide +kernel
theorem dX11_sayBlow_10 : decode cX11_sayBlow 10 = .ok (.aload_n 0, 1) := by decide +kernel
theorem dX11_sayBlow_11 : decode cX11_sayBlow 11 = .ok (.iconst 1, 1) := by decide +kernel
theorem dX11_sayBlow_12 : decode cX11_sayBlow 12 = .ok (.invokevirtual 229, 3) := by decide +kernel
theorem dX11_sayBlow_15 : decode cX11_sayBlow 15 = .ok (.iconst 5, 1) := by decide +kernel
theorem dX11_sayBlow_16 : decode cX11_sayBlow 16 = .ok (.iconst 1, 1) := by decide +kernel
theorem dX11_sayBlow_17 : decode cX11_sayBlow 17 = .ok (.aload_n 0, 1) := by decide +kernel
theorem dX11_sayBlow_18 : decode cX11_sayBlow 18 = .ok (.getfield 36, 3) := by decide +kernel
theorem dX11_sayBlow_21 : decode cX11_sayBlow 21 = .ok (.bipush 9, 2) := by decide +kernel
theorem dX11_sayBlow_23 : decode cX11_sayBlow 23 = .ok (.iaload, 1) := by decide +kernel
theorem dX11_sayBlow_24 : decode cX11_sayBlow 24 = .ok (.invokestatic 289, 3) := by decide +kernel
theorem dX11_sayBlow_27 : decode cX11_sayBlow 27 = .ok (.iadd, 1) := by decide +kernel
theorem dX11_sayBlow_28 : decode cX11_sayBlow 28 = .ok (.iconst 1, 1) := by decide +kernel
theorem dX11_sayBlow_29 : decode cX11_sayBlow 29 = .ok (.isub, 1) := by decide +kernel
theorem dX11_sayBlow_30 : decode cX11_sayBlow 30 = .ok (.istore_n 1, 1) := by decide +kernel
theorem dX11_sayBlow_31 : decode cX11_sayBlow 31 = .ok (.aload_n 0, 1) := by decide +kernel
theorem dX11_sayBlow_32 : decode cX11_sayBlow 32 = .ok (.getfield 208, 3) := by decide +kernel
theorem dX11_sayBlow_35 : decode cX11_sayBlow 35 = .ok (.ifCond .ne 19, 3) := by decide +kernel
theorem dX11_sayBlow_38 : decode cX11_sayBlow 38 = .ok (.aload_n 0, 1) := by decide +kernel
theorem dX11_sayBlow_39 : decode cX11_sayBlow 39 = .ok (.getfield 59, 3) := by decide +kernel
theorem dX11_sayBlow_42 : decode cX11_sayBlow 42 = .ok (.iload_n 1, 1) := by decide +kernel
theorem dX11_sayBlow_43 : decode cX11_sayBlow 43 = .ok (.iaload, 1) := by decide +kernel
theorem dX11_sayBlow_44 : decode cX11_sayBlow 44 = .ok (.bipush 8, 2) := by decide +kernel
theorem dX11_sayBlow_46 : decode cX11_sayBlow 46 = .ok (.if_icmp .ne 8, 3) := by decide +kernel
theorem dX11_sayBlow_49 : decode cX11_sayBlow 49 = .ok (.aload_n 0, 1) := by decide +kernel
theorem dX11_sayBlow_50 : decode cX11_sayBlow 50 = .ok (.iconst 2, 1) := by decide +kernel
theorem dX11_sayBlow_51 : decode cX11_sayBlow 51 = .ok (.invokevirtual 229, 3) := by decide +kernel
theorem dX11_sayBlow_54 : decode cX11_sayBlow 54 = .ok (.aload_n 0, 1) := by decide +kernel
theorem dX11_sayBlow_55 : decode cX11_sayBlow 55 = .ok (.getfield 208, 3) := by decide +kernel
theorem dX11_sayBlow_58 : decode cX11_sayBlow 58 = .ok (.ifCond .eq 4, 3) := by decide +kernel
theorem dX11_sayBlow_61 : decode cX11_sayBlow 61 = .ok (.return_, 1) := by decide +kernel
theorem dX11_sayBlow_62 : decode cX11_sayBlow 62 = .ok (.aload_n 0, 1) := by decide +kernel
theorem dX11_sayBlow_63 : decode cX11_sayBlow 63 = .ok (.invokevirtual 233, 3) := by decide +kernel
theorem dX11_sayBlow_66 : decode cX11_sayBlow 66 = .ok (.aload_n 0, 1) := by decide +kernel
theorem dX11_sayBlow_67 : decode cX11_sayBlow 67 = .ok (.invokevirtual 283, 3) := by decide +kernel
theorem dX11_sayBlow_70 : decode cX11_sayBlow 70 = .ok (.istore_n 2, 1) := by decide +kernel
theorem dX11_sayBlow_71 : decode cX11_sayBlow 71 = .ok (.aload_n 0, 1) := by decide +kernel
theorem dX11_sayBlow_72 : decode cX11_sayBlow 72 = .ok (.invokevirtual 239, 3) := by decide +kernel
theorem dX11_sayBlow_75 : decode cX11_sayBlow 75 = .ok (.istore_n 3, 1) := by decide +kernel
theorem dX11_sayBlow_76 : decode cX11_sayBlow 76 = .ok (.aload_n 0, 1) := by decide +kernel
theorem dX11_sayBlow_77 : decode cX11_sayBlow 77 = .ok (.getfield 208, 3) := by decide +kernel
theorem dX11_sayBlow_80 : decode cX11_sayBlow 80 = .ok (.ifCond .ne 18, 3) := by decide +kernel
theorem dX11_sayBlow_83 : decode cX11_sayBlow 83 = .ok (.aload_n 0, 1) := by decide +kernel
theorem dX11_sayBlow_84 : decode cX11_sayBlow 84 = .ok (.iload_n 2, 1) := by decide +kernel
theorem dX11_sayBlow_85 : decode cX11_sayBlow 85 = .ok (.iload_n 3, 1) := by decide +kernel
theorem dX11_sayBlow_86 : decode cX11_sayBlow 86 = .ok (.invokevirtual 286, 3) := by decide +kernel
theorem dX11_sayBlow_89 : decode cX11_sayBlow 89 = .ok (.ifCond .ne 9, 3) := by decide +kernel
theorem dX11_sayBlow_92 : decode cX11_sayBlow 92 = .ok (.aload_n 0, 1) := by decide +kernel
theorem dX11_sayBlow_93 : decode cX11_sayBlow 93 = .ok (.bipush 6, 2) := by decide +kernel
theorem dX11_sayBlow_95 : decode cX11_sayBlow 95 = .ok (.invokevirtual 229, 3) := by decide +kernel
theorem dX11_sayBlow_98 : decode cX11_sayBlow 98 = .ok (.aload_n 0, 1) := by decide +kernel
theorem dX11_sayBlow_99 : decode cX11_sayBlow 99 = .ok (.getfield 208, 3) := by decide +kernel
theorem dX11_sayBlow_102 : decode cX11_sayBlow 102 = .ok (.ifCond .ne 7, 3) := by decide +kernel
theorem dX11_sayBlow_105 : decode cX11_sayBlow 105 = .ok (.aload_n 0, 1) := by decide +kernel
theorem dX11_sayBlow_106 : decode cX11_sayBlow 106 = .ok (.invokevirtual 233, 3) := by decide +kernel
theorem dX11_sayBlow_109 : decode cX11_sayBlow 109 = .ok (.bipush 8, 2) := by decide +kernel
theorem dX11_sayBlow_111 : decode cX11_sayBlow 111 = .ok (.iload_n 1, 1) := by decide +kernel
theorem dX11_sayBlow_112 : decode cX11_sayBlow 112 = .ok (.imul, 1) := by decide +kernel
theorem dX11_sayBlow_113 : decode cX11_sayBlow 113 = .ok (.aload_n 0, 1) := by decide +kernel
theorem dX11_sayBlow_114 : decode cX11_sayBlow 114 = .ok (.getfield 59, 3) := by decide +kernel
theorem dX11_sayBlow_117 : decode cX11_sayBlow 117 = .ok (.iload_n 1, 1) := by decide +kernel
theorem dX11_sayBlow_118 : decode cX11_sayBlow 118 = .ok (.iaload, 1) := by decide +kernel
theorem dX11_sayBlow_119 : decode cX11_sayBlow 119 = .ok (.iadd, 1) := by decide +kernel
theorem dX11_sayBlow_120 : decode cX11_sayBlow 120 = .ok (.istore 4, 2) := by decide +kernel
theorem dX11_sayBlow_122 : decode cX11_sayBlow 122 = .ok (.aload_n 0, 1) := by decide +kernel
theorem dX11_sayBlow_123 : decode cX11_sayBlow 123 = .ok (.getfield 62, 3) := by decide +kernel
theorem dX11_sayBlow_126 : decode cX11_sayBlow 126 = .ok (.iload 4, 2) := by decide +kernel
theorem dX11_sayBlow_128 : decode cX11_sayBlow 128 = .ok (.iload_n 2, 1) := by decide +kernel
theorem dX11_sayBlow_129 : decode cX11_sayBlow 129 = .ok (.iastore, 1) := by decide +kernel
theorem dX11_sayBlow_130 : decode cX11_sayBlow 130 = .ok (.aload_n 0, 1) := by decide +kernel
theorem dX11_sayBlow_131 : decode cX11_sayBlow 131 = .ok (.getfield 65, 3) := by decide +kernel
theorem dX11_sayBlow_134 : decode cX11_sayBlow 134 = .ok (.iload 4, 2) := by decide +kernel
theorem dX11_sayBlow_136 : decode cX11_sayBlow 136 = .ok (.iload_n 3, 1) := by decide +kernel
theorem dX11_sayBlow_137 : decode cX11_sayBlow 137 = .ok (.iastore, 1) := by decide +kernel
theorem dX11_sayBlow_138 : decode cX11_sayBlow 138 = .ok (.aload_n 0, 1) := by decide +kernel
theorem dX11_sayBlow_139 : decode cX11_sayBlow 139 = .ok (.getfield 68, 3) := by decide +kernel
theorem dX11_sayBlow_142 : decode cX11_sayBlow 142 = .ok (.iload 4, 2) := by decide +kernel
theorem dX11_sayBlow_144 : decode cX11_sayBlow 144 = .ok (.aload_n 0, 1) := by decide +kernel
theorem dX11_sayBlow_145 : decode cX11_sayBlow 145 = .ok (.iconst 1, 1) := by decide +kernel
theorem dX11_sayBlow_146 : decode cX11_sayBlow 146 = .ok (.bipush 9, 2) := by decide +kernel
theorem dX11_sayBlow_148 : decode cX11_sayBlow 148 = .ok (.invokevirtual 242, 3) := by decide +kernel
theorem dX11_sayBlow_151 : decode cX11_sayBlow 151 = .ok (.iastore, 1) := by decide +kernel
theorem dX11_sayBlow_152 : decode cX11_sayBlow 152 = .ok (.aload_n 0, 1) := by decide +kernel
theorem dX11_sayBlow_153 : decode cX11_sayBlow 153 = .ok (.getfield 59, 3) := by decide +kernel
theorem dX11_sayBlow_156 : decode cX11_sayBlow 156 = .ok (.iload_n 1, 1) := by decide +kernel
theorem dX11_sayBlow_157 : decode cX11_sayBlow 157 = .ok (.dup2, 1) := by decide +kernel
theorem dX11_sayBlow_158 : decode cX11_sayBlow 158 = .ok (.iaload, 1) := by decide +kernel
theorem dX11_sayBlow_159 : decode cX11_sayBlow 159 = .ok (.iconst 1, 1) := by decide +kernel
theorem dX11_sayBlow_160 : decode cX11_sayBlow 160 = .ok (.iadd, 1) := by decide +kernel
theorem dX11_sayBlow_161 : decode cX11_sayBlow 161 = .ok (.iastore, 1) := by decide +kernel
theorem dX11_sayBlow_162 : decode cX11_sayBlow 162 = .ok (.return_, 1) := by decide +kernel
theorem dX11_sayCalendar_0 : decode cX11_sayCalendar 0 = .ok (.iconst 1, 1) := by decide +kernel
theorem dX11_sayCalendar_1 : decode cX11_sayCalendar 1 = .ok (.istore_n 1, 1) := by decide +kernel
theorem dX11_sayCalendar_2 : decode cX11_sayCalendar 2 = .ok (.aload_n 0, 1) := by decide +kernel
theorem dX11_sayCalendar_3 : decode cX11_sayCalendar 3 = .ok (.getfield 208, 3) := by decide +kernel
theorem dX11_sayCalendar_6 : decode cX11_sayCalendar 6 = .ok (.ifCond .ne 121, 3) := by decide +kernel
theorem dX11_sayCalendar_9 : decode cX11_sayCalendar 9 = .ok (.iload_n 1, 1) := by decide +kernel
theorem dX11_sayCalendar_10 : decode cX11_sayCalendar 10 = .ok (.ifCond .ne 11, 3) := by decide +kernel
theorem dX11_sayCalendar_13 : decode cX11_sayCalendar 13 = .ok (.aload_n 0, 1) := by decide +kernel
theorem dX11_sayCalendar_14 : decode cX11_sayCalendar 14 = .ok (.getfield 182, 3) := by decide +kernel
theorem dX11_sayCalendar_17 : decode cX11_sayCalendar 17 = .ok (.iconst 2, 1) := by decide +kernel
theorem dX11_sayCalendar_18 : decode cX11_sayCalendar 18 = .ok (.if_icmp .ne 109, 3) := by decide +kernel
theorem dX11_sayCalendar_21 : decode cX11_sayCalendar 21 = .ok (.iconst 0, 1) := by decide +kernel
theorem dX11_sayCalendar_22 : decode cX11_sayCalendar 22 = .ok (.istore_n 1, 1) := by decide +kernel
theorem dX11_sayCalendar_23 : decode cX11_sayCalendar 23 = .ok (.aload_n 0, 1) := by decide +kernel
theorem dX11_sayCalendar_24 : decode cX11_sayCalendar 24 = .ok (.getfield 182, 3) := by decide +kernel
theorem dX11_sayCalendar_27 : decode cX11_sayCalendar 27 = .ok (.iconst 2, 1) := by decide +kernel
theorem dX11_sayCalendar_28 : decode cX11_sayCalendar 28 = .ok (.if_icmp .ne 20, 3) := by decide +kernel
theorem dX11_sayCalendar_31 : decode cX11_sayCalendar 31 = .ok (.aload_n 0, 1) := by decide +kernel
theorem dX11_sayCalendar_32 : decode cX11_sayCalendar 32 = .ok (.getfield 36, 3) := by decide +kernel
theorem dX11_sayCalendar_35 : decode cX11_sayCalendar 35 = .ok (.bipush 10, 2) := by decide +kernel
theorem dX11_sayCalendar_37 : decode cX11_sayCalendar 37 = .ok (.iaload, 1) := by decide +kernel
theorem dX11_sayCalendar_38 : decode cX11_sayCalendar 38 = .ok (.bipush 10, 2) := by decide +kernel
theorem dX11_sayCalendar_40 : decode cX11_sayCalendar 40 = .ok (.if_icmp .ne 8, 3) := by decide +kernel
theorem dX11_sayCalendar_43 : decode cX11_sayCalendar 43 = .ok (.aload_n 0, 1) := by decide +kernel
theorem dX11_sayCalendar_44 : decode cX11_sayCalendar 44 = .ok (.iconst 2, 1) := by decide +kernel
theorem dX11_sayCalendar_45 : decode cX11_sayCalendar 45 = .ok (.invokevirtual 229, 3) := by decide +kernel
theorem dX11_sayCalendar_48 : decode cX11_sayCalendar 48 = .ok (.aload_n 0, 1) := by decide +kernel
theorem dX11_sayCalendar_49 : decode cX11_sayCalendar 49 = .ok (.iconst 0, 1) := by decide +kernel
theorem dX11_sayCalendar_50 : decode cX11_sayCalendar 50 = .ok (.sipush 9999, 3) := by decide +kernel
theorem dX11_sayCalendar_53 : decode cX11_sayCalendar 53 = .ok (.invokevirtual 236, 3) := by decide +kernel
theorem dX11_sayCalendar_56 : decode cX11_sayCalendar 56 = .ok (.istore_n 2, 1) := by decide +kernel
theorem dX11_sayCalendar_57 : decode cX11_sayCalendar 57 = .ok (.aload_n 0, 1) := by decide +kernel
theorem dX11_sayCalendar_58 : decode cX11_sayCalendar 58 = .ok (.getfield 208, 3) := by decide +kernel
theorem dX11_sayCalendar_61 : decode cX11_sayCalendar 61 = .ok (.ifCond .ne 24, 3) := by decide +kernel
theorem dX11_sayCalendar_64 : decode cX11_sayCalendar 64 = .ok (.iload_n 2, 1) := by decide +kernel
theorem dX11_sayCalendar_65 : decode cX11_sayCalendar 65 = .ok (.iconst 5, 1) := by decide +kernel
theorem dX11_sayCalendar_66 : decode cX11_sayCalendar 66 = .ok (.if_icmp .eq 19, 3) := by decide +kernel
theorem dX11_sayCalendar_69 : decode cX11_sayCalendar 69 = .ok (.iload_n 2, 1) := by decide +kernel
theorem dX11_sayCalendar_70 : decode cX11_sayCalendar 70 = .ok (.aload_n 0, 1) := by decide +kernel
theorem dX11_sayCalendar_71 : decode cX11_sayCalendar 71 = .ok (.getfield 36, 3) := by decide +kernel
theorem dX11_sayCalendar_74 : decode cX11_sayCalendar 74 = .ok (.bipush 9, 2) := by decide +kernel
theorem dX11_sayCalendar_76 : decode cX11_sayCalendar 76 = .ok (.iaload, 1) := by decide +kernel
theorem dX11_sayCalendar_77 : decode cX11_sayCalendar 77 = .ok (.if_icmp .lt 8, 3) := by decide +kernel
theorem dX11_sayCalendar_80 : decode cX11_sayCalendar 80 = .ok (.aload_n 0, 1) := by decide +kernel
theorem dX11_sayCalendar_81 : decode cX11_sayCalendar 81 = .ok (.iconst 3, 1) := by decide +kernel
theorem dX11_sayCalendar_82 : decode cX11_sayCalendar 82 = .ok (.invokevirtual 229, 3) := by decide +kernel
theorem dX11_sayCalendar_85 : decode cX11_sayCalendar 85 = .ok (.aload_n 0, 1) := by decide +kernel
theorem dX11_sayCalendar_86 : decode cX11_sayCalendar 86 = .ok (.getfield 208, 3) := by decide +kernel
theorem dX11_sayCalendar_89 : decode cX11_sayCalendar 89 = .ok (.ifCond .eq 4, 3) := by decide +kernel
theorem dX11_sayCalendar_92 : decode cX11_sayCalendar 92 = .ok (.return_, 1) := by decide +kernel
theorem dX11_sayCalendar_93 : decode cX11_sayCalendar 93 = .ok (.aload_n 0, 1) := by decide +kernel
theorem dX11_sayCalendar_94 : decode cX11_sayCalendar 94 = .ok (.invokevirtual 233, 3) := by decide +kernel
theorem dX11_sayCalendar_97 : decode cX11_sayCalendar 97 = .ok (.aload_n 0, 1) := by decide +kernel
theorem dX11_sayCalendar_98 : decode cX11_sayCalendar 98 = .ok (.getfield 71, 3) := by decide +kernel
theorem dX11_sayCalendar_101 : decode cX11_sayCalendar 101 = .ok (.bipush 10, 2) := by decide +kernel
theorem dX11_sayCalendar_103 : decode cX11_sayCalendar 103 = .ok (.aload_n 0, 1) := by decide +kernel
theorem dX11_sayCalendar_104 : decode cX11_sayCalendar 104 = .ok (.getfield 36, 3) := by decide +kernel
theorem dX11_sayCalendar_107 : decode cX11_sayCalendar 107 = .ok (.bipush 10, 2) := by decide +kernel
theorem dX11_sayCalendar_109 : decode cX11_sayCalendar 109 = .ok (.iaload, 1) := by decide +kernel
theorem dX11_sayCalendar_110 : decode cX11_sayCalendar 110 = .ok (.iadd, 1) := by decide +kernel
theorem dX11_sayCalendar_111 : decode cX11_sayCalendar 111 = .ok (.iload_n 2, 1) := by decide +kernel
theorem dX11_sayCalendar_112 : decode cX11_sayCalendar 112 = .ok (.iastore, 1) := by decide +kernel
theorem dX11_sayCalendar_113 : decode cX11_sayCalendar 113 = .ok (.aload_n 0, 1) := by decide +kernel
theorem dX11_sayCalendar_114 : decode cX11_sayCalendar 114 = .ok (.getfield 36, 3) := by decide +kernel
theorem dX11_sayCalendar_117 : decode cX11_sayCalendar 117 = .ok (.bipush 10, 2) := by decide +kernel
theorem dX11_sayCalendar_119 : decode cX11_sayCalendar 119 = .ok (.dup2, 1) := by decide +kernel
theorem dX11_sayCalendar_120 : decode cX11_sayCalendar 120 = .ok (.iaload, 1) := by decide +kernel
theorem dX11_sayCalendar_121 : decode cX11_sayCalendar 121 = .ok (.iconst 1, 1) := by decide +kernel
theorem dX11_sayCalendar_122 : decode cX11_sayCalendar 122 = .ok (.iadd, 1) := by decide +kernel
theorem dX11_sayCalendar_123 : decode cX11_sayCalendar 123 = .ok (.iastore, 1) := by decide +kernel
theorem dX11_sayCalendar_124 : decode cX11_sayCalendar 124 = .ok (.goto (-122), 3) := by decide +kernel
theorem dX11_sayCalendar_127 : decode cX11_sayCalendar 127 = .ok (.return_, 1) := by decide +kernel
theorem dX11_readLine_0 : decode cX11_readLine 0 = .ok (.aload_n 0, 1) := by decide +kernel
theorem dX11_readLine_1 : decode cX11_readLine 1 = .ok (.ldc_w 292, 3) := by decide +kernel
theorem dX11_readLine_4 : decode cX11_readLine 4 = .ok (.invokevirtual 222, 3) := by decide +kernel
theorem dX11_readLine_7 : decode cX11_readLine 7 = .ok (.ifCond .eq 7, 3) := by decide +kernel
theorem dX11_readLine_10 : decode cX11_readLine 10 = .ok (.iconst 1, 1) := by decide +kernel
theorem dX11_readLine_11 : decode cX11_readLine 11 = .ok (.goto 47, 3) := by decide +kernel
theorem dX11_readLine_14 : decode cX11_readLine 14 = .ok (.aload_n 0, 1) := by decide +kernel
theorem dX11_readLine_15 : decode cX11_readLine 15 = .ok (.ldc_w 293, 3) := by decide +kernel
theorem dX11_readLine_18 : decode cX11_readLine 18 = .ok (.invokevirtual 222, 3) := by decide +kernel
theorem dX11_readLine_21 : decode cX11_readLine 21 = .ok (.ifCond .eq 7, 3) := by decide +kernel
theorem dX11_readLine_24 : decode cX11_readLine 24 = .ok (.iconst 2, 1) := by decide +kernel
theorem dX11_readLine_25 : decode cX11_readLine 25 = .ok (.goto 33, 3) := by decide +kernel
theorem dX11_readLine_28 : decode cX11_readLine 28 = .ok (.aload_n 0, 1) := by decide +kernel
theorem dX11_readLine_29 : decode cX11_readLine 29 = .ok (.ldc_w 295, 3) := by decide +kernel
theorem dX11_readLine_32 : decode cX11_readLine 32 = .ok (.invokevirtual 222, 3) := by decide +kernel
theorem dX11_readLine_35 : decode cX11_readLine 35 = .ok (.ifCond .eq 7, 3) := by decide +kernel
theorem dX11_readLine_38 : decode cX11_readLine 38 = .ok (.iconst 4, 1) := by decide +kernel
theorem dX11_readLine_39 : decode cX11_readLine 39 = .ok (.goto 19, 3) := by decide +kernel
theorem dX11_readLine_42 : decode cX11_readLine 42 = .ok (.aload_n 0, 1) := by decide +kernel
theorem dX11_readLine_43 : decode cX11_readLine 43 = .ok (.ldc_w 297, 3) := by decide +kernel
theorem dX11_readLine_46 : decode cX11_readLine 46 = .ok (.invokevirtual 222, 3) := by decide +kernel
theorem dX11_readLine_49 : decode cX11_readLine 49 = .ok (.ifCond .eq 8, 3) := by decide +kernel
theorem dX11_readLine_52 : decode cX11_readLine 52 = .ok (.bipush 8, 2) := by decide +kernel
theorem dX11_readLine_54 : decode cX11_readLine 54 = .ok (.goto 4, 3) := by decide +kernel
theorem dX11_readLine_57 : decode cX11_readLine 57 = .ok (.iconst 0, 1) := by decide +kernel
theorem dX11_readLine_58 : decode cX11_readLine 58 = .ok (.istore_n 2, 1) := by decide +kernel
theorem dX11_readLine_59 : decode cX11_readLine 59 = .ok (.aload_n 0, 1) := by decide +kernel
theorem dX11_readLine_60 : decode cX11_readLine 60 = .ok (.aload_n 0, 1) := by decide +kernel
theorem dX11_readLine_61 : decode cX11_readLine 61 = .ok (.getfield 17, 3) := by decide +kernel
theorem dX11_readLine_64 : decode cX11_readLine 64 = .ok (.invokevirtual 248, 3) := by decide +kernel
theorem dX11_readLine_67 : decode cX11_readLine 67 = .ok (.istore_n 3, 1) := by decide +kernel
theorem dX11_readLine_68 : decode cX11_readLine 68 = .ok (.iload_n 2, 1) := by decide +kernel
theorem dX11_readLine_69 : decode cX11_readLine 69 = .ok (.iload_n 1, 1) := by decide +kernel
theorem dX11_readLine_70 : decode cX11_readLine 70 = .ok (.iand, 1) := by decide +kernel
theorem dX11_readLine_71 : decode cX11_readLine 71 = .ok (.ifCond .eq 8, 3) := by decide +kernel
theorem dX11_readLine_74 : decode cX11_readLine 74 = .ok (.aload_n 0, 1) := by decide +kernel
theorem dX11_readLine_75 : decode cX11_readLine 75 = .ok (.iconst 5, 1) := by decide +kernel
theorem dX11_readLine_76 : decode cX11_readLine 76 = .ok (.invokevirtual 229, 3) := by decide +kernel
theorem dX11_readLine_79 : decode cX11_readLine 79 = .ok (.iload_n 2, 1) := by decide +kernel
theorem dX11_readLine_80 : decode cX11_readLine 80 = .ok (.ifCond .le 79, 3) := by decide +kernel
theorem dX11_readLine_83 : decode cX11_readLine 83 = .ok (.aload_n 0, 1) := by decide +kernel
theorem dX11_readLine_84 : decode cX11_readLine 84 = .ok (.getfield 208, 3) := by decide +kernel
theorem dX11_readLine_87 : decode cX11_readLine 87 = .ok (.ifCond .ne 7, 3) := by decide +kernel
theorem dX11_readLine_90 : decode cX11_readLine 90 = .ok (.aload_n 0, 1) := by decide +kernel
theorem dX11_readLine_91 : decode cX11_readLine 91 = .ok (.invokevirtual 233, 3) := by decide +kernel
theorem dX11_readLine_94 : decode cX11_readLine 94 = .ok (.iload_n 2, 1) := by decide +kernel
theorem dX11_readLine_95 : decode cX11_readLine 95 = .ok (.iconst 1, 1) := by decide +kernel
theorem dX11_readLine_96 : decode cX11_readLine 96 = .ok (.if_icmp .ne 10, 3) := by decide +kernel
theorem dX11_readLine_99 : decode cX11_readLine 99 = .ok (.aload_n 0, 1) := by decide +kernel
theorem dX11_readLine_100 : decode cX11_readLine 100 = .ok (.invokevirtual 299, 3) := by decide +kernel
theorem dX11_readLine_103 : decode cX11_readLine 103 = .ok (.goto 125, 3) := by decide +kernel
theorem dX11_readLine_106 : decode cX11_readLine 106 = .ok (.iload_n 2, 1) := by decide +kernel
theorem dX11_readLine_107 : decode cX11_readLine 107 = .ok (.iconst 2, 1) := by decide +kernel
theorem dX11_readLine_108 : decode cX11_readLine 108 = .ok (.if_icmp .ne 20, 3) := by decide +kernel
theorem dX11_readLine_111 : decode cX11_readLine 111 = .ok (.aload_n 0, 1) := by decide +kernel
theorem dX11_readLine_112 : decode cX11_readLine 112 = .ok (.getfield 36, 3) := by decide +kernel
theorem dX11_readLine_115 : decode cX11_readLine 115 = .ok (.bipush 11, 2) := by decide +kernel
theorem dX11_readLine_117 : decode cX11_readLine 117 = .ok (.aload_n 0, 1) := by decide +kernel
theorem dX11_readLine_118 : decode cX11_readLine 118 = .ok (.iconst 1, 1) := by decide +kernel
theorem dX11_readLine_119 : decode cX11_readLine 119 = .ok (.bipush 30, 2) := by decide +kernel
theorem dX11_readLine_121 : decode cX11_readLine 121 = .ok (.invokevirtual 242, 3) := by decide +kernel
theorem dX11_readLine_124 : decode cX11_readLine 124 = .ok (.iastore, 1) := by decide +kernel
theorem dX11_readLine_125 : decode cX11_readLine 125 = .ok (.goto 103, 3) := by decide +kernel
theorem dX11_readLine_128 : decode cX11_readLine 128 = .ok (.iload_n 2, 1) := by decide +kernel
theorem dX11_readLine_129 : decode cX11_readLine 129 = .ok (.iconst 4, 1) := by decide +kernel
theorem dX11_readLine_130 : decode cX11_readLine 130 = .ok (.if_icmp .ne 21, 3) := by decide +kernel
theorem dX11_readLine_133 : decode cX11_readLine 133 = .ok (.aload_n 0, 1) := by decide +kernel
theorem dX11_readLine_134 : decode cX11_readLine 134 = .ok (.getfield 36, 3) := by decide +kernel
theorem dX11_readLine_137 : decode cX11_readLine 137 = .ok (.bipush 12, 2) := by decide +kernel
theorem dX11_readLine_139 : decode cX11_readLine 139 = .ok (.aload_n 0, 1) := by decide +kernel
theorem dX11_readLine_140 : decode cX11_readLine 140 = .ok (.iconst 0, 1) := by decide +kernel
theorem dX11_readLine_141 : decode cX11_readLine 141 = .ok (.sipush 999, 3) := by decide +kernel
theorem dX11_readLine_144 : decode cX11_readLine 144 = .ok (.invokevirtual 242, 3) := by decide +kernel
theorem dX11_readLine_147 : decode cX11_readLine 147 = .ok (.iastore, 1) := by decide +kernel
theorem dX11_readLine_148 : decode cX11_readLine 148 = .ok (.goto 80, 3) := by decide +kernel
theorem dX11_readLine_151 : decode cX11_readLine 151 = .ok (.aload_n 0, 1) := by decide +kernel
theorem dX11_readLine_152 : decode cX11_readLine 152 = .ok (.iconst 0, 1) := by decide +kernel
theorem dX11_readLine_153 : decode cX11_readLine 153 = .ok (.invokevirtual 255, 3) := by decide +kernel
theorem dX11_readLine_156 : decode cX11_readLine 156 = .ok (.goto 72, 3) := by decide +kernel
theorem dX11_readLine_159 : decode cX11_readLine 159 = .ok (.iload_n 3, 1) := by decide +kernel
theorem dX11_readLine_160 : decode cX11_readLine 160 = .ok (.iconst (-1), 1) := by decide +kernel
theorem dX11_readLine_161 : decode cX11_readLine 161 = .ok (.if_icmp .eq 11, 3) := by decide +kernel
theorem dX11_readLine_164 : decode cX11_readLine 164 = .ok (.aload_n 0, 1) := by decide +kernel
theorem dX11_readLine_165 : decode cX11_readLine 165 = .ok (.iload_n 3, 1) := by decide +kernel
theorem dX11_readLine_166 : decode cX11_readLine 166 = .ok (.invokevirtual 302, 3) := by decide +kernel
theorem dX11_readLine_169 : decode cX11_readLine 169 = .ok (.goto 59, 3) := by decide +kernel
theorem dX11_readLine_172 : decode cX11_readLine 172 = .ok (.aload_n 0, 1) := by decide +kernel
theorem dX11_readLine_173 : decode cX11_readLine 173 = .ok (.ldc_w 305, 3) := by decide +kernel
theorem dX11_readLine_176 : decode cX11_readLine 176 = .ok (.invokevirtual 222, 3) := by decide +kernel
theorem dX11_readLine_179 : decode cX11_readLine 179 = .ok (.ifCond .eq 10, 3) := by decide +kernel
theorem dX11_readLine_182 : decode cX11_readLine 182 = .ok (.aload_n 0, 1) := by decide +kernel
theorem dX11_readLine_183 : decode cX11_readLine 183 = .ok (.invokevirtual 307, 3) := by decide +kernel
theorem dX11_readLine_186 : decode cX11_readLine 186 = .ok (.goto 42, 3) := by decide +kernel
theorem dX11_readLine_189 : decode cX11_readLine 189 = .ok (.aload_n 0, 1) := by decide +kernel
theorem dX11_readLine_190 : decode cX11_readLine 190 = .ok (.ldc_w 310, 3) := by decide +kernel
theorem dX11_readLine_193 : decode cX11_readLine 193 = .ok (.invokevirtual 222, 3) := by decide +kernel
theorem dX11_readLine_196 : decode cX11_readLine 196 = .ok (.ifCond .eq 10, 3) := by decide +kernel
theorem dX11_readLine_199 : decode cX11_readLine 199 = .ok (.aload_n 0, 1) := by decide +kernel
theorem dX11_readLine_200 : decode cX11_readLine 200 = .ok (.invokevirtual 312, 3) := by decide +kernel
theorem dX11_readLine_203 : decode cX11_readLine 203 = .ok (.goto 25, 3) := by decide +kernel
theorem dX11_readLine_206 : decode cX11_readLine 206 = .ok (.aload_n 0, 1) := by decide +kernel
theorem dX11_readLine_207 : decode cX11_readLine 207 = .ok (.ldc_w 315, 3) := by decide +kernel
theorem dX11_readLine_210 : decode cX11_readLine 210 = .ok (.invokevirtual 222, 3) := by decide +kernel
theorem dX11_readLine_213 : decode cX11_readLine 213 = .ok (.ifCond .eq 10, 3) := by decide +kernel
theorem dX11_readLine_216 : decode cX11_readLine 216 = .ok (.aload_n 0, 1) := by decide +kernel
theorem dX11_readLine_217 : decode cX11_readLine 217 = .ok (.invokevirtual 317, 3) := by decide +kernel
theorem dX11_readLine_220 : decode cX11_readLine 220 = .ok (.goto 8, 3) := by decide +kernel
theorem dX11_readLine_223 : decode cX11_readLine 223 = .ok (.aload_n 0, 1) := by decide +kernel
theorem dX11_readLine_224 : decode cX11_readLine 224 = .ok (.iconst 1, 1) := by decide +kernel
theorem dX11_readLine_225 : decode cX11_readLine 225 = .ok (.invokevirtual 229, 3) := by decide +kernel
theorem dX11_readLine_228 : decode cX11_readLine 228 = .ok (.aload_n 0, 1) := by decide +kernel
theorem dX11_readLine_229 : decode cX11_readLine 229 = .ok (.bipush 59, 2) := by decide +kernel
theorem dX11_readLine_231 : decode cX11_readLine 231 = .ok (.invokevirtual 252, 3) := by decide +kernel
theorem dX11_readLine_234 : decode cX11_readLine 234 = .ok (.iload_n 1, 1) := by decide +kernel
theorem dX11_readLine_235 : decode cX11_readLine 235 = .ok (.iload_n 2, 1) := by decide +kernel
theorem dX11_readLine_236 : decode cX11_readLine 236 = .ok (.ior, 1) := by decide +kernel
theorem dX11_readLine_237 : decode cX11_readLine 237 = .ok (.ireturn, 1) := by decide +kernel
theorem dX11_parish_0 : decode cX11_parish 0 = .ok (.aload_n 0, 1) := by decide +kernel
theorem dX11_parish_1 : decode cX11_parish 1 = .ok (.iconst 0, 1) := by decide +kernel
theorem dX11_parish_2 : decode cX11_parish 2 = .ok (.putfield 157, 3) := by decide +kernel
theorem dX11_parish_5 : decode cX11_parish 5 = .ok (.iload_n 1, 1) := by decide +kernel
theorem dX11_parish_6 : decode cX11_parish 6 = .ok (.ifCond .lt 11, 3) := by decide +kernel
theorem dX11_parish_9 : decode cX11_parish 9 = .ok (.iload_n 1, 1) := by decide +kernel
theorem dX11_parish_10 : decode cX11_parish 10 = .ok (.aload_n 0, 1) := by decide +kernel
theorem dX11_parish_11 : decode cX11_parish 11 = .ok (.getfield 166, 3) := by decide +kernel
theorem dX11_parish_14 : decode cX11_parish 14 = .ok (.if_icmp .le 9, 3) := by decide +kernel
theorem dX11_parish_17 : decode cX11_parish 17 = .ok (.aload_n 0, 1) := by decide +kernel
theorem dX11_parish_18 : decode cX11_parish 18 = .ok (.iconst 1, 1) := by decide +kernel
theorem dX11_parish_19 : decode cX11_parish 19 = .ok (.invokevirtual 320, 3) := by decide +kernel
theorem dX11_parish_22 : decode cX11_parish 22 = .ok (.ireturn, 1) := by decide +kernel
theorem dX11_parish_23 : decode cX11_parish 23 = .ok (.aload_n 0, 1) := by decide +kernel
theorem dX11_parish_24 : decode cX11_parish 24 = .ok (.iconst 0, 1) := by decide +kernel
theorem dX11_parish_25 : decode cX11_parish 25 = .ok (.putfield 166, 3) := by decide +kernel
theorem dX11_parish_28 : decode cX11_parish 28 = .ok (.aload_n 0, 1) := by decide +kernel
theorem dX11_parish_29 : decode cX11_parish 29 = .ok (.iload_n 1, 1) := by decide +kernel
theorem dX11_parish_30 : decode cX11_parish 30 = .ok (.putfield 169, 3) := by decide +kernel
theorem dX11_parish_33 : decode cX11_parish 33 = .ok (.aload_n 0, 1) := by decide +kernel
theorem dX11_parish_34 : decode cX11_parish 34 = .ok (.iconst 0, 1) := by decide +kernel
theorem dX11_parish_35 : decode cX11_parish 35 = .ok (.putfield 172, 3) := by decide +kernel
theorem dX11_parish_38 : decode cX11_parish 38 = .ok (.aload_n 0, 1) := by decide +kernel
theorem dX11_parish_39 : decode cX11_parish 39 = .ok (.iconst 0, 1) := by decide +kernel
theorem dX11_parish_40 : decode cX11_parish 40 = .ok (.putfield 208, 3) := by decide +kernel
theorem dX11_parish_43 : decode cX11_parish 43 = .ok (.aload_n 0, 1) := by decide +kernel
theorem dX11_parish_44 : decode cX11_parish 44 = .ok (.iconst (-1), 1) := by decide +kernel
theorem dX11_parish_45 : decode cX11_parish 45 = .ok (.putfield 83, 3) := by decide +kernel
theorem dX11_parish_48 : decode cX11_parish 48 = .ok (.iconst 0, 1) := by decide +kernel
theorem dX11_parish_49 : decode cX11_parish 49 = .ok (.istore_n 2, 1) := by decide +kernel
theorem dX11_parish_50 : decode cX11_parish 50 = .ok (.iload_n 2, 1) := by decide +kernel
theorem dX11_parish_51 : decode cX11_parish 51 = .ok (.bipush 7, 2) := by decide +kernel
theorem dX11_parish_53 : decode cX11_parish 53 = .ok (.if_icmp .ge 39, 3) := by decide +kernel
theorem dX11_parish_56 : decode cX11_parish 56 = .ok (.aload_n 0, 1) := by decide +kernel
theorem dX11_parish_57 : decode cX11_parish 57 = .ok (.getfield 36, 3) := by decide +kernel
theorem dX11_parish_60 : decode cX11_parish 60 = .ok (.bipush 7, 2) := by decide +kernel
theorem dX11_parish_62 : decode cX11_parish 62 = .ok (.iload_n 2, 1) := by decide +kernel
theorem dX11_parish_63 : decode cX11_parish 63 = .ok (.iadd, 1) := by decide +kernel
theorem dX11_parish_64 : decode cX11_parish 64 = .ok (.iload_n 2, 1) := by decide +kernel
theorem dX11_parish_65 : decode cX11_parish 65 = .ok (.iconst 4, 1) := by decide +kernel
theorem dX11_parish_66 : decode cX11_parish 66 = .ok (.if_icmp .ne 8, 3) := by decide +kernel
theorem dX11_parish_69 : decode cX11_parish 69 = .ok (.bipush 7, 2) := by decide +kernel
theorem dX11_parish_71 : decode cX11_parish 71 = .ok (.goto 14, 3) := by decide +kernel
theorem dX11_parish_74 : decode cX11_parish 74 = .ok (.iload_n 2, 1) := by decide +kernel
theorem dX11_parish_75 : decode cX11_parish 75 = .ok (.iconst 5, 1) := by decide +kernel
theorem dX11_parish_76 : decode cX11_parish 76 = .ok (.if_icmp .ne 8, 3) := by decide +kernel
theorem dX11_parish_79 : decode cX11_parish 79 = .ok (.bipush 10, 2) := by decide +kernel
theorem dX11_parish_81 : decode cX11_parish 81 = .ok (.goto 4, 3) := by decide +kernel
theorem dX11_parish_84 : decode cX11_parish 84 = .ok (.iconst 0, 1) := by decide +kernel
theorem dX11_parish_85 : decode cX11_parish 85 = .ok (.iastore, 1) := by decide +kernel
theorem dX11_parish_86 : decode cX11_parish 86 = .ok (.iinc 2 1, 3) := by decide +kernel
theorem dX11_parish_89 : decode cX11_parish 89 = .ok (.goto (-39), 3) := by decide +kernel
theorem dX11_parish_92 : decode cX11_parish 92 = .ok (.aload_n 0, 1) := by decide +kernel
theorem dX11_parish_93 : decode cX11_parish 93 = .ok (.invokevirtual 233, 3) := by decide +kernel
theorem dX11_parish_96 : decode cX11_parish 96 = .ok (.iconst 0, 1) := by decide +kernel
theorem dX11_parish_97 : decode cX11_parish 97 = .ok (.istore_n 2, 1) := by decide +kernel
theorem dX11_parish_98 : decode cX11_parish 98 = .ok (.aload_n 0, 1) := by decide +kernel
theorem dX11_parish_99 : decode cX11_parish 99 = .ok (.getfield 208, 3) := by decide +kernel
theorem dX11_parish_102 : decode cX11_parish 102 = .ok (.ifCond .ne 19, 3) := by decide +kernel
theorem dX11_parish_105 : decode cX11_parish 105 = .ok (.aload_n 0, 1) := by decide +kernel
theorem dX11_parish_106 : decode cX11_parish 106 = .ok (.getfield 182, 3) := by decide +kernel
theorem dX11_parish_109 : decode cX11_parish 109 = .ok (.ifCond .eq 12, 3) := by decide +kernel
theorem dX11_parish_112 : decode cX11_parish 112 = .ok (.aload_n 0, 1) := by decide +kernel
theorem dX11_parish_113 : decode cX11_parish 113 = .ok (.iload_n 2, 1) := by decide +kernel
theorem dX11_parish_114 : decode cX11_parish 114 = .ok (.invokevirtual 323, 3) := by decide +kernel
theorem dX11_parish_117 : decode cX11_parish 117 = .ok (.istore_n 2, 1) := by decide +kernel
theorem dX11_parish_118 : decode cX11_parish 118 = .ok (.goto (-20), 3) := by decide +kernel
theorem dX11_parish_121 : decode cX11_parish 121 = .ok (.aload_n 0, 1) := by decide +kernel
theorem dX11_parish_122 : decode cX11_parish 122 = .ok (.getfield 208, 3) := by decide +kernel
theorem dX11_parish_125 : decode cX11_parish 125 = .ok (.ifCond .eq 26, 3) := by decide +kernel
theorem dX11_parish_128 : decode cX11_parish 128 = .ok (.aload_n 0, 1) := by decide +kernel
theorem dX11_parish_129 : decode cX11_parish 129 = .ok (.aload_n 0, 1) := by decide +kernel
theorem dX11_parish_130 : decode cX11_parish 130 = .ok (.getfield 211, 3) := by decide +kernel
theorem dX11_parish_133 : decode cX11_parish 133 = .ok (.putfield 83, 3) := by decide +kernel
theorem dX11_parish_136 : decode cX11_parish 136 = .ok (.aload_n 0, 1) := by decide +kernel
theorem dX11_parish_137 : decode cX11_parish 137 = .ok (.getfield 77, 3) := by decide +kernel
theorem dX11_parish_140 : decode cX11_parish 140 = .ok (.iconst 0, 1) := by decide +kernel
theorem dX11_parish_141 : decode cX11_parish 141 = .ok (.dup2, 1) := by decide +kernel
theorem dX11_parish_142 : decode cX11_parish 142 = .ok (.iaload, 1) := by decide +kernel
theorem dX11_parish_143 : decode cX11_parish 143 = .ok (.iconst 1, 1) := by decide +kernel
theorem dX11_parish_144 : decode cX11_parish 144 = .ok (.iadd, 1) := by decide +kernel
theorem dX11_parish_145 : decode cX11_parish 145 = .ok (.iastore, 1) := by decide +kernel
theorem dX11_parish_146 : decode cX11_parish 146 = .ok (.aload_n 0, 1) := by decide +kernel
theorem dX11_parish_147 : decode cX11_parish 147 = .ok (.getfield 208, 3) := by decide +kernel
theorem dX11_parish_150 : decode cX11_parish 150 = .ok (.ireturn, 1) := by decide +kernel
theorem dX11_parish_151 : decode cX11_parish 151 = .ok (.aload_n 0, 1) := by decide +kernel
theorem dX11_parish_152 : decode cX11_parish 152 = .ok (.invokevirtual 326, 3) := by decide +kernel
theorem dX11_parish_155 : decode cX11_parish 155 = .ok (.iconst 0, 1) := by decide +kernel
theorem dX11_parish_156 : decode cX11_parish 156 = .ok (.ireturn, 1) := by decide +kernel
theorem dX11_takeHalf_0 : decode cX11_takeHalf 0 = .ok (.iconst 0, 1) := by decide +kernel
theorem dX11_takeHalf_1 : decode cX11_takeHalf 1 = .ok (.istore_n 1, 1) := by decide +kernel
theorem dX11_takeHalf_2 : decode cX11_takeHalf 2 = .ok (.iload_n 1, 1) := by decide +kernel
theorem dX11_takeHalf_3 : decode cX11_takeHalf 3 = .ok (.aload_n 0, 1) := by decide +kernel
theorem dX11_takeHalf_4 : decode cX11_takeHalf 4 = .ok (.arraylength, 1) := by decide +kernel
theorem dX11_takeHalf_5 : decode cX11_takeHalf 5 = .ok (.iconst 2, 1) := by decide +kernel
theorem dX11_takeHalf_6 : decode cX11_takeHalf 6 = .ok (.idiv, 1) := by decide +kernel
theorem dX11_takeHalf_7 : decode cX11_takeHalf 7 = .ok (.if_icmp .ge 20, 3) := by decide +kernel
theorem dX11_takeHalf_10 : decode cX11_takeHalf 10 = .ok (.aload_n 0, 1) := by decide +kernel
theorem dX11_takeHalf_11 : decode cX11_takeHalf 11 = .ok (.iload_n 1, 1) := by decide +kernel
theorem dX11_takeHalf_12 : decode cX11_takeHalf 12 = .ok (.aload_n 0, 1) := by decide +kernel
theorem dX11_takeHalf_13 : decode cX11_takeHalf 13 = .ok (.aload_n 0, 1) := by decide +kernel
theorem dX11_takeHalf_14 : decode cX11_takeHalf 14 = .ok (.arraylength, 1) := by decide +kernel
theorem dX11_takeHalf_15 : decode cX11_takeHalf 15 = .ok (.iconst 2, 1) := by decide +kernel
theorem dX11_takeHalf_16 : decode cX11_takeHalf 16 = .ok (.idiv, 1) := by decide +kernel
theorem dX11_takeHalf_17 : decode cX11_takeHalf 17 = .ok (.iload_n 1, 1) := by decide +kernel
theorem dX11_takeHalf_18 : decode cX11_takeHalf 18 = .ok (.iadd, 1) := by decide +kernel
theorem dX11_takeHalf_19 : decode cX11_takeHalf 19 = .ok (.iaload, 1) := by decide +kernel
theorem dX11_takeHalf_20 : decode cX11_takeHalf 20 = .ok (.iastore, 1) := by decide +kernel
theorem dX11_takeHalf_21 : decode cX11_takeHalf 21 = .ok (.iinc 1 1, 3) := by decide +kernel
theorem dX11_takeHalf_24 : decode cX11_takeHalf 24 = .ok (.goto (-22), 3) := by decide +kernel
theorem dX11_takeHalf_27 : decode cX11_takeHalf 27 = .ok (.return_, 1) := by decide +kernel
theorem dX11_takeOver_0 : decode cX11_takeOver 0 = .ok (.aload_n 0, 1) := by decide +kernel
theorem dX11_takeOver_1 : decode cX11_takeOver 1 = .ok (.getfield 36, 3) := by decide +kernel
theorem dX11_takeOver_4 : decode cX11_takeOver 4 = .ok (.invokestatic 329, 3) := by decide +kernel
theorem dX11_takeOver_7 : decode cX11_takeOver 7 = .ok (.aload_n 0, 1) := by decide +kernel
theorem dX11_takeOver_8 : decode cX11_takeOver 8 = .ok (.getfield 40, 3) := by decide +kernel
theorem dX11_takeOver_11 : decode cX11_takeOver 11 = .ok (.invokestatic 329, 3) := by decide +kernel
theorem dX11_takeOver_14 : decode cX11_takeOver 14 = .ok (.aload_n 0, 1) := by decide +kernel
theorem dX11_takeOver_15 : decode cX11_takeOver 15 = .ok (.getfield 42, 3) := by decide +kernel
theorem dX11_takeOver_18 : decode cX11_takeOver 18 = .ok (.invokestatic 329, 3) := by decide +kernel
theorem dX11_takeOver_21 : decode cX11_takeOver 21 = .ok (.aload_n 0, 1) := by decide +kernel
theorem dX11_takeOver_22 : decode cX11_takeOver 22 = .ok (.getfield 44, 3) := by decide +kernel
theorem dX11_takeOver_25 : decode cX11_takeOver 25 = .ok (.invokestatic 329, 3) := by decide +kernel
theorem dX11_takeOver_28 : decode cX11_takeOver 28 = .ok (.aload_n 0, 1) := by decide +kernel
theorem dX11_takeOver_29 : decode cX11_takeOver 29 = .ok (.getfield 47, 3) := by decide +kernel
theorem dX11_takeOver_32 : decode cX11_takeOver 32 = .ok (.invokestatic 329, 3) := by decide +kernel
theorem dX11_takeOver_35 : decode cX11_takeOver 35 = .ok (.aload_n 0, 1) := by decide +kernel
theorem dX11_takeOver_36 : decode cX11_takeOver 36 = .ok (.getfield 50, 3) := by decide +kernel
theorem dX11_takeOver_39 : decode cX11_takeOver 39 = .ok (.invokestatic 329, 3) := by decide +kernel
theorem dX11_takeOver_42 : decode cX11_takeOver 42 = .ok (.aload_n 0, 1) := by decide +kernel
theorem dX11_takeOver_43 : decode cX11_takeOver 43 = .ok (.getfield 53, 3) := by decide +kernel
theorem dX11_takeOver_46 : decode cX11_takeOver 46 = .ok (.invokestatic 329, 3) := by decide +kernel
theorem dX11_takeOver_49 : decode cX11_takeOver 49 = .ok (.aload_n 0, 1) := by decide +kernel
theorem dX11_takeOver_50 : decode cX11_takeOver 50 = .ok (.getfield 56, 3) := by decide +kernel
theorem dX11_takeOver_53 : decode cX11_takeOver 53 = .ok (.invokestatic 329, 3) := by decide +kernel
theorem dX11_takeOver_56 : decode cX11_takeOver 56 = .ok (.aload_n 0, 1) := by decide +kernel
theorem dX11_takeOver_57 : decode cX11_takeOver 57 = .ok (.getfield 59, 3) := by decide +kernel
theorem dX11_takeOver_60 : decode cX11_takeOver 60 = .ok (.invokestatic 329, 3) := by decide +kernel
theorem dX11_takeOver_63 : decode cX11_takeOver 63 = .ok (.aload_n 0, 1) := by decide +kernel
theorem dX11_takeOver_64 : decode cX11_takeOver 64 = .ok (.getfield 62, 3) := by decide +kernel
theorem dX11_takeOver_67 : decode cX11_takeOver 67 = .ok (.invokestatic 329, 3) := by decide +kernel
theorem dX11_takeOver_70 : decode cX11_takeOver 70 = .ok (.aload_n 0, 1) := by decide +kernel
theorem dX11_takeOver_71 : decode cX11_takeOver 71 = .ok (.getfield 65, 3) := by decide +kernel
theorem dX11_takeOver_74 : decode cX11_takeOver 74 = .ok (.invokestatic 329, 3) := by decide +kernel
theorem dX11_takeOver_77 : decode cX11_takeOver 77 = .ok (.aload_n 0, 1) := by decide +kernel
theorem dX11_takeOver_78 : decode cX11_takeOver 78 = .ok (.getfield 68, 3) := by decide +kernel
theorem dX11_takeOver_81 : decode cX11_takeOver 81 = .ok (.invokestatic 329, 3) := by decide +kernel
theorem dX11_takeOver_84 : decode cX11_takeOver 84 = .ok (.aload_n 0, 1) := by decide +kernel
theorem dX11_takeOver_85 : decode cX11_takeOver 85 = .ok (.getfield 71, 3) := by decide +kernel
theorem dX11_takeOver_88 : decode cX11_takeOver 88 = .ok (.invokestatic 329, 3) := by decide +kernel
theorem dX11_takeOver_91 : decode cX11_takeOver 91 = .ok (.aload_n 0, 1) := by decide +kernel
theorem dX11_takeOver_92 : decode cX11_takeOver 92 = .ok (.getfield 74, 3) := by decide +kernel
theorem dX11_takeOver_95 : decode cX11_takeOver 95 = .ok (.invokestatic 329, 3) := by decide +kernel
theorem dX11_takeOver_98 : decode cX11_takeOver 98 = .ok (.aload_n 0, 1) := by decide +kernel
theorem dX11_takeOver_99 : decode cX11_takeOver 99 = .ok (.iconst 0, 1) := by decide +kernel
theorem dX11_takeOver_100 : decode cX11_takeOver 100 = .ok (.putfield 333, 3) := by decide +kernel
theorem dX11_takeOver_103 : decode cX11_takeOver 103 = .ok (.aload_n 0, 1) := by decide +kernel
theorem dX11_takeOver_104 : decode cX11_takeOver 104 = .ok (.iconst 0, 1) := by decide +kernel
theorem dX11_takeOver_105 : decode cX11_takeOver 105 = .ok (.putfield 335, 3) := by decide +kernel
theorem dX11_takeOver_108 : decode cX11_takeOver 108 = .ok (.aload_n 0, 1) := by decide +kernel
theorem dX11_takeOver_109 : decode cX11_takeOver 109 = .ok (.iconst 0, 1) := by decide +kernel
theorem dX11_takeOver_110 : decode cX11_takeOver 110 = .ok (.putfield 338, 3) := by decide +kernel
theorem dX11_takeOver_113 : decode cX11_takeOver 113 = .ok (.iconst 0, 1) := by decide +kernel
theorem dX11_takeOver_114 : decode cX11_takeOver 114 = .ok (.istore_n 1, 1) := by decide +kernel
theorem dX11_takeOver_115 : decode cX11_takeOver 115 = .ok (.iload_n 1, 1) := by decide +kernel
theorem dX11_takeOver_116 : decode cX11_takeOver 116 = .ok (.bipush 9, 2) := by decide +kernel
theorem dX11_takeOver_118 : decode cX11_takeOver 118 = .ok (.if_icmp .ge 42, 3) := by decide +kernel
theorem dX11_takeOver_121 : decode cX11_takeOver 121 = .ok (.aload_n 0, 1) := by decide +kernel
theorem dX11_takeOver_122 : decode cX11_takeOver 122 = .ok (.getfield 87, 3) := by decide +kernel
theorem dX11_takeOver_125 : decode cX11_takeOver 125 = .ok (.iload_n 1, 1) := by decide +kernel
theorem dX11_takeOver_126 : decode cX11_takeOver 126 = .ok (.iload_n 1, 1) := by decide +kernel
theorem dX11_takeOver_127 : decode cX11_takeOver 127 = .ok (.aload_n 0, 1) := by decide +kernel
theorem dX11_takeOver_128 : decode cX11_takeOver 128 = .ok (.getfield 36, 3) := by decide +kernel
theorem dX11_takeOver_131 : decode cX11_takeOver 131 = .ok (.iconst 0, 1) := by decide +kernel
theorem dX11_takeOver_132 : decode cX11_takeOver 132 = .ok (.iaload, 1) := by decide +kernel
theorem dX11_takeOver_133 : decode cX11_takeOver 133 = .ok (.if_icmp .ge 12, 3) := by decide +kernel
theorem dX11_takeOver_136 : decode cX11_takeOver 136 = .ok (.aload_n 0, 1) := by decide +kernel
theorem dX11_takeOver_137 : decode cX11_takeOver 137 = .ok (.getfield 44, 3) := by decide +kernel
theorem dX11_takeOver_140 : decode cX11_takeOver 140 = .ok (.iload_n 1, 1) := by decide +kernel
theorem dX11_takeOver_141 : decode cX11_takeOver 141 = .ok (.iaload, 1) := by decide +kernel
theorem dX11_takeOver_142 : decode cX11_takeOver 142 = .ok (.goto 4, 3) := by decide +kernel
theorem dX11_takeOver_145 : decode cX11_takeOver 145 = .ok (.iconst 0, 1) := by decide +kernel
theorem dX11_takeOver_146 : decode cX11_takeOver 146 = .ok (.iastore, 1) := by decide +kernel
theorem dX11_takeOver_147 : decode cX11_takeOver 147 = .ok (.aload_n 0, 1) := by decide +kernel
theorem dX11_takeOver_148 : decode cX11_takeOver 148 = .ok (.getfield 89, 3) := by decide +kernel
theorem dX11_takeOver_151 : decode cX11_takeOver 151 = .ok (.iload_n 1, 1) := by decide +kernel
theorem dX11_takeOver_152 : decode cX11_takeOver 152 = .ok (.iconst 0, 1) := by decide +kernel
theorem dX11_takeOver_153 : decode cX11_takeOver 153 = .ok (.iastore, 1) := by decide +kernel
theorem dX11_takeOver_154 : decode cX11_takeOver 154 = .ok (.iinc 1 1, 3) := by decide +kernel
theorem dX11_takeOver_157 : decode cX11_takeOver 157 = .ok (.goto (-42), 3) := by decide +kernel
theorem dX11_takeOver_160 : decode cX11_takeOver 160 = .ok (.iconst 0, 1) := by decide +kernel
theorem dX11_takeOver_161 : decode cX11_takeOver 161 = .ok (.istore_n 1, 1) := by decide +kernel
theorem dX11_takeOver_162 : decode cX11_takeOver 162 = .ok (.iload_n 1, 1) := by decide +kernel
theorem dX11_takeOver_163 : decode cX11_takeOver 163 = .ok (.bipush 10, 2) := by decide +kernel
theorem dX11_takeOver_165 : decode cX11_takeOver 165 = .ok (.if_icmp .ge 21, 3) := by decide +kernel
theorem dX11_takeOver_168 : decode cX11_takeOver 168 = .ok (.aload_n 0, 1) := by decide +kernel
theorem dX11_takeOver_169 : decode cX11_takeOver 169 = .ok (.getfield 91, 3) := by decide +kernel
theorem dX11_takeOver_172 : decode cX11_takeOver 172 = .ok (.iload_n 1, 1) := by decide +kernel
theorem dX11_takeOver_173 : decode cX11_takeOver 173 = .ok (.aload_n 0, 1) := by decide +kernel
theorem dX11_takeOver_174 : decode cX11_takeOver 174 = .ok (.getfield 71, 3) := by decide +kernel
theorem dX11_takeOver_177 : decode cX11_takeOver 177 = .ok (.iload_n 1, 1) := by decide +kernel
theorem dX11_takeOver_178 : decode cX11_takeOver 178 = .ok (.iaload, 1) := by decide +kernel
theorem dX11_takeOver_179 : decode cX11_takeOver 179 = .ok (.iastore, 1) := by decide +kernel
theorem dX11_takeOver_180 : decode cX11_takeOver 180 = .ok (.iinc 1 1, 3) := by decide +kernel
theorem dX11_takeOver_183 : decode cX11_takeOver 183 = .ok (.goto (-21), 3) := by decide +kernel
theorem dX11_takeOver_186 : decode cX11_takeOver 186 = .ok (.aload_n 0, 1) := by decide +kernel
theorem dX11_takeOver_187 : decode cX11_takeOver 187 = .ok (.iconst 0, 1) := by decide +kernel
theorem dX11_takeOver_188 : decode cX11_takeOver 188 = .ok (.putfield 341, 3) := by decide +kernel
theorem dX11_takeOver_191 : decode cX11_takeOver 191 = .ok (.aload_n 0, 1) := by decide +kernel
theorem dX11_takeOver_192 : decode cX11_takeOver 192 = .ok (.iconst 0, 1) := by decide +kernel
theorem dX11_takeOver_193 : decode cX11_takeOver 193 = .ok (.putfield 344, 3) := by decide +kernel
theorem dX11_takeOver_196 : decode cX11_takeOver 196 = .ok (.aload_n 0, 1) := by decide +kernel
theorem dX11_takeOver_197 : decode cX11_takeOver 197 = .ok (.iconst 0, 1) := by decide +kernel
theorem dX11_takeOver_198 : decode cX11_takeOver 198 = .ok (.putfield 347, 3) := by decide +kernel
theorem dX11_takeOver_201 : decode cX11_takeOver 201 = .ok (.return_, 1) := by decide +kernel
theorem dX11_fault_0 : decode cX11_fault 0 = .ok (.aload_n 0, 1) := by decide +kernel
theorem dX11_fault_1 : decode cX11_fault 1 = .ok (.iconst 0, 1) := by decide +kernel
theorem dX11_fault_2 : decode cX11_fault 2 = .ok (.putfield 157, 3) := by decide +kernel
theorem dX11_fault_5 : decode cX11_fault 5 = .ok (.aload_n 0, 1) := by decide +kernel
theorem dX11_fault_6 : decode cX11_fault 6 = .ok (.getfield 83, 3) := by decide +kernel
theorem dX11_fault_9 : decode cX11_fault 9 = .ok (.ireturn, 1) := by decide +kernel
theorem dX11_pack_0 : decode cX11_pack 0 = .ok (.aload_n 1, 1) := by decide +kernel
theorem dX11_pack_1 : decode cX11_pack 1 = .ok (.iload_n 2, 1) := by decide +kernel
theorem dX11_pack_2 : decode cX11_pack 2 = .ok (.aload_n 0, 1) := by decide +kernel
theorem dX11_pack_3 : decode cX11_pack 3 = .ok (.getfield 333, 3) := by decide +kernel
theorem dX11_pack_6 : decode cX11_pack 6 = .ok (.iastore, 1) := by decide +kernel
theorem dX11_pack_7 : decode cX11_pack 7 = .ok (.aload_n 1, 1) := by decide +kernel
theorem dX11_pack_8 : decode cX11_pack 8 = .ok (.iload_n 2, 1) := by decide +kernel
theorem dX11_pack_9 : decode cX11_pack 9 = .ok (.iconst 1, 1) := by decide +kernel
theorem dX11_pack_10 : decode cX11_pack 10 = .ok (.iadd, 1) := by decide +kernel
theorem dX11_pack_11 : decode cX11_pack 11 = .ok (.aload_n 0, 1) := by decide +kernel
theorem dX11_pack_12 : decode cX11_pack 12 = .ok (.getfield 335, 3) := by decide +kernel
theorem dX11_pack_15 : decode cX11_pack 15 = .ok (.iastore, 1) := by decide +kernel
theorem dX11_pack_16 : decode cX11_pack 16 = .ok (.aload_n 1, 1) := by decide +kernel
theorem dX11_pack_17 : decode cX11_pack 17 = .ok (.iload_n 2, 1) := by decide +kernel
theorem dX11_pack_18 : decode cX11_pack 18 = .ok (.iconst 2, 1) := by decide +kernel
theorem dX11_pack_19 : decode cX11_pack 19 = .ok (.iadd, 1) := by decide +kernel
theorem dX11_pack_20 : decode cX11_pack 20 = .ok (.aload_n 0, 1) := by decide +kernel
theorem dX11_pack_21 : decode cX11_pack 21 = .ok (.getfield 338, 3) := by decide +kernel
theorem dX11_pack_24 : decode cX11_pack 24 = .ok (.iastore, 1) := by decide +kernel
theorem dX11_pack_25 : decode cX11_pack 25 = .ok (.iconst 0, 1) := by decide +kernel
theorem dX11_pack_26 : decode cX11_pack 26 = .ok (.istore_n 3, 1) := by decide +kernel
theorem dX11_pack_27 : decode cX11_pack 27 = .ok (.iload_n 3, 1) := by decide +kernel
theorem dX11_pack_28 : decode cX11_pack 28 = .ok (.bipush 9, 2) := by decide +kernel
theorem dX11_pack_30 : decode cX11_pack 30 = .ok (.if_icmp .ge 38, 3) := by decide +kernel
theorem dX11_pack_33 : decode cX11_pack 33 = .ok (.aload_n 1, 1) := by decide +kernel
theorem dX11_pack_34 : decode cX11_pack 34 = .ok (.iload_n 2, 1) := by decide +kernel
theorem dX11_pack_35 : decode cX11_pack 35 = .ok (.iconst 3, 1) := by decide +kernel
theorem dX11_pack_36 : decode cX11_pack 36 = .ok (.iadd, 1) := by decide +kernel
theorem dX11_pack_37 : decode cX11_pack 37 = .ok (.iload_n 3, 1) := by decide +kernel
theorem dX11_pack_38 : decode cX11_pack 38 = .ok (.iadd, 1) := by decide +kernel
theorem dX11_pack_39 : decode cX11_pack 39 = .ok (.aload_n 0, 1) := by decide +kernel
theorem dX11_pack_40 : decode cX11_pack 40 = .ok (.getfield 87, 3) := by decide +kernel
theorem dX11_pack_43 : decode cX11_pack 43 = .ok (.iload_n 3, 1) := by decide +kernel
theorem dX11_pack_44 : decode cX11_pack 44 = .ok (.iaload, 1) := by decide +kernel
theorem dX11_pack_45 : decode cX11_pack 45 = .ok (.iastore, 1) := by decide +kernel
theorem dX11_pack_46 : decode cX11_pack 46 = .ok (.aload_n 1, 1) := by decide +kernel
theorem dX11_pack_47 : decode cX11_pack 47 = .ok (.iload_n 2, 1) := by decide +kernel
theorem dX11_pack_48 : decode cX11_pack 48 = .ok (.iconst 3, 1) := by decide +kernel
theorem dX11_pack_49 : decode cX11_pack 49 = .ok (.iadd, 1) := by decide +kernel
theorem dX11_pack_50 : decode cX11_pack 50 = .ok (.bipush 9, 2) := by decide +kernel
theorem dX11_pack_52 : decode cX11_pack 52 = .ok (.iadd, 1) := by decide +kernel
theorem dX11_pack_53 : decode cX11_pack 53 = .ok (.iload_n 3, 1) := by decide +kernel
theorem dX11_pack_54 : decode cX11_pack 54 = .ok (.iadd, 1) := by decide +kernel
theorem dX11_pack_55 : decode cX11_pack 55 = .ok (.aload_n 0, 1) := by decide +kernel
theorem dX11_pack_56 : decode cX11_pack 56 = .ok (.getfield 89, 3) := by decide +kernel
theorem dX11_pack_59 : decode cX11_pack 59 = .ok (.iload_n 3, 1) := by decide +kernel
theorem dX11_pack_60 : decode cX11_pack 60 = .ok (.iaload, 1) := by decide +kernel
theorem dX11_pack_61 : decode cX11_pack 61 = .ok (.iastore, 1) := by decide +kernel
theorem dX11_pack_62 : decode cX11_pack 62 = .ok (.iinc 3 1, 3) := by decide +kernel
theorem dX11_pack_65 : decode cX11_pack 65 = .ok (.goto (-38), 3) := by decide +kernel
theorem dX11_pack_68 : decode cX11_pack 68 = .ok (.iconst 0, 1) := by decide +kernel
theorem dX11_pack_69 : decode cX11_pack 69 = .ok (.istore_n 3, 1) := by decide +kernel
theorem dX11_pack_70 : decode cX11_pack 70 = .ok (.iload_n 3, 1) := by decide +kernel
theorem dX11_pack_71 : decode cX11_pack 71 = .ok (.bipush 10, 2) := by decide +kernel
theorem dX11_pack_73 : decode cX11_pack 73 = .ok (.if_icmp .ge 25, 3) := by decide +kernel
theorem dX11_pack_76 : decode cX11_pack 76 = .ok (.aload_n 1, 1) := by decide +kernel
theorem dX11_pack_77 : decode cX11_pack 77 = .ok (.iload_n 2, 1) := by decide +kernel
theorem dX11_pack_78 : decode cX11_pack 78 = .ok (.iconst 3, 1) := by decide +kernel
theorem dX11_pack_79 : decode cX11_pack 79 = .ok (.iadd, 1) := by decide +kernel
theorem dX11_pack_80 : decode cX11_pack 80 = .ok (.bipush 18, 2) := by decide +kernel
theorem dX11_pack_82 : decode cX11_pack 82 = .ok (.iadd, 1) := by decide +kernel
theorem dX11_pack_83 : decode cX11_pack 83 = .ok (.iload_n 3, 1) := by decide +kernel
theorem dX11_pack_84 : decode cX11_pack 84 = .ok (.iadd, 1) := by decide +kernel
theorem dX11_pack_85 : decode cX11_pack 85 = .ok (.aload_n 0, 1) := by decide +kernel
theorem dX11_pack_86 : decode cX11_pack 86 = .ok (.getfield 91, 3) := by decide +kernel
theorem dX11_pack_89 : decode cX11_pack 89 = .ok (.iload_n 3, 1) := by decide +kernel
theorem dX11_pack_90 : decode cX11_pack 90 = .ok (.iaload, 1) := by decide +kernel
theorem dX11_pack_91 : decode cX11_pack 91 = .ok (.iastore, 1) := by decide +kernel
theorem dX11_pack_92 : decode cX11_pack 92 = .ok (.iinc 3 1, 3) := by decide +kernel
theorem dX11_pack_95 : decode cX11_pack 95 = .ok (.goto (-25), 3) := by decide +kernel
theorem dX11_pack_98 : decode cX11_pack 98 = .ok (.return_, 1) := by decide +kernel
theorem dX11_unpack_0 : decode cX11_unpack 0 = .ok (.aload_n 0, 1) := by decide +kernel
theorem dX11_unpack_1 : decode cX11_unpack 1 = .ok (.aload_n 1, 1) := by decide +kernel
theorem dX11_unpack_2 : decode cX11_unpack 2 = .ok (.iload_n 2, 1) := by decide +kernel
theorem dX11_unpack_3 : decode cX11_unpack 3 = .ok (.iaload, 1) := by decide +kernel
theorem dX11_unpack_4 : decode cX11_unpack 4 = .ok (.putfield 333, 3) := by decide +kernel
theorem dX11_unpack_7 : decode cX11_unpack 7 = .ok (.aload_n 0, 1) := by decide +kernel
theorem dX11_unpack_8 : decode cX11_unpack 8 = .ok (.aload_n 1, 1) := by decide +kernel
theorem dX11_unpack_9 : decode cX11_unpack 9 = .ok (.iload_n 2, 1) := by decide +kernel
theorem dX11_unpack_10 : decode cX11_unpack 10 = .ok (.iconst 1, 1) := by decide +kernel
theorem dX11_unpack_11 : decode cX11_unpack 11 = .ok (.iadd, 1) := by decide +kernel
theorem dX11_unpack_12 : decode cX11_unpack 12 = .ok (.iaload, 1) := by decide +kernel
theorem dX11_unpack_13 : decode cX11_unpack 13 = .ok (.putfield 335, 3) := by decide +kernel
theorem dX11_unpack_16 : decode cX11_unpack 16 = .ok (.aload_n 0, 1) := by decide +kernel
theorem dX11_unpack_17 : decode cX11_unpack 17 = .ok (.aload_n 1, 1) := by decide +kernel
theorem dX11_unpack_18 : decode cX11_unpack 18 = .ok (.iload_n 2, 1) := by decide +kernel
theorem dX11_unpack_19 : decode cX11_unpack 19 = .ok (.iconst 2, 1) := by decide +kernel
theorem dX11_unpack_20 : decode cX11_unpack 20 = .ok (.iadd, 1) := by decide +kernel
theorem dX11_unpack_21 : decode cX11_unpack 21 = .ok (.iaload, 1) := by decide +kernel
theorem dX11_unpack_22 : decode cX11_unpack 22 = .ok (.putfield 338, 3) := by decide +kernel
theorem dX11_unpack_25 : decode cX11_unpack 25 = .ok (.iconst 0, 1) := by decide +kernel
theorem dX11_unpack_26 : decode cX11_unpack 26 = .ok (.istore_n 3, 1) := by decide +kernel
theorem dX11_unpack_27 : decode cX11_unpack 27 = .ok (.iload_n 3, 1) := by decide +kernel
theorem dX11_unpack_28 : decode cX11_unpack 28 = .ok (.bipush 9, 2) := by decide +kernel
theorem dX11_unpack_30 : decode cX11_unpack 30 = .ok (.if_icmp .ge 38, 3) := by decide +kernel
theorem dX11_unpack_33 : decode cX11_unpack 33 = .ok (.aload_n 0, 1) := by decide +kernel
theorem dX11_unpack_34 : decode cX11_unpack 34 = .ok (.getfield 87, 3) := by decide +kernel
theorem dX11_unpack_37 : decode cX11_unpack 37 = .ok (.iload_n 3, 1) := by decide +kernel
theorem dX11_unpack_38 : decode cX11_unpack 38 = .ok (.aload_n 1, 1) := by decide +kernel
theorem dX11_unpack_39 : decode cX11_unpack 39 = .ok (.iload_n 2, 1) := by decide +kernel
theorem dX11_unpack_40 : decode cX11_unpack 40 = .ok (.iconst 3, 1) := by decide +kernel
theorem dX11_unpack_41 : decode cX11_unpack 41 = .ok (.iadd, 1) := by decide +kernel
theorem dX11_unpack_42 : decode cX11_unpack 42 = .ok (.iload_n 3, 1) := by decide +kernel
theorem dX11_unpack_43 : decode cX11_unpack 43 = .ok (.iadd, 1) := by decide +kernel
theorem dX11_unpack_44 : decode cX11_unpack 44 = .ok (.iaload, 1) := by decide +kernel
theorem dX11_unpack_45 : decode cX11_unpack 45 = .ok (.iastore, 1) := by decide +kernel
theorem dX11_unpack_46 : decode cX11_unpack 46 = .ok (.aload_n 0, 1) := by decide +kernel
theorem dX11_unpack_47 : decode cX11_unpack 47 = .ok (.getfield 89, 3) := by decide +kernel
theorem dX11_unpack_50 : decode cX11_unpack 50 = .ok (.iload_n 3, 1) := by decide +kernel
theorem dX11_unpack_51 : decode cX11_unpack 51 = .ok (.aload_n 1, 1) := by decide +kernel
theorem dX11_unpack_52 : decode cX11_unpack 52 = .ok (.iload_n 2, 1) := by decide +kernel
theorem dX11_unpack_53 : decode cX11_unpack 53 = .ok (.iconst 3, 1) := by decide +kernel
theorem dX11_unpack_54 : decode cX11_unpack 54 = .ok (.iadd, 1) := by decide +kernel
theorem dX11_unpack_55 : decode cX11_unpack 55 = .ok (.bipush 9, 2) := by decide +kernel
theorem dX11_unpack_57 : decode cX11_unpack 57 = .ok (.iadd, 1) := by decide +kernel
theorem dX11_unpack_58 : decode cX11_unpack 58 = .ok (.iload_n 3, 1) := by decide +kernel
theorem dX11_unpack_59 : decode cX11_unpack 59 = .ok (.iadd, 1) := by decide +kernel
theorem dX11_unpack_60 : decode cX11_unpack 60 = .ok (.iaload, 1) := by decide +kernel
theorem dX11_unpack_61 : decode cX11_unpack 61 = .ok (.iastore, 1) := by decide +kernel
theorem dX11_unpack_62 : decode cX11_unpack 62 = .ok (.iinc 3 1, 3) := by decide +kernel
theorem dX11_unpack_65 : decode cX11_unpack 65 = .ok (.goto (-38), 3) := by decide +kernel
theorem dX11_unpack_68 : decode cX11_unpack 68 = .ok (.iconst 0, 1) := by decide +kernel
theorem dX11_unpack_69 : decode cX11_unpack 69 = .ok (.istore_n 3, 1) := by decide +kernel
theorem dX11_unpack_70 : decode cX11_unpack 70 = .ok (.iload_n 3, 1) := by decide +kernel
theorem dX11_unpack_71 : decode cX11_unpack 71 = .ok (.bipush 10, 2) := by decide +kernel
theorem dX11_unpack_73 : decode cX11_unpack 73 = .ok (.if_icmp .ge 25, 3) := by decide +kernel
theorem dX11_unpack_76 : decode cX11_unpack 76 = .ok (.aload_n 0, 1) := by decide +kernel
theorem dX11_unpack_77 : decode cX11_unpack 77 = .ok (.getfield 91, 3) := by decide +kernel
theorem dX11_unpack_80 : decode cX11_unpack 80 = .ok (.iload_n 3, 1) := by decide +kernel
theorem dX11_unpack_81 : decode cX11_unpack 81 = .ok (.aload_n 1, 1) := by decide +kernel
theorem dX11_unpack_82 : decode cX11_unpack 82 = .ok (.iload_n 2, 1) := by decide +kernel
theorem dX11_unpack_83 : decode cX11_unpack 83 = .ok (.iconst 3, 1) := by decide +kernel
theorem dX11_unpack_84 : decode cX11_unpack 84 = .ok (.iadd, 1) := by decide +kernel
theorem dX11_unpack_85 : decode cX11_unpack 85 = .ok (.bipush 18, 2) := by decide +kernel
theorem dX11_unpack_87 : decode cX11_unpack 87 = .ok (.iadd, 1) := by decide +kernel
theorem dX11_unpack_88 : decode cX11_unpack 88 = .ok (.iload_n 3, 1) := by decide +kernel
theorem dX11_unpack_89 : decode cX11_unpack 89 = .ok (.iadd, 1) := by decide +kernel
theorem dX11_unpack_90 : decode cX11_unpack 90 = .ok (.iaload, 1) := by decide +kernel
theorem dX11_unpack_91 : decode cX11_unpack 91 = .ok (.iastore, 1) := by decide +kernel
theorem dX11_unpack_92 : decode cX11_unpack 92 = .ok (.iinc 3 1, 3) := by decide +kernel
theorem dX11_unpack_95 : decode cX11_unpack 95 = .ok (.goto (-25), 3) := by decide +kernel
theorem dX11_unpack_98 : decode cX11_unpack 98 = .ok (.return_, 1) := by decide +kernel
theorem dX11_reckon_0 : decode cX11_reckon 0 = .ok (.iload_n 0, 1) := by decide +kernel
theorem dX11_reckon_1 : decode cX11_reckon 1 = .ok (.tableswitch 103 (-26) (-20) #[89, 78, 67, 55, 51, 47, 43], 43) := by decide +kernel
theorem dX11_reckon_44 : decode cX11_reckon 44 = .ok (.iload_n 1, 1) := by decide +kernel
theorem dX11_reckon_45 : decode cX11_reckon 45 = .ok (.iload_n 2, 1) := by decide +kernel
theorem dX11_reckon_46 : decode cX11_reckon 46 = .ok (.iadd, 1) := by decide +kernel
theorem dX11_reckon_47 : decode cX11_reckon 47 = .ok (.ireturn, 1) := by decide +kernel
theorem dX11_reckon_48 : decode cX11_reckon 48 = .ok (.iload_n 1, 1) := by decide +kernel
theorem dX11_reckon_49 : decode cX11_reckon 49 = .ok (.iload_n 2, 1) := by decide +kernel
theorem dX11_reckon_50 : decode cX11_reckon 50 = .ok (.isub, 1) := by decide +kernel
theorem dX11_reckon_51 : decode cX11_reckon 51 = .ok (.ireturn, 1) := by decide +kernel
theorem dX11_reckon_52 : decode cX11_reckon 52 = .ok (.iload_n 1, 1) := by decide +kernel
theorem dX11_reckon_53 : decode cX11_reckon 53 = .ok (.iload_n 2, 1) := by decide +kernel
theorem dX11_reckon_54 : decode cX11_reckon 54 = .ok (.imul, 1) := by decide +kernel
theorem dX11_reckon_55 : decode cX11_reckon 55 = .ok (.ireturn, 1) := by decide +kernel
theorem dX11_reckon_56 : decode cX11_reckon 56 = .ok (.iload_n 2, 1) := by decide +kernel
theorem dX11_reckon_57 : decode cX11_reckon 57 = .ok (.ifCond .ne 7, 3) := by decide +kernel
theorem dX11_reckon_60 : decode cX11_reckon 60 = .ok (.iconst 0, 1) := by decide +kernel
theorem dX11_reckon_61 : decode cX11_reckon 61 = .ok (.goto 6, 3) := by decide +kernel
theorem dX11_reckon_64 : decode cX11_reckon 64 = .ok (.iload_n 1, 1) := by decide +kernel
theorem dX11_reckon_65 : decode cX11_reckon 65 = .ok (.iload_n 2, 1) := by decide +kernel
theorem dX11_reckon_66 : decode cX11_reckon 66 = .ok (.idiv, 1) := by decide +kernel
theorem dX11_reckon_67 : decode cX11_reckon 67 = .ok (.ireturn, 1) := by decide +kernel
theorem dX11_reckon_68 : decode cX11_reckon 68 = .ok (.iload_n 1, 1) := by decide +kernel
theorem dX11_reckon_69 : decode cX11_reckon 69 = .ok (.iload_n 2, 1) := by decide +kernel
theorem dX11_reckon_70 : decode cX11_reckon 70 = .ok (.if_icmp .ge 7, 3) := by decide +kernel
theorem dX11_reckon_73 : decode cX11_reckon 73 = .ok (.iconst 1, 1) := by decide +kernel
theorem dX11_reckon_74 : decode cX11_reckon 74 = .ok (.goto 4, 3) := by decide +kernel
theorem dX11_reckon_77 : decode cX11_reckon 77 = .ok (.iconst 0, 1) := by decide +kernel
theorem dX11_reckon_78 : decode cX11_reckon 78 = .ok (.ireturn, 1) := by decide +kernel
theorem dX11_reckon_79 : decode cX11_reckon 79 = .ok (.iload_n 1, 1) := by decide +kernel
theorem dX11_reckon_80 : decode cX11_reckon 80 = .ok (.iload_n 2, 1) := by decide +kernel
theorem dX11_reckon_81 : decode cX11_reckon 81 = .ok (.if_icmp .ne 7, 3) := by decide +kernel
theorem dX11_reckon_84 : decode cX11_reckon 84 = .ok (.iconst 1, 1) := by decide +kernel
theorem dX11_reckon_85 : decode cX11_reckon 85 = .ok (.goto 4, 3) := by decide +kernel
theorem dX11_reckon_88 : decode cX11_reckon 88 = .ok (.iconst 0, 1) := by decide +kernel
theorem dX11_reckon_89 : decode cX11_reckon 89 = .ok (.ireturn, 1) := by decide +kernel
theorem dX11_reckon_90 : decode cX11_reckon 90 = .ok (.iload_n 1, 1) := by decide +kernel
theorem dX11_reckon_91 : decode cX11_reckon 91 = .ok (.ifCond .eq 11, 3) := by decide +kernel
theorem dX11_reckon_94 : decode cX11_reckon 94 = .ok (.iload_n 2, 1) := by decide +kernel
theorem dX11_reckon_95 : decode cX11_reckon 95 = .ok (.ifCond .eq 7, 3) := by decide +kernel
theorem dX11_reckon_98 : decode cX11_reckon 98 = .ok (.iconst 1, 1) := by decide +kernel
theorem dX11_reckon_99 : decode cX11_reckon 99 = .ok (.goto 4, 3) := by decide +kernel
theorem dX11_reckon_102 : decode cX11_reckon 102 = .ok (.iconst 0, 1) := by decide +kernel
theorem dX11_reckon_103 : decode cX11_reckon 103 = .ok (.ireturn, 1) := by decide +kernel
theorem dX11_reckon_104 : decode cX11_reckon 104 = .ok (.iload_n 1, 1) := by decide +kernel
theorem dX11_reckon_105 : decode cX11_reckon 105 = .ok (.ifCond .ne 7, 3) := by decide +kernel
theorem dX11_reckon_108 : decode cX11_reckon 108 = .ok (.iload_n 2, 1) := by decide +kernel
theorem dX11_reckon_109 : decode cX11_reckon 109 = .ok (.ifCond .eq 7, 3) := by decide +kernel
theorem dX11_reckon_112 : decode cX11_reckon 112 = .ok (.iconst 1, 1) := by decide +kernel
theorem dX11_reckon_113 : decode cX11_reckon 113 = .ok (.goto 4, 3) := by decide +kernel
theorem dX11_reckon_116 : decode cX11_reckon 116 = .ok (.iconst 0, 1) := by decide +kernel
theorem dX11_reckon_117 : decode cX11_reckon 117 = .ok (.ireturn, 1) := by decide +kernel
theorem dX11_valueNow_0 : decode cX11_valueNow 0 = .ok (.iconst 0, 1) := by decide +kernel
theorem dX11_valueNow_1 : decode cX11_valueNow 1 = .ok (.istore_n 1, 1) := by decide +kernel
theorem dX11_valueNow_2 : decode cX11_valueNow 2 = .ok (.iconst 0, 1) := by decide +kernel
theorem dX11_valueNow_3 : decode cX11_valueNow 3 = .ok (.istore_n 2, 1) := by decide +kernel
theorem dX11_valueNow_4 : decode cX11_valueNow 4 = .ok (.iload_n 2, 1) := by decide +kernel
theorem dX11_valueNow_5 : decode cX11_valueNow 5 = .ok (.aload_n 0, 1) := by decide +kernel
theorem dX11_valueNow_6 : decode cX11_valueNow 6 = .ok (.getfield 36, 3) := by decide +kernel
theorem dX11_valueNow_9 : decode cX11_valueNow 9 = .ok (.bipush 6, 2) := by decide +kernel
theorem dX11_valueNow_11 : decode cX11_valueNow 11 = .ok (.iaload, 1) := by decide +kernel
theorem dX11_valueNow_12 : decode cX11_valueNow 12 = .ok (.if_icmp .ge 112, 3) := by decide +kernel
theorem dX11_valueNow_15 : decode cX11_valueNow 15 = .ok (.aload_n 0, 1) := by decide +kernel
theorem dX11_valueNow_16 : decode cX11_valueNow 16 = .ok (.getfield 74, 3) := by decide +kernel
theorem dX11_valueNow_19 : decode cX11_valueNow 19 = .ok (.iload_n 2, 1) := by decide +kernel
theorem dX11_valueNow_20 : decode cX11_valueNow 20 = .ok (.iaload, 1) := by decide +kernel
theorem dX11_valueNow_21 : decode cX11_valueNow 21 = .ok (.istore_n 3, 1) := by decide +kernel
theorem dX11_valueNow_22 : decode cX11_valueNow 22 = .ok (.iload_n 3, 1) := by decide +kernel
theorem dX11_valueNow_23 : decode cX11_valueNow 23 = .ok (.bipush (-20), 2) := by decide +kernel
theorem dX11_valueNow_25 : decode cX11_valueNow 25 = .ok (.if_icmp .le 31, 3) := by decide +kernel
theorem dX11_valueNow_28 : decode cX11_valueNow 28 = .ok (.aload_n 0, 1) := by decide +kernel
theorem dX11_valueNow_29 : decode cX11_valueNow 29 = .ok (.getfield 100, 3) := by decide +kernel
theorem dX11_valueNow_32 : decode cX11_valueNow 32 = .ok (.iload_n 1, 1) := by decide +kernel
theorem dX11_valueNow_33 : decode cX11_valueNow 33 = .ok (.iload_n 3, 1) := by decide +kernel
theorem dX11_valueNow_34 : decode cX11_valueNow 34 = .ok (.ifCond .lt 7, 3) := by decide +kernel
theorem dX11_valueNow_37 : decode cX11_valueNow 37 = .ok (.iload_n 3, 1) := by decide +kernel
theorem dX11_valueNow_38 : decode cX11_valueNow 38 = .ok (.goto 11, 3) := by decide +kernel
theorem dX11_valueNow_41 : decode cX11_valueNow 41 = .ok (.aload_n 0, 1) := by decide +kernel
theorem dX11_valueNow_42 : decode cX11_valueNow 42 = .ok (.getfield 97, 3) := by decide +kernel
theorem dX11_valueNow_45 : decode cX11_valueNow 45 = .ok (.iconst (-1), 1) := by decide +kernel
theorem dX11_valueNow_46 : decode cX11_valueNow 46 = .ok (.iload_n 3, 1) := by decide +kernel
theorem dX11_valueNow_47 : decode cX11_valueNow 47 = .ok (.isub, 1) := by decide +kernel
theorem dX11_valueNow_48 : decode cX11_valueNow 48 = .ok (.iaload, 1) := by decide +kernel
theorem dX11_valueNow_49 : decode cX11_valueNow 49 = .ok (.iastore, 1) := by decide +kernel
theorem dX11_valueNow_50 : decode cX11_valueNow 50 = .ok (.iinc 1 1, 3) := by decide +kernel
theorem dX11_valueNow_53 : decode cX11_valueNow 53 = .ok (.goto 65, 3) := by decide +kernel
theorem dX11_valueNow_56 : decode cX11_valueNow 56 = .ok (.iload_n 3, 1) := by decide +kernel
theorem dX11_valueNow_57 : decode cX11_valueNow 57 = .ok (.bipush (-28), 2) := by decide +kernel
theorem dX11_valueNow_59 : decode cX11_valueNow 59 = .ok (.if_icmp .ne 30, 3) := by decide +kernel
theorem dX11_valueNow_62 : decode cX11_valueNow 62 = .ok (.aload_n 0, 1) := by decide +kernel
theorem dX11_valueNow_63 : decode cX11_valueNow 63 = .ok (.getfield 100, 3) := by decide +kernel
theorem dX11_valueNow_66 : decode cX11_valueNow 66 = .ok (.iload_n 1, 1) := by decide +kernel
theorem dX11_valueNow_67 : decode cX11_valueNow 67 = .ok (.iconst 1, 1) := by decide +kernel
theorem dX11_valueNow_68 : decode cX11_valueNow 68 = .ok (.isub, 1) := by decide +kernel
theorem dX11_valueNow_69 : decode cX11_valueNow 69 = .ok (.aload_n 0, 1) := by decide +kernel
theorem dX11_valueNow_70 : decode cX11_valueNow 70 = .ok (.getfield 100, 3) := by decide +kernel
theorem dX11_valueNow_73 : decode cX11_valueNow 73 = .ok (.iload_n 1, 1) := by decide +kernel
theorem dX11_valueNow_74 : decode cX11_valueNow 74 = .ok (.iconst 1, 1) := by decide +kernel
theorem dX11_valueNow_75 : decode cX11_valueNow 75 = .ok (.isub, 1) := by decide +kernel
theorem dX11_valueNow_76 : decode cX11_valueNow 76 = .ok (.iaload, 1) := by decide +kernel
theorem dX11_valueNow_77 : decode cX11_valueNow 77 = .ok (.ifCond .eq 7, 3) := by decide +kernel
theorem dX11_valueNow_80 : decode cX11_valueNow 80 = .ok (.iconst 0, 1) := by decide +kernel
theorem dX11_valueNow_81 : decode cX11_valueNow 81 = .ok (.goto 4, 3) := by decide +kernel
theorem dX11_valueNow_84 : decode cX11_valueNow 84 = .ok (.iconst 1, 1) := by decide +kernel
theorem dX11_valueNow_85 : decode cX11_valueNow 85 = .ok (.iastore, 1) := by decide +kernel
theorem dX11_valueNow_86 : decode cX11_valueNow 86 = .ok (.goto 32, 3) := by decide +kernel
theorem dX11_valueNow_89 : decode cX11_valueNow 89 = .ok (.iinc 1 (-1), 3) := by decide +kernel
theorem dX11_valueNow_92 : decode cX11_valueNow 92 = .ok (.aload_n 0, 1) := by decide +kernel
theorem dX11_valueNow_93 : decode cX11_valueNow 93 = .ok (.getfield 100, 3) := by decide +kernel
theorem dX11_valueNow_96 : decode cX11_valueNow 96 = .ok (.iload_n 1, 1) := by decide +kernel
theorem dX11_valueNow_97 : decode cX11_valueNow 97 = .ok (.iconst 1, 1) := by decide +kernel
theorem dX11_valueNow_98 : decode cX11_valueNow 98 = .ok (.isub, 1) := by decide +kernel
theorem dX11_valueNow_99 : decode cX11_valueNow 99 = .ok (.iload_n 3, 1) := by decide +kernel
theorem dX11_valueNow_100 : decode cX11_valueNow 100 = .ok (.aload_n 0, 1) := by decide +kernel
theorem dX11_valueNow_101 : decode cX11_valueNow 101 = .ok (.getfield 100, 3) := by decide +kernel
theorem dX11_valueNow_104 : decode cX11_valueNow 104 = .ok (.iload_n 1, 1) := by decide +kernel
theorem dX11_valueNow_105 : decode cX11_valueNow 105 = .ok (.iconst 1, 1) := by decide +kernel
theorem dX11_valueNow_106 : decode cX11_valueNow 106 = .ok (.isub, 1) := by decide +kernel
theorem dX11_valueNow_107 : decode cX11_valueNow 107 = .ok (.iaload, 1) := by decide +kernel
theorem dX11_valueNow_108 : decode cX11_valueNow 108 = .ok (.aload_n 0, 1) := by decide +kernel
theorem dX11_valueNow_109 : decode cX11_valueNow 109 = .ok (.getfield 100, 3) := by decide +kernel
theorem dX11_valueNow_112 : decode cX11_valueNow 112 = .ok (.iload_n 1, 1) := by decide +kernel
theorem dX11_valueNow_113 : decode cX11_valueNow 113 = .ok (.iaload, 1) := by decide +kernel
theorem dX11_valueNow_114 : decode cX11_valueNow 114 = .ok (.invokestatic 351, 3) := by decide +kernel
theorem dX11_valueNow_117 : decode cX11_valueNow 117 = .ok (.iastore, 1) := by decide +kernel
theorem dX11_valueNow_118 : decode cX11_valueNow 118 = .ok (.iinc 2 1, 3) := by decide +kernel
theorem dX11_valueNow_121 : decode cX11_valueNow 121 = .ok (.goto (-117), 3) := by decide +kernel
theorem dX11_valueNow_124 : decode cX11_valueNow 124 = .ok (.aload_n 0, 1) := by decide +kernel
theorem dX11_valueNow_125 : decode cX11_valueNow 125 = .ok (.getfield 100, 3) := by decide +kernel
theorem dX11_valueNow_128 : decode cX11_valueNow 128 = .ok (.iconst 0, 1) := by decide +kernel
theorem dX11_valueNow_129 : decode cX11_valueNow 129 = .ok (.iaload, 1) := by decide +kernel
theorem dX11_valueNow_130 : decode cX11_valueNow 130 = .ok (.ireturn, 1) := by decide +kernel
theorem dX11_tithe_0 : decode cX11_tithe 0 = .ok (.aload_n 0, 1) := by decide +kernel
theorem dX11_tithe_1 : decode cX11_tithe 1 = .ok (.getfield 36, 3) := by decide +kernel
theorem dX11_tithe_4 : decode cX11_tithe 4 = .ok (.bipush 6, 2) := by decide +kernel
theorem dX11_tithe_6 : decode cX11_tithe 6 = .ok (.iaload, 1) := by decide +kernel
theorem dX11_tithe_7 : decode cX11_tithe 7 = .ok (.ifCond .ne 13, 3) := by decide +kernel
theorem dX11_tithe_10 : decode cX11_tithe 10 = .ok (.aload_n 0, 1) := by decide +kernel
theorem dX11_tithe_11 : decode cX11_tithe 11 = .ok (.getfield 87, 3) := by decide +kernel
theorem dX11_tithe_14 : decode cX11_tithe 14 = .ok (.iload_n 1, 1) := by decide +kernel
theorem dX11_tithe_15 : decode cX11_tithe 15 = .ok (.iaload, 1) := by decide +kernel
theorem dX11_tithe_16 : decode cX11_tithe 16 = .ok (.bipush 10, 2) := by decide +kernel
theorem dX11_tithe_18 : decode cX11_tithe 18 = .ok (.idiv, 1) := by decide +kernel
theorem dX11_tithe_19 : decode cX11_tithe 19 = .ok (.ireturn, 1) := by decide +kernel
theorem dX11_tithe_20 : decode cX11_tithe 20 = .ok (.iconst 0, 1) := by decide +kernel
theorem dX11_tithe_21 : decode cX11_tithe 21 = .ok (.istore_n 2, 1) := by decide +kernel
theorem dX11_tithe_22 : decode cX11_tithe 22 = .ok (.iconst 0, 1) := by decide +kernel
theorem dX11_tithe_23 : decode cX11_tithe 23 = .ok (.istore_n 3, 1) := by decide +kernel
theorem dX11_tithe_24 : decode cX11_tithe 24 = .ok (.iload_n 3, 1) := by decide +kernel
theorem dX11_tithe_25 : decode cX11_tithe 25 = .ok (.aload_n 0, 1) := by decide +kernel
theorem dX11_tithe_26 : decode cX11_tithe 26 = .ok (.getfield 36, 3) := by decide +kernel
theorem dX11_tithe_29 : decode cX11_tithe 29 = .ok (.iconst 0, 1) := by decide +kernel
theorem dX11_tithe_30 : decode cX11_tithe 30 = .ok (.iaload, 1) := by decide +kernel
theorem dX11_tithe_31 : decode cX11_tithe 31 = .ok (.if_icmp .ge 32, 3) := by decide +kernel
theorem dX11_tithe_34 : decode cX11_tithe 34 = .ok (.iload_n 2, 1) := by decide +kernel
theorem dX11_tithe_35 : decode cX11_tithe 35 = .ok (.aload_n 0, 1) := by decide +kernel
theorem dX11_tithe_36 : decode cX11_tithe 36 = .ok (.getfield 42, 3) := by decide +kernel
theorem dX11_tithe_39 : decode cX11_tithe 39 = .ok (.iload_n 3, 1) := by decide +kernel
theorem dX11_tithe_40 : decode cX11_tithe 40 = .ok (.iaload, 1) := by decide +kernel
theorem dX11_tithe_41 : decode cX11_tithe 41 = .ok (.aload_n 0, 1) := by decide +kernel
theorem dX11_tithe_42 : decode cX11_tithe 42 = .ok (.getfield 42, 3) := by decide +kernel
theorem dX11_tithe_45 : decode cX11_tithe 45 = .ok (.iload_n 1, 1) := by decide +kernel
theorem dX11_tithe_46 : decode cX11_tithe 46 = .ok (.iaload, 1) := by decide +kernel
theorem dX11_tithe_47 : decode cX11_tithe 47 = .ok (.if_icmp .ne 7, 3) := by decide +kernel
theorem dX11_tithe_50 : decode cX11_tithe 50 = .ok (.iconst 1, 1) := by decide +kernel
theorem dX11_tithe_51 : decode cX11_tithe 51 = .ok (.goto 4, 3) := by decide +kernel
theorem dX11_tithe_54 : decode cX11_tithe 54 = .ok (.iconst 0, 1) := by decide +kernel
theorem dX11_tithe_55 : decode cX11_tithe 55 = .ok (.iadd, 1) := by decide +kernel
theorem dX11_tithe_56 : decode cX11_tithe 56 = .ok (.istore_n 2, 1) := by decide +kernel
theorem dX11_tithe_57 : decode cX11_tithe 57 = .ok (.iinc 3 1, 3) := by decide +kernel
theorem dX11_tithe_60 : decode cX11_tithe 60 = .ok (.goto (-36), 3) := by decide +kernel
theorem dX11_tithe_63 : decode cX11_tithe 63 = .ok (.aload_n 0, 1) := by decide +kernel
theorem dX11_tithe_64 : decode cX11_tithe 64 = .ok (.getfield 97, 3) := by decide +kernel
theorem dX11_tithe_67 : decode cX11_tithe 67 = .ok (.iconst 0, 1) := by decide +kernel
theorem dX11_tithe_68 : decode cX11_tithe 68 = .ok (.aload_n 0, 1) := by decide +kernel
theorem dX11_tithe_69 : decode cX11_tithe 69 = .ok (.getfield 87, 3) := by decide +kernel
theorem dX11_tithe_72 : decode cX11_tithe 72 = .ok (.iload_n 1, 1) := by decide +kernel
theorem dX11_tithe_73 : decode cX11_tithe 73 = .ok (.iaload, 1) := by decide +kernel
theorem dX11_tithe_74 : decode cX11_tithe 74 = .ok (.iastore, 1) := by decide +kernel
theorem dX11_tithe_75 : decode cX11_tithe 75 = .ok (.aload_n 0, 1) := by decide +kernel
theorem dX11_tithe_76 : decode cX11_tithe 76 = .ok (.getfield 97, 3) := by decide +kernel
theorem dX11_tithe_79 : decode cX11_tithe 79 = .ok (.iconst 1, 1) := by decide +kernel
theorem dX11_tithe_80 : decode cX11_tithe 80 = .ok (.aload_n 0, 1) := by decide +kernel
theorem dX11_tithe_81 : decode cX11_tithe 81 = .ok (.getfield 40, 3) := by decide +kernel
theorem dX11_tithe_84 : decode cX11_tithe 84 = .ok (.iload_n 1, 1) := by decide +kernel
theorem dX11_tithe_85 : decode cX11_tithe 85 = .ok (.iaload, 1) := by decide +kernel
theorem dX11_tithe_86 : decode cX11_tithe 86 = .ok (.iastore, 1) := by decide +kernel
theorem dX11_tithe_87 : decode cX11_tithe 87 = .ok (.aload_n 0, 1) := by decide +kernel
theorem dX11_tithe_88 : decode cX11_tithe 88 = .ok (.getfield 97, 3) := by decide +kernel
theorem dX11_tithe_91 : decode cX11_tithe 91 = .ok (.iconst 2, 1) := by decide +kernel
theorem dX11_tithe_92 : decode cX11_tithe 92 = .ok (.aload_n 0, 1) := by decide +kernel
theorem dX11_tithe_93 : decode cX11_tithe 93 = .ok (.getfield 42, 3) := by decide +kernel
theorem dX11_tithe_96 : decode cX11_tithe 96 = .ok (.iload_n 1, 1) := by decide +kernel
theorem dX11_tithe_97 : decode cX11_tithe 97 = .ok (.iaload, 1) := by decide +kernel
theorem dX11_tithe_98 : decode cX11_tithe 98 = .ok (.iastore, 1) := by decide +kernel
theorem dX11_tithe_99 : decode cX11_tithe 99 = .ok (.aload_n 0, 1) := by decide +kernel
theorem dX11_tithe_100 : decode cX11_tithe 100 = .ok (.getfield 97, 3) := by decide +kernel
theorem dX11_tithe_103 : decode cX11_tithe 103 = .ok (.iconst 3, 1) := by decide +kernel
theorem dX11_tithe_104 : decode cX11_tithe 104 = .ok (.aload_n 0, 1) := by decide +kernel
theorem dX11_tithe_105 : decode cX11_tithe 105 = .ok (.getfield 333, 3) := by decide +kernel
theorem dX11_tithe_108 : decode cX11_tithe 108 = .ok (.iastore, 1) := by decide +kernel
theorem dX11_tithe_109 : decode cX11_tithe 109 = .ok (.aload_n 0, 1) := by decide +kernel
theorem dX11_tithe_110 : decode cX11_tithe 110 = .ok (.getfield 97, 3) := by decide +kernel
theorem dX11_tithe_113 : decode cX11_tithe 113 = .ok (.iconst 4, 1) := by decide +kernel
theorem dX11_tithe_114 : decode cX11_tithe 114 = .ok (.iload_n 2, 1) := by decide +kernel
theorem dX11_tithe_115 : decode cX11_tithe 115 = .ok (.iastore, 1) := by decide +kernel
theorem dX11_tithe_116 : decode cX11_tithe 116 = .ok (.aload_n 0, 1) := by decide +kernel
theorem dX11_tithe_117 : decode cX11_tithe 117 = .ok (.getfield 97, 3) := by decide +kernel
theorem dX11_tithe_120 : decode cX11_tithe 120 = .ok (.iconst 5, 1) := by decide +kernel
theorem dX11_tithe_121 : decode cX11_tithe 121 = .ok (.aload_n 0, 1) := by decide +kernel
theorem dX11_tithe_122 : decode cX11_tithe 122 = .ok (.getfield 89, 3) := by decide +kernel
theorem dX11_tithe_125 : decode cX11_tithe 125 = .ok (.iload_n 1, 1) := by decide +kernel
theorem dX11_tithe_126 : decode cX11_tithe 126 = .ok (.iaload, 1) := by decide +kernel
theorem dX11_tithe_127 : decode cX11_tithe 127 = .ok (.iastore, 1) := by decide +kernel
theorem dX11_tithe_128 : decode cX11_tithe 128 = .ok (.iconst 0, 1) := by decide +kernel
theorem dX11_tithe_129 : decode cX11_tithe 129 = .ok (.aload_n 0, 1) := by decide +kernel
theorem dX11_tithe_130 : decode cX11_tithe 130 = .ok (.getfield 87, 3) := by decide +kernel
theorem dX11_tithe_133 : decode cX11_tithe 133 = .ok (.iload_n 1, 1) := by decide +kernel
theorem dX11_tithe_134 : decode cX11_tithe 134 = .ok (.iaload, 1) := by decide +kernel
theorem dX11_tithe_135 : decode cX11_tithe 135 = .ok (.aload_n 0, 1) := by decide +kernel
theorem dX11_tithe_136 : decode cX11_tithe 136 = .ok (.invokevirtual 355, 3) := by decide +kernel
theorem dX11_tithe_139 : decode cX11_tithe 139 = .ok (.invokestatic 196, 3) := by decide +kernel
theorem dX11_tithe_142 : decode cX11_tithe 142 = .ok (.invokestatic 289, 3) := by decide +kernel
theorem dX11_tithe_145 : decode cX11_tithe 145 = .ok (.ireturn, 1) := by decide +kernel
theorem dX11_lays_0 : decode cX11_lays 0 = .ok (.aload_n 0, 1) := by decide +kernel
theorem dX11_lays_1 : decode cX11_lays 1 = .ok (.getfield 87, 3) := by decide +kernel
theorem dX11_lays_4 : decode cX11_lays 4 = .ok (.iload_n 1, 1) := by decide +kernel
theorem dX11_lays_5 : decode cX11_lays 5 = .ok (.sipush 9999, 3) := by decide +kernel
theorem dX11_lays_8 : decode cX11_lays 8 = .ok (.aload_n 0, 1) := by decide +kernel
theorem dX11_lays_9 : decode cX11_lays 9 = .ok (.getfield 87, 3) := by decide +kernel
theorem dX11_lays_12 : decode cX11_lays 12 = .ok (.iload_n 1, 1) := by decide +kernel
theorem dX11_lays_13 : decode cX11_lays 13 = .ok (.iaload, 1) := by decide +kernel
theorem dX11_lays_14 : decode cX11_lays 14 = .ok (.iload_n 2, 1) := by decide +kernel
theorem dX11_lays_15 : decode cX11_lays 15 = .ok (.iadd, 1) := by decide +kernel
theorem dX11_lays_16 : decode cX11_lays 16 = .ok (.invokestatic 196, 3) := by decide +kernel
theorem dX11_lays_19 : decode cX11_lays 19 = .ok (.iastore, 1) := by decide +kernel
theorem dX11_lays_20 : decode cX11_lays 20 = .ok (.return_, 1) := by decide +kernel
theorem dX11_settle_0 : decode cX11_settle 0 = .ok (.iconst 0, 1) := by decide +kernel
theorem dX11_settle_1 : decode cX11_settle 1 = .ok (.istore_n 1, 1) := by decide +kernel
theorem dX11_settle_2 : decode cX11_settle 2 = .ok (.iload_n 1, 1) := by decide +kernel
theorem dX11_settle_3 : decode cX11_settle 3 = .ok (.aload_n 0, 1) := by decide +kernel
theorem dX11_settle_4 : decode cX11_settle 4 = .ok (.getfield 36, 3) := by decide +kernel
theorem dX11_settle_7 : decode cX11_settle 7 = .ok (.iconst 0, 1) := by decide +kernel
theorem dX11_settle_8 : decode cX11_settle 8 = .ok (.iaload, 1) := by decide +kernel
theorem dX11_settle_9 : decode cX11_settle 9 = .ok (.if_icmp .ge 41, 3) := by decide +kernel
theorem dX11_settle_12 : decode cX11_settle 12 = .ok (.aload_n 0, 1) := by decide +kernel
theorem dX11_settle_13 : decode cX11_settle 13 = .ok (.iload_n 1, 1) := by decide +kernel
theorem dX11_settle_14 : decode cX11_settle 14 = .ok (.aload_n 0, 1) := by decide +kernel
theorem dX11_settle_15 : decode cX11_settle 15 = .ok (.getfield 40, 3) := by decide +kernel
theorem dX11_settle_18 : decode cX11_settle 18 = .ok (.iload_n 1, 1) := by decide +kernel
theorem dX11_settle_19 : decode cX11_settle 19 = .ok (.iaload, 1) := by decide +kernel
theorem dX11_settle_20 : decode cX11_settle 20 = .ok (.iconst 2, 1) := by decide +kernel
theorem dX11_settle_21 : decode cX11_settle 21 = .ok (.if_icmp .ne 14, 3) := by decide +kernel
theorem dX11_settle_24 : decode cX11_settle 24 = .ok (.iconst 2, 1) := by decide +kernel
theorem dX11_settle_25 : decode cX11_settle 25 = .ok (.aload_n 0, 1) := by decide +kernel
theorem dX11_settle_26 : decode cX11_settle 26 = .ok (.getfield 47, 3) := by decide +kernel
theorem dX11_settle_29 : decode cX11_settle 29 = .ok (.iload_n 1, 1) := by decide +kernel
theorem dX11_settle_30 : decode cX11_settle 30 = .ok (.iaload, 1) := by decide +kernel
theorem dX11_settle_31 : decode cX11_settle 31 = .ok (.imul, 1) := by decide +kernel
theorem dX11_settle_32 : decode cX11_settle 32 = .ok (.goto 9, 3) := by decide +kernel
theorem dX11_settle_35 : decode cX11_settle 35 = .ok (.aload_n 0, 1) := by decide +kernel
theorem dX11_settle_36 : decode cX11_settle 36 = .ok (.getfield 47, 3) := by decide +kernel
theorem dX11_settle_39 : decode cX11_settle 39 = .ok (.iload_n 1, 1) := by decide +kernel
theorem dX11_settle_40 : decode cX11_settle 40 = .ok (.iaload, 1) := by decide +kernel
theorem dX11_settle_41 : decode cX11_settle 41 = .ok (.invokevirtual 358, 3) := by decide +kernel
theorem dX11_settle_44 : decode cX11_settle 44 = .ok (.iinc 1 1, 3) := by decide +kernel
theorem dX11_settle_47 : decode cX11_settle 47 = .ok (.goto (-45), 3) := by decide +kernel
theorem dX11_settle_50 : decode cX11_settle 50 = .ok (.return_, 1) := by decide +kernel
theorem dX11_windOf_0 : decode cX11_windOf 0 = .ok (.aload_n 0, 1) := by decide +kernel
theorem dX11_windOf_1 : decode cX11_windOf 1 = .ok (.getfield 36, 3) := by decide +kernel
theorem dX11_windOf_4 : decode cX11_windOf 4 = .ok (.iconst 3, 1) := by decide +kernel
theorem dX11_windOf_5 : decode cX11_windOf 5 = .ok (.iaload, 1) := by decide +kernel
theorem dX11_windOf_6 : decode cX11_windOf 6 = .ok (.ifCond .ne 7, 3) := by decide +kernel
theorem dX11_windOf_9 : decode cX11_windOf 9 = .ok (.iconst 5, 1) := by decide +kernel
theorem dX11_windOf_10 : decode cX11_windOf 10 = .ok (.goto 16, 3) := by decide +kernel
theorem dX11_windOf_13 : decode cX11_windOf 13 = .ok (.aload_n 0, 1) := by decide +kernel
theorem dX11_windOf_14 : decode cX11_windOf 14 = .ok (.getfield 91, 3) := by decide +kernel
theorem dX11_windOf_17 : decode cX11_windOf 17 = .ok (.iload_n 1, 1) := by decide +kernel
theorem dX11_windOf_18 : decode cX11_windOf 18 = .ok (.aload_n 0, 1) := by decide +kernel
theorem dX11_windOf_19 : decode cX11_windOf 19 = .ok (.getfield 36, 3) := by decide +kernel
theorem dX11_windOf_22 : decode cX11_windOf 22 = .ok (.iconst 3, 1) := by decide +kernel
theorem dX11_windOf_23 : decode cX11_windOf 23 = .ok (.iaload, 1) := by decide +kernel
theorem dX11_windOf_24 : decode cX11_windOf 24 = .ok (.irem, 1) := by decide +kernel
theorem dX11_windOf_25 : decode cX11_windOf 25 = .ok (.iaload, 1) := by decide +kernel
theorem dX11_windOf_26 : decode cX11_windOf 26 = .ok (.ireturn, 1) := by decide +kernel
theorem dX11_blows_0 : decode cX11_blows 0 = .ok (.bipush 8, 2) := by decide +kernel
theorem dX11_blows_2 : decode cX11_blows 2 = .ok (.iload_n 1, 1) := by decide +kernel
theorem dX11_blows_3 : decode cX11_blows 3 = .ok (.imul, 1) := by decide +kernel
theorem dX11_blows_4 : decode cX11_blows 4 = .ok (.istore_n 2, 1) := by decide +kernel
theorem dX11_blows_5 : decode cX11_blows 5 = .ok (.iload_n 1, 1) := by decide +kernel
theorem dX11_blows_6 : decode cX11_blows 6 = .ok (.iconst 5, 1) := by decide +kernel
theorem dX11_blows_7 : decode cX11_blows 7 = .ok (.if_icmp .eq 93, 3) := by decide +kernel
theorem dX11_blows_10 : decode cX11_blows 10 = .ok (.iload_n 2, 1) := by decide +kernel
theorem dX11_blows_11 : decode cX11_blows 11 = .ok (.bipush 8, 2) := by decide +kernel
theorem dX11_blows_13 : decode cX11_blows 13 = .ok (.iload_n 1, 1) := by decide +kernel
theorem dX11_blows_14 : decode cX11_blows 14 = .ok (.imul, 1) := by decide +kernel
theorem dX11_blows_15 : decode cX11_blows 15 = .ok (.aload_n 0, 1) := by decide +kernel
theorem dX11_blows_16 : decode cX11_blows 16 = .ok (.getfield 59, 3) := by decide +kernel
theorem dX11_blows_19 : decode cX11_blows 19 = .ok (.iload_n 1, 1) := by decide +kernel
theorem dX11_blows_20 : decode cX11_blows 20 = .ok (.iaload, 1) := by decide +kernel
theorem dX11_blows_21 : decode cX11_blows 21 = .ok (.iadd, 1) := by decide +kernel
theorem dX11_blows_22 : decode cX11_blows 22 = .ok (.if_icmp .ge 78, 3) := by decide +kernel
theorem dX11_blows_25 : decode cX11_blows 25 = .ok (.aload_n 0, 1) := by decide +kernel
theorem dX11_blows_26 : decode cX11_blows 26 = .ok (.getfield 87, 3) := by decide +kernel
theorem dX11_blows_29 : decode cX11_blows 29 = .ok (.aload_n 0, 1) := by decide +kernel
theorem dX11_blows_30 : decode cX11_blows 30 = .ok (.getfield 62, 3) := by decide +kernel
theorem dX11_blows_33 : decode cX11_blows 33 = .ok (.iload_n 2, 1) := by decide +kernel
theorem dX11_blows_34 : decode cX11_blows 34 = .ok (.iaload, 1) := by decide +kernel
theorem dX11_blows_35 : decode cX11_blows 35 = .ok (.iaload, 1) := by decide +kernel
theorem dX11_blows_36 : decode cX11_blows 36 = .ok (.aload_n 0, 1) := by decide +kernel
theorem dX11_blows_37 : decode cX11_blows 37 = .ok (.getfield 68, 3) := by decide +kernel
theorem dX11_blows_40 : decode cX11_blows 40 = .ok (.iload_n 2, 1) := by decide +kernel
theorem dX11_blows_41 : decode cX11_blows 41 = .ok (.iaload, 1) := by decide +kernel
theorem dX11_blows_42 : decode cX11_blows 42 = .ok (.imul, 1) := by decide +kernel
theorem dX11_blows_43 : decode cX11_blows 43 = .ok (.bipush 10, 2) := by decide +kernel
theorem dX11_blows_45 : decode cX11_blows 45 = .ok (.idiv, 1) := by decide +kernel
theorem dX11_blows_46 : decode cX11_blows 46 = .ok (.istore_n 3, 1) := by decide +kernel
theorem dX11_blows_47 : decode cX11_blows 47 = .ok (.aload_n 0, 1) := by decide +kernel
theorem dX11_blows_48 : decode cX11_blows 48 = .ok (.getfield 87, 3) := by decide +kernel
theorem dX11_blows_51 : decode cX11_blows 51 = .ok (.aload_n 0, 1) := by decide +kernel
theorem dX11_blows_52 : decode cX11_blows 52 = .ok (.getfield 62, 3) := by decide +kernel
theorem dX11_blows_55 : decode cX11_blows 55 = .ok (.iload_n 2, 1) := by decide +kernel
theorem dX11_blows_56 : decode cX11_blows 56 = .ok (.iaload, 1) := by decide +kernel
theorem dX11_blows_57 : decode cX11_blows 57 = .ok (.dup2, 1) := by decide +kernel
theorem dX11_blows_58 : decode cX11_blows 58 = .ok (.iaload, 1) := by decide +kernel
theorem dX11_blows_59 : decode cX11_blows 59 = .ok (.iload_n 3, 1) := by decide +kernel
theorem dX11_blows_60 : decode cX11_blows 60 = .ok (.isub, 1) := by decide +kernel
theorem dX11_blows_61 : decode cX11_blows 61 = .ok (.iastore, 1) := by decide +kernel
theorem dX11_blows_62 : decode cX11_blows 62 = .ok (.aload_n 0, 1) := by decide +kernel
theorem dX11_blows_63 : decode cX11_blows 63 = .ok (.aload_n 0, 1) := by decide +kernel
theorem dX11_blows_64 : decode cX11_blows 64 = .ok (.getfield 65, 3) := by decide +kernel
theorem dX11_blows_67 : decode cX11_blows 67 = .ok (.iload_n 2, 1) := by decide +kernel
theorem dX11_blows_68 : decode cX11_blows 68 = .ok (.iaload, 1) := by decide +kernel
theorem dX11_blows_69 : decode cX11_blows 69 = .ok (.aload_n 0, 1) := by decide +kernel
theorem dX11_blows_70 : decode cX11_blows 70 = .ok (.getfield 40, 3) := by decide +kernel
theorem dX11_blows_73 : decode cX11_blows 73 = .ok (.aload_n 0, 1) := by decide +kernel
theorem dX11_blows_74 : decode cX11_blows 74 = .ok (.getfield 65, 3) := by decide +kernel
theorem dX11_blows_77 : decode cX11_blows 77 = .ok (.iload_n 2, 1) := by decide +kernel
theorem dX11_blows_78 : decode cX11_blows 78 = .ok (.iaload, 1) := by decide +kernel
theorem dX11_blows_79 : decode cX11_blows 79 = .ok (.iaload, 1) := by decide +kernel
theorem dX11_blows_80 : decode cX11_blows 80 = .ok (.iconst 1, 1) := by decide +kernel
theorem dX11_blows_81 : decode cX11_blows 81 = .ok (.if_icmp .ne 9, 3) := by decide +kernel
theorem dX11_blows_84 : decode cX11_blows 84 = .ok (.iload_n 3, 1) := by decide +kernel
theorem dX11_blows_85 : decode cX11_blows 85 = .ok (.iconst 2, 1) := by decide +kernel
theorem dX11_blows_86 : decode cX11_blows 86 = .ok (.idiv, 1) := by decide +kernel
theorem dX11_blows_87 : decode cX11_blows 87 = .ok (.goto 4, 3) := by decide +kernel
theorem dX11_blows_90 : decode cX11_blows 90 = .ok (.iload_n 3, 1) := by decide +kernel
theorem dX11_blows_91 : decode cX11_blows 91 = .ok (.invokevirtual 358, 3) := by decide +kernel
theorem dX11_blows_94 : decode cX11_blows 94 = .ok (.iinc 2 1, 3) := by decide +kernel
theorem dX11_blows_97 : decode cX11_blows 97 = .ok (.goto (-92), 3) := by decide +kernel
theorem dX11_blows_100 : decode cX11_blows 100 = .ok (.return_, 1) := by decide +kernel
theorem dX11_church_0 : decode cX11_church 0 = .ok (.iconst 0, 1) := by decide +kernel
theorem dX11_church_1 : decode cX11_church 1 = .ok (.istore_n 1, 1) := by decide +kernel
theorem dX11_church_2 : decode cX11_church 2 = .ok (.iload_n 1, 1) := by decide +kernel
theorem dX11_church_3 : decode cX11_church 3 = .ok (.aload_n 0, 1) := by decide +kernel
theorem dX11_church_4 : decode cX11_church 4 = .ok (.getfield 36, 3) := by decide +kernel
theorem dX11_church_7 : decode cX11_church 7 = .ok (.iconst 0, 1) := by decide +kernel
theorem dX11_church_8 : decode cX11_church 8 = .ok (.iaload, 1) := by decide +kernel
theorem dX11_church_9 : decode cX11_church 9 = .ok (.if_icmp .ge 20, 3) := by decide +kernel
theorem dX11_church_12 : decode cX11_church 12 = .ok (.aload_n 0, 1) := by decide +kernel
theorem dX11_church_13 : decode cX11_church 13 = .ok (.getfield 103, 3) := by decide +kernel
theorem dX11_church_16 : decode cX11_church 16 = .ok (.iload_n 1, 1) := by decide +kernel
theorem dX11_church_17 : decode cX11_church 17 = .ok (.aload_n 0, 1) := by decide +kernel
theorem dX11_church_18 : decode cX11_church 18 = .ok (.iload_n 1, 1) := by decide +kernel
theorem dX11_church_19 : decode cX11_church 19 = .ok (.invokevirtual 362, 3) := by decide +kernel
theorem dX11_church_22 : decode cX11_church 22 = .ok (.iastore, 1) := by decide +kernel
theorem dX11_church_23 : decode cX11_church 23 = .ok (.iinc 1 1, 3) := by decide +kernel
theorem dX11_church_26 : decode cX11_church 26 = .ok (.goto (-24), 3) := by decide +kernel
theorem dX11_church_29 : decode cX11_church 29 = .ok (.iconst 0, 1) := by decide +kernel
theorem dX11_church_30 : decode cX11_church 30 = .ok (.istore_n 1, 1) := by decide +kernel
theorem dX11_church_31 : decode cX11_church 31 = .ok (.iload_n 1, 1) := by decide +kernel
theorem dX11_church_32 : decode cX11_church 32 = .ok (.aload_n 0, 1) := by decide +kernel
theorem dX11_church_33 : decode cX11_church 33 = .ok (.getfield 36, 3) := by decide +kernel
theorem dX11_church_36 : decode cX11_church 36 = .ok (.iconst 0, 1) := by decide +kernel
theorem dX11_church_37 : decode cX11_church 37 = .ok (.iaload, 1) := by decide +kernel
theorem dX11_church_38 : decode cX11_church 38 = .ok (.if_icmp .ge 46, 3) := by decide +kernel
theorem dX11_church_41 : decode cX11_church 41 = .ok (.aload_n 0, 1) := by decide +kernel
theorem dX11_church_42 : decode cX11_church 42 = .ok (.getfield 87, 3) := by decide +kernel
theorem dX11_church_45 : decode cX11_church 45 = .ok (.iload_n 1, 1) := by decide +kernel
theorem dX11_church_46 : decode cX11_church 46 = .ok (.dup2, 1) := by decide +kernel
theorem dX11_church_47 : decode cX11_church 47 = .ok (.iaload, 1) := by decide +kernel
theorem dX11_church_48 : decode cX11_church 48 = .ok (.aload_n 0, 1) := by decide +kernel
theorem dX11_church_49 : decode cX11_church 49 = .ok (.getfield 103, 3) := by decide +kernel
theorem dX11_church_52 : decode cX11_church 52 = .ok (.iload_n 1, 1) := by decide +kernel
theorem dX11_church_53 : decode cX11_church 53 = .ok (.iaload, 1) := by decide +kernel
theorem dX11_church_54 : decode cX11_church 54 = .ok (.isub, 1) := by decide +kernel
theorem dX11_church_55 : decode cX11_church 55 = .ok (.iastore, 1) := by decide +kernel
theorem dX11_church_56 : decode cX11_church 56 = .ok (.aload_n 0, 1) := by decide +kernel
theorem dX11_church_57 : decode cX11_church 57 = .ok (.dup, 1) := by decide +kernel
theorem dX11_church_58 : decode cX11_church 58 = .ok (.getfield 335, 3) := by decide +kernel
theorem dX11_church_61 : decode cX11_church 61 = .ok (.aload_n 0, 1) := by decide +kernel
theorem dX11_church_62 : decode cX11_church 62 = .ok (.getfield 103, 3) := by decide +kernel
theorem dX11_church_65 : decode cX11_church 65 = .ok (.iload_n 1, 1) := by decide +kernel
theorem dX11_church_66 : decode cX11_church 66 = .ok (.iaload, 1) := by decide +kernel
theorem dX11_church_67 : decode cX11_church 67 = .ok (.iadd, 1) := by decide +kernel
theorem dX11_church_68 : decode cX11_church 68 = .ok (.putfield 335, 3) := by decide +kernel
theorem dX11_church_71 : decode cX11_church 71 = .ok (.aload_n 0, 1) := by decide +kernel
theorem dX11_church_72 : decode cX11_church 72 = .ok (.getfield 89, 3) := by decide +kernel
theorem dX11_church_75 : decode cX11_church 75 = .ok (.iload_n 1, 1) := by decide +kernel
theorem dX11_church_76 : decode cX11_church 76 = .ok (.iconst 0, 1) := by decide +kernel
theorem dX11_church_77 : decode cX11_church 77 = .ok (.iastore, 1) := by decide +kernel
theorem dX11_church_78 : decode cX11_church 78 = .ok (.iinc 1 1, 3) := by decide +kernel
theorem dX11_church_81 : decode cX11_church 81 = .ok (.goto (-50), 3) := by decide +kernel
theorem dX11_church_84 : decode cX11_church 84 = .ok (.return_, 1) := by decide +kernel
theorem dX11_passes_0 : decode cX11_passes 0 = .ok (.aload_n 0, 1) := by decide +kernel
theorem dX11_passes_1 : decode cX11_passes 1 = .ok (.invokevirtual 364, 3) := by decide +kernel
theorem dX11_passes_4 : decode cX11_passes 4 = .ok (.aload_n 0, 1) := by decide +kernel
theorem dX11_passes_5 : decode cX11_passes 5 = .ok (.iload_n 1, 1) := by decide +kernel
theorem dX11_passes_6 : decode cX11_passes 6 = .ok (.invokevirtual 367, 3) := by decide +kernel
theorem dX11_passes_9 : decode cX11_passes 9 = .ok (.aload_n 0, 1) := by decide +kernel
theorem dX11_passes_10 : decode cX11_passes 10 = .ok (.getfield 333, 3) := by decide +kernel
theorem dX11_passes_13 : decode cX11_passes 13 = .ok (.iconst 1, 1) := by decide +kernel
theorem dX11_passes_14 : decode cX11_passes 14 = .ok (.iadd, 1) := by decide +kernel
theorem dX11_passes_15 : decode cX11_passes 15 = .ok (.iload_n 2, 1) := by decide +kernel
theorem dX11_passes_16 : decode cX11_passes 16 = .ok (.irem, 1) := by decide +kernel
theorem dX11_passes_17 : decode cX11_passes 17 = .ok (.ifCond .ne 7, 3) := by decide +kernel
theorem dX11_passes_20 : decode cX11_passes 20 = .ok (.aload_n 0, 1) := by decide +kernel
theorem dX11_passes_21 : decode cX11_passes 21 = .ok (.invokevirtual 369, 3) := by decide +kernel
theorem dX11_passes_24 : decode cX11_passes 24 = .ok (.aload_n 0, 1) := by decide +kernel
theorem dX11_passes_25 : decode cX11_passes 25 = .ok (.dup, 1) := by decide +kernel
theorem dX11_passes_26 : decode cX11_passes 26 = .ok (.getfield 333, 3) := by decide +kernel
theorem dX11_passes_29 : decode cX11_passes 29 = .ok (.iconst 1, 1) := by decide +kernel
theorem dX11_passes_30 : decode cX11_passes 30 = .ok (.iadd, 1) := by decide +kernel
theorem dX11_passes_31 : decode cX11_passes 31 = .ok (.putfield 333, 3) := by decide +kernel
theorem dX11_passes_34 : decode cX11_passes 34 = .ok (.return_, 1) := by decide +kernel
theorem dX11_aDay_0 : decode cX11_aDay 0 = .ok (.aload_n 0, 1) := by decide +kernel
theorem dX11_aDay_1 : decode cX11_aDay 1 = .ok (.aload_n 0, 1) := by decide +kernel
theorem dX11_aDay_2 : decode cX11_aDay 2 = .ok (.aload_n 0, 1) := by decide +kernel
theorem dX11_aDay_3 : decode cX11_aDay 3 = .ok (.getfield 333, 3) := by decide +kernel
theorem dX11_aDay_6 : decode cX11_aDay 6 = .ok (.invokevirtual 372, 3) := by decide +kernel
theorem dX11_aDay_9 : decode cX11_aDay 9 = .ok (.aload_n 0, 1) := by decide +kernel
theorem dX11_aDay_10 : decode cX11_aDay 10 = .ok (.getfield 36, 3) := by decide +kernel
theorem dX11_aDay_13 : decode cX11_aDay 13 = .ok (.iconst 4, 1) := by decide +kernel
theorem dX11_aDay_14 : decode cX11_aDay 14 = .ok (.iaload, 1) := by decide +kernel
theorem dX11_aDay_15 : decode cX11_aDay 15 = .ok (.invokevirtual 375, 3) := by decide +kernel
theorem dX11_aDay_18 : decode cX11_aDay 18 = .ok (.return_, 1) := by decide +kernel
theorem dX11_goOn_0 : decode cX11_goOn 0 = .ok (.iconst 0, 1) := by decide +kernel
theorem dX11_goOn_1 : decode cX11_goOn 1 = .ok (.istore_n 2, 1) := by decide +kernel
theorem dX11_goOn_2 : decode cX11_goOn 2 = .ok (.iload_n 2, 1) := by decide +kernel
theorem dX11_goOn_3 : decode cX11_goOn 3 = .ok (.iload_n 1, 1) := by decide +kernel
theorem dX11_goOn_4 : decode cX11_goOn 4 = .ok (.if_icmp .ge 13, 3) := by decide +kernel
theorem dX11_goOn_7 : decode cX11_goOn 7 = .ok (.aload_n 0, 1) := by decide +kernel
theorem dX11_goOn_8 : decode cX11_goOn 8 = .ok (.invokevirtual 378, 3) := by decide +kernel
theorem dX11_goOn_11 : decode cX11_goOn 11 = .ok (.iinc 2 1, 3) := by decide +kernel
theorem dX11_goOn_14 : decode cX11_goOn 14 = .ok (.goto (-12), 3) := by decide +kernel
theorem dX11_goOn_17 : decode cX11_goOn 17 = .ok (.return_, 1) := by decide +kernel
theorem dX11_allDust_0 : decode cX11_allDust 0 = .ok (.iconst 0, 1) := by decide +kernel
theorem dX11_allDust_1 : decode cX11_allDust 1 = .ok (.istore_n 1, 1) := by decide +kernel
theorem dX11_allDust_2 : decode cX11_allDust 2 = .ok (.iconst 0, 1) := by decide +kernel
theorem dX11_allDust_3 : decode cX11_allDust 3 = .ok (.istore_n 2, 1) := by decide +kernel
theorem dX11_allDust_4 : decode cX11_allDust 4 = .ok (.iload_n 2, 1) := by decide +kernel
theorem dX11_allDust_5 : decode cX11_allDust 5 = .ok (.aload_n 0, 1) := by decide +kernel
theorem dX11_allDust_6 : decode cX11_allDust 6 = .ok (.getfield 36, 3) := by decide +kernel
theorem dX11_allDust_9 : decode cX11_allDust 9 = .ok (.iconst 0, 1) := by decide +kernel
theorem dX11_allDust_10 : decode cX11_allDust 10 = .ok (.iaload, 1) := by decide +kernel
theorem dX11_allDust_11 : decode cX11_allDust 11 = .ok (.if_icmp .ge 18, 3) := by decide +kernel
theorem dX11_allDust_14 : decode cX11_allDust 14 = .ok (.iload_n 1, 1) := by decide +kernel
theorem dX11_allDust_15 : decode cX11_allDust 15 = .ok (.aload_n 0, 1) := by decide +kernel
theorem dX11_allDust_16 : decode cX11_allDust 16 = .ok (.getfield 87, 3) := by decide +kernel
theorem dX11_allDust_19 : decode cX11_allDust 19 = .ok (.iload_n 2, 1) := by decide +kernel
theorem dX11_allDust_20 : decode cX11_allDust 20 = .ok (.iaload, 1) := by decide +kernel
theorem dX11_allDust_21 : decode cX11_allDust 21 = .ok (.iadd, 1) := by decide +kernel
theorem dX11_allDust_22 : decode cX11_allDust 22 = .ok (.istore_n 1, 1) := by decide +kernel
theorem dX11_allDust_23 : decode cX11_allDust 23 = .ok (.iinc 2 1, 3) := by decide +kernel
theorem dX11_allDust_26 : decode cX11_allDust 26 = .ok (.goto (-22), 3) := by decide +kernel
theorem dX11_allDust_29 : decode cX11_allDust 29 = .ok (.iload_n 1, 1) := by decide +kernel
theorem dX11_allDust_30 : decode cX11_allDust 30 = .ok (.ireturn, 1) := by decide +kernel
theorem dX11_heretics_0 : decode cX11_heretics 0 = .ok (.iconst 0, 1) := by decide +kernel
theorem dX11_heretics_1 : decode cX11_heretics 1 = .ok (.istore_n 1, 1) := by decide +kernel
theorem dX11_heretics_2 : decode cX11_heretics 2 = .ok (.iconst 0, 1) := by decide +kernel
theorem dX11_heretics_3 : decode cX11_heretics 3 = .ok (.istore_n 2, 1) := by decide +kernel
theorem dX11_heretics_4 : decode cX11_heretics 4 = .ok (.iload_n 2, 1) := by decide +kernel
theorem dX11_heretics_5 : decode cX11_heretics 5 = .ok (.aload_n 0, 1) := by decide +kernel
theorem dX11_heretics_6 : decode cX11_heretics 6 = .ok (.getfield 36, 3) := by decide +kernel
theorem dX11_heretics_9 : decode cX11_heretics 9 = .ok (.iconst 0, 1) := by decide +kernel
theorem dX11_heretics_10 : decode cX11_heretics 10 = .ok (.iaload, 1) := by decide +kernel
theorem dX11_heretics_11 : decode cX11_heretics 11 = .ok (.if_icmp .ge 49, 3) := by decide +kernel
theorem dX11_heretics_14 : decode cX11_heretics 14 = .ok (.iload_n 1, 1) := by decide +kernel
theorem dX11_heretics_15 : decode cX11_heretics 15 = .ok (.aload_n 0, 1) := by decide +kernel
theorem dX11_heretics_16 : decode cX11_heretics 16 = .ok (.getfield 40, 3) := by decide +kernel
theorem dX11_heretics_19 : decode cX11_heretics 19 = .ok (.iload_n 2, 1) := by decide +kernel
theorem dX11_heretics_20 : decode cX11_heretics 20 = .ok (.iaload, 1) := by decide +kernel
theorem dX11_heretics_21 : decode cX11_heretics 21 = .ok (.iconst 2, 1) := by decide +kernel
theorem dX11_heretics_22 : decode cX11_heretics 22 = .ok (.if_icmp .eq 29, 3) := by decide +kernel
theorem dX11_heretics_25 : decode cX11_heretics 25 = .ok (.aload_n 0, 1) := by decide +kernel
theorem dX11_heretics_26 : decode cX11_heretics 26 = .ok (.getfield 87, 3) := by decide +kernel
theorem dX11_heretics_29 : decode cX11_heretics 29 = .ok (.iload_n 2, 1) := by decide +kernel
theorem dX11_heretics_30 : decode cX11_heretics 30 = .ok (.iaload, 1) := by decide +kernel
theorem dX11_heretics_31 : decode cX11_heretics 31 = .ok (.aload_n 0, 1) := by decide +kernel
theorem dX11_heretics_32 : decode cX11_heretics 32 = .ok (.getfield 36, 3) := by decide +kernel
theorem dX11_heretics_35 : decode cX11_heretics 35 = .ok (.iconst 5, 1) := by decide +kernel
theorem dX11_heretics_36 : decode cX11_heretics 36 = .ok (.iaload, 1) := by decide +kernel
theorem dX11_heretics_37 : decode cX11_heretics 37 = .ok (.if_icmp .ge 14, 3) := by decide +kernel
theorem dX11_heretics_40 : decode cX11_heretics 40 = .ok (.iconst 1, 1) := by decide +kernel
theorem dX11_heretics_41 : decode cX11_heretics 41 = .ok (.aload_n 0, 1) := by decide +kernel
theorem dX11_heretics_42 : decode cX11_heretics 42 = .ok (.getfield 42, 3) := by decide +kernel
theorem dX11_heretics_45 : decode cX11_heretics 45 = .ok (.iload_n 2, 1) := by decide +kernel
theorem dX11_heretics_46 : decode cX11_heretics 46 = .ok (.iaload, 1) := by decide +kernel
theorem dX11_heretics_47 : decode cX11_heretics 47 = .ok (.ishl, 1) := by decide +kernel
theorem dX11_heretics_48 : decode cX11_heretics 48 = .ok (.goto 4, 3) := by decide +kernel
theorem dX11_heretics_51 : decode cX11_heretics 51 = .ok (.iconst 0, 1) := by decide +kernel
theorem dX11_heretics_52 : decode cX11_heretics 52 = .ok (.ior, 1) := by decide +kernel
theorem dX11_heretics_53 : decode cX11_heretics 53 = .ok (.istore_n 1, 1) := by decide +kernel
theorem dX11_heretics_54 : decode cX11_heretics 54 = .ok (.iinc 2 1, 3) := by decide +kernel
theorem dX11_heretics_57 : decode cX11_heretics 57 = .ok (.goto (-53), 3) := by decide +kernel
theorem dX11_heretics_60 : decode cX11_heretics 60 = .ok (.iload_n 1, 1) := by decide +kernel
theorem dX11_heretics_61 : decode cX11_heretics 61 = .ok (.ireturn, 1) := by decide +kernel
theorem dX11_count_0 : decode cX11_count 0 = .ok (.aload_n 0, 1) := by decide +kernel
theorem dX11_count_1 : decode cX11_count 1 = .ok (.iconst 0, 1) := by decide +kernel
theorem dX11_count_2 : decode cX11_count 2 = .ok (.putfield 157, 3) := by decide +kernel
theorem dX11_count_5 : decode cX11_count 5 = .ok (.iload_n 1, 1) := by decide +kernel
theorem dX11_count_6 : decode cX11_count 6 = .ok (.tableswitch 139 0 16 #[82, 82, 82, 82, 82, 82, 89, 94, 99, 104, 109, 114, 119, 124, 129, 129, 129], 82) := by decide +kernel
theorem dX11_count_88 : decode cX11_count 88 = .ok (.aload_n 0, 1) := by decide +kernel
theorem dX11_count_89 : decode cX11_count 89 = .ok (.getfield 36, 3) := by decide +kernel
theorem dX11_count_92 : decode cX11_count 92 = .ok (.iload_n 1, 1) := by decide +kernel
theorem dX11_count_93 : decode cX11_count 93 = .ok (.iaload, 1) := by decide +kernel
theorem dX11_count_94 : decode cX11_count 94 = .ok (.ireturn, 1) := by decide +kernel
theorem dX11_count_95 : decode cX11_count 95 = .ok (.aload_n 0, 1) := by decide +kernel
theorem dX11_count_96 : decode cX11_count 96 = .ok (.getfield 333, 3) := by decide +kernel
theorem dX11_count_99 : decode cX11_count 99 = .ok (.ireturn, 1) := by decide +kernel
theorem dX11_count_100 : decode cX11_count 100 = .ok (.aload_n 0, 1) := by decide +kernel
theorem dX11_count_101 : decode cX11_count 101 = .ok (.invokevirtual 381, 3) := by decide +kernel
theorem dX11_count_104 : decode cX11_count 104 = .ok (.ireturn, 1) := by decide +kernel
theorem dX11_count_105 : decode cX11_count 105 = .ok (.aload_n 0, 1) := by decide +kernel
theorem dX11_count_106 : decode cX11_count 106 = .ok (.getfield 335, 3) := by decide +kernel
theorem dX11_count_109 : decode cX11_count 109 = .ok (.ireturn, 1) := by decide +kernel
theorem dX11_count_110 : decode cX11_count 110 = .ok (.aload_n 0, 1) := by decide +kernel
theorem dX11_count_111 : decode cX11_count 111 = .ok (.getfield 338, 3) := by decide +kernel
theorem dX11_count_114 : decode cX11_count 114 = .ok (.ireturn, 1) := by decide +kernel
theorem dX11_count_115 : decode cX11_count 115 = .ok (.aload_n 0, 1) := by decide +kernel
theorem dX11_count_116 : decode cX11_count 116 = .ok (.invokevirtual 384, 3) := by decide +kernel
theorem dX11_count_119 : decode cX11_count 119 = .ok (.ireturn, 1) := by decide +kernel
theorem dX11_count_120 : decode cX11_count 120 = .ok (.aload_n 0, 1) := by decide +kernel
theorem dX11_count_121 : decode cX11_count 121 = .ok (.getfield 341, 3) := by decide +kernel
theorem dX11_count_124 : decode cX11_count 124 = .ok (.ireturn, 1) := by decide +kernel
theorem dX11_count_125 : decode cX11_count 125 = .ok (.aload_n 0, 1) := by decide +kernel
theorem dX11_count_126 : decode cX11_count 126 = .ok (.getfield 344, 3) := by decide +kernel
theorem dX11_count_129 : decode cX11_count 129 = .ok (.ireturn, 1) := by decide +kernel
theorem dX11_count_130 : decode cX11_count 130 = .ok (.aload_n 0, 1) := by decide +kernel
theorem dX11_count_131 : decode cX11_count 131 = .ok (.getfield 166, 3) := by decide +kernel
theorem dX11_count_134 : decode cX11_count 134 = .ok (.ireturn, 1) := by decide +kernel
theorem dX11_count_135 : decode cX11_count 135 = .ok (.aload_n 0, 1) := by decide +kernel
theorem dX11_count_136 : decode cX11_count 136 = .ok (.getfield 77, 3) := by decide +kernel
theorem dX11_count_139 : decode cX11_count 139 = .ok (.iload_n 1, 1) := by decide +kernel
theorem dX11_count_140 : decode cX11_count 140 = .ok (.bipush 14, 2) := by decide +kernel
theorem dX11_count_142 : decode cX11_count 142 = .ok (.isub, 1) := by decide +kernel
theorem dX11_count_143 : decode cX11_count 143 = .ok (.iaload, 1) := by decide +kernel
theorem dX11_count_144 : decode cX11_count 144 = .ok (.ireturn, 1) := by decide +kernel
theorem dX11_count_145 : decode cX11_count 145 = .ok (.aload_n 0, 1) := by decide +kernel
theorem dX11_count_146 : decode cX11_count 146 = .ok (.iconst 1, 1) := by decide +kernel
theorem dX11_count_147 : decode cX11_count 147 = .ok (.invokevirtual 320, 3) := by decide +kernel
theorem dX11_count_150 : decode cX11_count 150 = .ok (.ireturn, 1) := by decide +kernel
theorem dX11_hasDoor_0 : decode cX11_hasDoor 0 = .ok (.iconst 0, 1) := by decide +kernel
theorem dX11_hasDoor_1 : decode cX11_hasDoor 1 = .ok (.istore_n 3, 1) := by decide +kernel
theorem dX11_hasDoor_2 : decode cX11_hasDoor 2 = .ok (.iload_n 3, 1) := by decide +kernel
theorem dX11_hasDoor_3 : decode cX11_hasDoor 3 = .ok (.aload_n 0, 1) := by decide +kernel
theorem dX11_hasDoor_4 : decode cX11_hasDoor 4 = .ok (.getfield 36, 3) := by decide +kernel
theorem dX11_hasDoor_7 : decode cX11_hasDoor 7 = .ok (.iconst 1, 1) := by decide +kernel
theorem dX11_hasDoor_8 : decode cX11_hasDoor 8 = .ok (.iaload, 1) := by decide +kernel
theorem dX11_hasDoor_9 : decode cX11_hasDoor 9 = .ok (.if_icmp .ge 51, 3) := by decide +kernel
theorem dX11_hasDoor_12 : decode cX11_hasDoor 12 = .ok (.aload_n 0, 1) := by decide +kernel
theorem dX11_hasDoor_13 : decode cX11_hasDoor 13 = .ok (.getfield 50, 3) := by decide +kernel
theorem dX11_hasDoor_16 : decode cX11_hasDoor 16 = .ok (.iload_n 3, 1) := by decide +kernel
theorem dX11_hasDoor_17 : decode cX11_hasDoor 17 = .ok (.iaload, 1) := by decide +kernel
theorem dX11_hasDoor_18 : decode cX11_hasDoor 18 = .ok (.iload_n 1, 1) := by decide +kernel
theorem dX11_hasDoor_19 : decode cX11_hasDoor 19 = .ok (.if_icmp .ne 13, 3) := by decide +kernel
theorem dX11_hasDoor_22 : decode cX11_hasDoor 22 = .ok (.aload_n 0, 1) := by decide +kernel
theorem dX11_hasDoor_23 : decode cX11_hasDoor 23 = .ok (.getfield 53, 3) := by decide +kernel
theorem dX11_hasDoor_26 : decode cX11_hasDoor 26 = .ok (.iload_n 3, 1) := by decide +kernel
theorem dX11_hasDoor_27 : decode cX11_hasDoor 27 = .ok (.iaload, 1) := by decide +kernel
theorem dX11_hasDoor_28 : decode cX11_hasDoor 28 = .ok (.iload_n 2, 1) := by decide +kernel
theorem dX11_hasDoor_29 : decode cX11_hasDoor 29 = .ok (.if_icmp .eq 23, 3) := by decide +kernel
theorem dX11_hasDoor_32 : decode cX11_hasDoor 32 = .ok (.aload_n 0, 1) := by decide +kernel
theorem dX11_hasDoor_33 : decode cX11_hasDoor 33 = .ok (.getfield 50, 3) := by decide +kernel
theorem dX11_hasDoor_36 : decode cX11_hasDoor 36 = .ok (.iload_n 3, 1) := by decide +kernel
theorem dX11_hasDoor_37 : decode cX11_hasDoor 37 = .ok (.iaload, 1) := by decide +kernel
theorem dX11_hasDoor_38 : decode cX11_hasDoor 38 = .ok (.iload_n 2, 1) := by decide +kernel
theorem dX11_hasDoor_39 : decode cX11_hasDoor 39 = .ok (.if_icmp .ne 15, 3) := by decide +kernel
theorem dX11_hasDoor_42 : decode cX11_hasDoor 42 = .ok (.aload_n 0, 1) := by decide +kernel
theorem dX11_hasDoor_43 : decode cX11_hasDoor 43 = .ok (.getfield 53, 3) := by decide +kernel
theorem dX11_hasDoor_46 : decode cX11_hasDoor 46 = .ok (.iload_n 3, 1) := by decide +kernel
theorem dX11_hasDoor_47 : decode cX11_hasDoor 47 = .ok (.iaload, 1) := by decide +kernel
theorem dX11_hasDoor_48 : decode cX11_hasDoor 48 = .ok (.iload_n 1, 1) := by decide +kernel
theorem dX11_hasDoor_49 : decode cX11_hasDoor 49 = .ok (.if_icmp .ne 5, 3) := by decide +kernel
theorem dX11_hasDoor_52 : decode cX11_hasDoor 52 = .ok (.iconst 1, 1) := by decide +kernel
theorem dX11_hasDoor_53 : decode cX11_hasDoor 53 = .ok (.ireturn, 1) := by decide +kernel
theorem dX11_hasDoor_54 : decode cX11_hasDoor 54 = .ok (.iinc 3 1, 3) := by decide +kernel
theorem dX11_hasDoor_57 : decode cX11_hasDoor 57 = .ok (.goto (-55), 3) := by decide +kernel
theorem dX11_hasDoor_60 : decode cX11_hasDoor 60 = .ok (.iconst 0, 1) := by decide +kernel
theorem dX11_hasDoor_61 : decode cX11_hasDoor 61 = .ok (.ireturn, 1) := by decide +kernel
theorem dX11_room_0 : decode cX11_room 0 = .ok (.aload_n 0, 1) := by decide +kernel
theorem dX11_room_1 : decode cX11_room 1 = .ok (.iconst 0, 1) := by decide +kernel
theorem dX11_room_2 : decode cX11_room 2 = .ok (.putfield 157, 3) := by decide +kernel
theorem dX11_room_5 : decode cX11_room 5 = .ok (.aload_n 0, 1) := by decide +kernel
theorem dX11_room_6 : decode cX11_room 6 = .ok (.iload_n 1, 1) := by decide +kernel
theorem dX11_room_7 : decode cX11_room 7 = .ok (.invokevirtual 387, 3) := by decide +kernel
theorem dX11_room_10 : decode cX11_room 10 = .ok (.ifCond .ne 9, 3) := by decide +kernel
theorem dX11_room_13 : decode cX11_room 13 = .ok (.aload_n 0, 1) := by decide +kernel
theorem dX11_room_14 : decode cX11_room 14 = .ok (.iconst 1, 1) := by decide +kernel
theorem dX11_room_15 : decode cX11_room 15 = .ok (.invokevirtual 320, 3) := by decide +kernel
theorem dX11_room_18 : decode cX11_room 18 = .ok (.ireturn, 1) := by decide +kernel
theorem dX11_room_19 : decode cX11_room 19 = .ok (.iload_n 2, 1) := by decide +kernel
theorem dX11_room_20 : decode cX11_room 20 = .ok (.tableswitch 139 0 6 #[44, 51, 58, 65, 72, 79, 85], 44) := by decide +kernel
theorem dX11_room_64 : decode cX11_room 64 = .ok (.aload_n 0, 1) := by decide +kernel
theorem dX11_room_65 : decode cX11_room 65 = .ok (.getfield 40, 3) := by decide +kernel
theorem dX11_room_68 : decode cX11_room 68 = .ok (.iload_n 1, 1) := by decide +kernel
theorem dX11_room_69 : decode cX11_room 69 = .ok (.iaload, 1) := by decide +kernel
theorem dX11_room_70 : decode cX11_room 70 = .ok (.ireturn, 1) := by decide +kernel
theorem dX11_room_71 : decode cX11_room 71 = .ok (.aload_n 0, 1) := by decide +kernel
theorem dX11_room_72 : decode cX11_room 72 = .ok (.getfield 42, 3) := by decide +kernel
theorem dX11_room_75 : decode cX11_room 75 = .ok (.iload_n 1, 1) := by decide +kernel
theorem dX11_room_76 : decode cX11_room 76 = .ok (.iaload, 1) := by decide +kernel
theorem dX11_room_77 : decode cX11_room 77 = .ok (.ireturn, 1) := by decide +kernel
theorem dX11_room_78 : decode cX11_room 78 = .ok (.aload_n 0, 1) := by decide +kernel
theorem dX11_room_79 : decode cX11_room 79 = .ok (.getfield 87, 3) := by decide +kernel
theorem dX11_room_82 : decode cX11_room 82 = .ok (.iload_n 1, 1) := by decide +kernel
theorem dX11_room_83 : decode cX11_room 83 = .ok (.iaload, 1) := by decide +kernel
theorem dX11_room_84 : decode cX11_room 84 = .ok (.ireturn, 1) := by decide +kernel
theorem dX11_room_85 : decode cX11_room 85 = .ok (.aload_n 0, 1) := by decide +kernel
theorem dX11_room_86 : decode cX11_room 86 = .ok (.getfield 47, 3) := by decide +kernel
theorem dX11_room_89 : decode cX11_room 89 = .ok (.iload_n 1, 1) := by decide +kernel
theorem dX11_room_90 : decode cX11_room 90 = .ok (.iaload, 1) := by decide +kernel
theorem dX11_room_91 : decode cX11_room 91 = .ok (.ireturn, 1) := by decide +kernel
theorem dX11_room_92 : decode cX11_room 92 = .ok (.aload_n 0, 1) := by decide +kernel
theorem dX11_room_93 : decode cX11_room 93 = .ok (.getfield 89, 3) := by decide +kernel
theorem dX11_room_96 : decode cX11_room 96 = .ok (.iload_n 1, 1) := by decide +kernel
theorem dX11_room_97 : decode cX11_room 97 = .ok (.iaload, 1) := by decide +kernel
theorem dX11_room_98 : decode cX11_room 98 = .ok (.ireturn, 1) := by decide +kernel
theorem dX11_room_99 : decode cX11_room 99 = .ok (.aload_n 0, 1) := by decide +kernel
theorem dX11_room_100 : decode cX11_room 100 = .ok (.iload_n 1, 1) := by decide +kernel
theorem dX11_room_101 : decode cX11_room 101 = .ok (.invokevirtual 362, 3) := by decide +kernel
theorem dX11_room_104 : decode cX11_room 104 = .ok (.ireturn, 1) := by decide +kernel
theorem dX11_room_105 : decode cX11_room 105 = .ok (.iconst 0, 1) := by decide +kernel
theorem dX11_room_106 : decode cX11_room 106 = .ok (.istore_n 3, 1) := by decide +kernel
theorem dX11_room_107 : decode cX11_room 107 = .ok (.iconst 0, 1) := by decide +kernel
theorem dX11_room_108 : decode cX11_room 108 = .ok (.istore 4, 2) := by decide +kernel
theorem dX11_room_110 : decode cX11_room 110 = .ok (.iload 4, 2) := by decide +kernel
theorem dX11_room_112 : decode cX11_room 112 = .ok (.aload_n 0, 1) := by decide +kernel
theorem dX11_room_113 : decode cX11_room 113 = .ok (.getfield 36, 3) := by decide +kernel
theorem dX11_room_116 : decode cX11_room 116 = .ok (.iconst 1, 1) := by decide +kernel
theorem dX11_room_117 : decode cX11_room 117 = .ok (.iaload, 1) := by decide +kernel
theorem dX11_room_118 : decode cX11_room 118 = .ok (.if_icmp .ge 39, 3) := by decide +kernel
theorem dX11_room_121 : decode cX11_room 121 = .ok (.iload_n 3, 1) := by decide +kernel
theorem dX11_room_122 : decode cX11_room 122 = .ok (.aload_n 0, 1) := by decide +kernel
theorem dX11_room_123 : decode cX11_room 123 = .ok (.getfield 50, 3) := by decide +kernel
theorem dX11_room_126 : decode cX11_room 126 = .ok (.iload 4, 2) := by decide +kernel
theorem dX11_room_128 : decode cX11_room 128 = .ok (.iaload, 1) := by decide +kernel
theorem dX11_room_129 : decode cX11_room 129 = .ok (.iload_n 1, 1) := by decide +kernel
theorem dX11_room_130 : decode cX11_room 130 = .ok (.if_icmp .eq 14, 3) := by decide +kernel
theorem dX11_room_133 : decode cX11_room 133 = .ok (.aload_n 0, 1) := by decide +kernel
theorem dX11_room_134 : decode cX11_room 134 = .ok (.getfield 53, 3) := by decide +kernel
theorem dX11_room_137 : decode cX11_room 137 = .ok (.iload 4, 2) := by decide +kernel
theorem dX11_room_139 : decode cX11_room 139 = .ok (.iaload, 1) := by decide +kernel
theorem dX11_room_140 : decode cX11_room 140 = .ok (.iload_n 1, 1) := by decide +kernel
theorem dX11_room_141 : decode cX11_room 141 = .ok (.if_icmp .ne 7, 3) := by decide +kernel
theorem dX11_room_144 : decode cX11_room 144 = .ok (.iconst 1, 1) := by decide +kernel
theorem dX11_room_145 : decode cX11_room 145 = .ok (.goto 4, 3) := by decide +kernel
theorem dX11_room_148 : decode cX11_room 148 = .ok (.iconst 0, 1) := by decide +kernel
theorem dX11_room_149 : decode cX11_room 149 = .ok (.iadd, 1) := by decide +kernel
theorem dX11_room_150 : decode cX11_room 150 = .ok (.istore_n 3, 1) := by decide +kernel
theorem dX11_room_151 : decode cX11_room 151 = .ok (.iinc 4 1, 3) := by decide +kernel
theorem dX11_room_154 : decode cX11_room 154 = .ok (.goto (-44), 3) := by decide +kernel
theorem dX11_room_157 : decode cX11_room 157 = .ok (.iload_n 3, 1) := by decide +kernel
theorem dX11_room_158 : decode cX11_room 158 = .ok (.ireturn, 1) := by decide +kernel
theorem dX11_room_159 : decode cX11_room 159 = .ok (.aload_n 0, 1) := by decide +kernel
theorem dX11_room_160 : decode cX11_room 160 = .ok (.iconst 1, 1) := by decide +kernel
theorem dX11_room_161 : decode cX11_room 161 = .ok (.invokevirtual 320, 3) := by decide +kernel
theorem dX11_room_164 : decode cX11_room 164 = .ok (.ireturn, 1) := by decide +kernel
theorem dX11_tellWays_0 : decode cX11_tellWays 0 = .ok (.iconst 0, 1) := by decide +kernel
theorem dX11_tellWays_1 : decode cX11_tellWays 1 = .ok (.istore_n 1, 1) := by decide +kernel
theorem dX11_tellWays_2 : decode cX11_tellWays 2 = .ok (.iload_n 1, 1) := by decide +kernel
theorem dX11_tellWays_3 : decode cX11_tellWays 3 = .ok (.bipush 81, 2) := by decide +kernel
theorem dX11_tellWays_5 : decode cX11_tellWays 5 = .ok (.if_icmp .ge 33, 3) := by decide +kernel
theorem dX11_tellWays_8 : decode cX11_tellWays 8 = .ok (.aload_n 0, 1) := by decide +kernel
theorem dX11_tellWays_9 : decode cX11_tellWays 9 = .ok (.getfield 106, 3) := by decide +kernel
theorem dX11_tellWays_12 : decode cX11_tellWays 12 = .ok (.iload_n 1, 1) := by decide +kernel
theorem dX11_tellWays_13 : decode cX11_tellWays 13 = .ok (.iload_n 1, 1) := by decide +kernel
theorem dX11_tellWays_14 : decode cX11_tellWays 14 = .ok (.bipush 9, 2) := by decide +kernel
theorem dX11_tellWays_16 : decode cX11_tellWays 16 = .ok (.idiv, 1) := by decide +kernel
theorem dX11_tellWays_17 : decode cX11_tellWays 17 = .ok (.iload_n 1, 1) := by decide +kernel
theorem dX11_tellWays_18 : decode cX11_tellWays 18 = .ok (.bipush 9, 2) := by decide +kernel
theorem dX11_tellWays_20 : decode cX11_tellWays 20 = .ok (.irem, 1) := by decide +kernel
theorem dX11_tellWays_21 : decode cX11_tellWays 21 = .ok (.if_icmp .ne 7, 3) := by decide +kernel
theorem dX11_tellWays_24 : decode cX11_tellWays 24 = .ok (.iconst 0, 1) := by decide +kernel
theorem dX11_tellWays_25 : decode cX11_tellWays 25 = .ok (.goto 6, 3) := by decide +kernel
theorem dX11_tellWays_28 : decode cX11_tellWays 28 = .ok (.ldc_w 390, 3) := by decide +kernel
theorem dX11_tellWays_31 : decode cX11_tellWays 31 = .ok (.iastore, 1) := by decide +kernel
theorem dX11_tellWays_32 : decode cX11_tellWays 32 = .ok (.iinc 1 1, 3) := by decide +kernel
theorem dX11_tellWays_35 : decode cX11_tellWays 35 = .ok (.goto (-33), 3) := by decide +kernel
theorem dX11_tellWays_38 : decode cX11_tellWays 38 = .ok (.iconst 0, 1) := by decide +kernel
theorem dX11_tellWays_39 : decode cX11_tellWays 39 = .ok (.istore_n 1, 1) := by decide +kernel
theorem dX11_tellWays_40 : decode cX11_tellWays 40 = .ok (.iload_n 1, 1) := by decide +kernel
theorem dX11_tellWays_41 : decode cX11_tellWays 41 = .ok (.aload_n 0, 1) := by decide +kernel
theorem dX11_tellWays_42 : decode cX11_tellWays 42 = .ok (.getfield 36, 3) := by decide +kernel
theorem dX11_tellWays_45 : decode cX11_tellWays 45 = .ok (.iconst 1, 1) := by decide +kernel
theorem dX11_tellWays_46 : decode cX11_tellWays 46 = .ok (.iaload, 1) := by decide +kernel
theorem dX11_tellWays_47 : decode cX11_tellWays 47 = .ok (.if_icmp .ge 63, 3) := by decide +kernel
theorem dX11_tellWays_50 : decode cX11_tellWays 50 = .ok (.aload_n 0, 1) := by decide +kernel
theorem dX11_tellWays_51 : decode cX11_tellWays 51 = .ok (.getfield 106, 3) := by decide +kernel
theorem dX11_tellWays_54 : decode cX11_tellWays 54 = .ok (.bipush 9, 2) := by decide +kernel
theorem dX11_tellWays_56 : decode cX11_tellWays 56 = .ok (.aload_n 0, 1) := by decide +kernel
theorem dX11_tellWays_57 : decode cX11_tellWays 57 = .ok (.getfield 50, 3) := by decide +kernel
theorem dX11_tellWays_60 : decode cX11_tellWays 60 = .ok (.iload_n 1, 1) := by decide +kernel
theorem dX11_tellWays_61 : decode cX11_tellWays 61 = .ok (.iaload, 1) := by decide +kernel
theorem dX11_tellWays_62 : decode cX11_tellWays 62 = .ok (.imul, 1) := by decide +kernel
theorem dX11_tellWays_63 : decode cX11_tellWays 63 = .ok (.aload_n 0, 1) := by decide +kernel
theorem dX11_tellWays_64 : decode cX11_tellWays 64 = .ok (.getfield 53, 3) := by decide +kernel
theorem dX11_tellWays_67 : decode cX11_tellWays 67 = .ok (.iload_n 1, 1) := by decide +kernel
theorem dX11_tellWays_68 : decode cX11_tellWays 68 = .ok (.iaload, 1) := by decide +kernel
theorem dX11_tellWays_69 : decode cX11_tellWays 69 = .ok (.iadd, 1) := by decide +kernel
theorem dX11_tellWays_70 : decode cX11_tellWays 70 = .ok (.aload_n 0, 1) := by decide +kernel
theorem dX11_tellWays_71 : decode cX11_tellWays 71 = .ok (.getfield 56, 3) := by decide +kernel
theorem dX11_tellWays_74 : decode cX11_tellWays 74 = .ok (.iload_n 1, 1) := by decide +kernel
theorem dX11_tellWays_75 : decode cX11_tellWays 75 = .ok (.iaload, 1) := by decide +kernel
theorem dX11_tellWays_76 : decode cX11_tellWays 76 = .ok (.iastore, 1) := by decide +kernel
theorem dX11_tellWays_77 : decode cX11_tellWays 77 = .ok (.aload_n 0, 1) := by decide +kernel
theorem dX11_tellWays_78 : decode cX11_tellWays 78 = .ok (.getfield 106, 3) := by decide +kernel
theorem dX11_tellWays_81 : decode cX11_tellWays 81 = .ok (.bipush 9, 2) := by decide +kernel
theorem dX11_tellWays_83 : decode cX11_tellWays 83 = .ok (.aload_n 0, 1) := by decide +kernel
theorem dX11_tellWays_84 : decode cX11_tellWays 84 = .ok (.getfield 53, 3) := by decide +kernel
theorem dX11_tellWays_87 : decode cX11_tellWays 87 = .ok (.iload_n 1, 1) := by decide +kernel
theorem dX11_tellWays_88 : decode cX11_tellWays 88 = .ok (.iaload, 1) := by decide +kernel
theorem dX11_tellWays_89 : decode cX11_tellWays 89 = .ok (.imul, 1) := by decide +kernel
theorem dX11_tellWays_90 : decode cX11_tellWays 90 = .ok (.aload_n 0, 1) := by decide +kernel
theorem dX11_tellWays_91 : decode cX11_tellWays 91 = .ok (.getfield 50, 3) := by decide +kernel
theorem dX11_tellWays_94 : decode cX11_tellWays 94 = .ok (.iload_n 1, 1) := by decide +kernel
theorem dX11_tellWays_95 : decode cX11_tellWays 95 = .ok (.iaload, 1) := by decide +kernel
theorem dX11_tellWays_96 : decode cX11_tellWays 96 = .ok (.iadd, 1) := by decide +kernel
theorem dX11_tellWays_97 : decode cX11_tellWays 97 = .ok (.aload_n 0, 1) := by decide +kernel
theorem dX11_tellWays_98 : decode cX11_tellWays 98 = .ok (.getfield 56, 3) := by decide +kernel
theorem dX11_tellWays_101 : decode cX11_tellWays 101 = .ok (.iload_n 1, 1) := by decide +kernel
theorem dX11_tellWays_102 : decode cX11_tellWays 102 = .ok (.iaload, 1) := by decide +kernel
theorem dX11_tellWays_103 : decode cX11_tellWays 103 = .ok (.iastore, 1) := by decide +kernel
theorem dX11_tellWays_104 : decode cX11_tellWays 104 = .ok (.iinc 1 1, 3) := by decide +kernel
theorem dX11_tellWays_107 : decode cX11_tellWays 107 = .ok (.goto (-67), 3) := by decide +kernel
theorem dX11_tellWays_110 : decode cX11_tellWays 110 = .ok (.iconst 0, 1) := by decide +kernel
theorem dX11_tellWays_111 : decode cX11_tellWays 111 = .ok (.istore_n 1, 1) := by decide +kernel
theorem dX11_tellWays_112 : decode cX11_tellWays 112 = .ok (.iload_n 1, 1) := by decide +kernel
theorem dX11_tellWays_113 : decode cX11_tellWays 113 = .ok (.bipush 9, 2) := by decide +kernel
theorem dX11_tellWays_115 : decode cX11_tellWays 115 = .ok (.if_icmp .ge 66, 3) := by decide +kernel
theorem dX11_tellWays_118 : decode cX11_tellWays 118 = .ok (.iconst 0, 1) := by decide +kernel
theorem dX11_tellWays_119 : decode cX11_tellWays 119 = .ok (.istore_n 2, 1) := by decide +kernel
theorem dX11_tellWays_120 : decode cX11_tellWays 120 = .ok (.iload_n 2, 1) := by decide +kernel
theorem dX11_tellWays_121 : decode cX11_tellWays 121 = .ok (.bipush 81, 2) := by decide +kernel
theorem dX11_tellWays_123 : decode cX11_tellWays 123 = .ok (.if_icmp .ge 52, 3) := by decide +kernel
theorem dX11_tellWays_126 : decode cX11_tellWays 126 = .ok (.aload_n 0, 1) := by decide +kernel
theorem dX11_tellWays_127 : decode cX11_tellWays 127 = .ok (.getfield 106, 3) := by decide +kernel
theorem dX11_tellWays_130 : decode cX11_tellWays 130 = .ok (.iload_n 2, 1) := by decide +kernel
theorem dX11_tellWays_131 : decode cX11_tellWays 131 = .ok (.aload_n 0, 1) := by decide +kernel
theorem dX11_tellWays_132 : decode cX11_tellWays 132 = .ok (.getfield 106, 3) := by decide +kernel
theorem dX11_tellWays_135 : decode cX11_tellWays 135 = .ok (.iload_n 2, 1) := by decide +kernel
theorem dX11_tellWays_136 : decode cX11_tellWays 136 = .ok (.iaload, 1) := by decide +kernel
theorem dX11_tellWays_137 : decode cX11_tellWays 137 = .ok (.aload_n 0, 1) := by decide +kernel
theorem dX11_tellWays_138 : decode cX11_tellWays 138 = .ok (.getfield 106, 3) := by decide +kernel
theorem dX11_tellWays_141 : decode cX11_tellWays 141 = .ok (.iload_n 2, 1) := by decide +kernel
theorem dX11_tellWays_142 : decode cX11_tellWays 142 = .ok (.iload_n 2, 1) := by decide +kernel
theorem dX11_tellWays_143 : decode cX11_tellWays 143 = .ok (.bipush 9, 2) := by decide +kernel
theorem dX11_tellWays_145 : decode cX11_tellWays 145 = .ok (.irem, 1) := by decide +kernel
theorem dX11_tellWays_146 : decode cX11_tellWays 146 = .ok (.isub, 1) := by decide +kernel
theorem dX11_tellWays_147 : decode cX11_tellWays 147 = .ok (.iload_n 1, 1) := by decide +kernel
theorem dX11_tellWays_148 : decode cX11_tellWays 148 = .ok (.iadd, 1) := by decide +kernel
theorem dX11_tellWays_149 : decode cX11_tellWays 149 = .ok (.iaload, 1) := by decide +kernel
theorem dX11_tellWays_150 : decode cX11_tellWays 150 = .ok (.aload_n 0, 1) := by decide +kernel
theorem dX11_tellWays_151 : decode cX11_tellWays 151 = .ok (.getfield 106, 3) := by decide +kernel
theorem dX11_tellWays_154 : decode cX11_tellWays 154 = .ok (.bipush 9, 2) := by decide +kernel
theorem dX11_tellWays_156 : decode cX11_tellWays 156 = .ok (.iload_n 1, 1) := by decide +kernel
theorem dX11_tellWays_157 : decode cX11_tellWays 157 = .ok (.imul, 1) := by decide +kernel
theorem dX11_tellWays_158 : decode cX11_tellWays 158 = .ok (.iload_n 2, 1) := by decide +kernel
theorem dX11_tellWays_159 : decode cX11_tellWays 159 = .ok (.bipush 9, 2) := by decide +kernel
theorem dX11_tellWays_161 : decode cX11_tellWays 161 = .ok (.irem, 1) := by decide +kernel
theorem dX11_tellWays_162 : decode cX11_tellWays 162 = .ok (.iadd, 1) := by decide +kernel
theorem dX11_tellWays_163 : decode cX11_tellWays 163 = .ok (.iaload, 1) := by decide +kernel
theorem dX11_tellWays_164 : decode cX11_tellWays 164 = .ok (.iadd, 1) := by decide +kernel
theorem dX11_tellWays_165 : decode cX11_tellWays 165 = .ok (.invokestatic 196, 3) := by decide +kernel
theorem dX11_tellWays_168 : decode cX11_tellWays 168 = .ok (.iastore, 1) := by decide +kernel
theorem dX11_tellWays_169 : decode cX11_tellWays 169 = .ok (.iinc 2 1, 3) := by decide +kernel
theorem dX11_tellWays_172 : decode cX11_tellWays 172 = .ok (.goto (-52), 3) := by decide +kernel
theorem dX11_tellWays_175 : decode cX11_tellWays 175 = .ok (.iinc 1 1, 3) := by decide +kernel
theorem dX11_tellWays_178 : decode cX11_tellWays 178 = .ok (.goto (-66), 3) := by decide +kernel
theorem dX11_tellWays_181 : decode cX11_tellWays 181 = .ok (.return_, 1) := by decide +kernel
theorem dX11_orNone_0 : decode cX11_orNone 0 = .ok (.iload_n 0, 1) := by decide +kernel
theorem dX11_orNone_1 : decode cX11_orNone 1 = .ok (.ldc_w 390, 3) := by decide +kernel
theorem dX11_orNone_4 : decode cX11_orNone 4 = .ok (.if_icmp .lt 7, 3) := by decide +kernel
theorem dX11_orNone_7 : decode cX11_orNone 7 = .ok (.iconst (-1), 1) := by decide +kernel
theorem dX11_orNone_8 : decode cX11_orNone 8 = .ok (.goto 4, 3) := by decide +kernel
theorem dX11_orNone_11 : decode cX11_orNone 11 = .ok (.iload_n 0, 1) := by decide +kernel
theorem dX11_orNone_12 : decode cX11_orNone 12 = .ok (.ireturn, 1) := by decide +kernel
theorem dX11_far_0 : decode cX11_far 0 = .ok (.aload_n 0, 1) := by decide +kernel
theorem dX11_far_1 : decode cX11_far 1 = .ok (.iconst 0, 1) := by decide +kernel
theorem dX11_far_2 : decode cX11_far 2 = .ok (.putfield 157, 3) := by decide +kernel
theorem dX11_far_5 : decode cX11_far 5 = .ok (.aload_n 0, 1) := by decide +kernel
theorem dX11_far_6 : decode cX11_far 6 = .ok (.iload_n 1, 1) := by decide +kernel
theorem dX11_far_7 : decode cX11_far 7 = .ok (.invokevirtual 387, 3) := by decide +kernel
theorem dX11_far_10 : decode cX11_far 10 = .ok (.ifCond .eq 11, 3) := by decide +kernel
theorem dX11_far_13 : decode cX11_far 13 = .ok (.aload_n 0, 1) := by decide +kernel
theorem dX11_far_14 : decode cX11_far 14 = .ok (.iload_n 2, 1) := by decide +kernel
theorem dX11_far_15 : decode cX11_far 15 = .ok (.invokevirtual 387, 3) := by decide +kernel
theorem dX11_far_18 : decode cX11_far 18 = .ok (.ifCond .ne 9, 3) := by decide +kernel
theorem dX11_far_21 : decode cX11_far 21 = .ok (.aload_n 0, 1) := by decide +kernel
theorem dX11_far_22 : decode cX11_far 22 = .ok (.iconst 1, 1) := by decide +kernel
theorem dX11_far_23 : decode cX11_far 23 = .ok (.invokevirtual 320, 3) := by decide +kernel
theorem dX11_far_26 : decode cX11_far 26 = .ok (.ireturn, 1) := by decide +kernel
theorem dX11_far_27 : decode cX11_far 27 = .ok (.aload_n 0, 1) := by decide +kernel
theorem dX11_far_28 : decode cX11_far 28 = .ok (.invokevirtual 391, 3) := by decide +kernel
theorem dX11_far_31 : decode cX11_far 31 = .ok (.aload_n 0, 1) := by decide +kernel
theorem dX11_far_32 : decode cX11_far 32 = .ok (.getfield 106, 3) := by decide +kernel
theorem dX11_far_35 : decode cX11_far 35 = .ok (.bipush 9, 2) := by decide +kernel
theorem dX11_far_37 : decode cX11_far 37 = .ok (.iload_n 1, 1) := by decide +kernel
theorem dX11_far_38 : decode cX11_far 38 = .ok (.imul, 1) := by decide +kernel
theorem dX11_far_39 : decode cX11_far 39 = .ok (.iload_n 2, 1) := by decide +kernel
theorem dX11_far_40 : decode cX11_far 40 = .ok (.iadd, 1) := by decide +kernel
theorem dX11_far_41 : decode cX11_far 41 = .ok (.iaload, 1) := by decide +kernel
theorem dX11_far_42 : decode cX11_far 42 = .ok (.invokestatic 394, 3) := by decide +kernel
theorem dX11_far_45 : decode cX11_far 45 = .ok (.ireturn, 1) := by decide +kernel
theorem dX11_near_0 : decode cX11_near 0 = .ok (.aload_n 0, 1) := by decide +kernel
theorem dX11_near_1 : decode cX11_near 1 = .ok (.iconst 0, 1) := by decide +kernel
theorem dX11_near_2 : decode cX11_near 2 = .ok (.putfield 157, 3) := by decide +kernel
theorem dX11_near_5 : decode cX11_near 5 = .ok (.aload_n 0, 1) := by decide +kernel
theorem dX11_near_6 : decode cX11_near 6 = .ok (.iload_n 1, 1) := by decide +kernel
theorem dX11_near_7 : decode cX11_near 7 = .ok (.invokevirtual 387, 3) := by decide +kernel
theorem dX11_near_10 : decode cX11_near 10 = .ok (.ifCond .ne 9, 3) := by decide +kernel
theorem dX11_near_13 : decode cX11_near 13 = .ok (.aload_n 0, 1) := by decide +kernel
theorem dX11_near_14 : decode cX11_near 14 = .ok (.iconst 1, 1) := by decide +kernel
theorem dX11_near_15 : decode cX11_near 15 = .ok (.invokevirtual 320, 3) := by decide +kernel
theorem dX11_near_18 : decode cX11_near 18 = .ok (.ireturn, 1) := by decide +kernel
theorem dX11_near_19 : decode cX11_near 19 = .ok (.aload_n 0, 1) := by decide +kernel
theorem dX11_near_20 : decode cX11_near 20 = .ok (.invokevirtual 391, 3) := by decide +kernel
theorem dX11_near_23 : decode cX11_near 23 = .ok (.iconst 0, 1) := by decide +kernel
theorem dX11_near_24 : decode cX11_near 24 = .ok (.istore_n 3, 1) := by decide +kernel
theorem dX11_near_25 : decode cX11_near 25 = .ok (.iconst 0, 1) := by decide +kernel
theorem dX11_near_26 : decode cX11_near 26 = .ok (.istore 4, 2) := by decide +kernel
theorem dX11_near_28 : decode cX11_near 28 = .ok (.iload 4, 2) := by decide +kernel
theorem dX11_near_30 : decode cX11_near 30 = .ok (.aload_n 0, 1) := by decide +kernel
theorem dX11_near_31 : decode cX11_near 31 = .ok (.getfield 36, 3) := by decide +kernel
theorem dX11_near_34 : decode cX11_near 34 = .ok (.iconst 0, 1) := by decide +kernel
theorem dX11_near_35 : decode cX11_near 35 = .ok (.iaload, 1) := by decide +kernel
theorem dX11_near_36 : decode cX11_near 36 = .ok (.if_icmp .ge 54, 3) := by decide +kernel
theorem dX11_near_39 : decode cX11_near 39 = .ok (.iload_n 3, 1) := by decide +kernel
theorem dX11_near_40 : decode cX11_near 40 = .ok (.aload_n 0, 1) := by decide +kernel
theorem dX11_near_41 : decode cX11_near 41 = .ok (.getfield 106, 3) := by decide +kernel
theorem dX11_near_44 : decode cX11_near 44 = .ok (.bipush 9, 2) := by decide +kernel
theorem dX11_near_46 : decode cX11_near 46 = .ok (.iload_n 1, 1) := by decide +kernel
theorem dX11_near_47 : decode cX11_near 47 = .ok (.imul, 1) := by decide +kernel
theorem dX11_near_48 : decode cX11_near 48 = .ok (.iload 4, 2) := by decide +kernel
theorem dX11_near_50 : decode cX11_near 50 = .ok (.iadd, 1) := by decide +kernel
theorem dX11_near_51 : decode cX11_near 51 = .ok (.iaload, 1) := by decide +kernel
theorem dX11_near_52 : decode cX11_near 52 = .ok (.ldc_w 390, 3) := by decide +kernel
theorem dX11_near_55 : decode cX11_near 55 = .ok (.if_icmp .ge 26, 3) := by decide +kernel
theorem dX11_near_58 : decode cX11_near 58 = .ok (.aload_n 0, 1) := by decide +kernel
theorem dX11_near_59 : decode cX11_near 59 = .ok (.getfield 106, 3) := by decide +kernel
theorem dX11_near_62 : decode cX11_near 62 = .ok (.bipush 9, 2) := by decide +kernel
theorem dX11_near_64 : decode cX11_near 64 = .ok (.iload_n 1, 1) := by decide +kernel
theorem dX11_near_65 : decode cX11_near 65 = .ok (.imul, 1) := by decide +kernel
theorem dX11_near_66 : decode cX11_near 66 = .ok (.iload 4, 2) := by decide +kernel
theorem dX11_near_68 : decode cX11_near 68 = .ok (.iadd, 1) := by decide +kernel
theorem dX11_near_69 : decode cX11_near 69 = .ok (.iaload, 1) := by decide +kernel
theorem dX11_near_70 : decode cX11_near 70 = .ok (.iload_n 2, 1) := by decide +kernel
theorem dX11_near_71 : decode cX11_near 71 = .ok (.if_icmp .gt 10, 3) := by decide +kernel
theorem dX11_near_74 : decode cX11_near 74 = .ok (.iconst 1, 1) := by decide +kernel
theorem dX11_near_75 : decode cX11_near 75 = .ok (.iload 4, 2) := by decide +kernel
theorem dX11_near_77 : decode cX11_near 77 = .ok (.ishl, 1) := by decide +kernel
theorem dX11_near_78 : decode cX11_near 78 = .ok (.goto 4, 3) := by decide +kernel
theorem dX11_near_81 : decode cX11_near 81 = .ok (.iconst 0, 1) := by decide +kernel
theorem dX11_near_82 : decode cX11_near 82 = .ok (.ior, 1) := by decide +kernel
theorem dX11_near_83 : decode cX11_near 83 = .ok (.istore_n 3, 1) := by decide +kernel
theorem dX11_near_84 : decode cX11_near 84 = .ok (.iinc 4 1, 3) := by decide +kernel
theorem dX11_near_87 : decode cX11_near 87 = .ok (.goto (-59), 3) := by decide +kernel
theorem dX11_near_90 : decode cX11_near 90 = .ok (.iload_n 3, 1) := by decide +kernel
theorem dX11_near_91 : decode cX11_near 91 = .ok (.ireturn, 1) := by decide +kernel
theorem dX11_blow_0 : decode cX11_blow 0 = .ok (.aload_n 0, 1) := by decide +kernel
theorem dX11_blow_1 : decode cX11_blow 1 = .ok (.iconst 0, 1) := by decide +kernel
theorem dX11_blow_2 : decode cX11_blow 2 = .ok (.putfield 157, 3) := by decide +kernel
theorem dX11_blow_5 : decode cX11_blow 5 = .ok (.iload_n 1, 1) := by decide +kernel
theorem dX11_blow_6 : decode cX11_blow 6 = .ok (.i2l, 1) := by decide +kernel
theorem dX11_blow_7 : decode cX11_blow 7 = .ok (.lconst 0, 1) := by decide +kernel
theorem dX11_blow_8 : decode cX11_blow 8 = .ok (.aload_n 0, 1) := by decide +kernel
theorem dX11_blow_9 : decode cX11_blow 9 = .ok (.getfield 36, 3) := by decide +kernel
theorem dX11_blow_12 : decode cX11_blow 12 = .ok (.iconst 2, 1) := by decide +kernel
theorem dX11_blow_13 : decode cX11_blow 13 = .ok (.iaload, 1) := by decide +kernel
theorem dX11_blow_14 : decode cX11_blow 14 = .ok (.iconst 1, 1) := by decide +kernel
theorem dX11_blow_15 : decode cX11_blow 15 = .ok (.isub, 1) := by decide +kernel
theorem dX11_blow_16 : decode cX11_blow 16 = .ok (.i2l, 1) := by decide +kernel
theorem dX11_blow_17 : decode cX11_blow 17 = .ok (.invokestatic 160, 3) := by decide +kernel
theorem dX11_blow_20 : decode cX11_blow 20 = .ok (.ifCond .eq 35, 3) := by decide +kernel
theorem dX11_blow_23 : decode cX11_blow 23 = .ok (.iload_n 3, 1) := by decide +kernel
theorem dX11_blow_24 : decode cX11_blow 24 = .ok (.i2l, 1) := by decide +kernel
theorem dX11_blow_25 : decode cX11_blow 25 = .ok (.lconst 0, 1) := by decide +kernel
theorem dX11_blow_26 : decode cX11_blow 26 = .ok (.ldc2_w 397, 3) := by decide +kernel
theorem dX11_blow_29 : decode cX11_blow 29 = .ok (.invokestatic 160, 3) := by decide +kernel
theorem dX11_blow_32 : decode cX11_blow 32 = .ok (.ifCond .eq 23, 3) := by decide +kernel
theorem dX11_blow_35 : decode cX11_blow 35 = .ok (.iload_n 2, 1) := by decide +kernel
theorem dX11_blow_36 : decode cX11_blow 36 = .ok (.i2l, 1) := by decide +kernel
theorem dX11_blow_37 : decode cX11_blow 37 = .ok (.ldc2_w 399, 3) := by decide +kernel
theorem dX11_blow_40 : decode cX11_blow 40 = .ok (.aload_n 0, 1) := by decide +kernel
theorem dX11_blow_41 : decode cX11_blow 41 = .ok (.getfield 59, 3) := by decide +kernel
theorem dX11_blow_44 : decode cX11_blow 44 = .ok (.iload_n 1, 1) := by decide +kernel
theorem dX11_blow_45 : decode cX11_blow 45 = .ok (.iaload, 1) := by decide +kernel
theorem dX11_blow_46 : decode cX11_blow 46 = .ok (.iconst 1, 1) := by decide +kernel
theorem dX11_blow_47 : decode cX11_blow 47 = .ok (.isub, 1) := by decide +kernel
theorem dX11_blow_48 : decode cX11_blow 48 = .ok (.i2l, 1) := by decide +kernel
theorem dX11_blow_49 : decode cX11_blow 49 = .ok (.invokestatic 160, 3) := by decide +kernel
theorem dX11_blow_52 : decode cX11_blow 52 = .ok (.ifCond .ne 9, 3) := by decide +kernel
theorem dX11_blow_55 : decode cX11_blow 55 = .ok (.aload_n 0, 1) := by decide +kernel
theorem dX11_blow_56 : decode cX11_blow 56 = .ok (.iconst 1, 1) := by decide +kernel
theorem dX11_blow_57 : decode cX11_blow 57 = .ok (.invokevirtual 320, 3) := by decide +kernel
theorem dX11_blow_60 : decode cX11_blow 60 = .ok (.ireturn, 1) := by decide +kernel
theorem dX11_blow_61 : decode cX11_blow 61 = .ok (.bipush 8, 2) := by decide +kernel
theorem dX11_blow_63 : decode cX11_blow 63 = .ok (.iload_n 1, 1) := by decide +kernel
theorem dX11_blow_64 : decode cX11_blow 64 = .ok (.imul, 1) := by decide +kernel
theorem dX11_blow_65 : decode cX11_blow 65 = .ok (.iload_n 2, 1) := by decide +kernel
theorem dX11_blow_66 : decode cX11_blow 66 = .ok (.iadd, 1) := by decide +kernel
theorem dX11_blow_67 : decode cX11_blow 67 = .ok (.istore 4, 2) := by decide +kernel
theorem dX11_blow_69 : decode cX11_blow 69 = .ok (.iload_n 2, 1) := by decide +kernel
theorem dX11_blow_70 : decode cX11_blow 70 = .ok (.iconst (-1), 1) := by decide +kernel
theorem dX11_blow_71 : decode cX11_blow 71 = .ok (.if_icmp .ne 12, 3) := by decide +kernel
theorem dX11_blow_74 : decode cX11_blow 74 = .ok (.aload_n 0, 1) := by decide +kernel
theorem dX11_blow_75 : decode cX11_blow 75 = .ok (.getfield 59, 3) := by decide +kernel
theorem dX11_blow_78 : decode cX11_blow 78 = .ok (.iload_n 1, 1) := by decide +kernel
theorem dX11_blow_79 : decode cX11_blow 79 = .ok (.iaload, 1) := by decide +kernel
theorem dX11_blow_80 : decode cX11_blow 80 = .ok (.goto 39, 3) := by decide +kernel
theorem dX11_blow_83 : decode cX11_blow 83 = .ok (.iload_n 3, 1) := by decide +kernel
theorem dX11_blow_84 : decode cX11_blow 84 = .ok (.ifCond .ne 13, 3) := by decide +kernel
theorem dX11_blow_87 : decode cX11_blow 87 = .ok (.aload_n 0, 1) := by decide +kernel
theorem dX11_blow_88 : decode cX11_blow 88 = .ok (.getfield 62, 3) := by decide +kernel
theorem dX11_blow_91 : decode cX11_blow 91 = .ok (.iload 4, 2) := by decide +kernel
theorem dX11_blow_93 : decode cX11_blow 93 = .ok (.iaload, 1) := by decide +kernel
theorem dX11_blow_94 : decode cX11_blow 94 = .ok (.goto 25, 3) := by decide +kernel
theorem dX11_blow_97 : decode cX11_blow 97 = .ok (.iload_n 3, 1) := by decide +kernel
theorem dX11_blow_98 : decode cX11_blow 98 = .ok (.iconst 1, 1) := by decide +kernel
theorem dX11_blow_99 : decode cX11_blow 99 = .ok (.if_icmp .ne 13, 3) := by decide +kernel
theorem dX11_blow_102 : decode cX11_blow 102 = .ok (.aload_n 0, 1) := by decide +kernel
theorem dX11_blow_103 : decode cX11_blow 103 = .ok (.getfield 65, 3) := by decide +kernel
theorem dX11_blow_106 : decode cX11_blow 106 = .ok (.iload 4, 2) := by decide +kernel
theorem dX11_blow_108 : decode cX11_blow 108 = .ok (.iaload, 1) := by decide +kernel
theorem dX11_blow_109 : decode cX11_blow 109 = .ok (.goto 10, 3) := by decide +kernel
theorem dX11_blow_112 : decode cX11_blow 112 = .ok (.aload_n 0, 1) := by decide +kernel
theorem dX11_blow_113 : decode cX11_blow 113 = .ok (.getfield 68, 3) := by decide +kernel
theorem dX11_blow_116 : decode cX11_blow 116 = .ok (.iload 4, 2) := by decide +kernel
theorem dX11_blow_118 : decode cX11_blow 118 = .ok (.iaload, 1) := by decide +kernel
theorem dX11_blow_119 : decode cX11_blow 119 = .ok (.ireturn, 1) := by decide +kernel
theorem dX11_wind_0 : decode cX11_wind 0 = .ok (.aload_n 0, 1) := by decide +kernel
theorem dX11_wind_1 : decode cX11_wind 1 = .ok (.iconst 0, 1) := by decide +kernel
theorem dX11_wind_2 : decode cX11_wind 2 = .ok (.putfield 157, 3) := by decide +kernel
theorem dX11_wind_5 : decode cX11_wind 5 = .ok (.iload_n 1, 1) := by decide +kernel
theorem dX11_wind_6 : decode cX11_wind 6 = .ok (.i2l, 1) := by decide +kernel
theorem dX11_wind_7 : decode cX11_wind 7 = .ok (.lconst 0, 1) := by decide +kernel
theorem dX11_wind_8 : decode cX11_wind 8 = .ok (.ldc2_w 401, 3) := by decide +kernel
theorem dX11_wind_11 : decode cX11_wind 11 = .ok (.invokestatic 160, 3) := by decide +kernel
theorem dX11_wind_14 : decode cX11_wind 14 = .ok (.ifCond .eq 11, 3) := by decide +kernel
theorem dX11_wind_17 : decode cX11_wind 17 = .ok (.aload_n 0, 1) := by decide +kernel
theorem dX11_wind_18 : decode cX11_wind 18 = .ok (.iload_n 1, 1) := by decide +kernel
theorem dX11_wind_19 : decode cX11_wind 19 = .ok (.invokevirtual 372, 3) := by decide +kernel
theorem dX11_wind_22 : decode cX11_wind 22 = .ok (.goto 8, 3) := by decide +kernel
theorem dX11_wind_25 : decode cX11_wind 25 = .ok (.aload_n 0, 1) := by decide +kernel
theorem dX11_wind_26 : decode cX11_wind 26 = .ok (.iconst 1, 1) := by decide +kernel
theorem dX11_wind_27 : decode cX11_wind 27 = .ok (.invokevirtual 320, 3) := by decide +kernel
theorem dX11_wind_30 : decode cX11_wind 30 = .ok (.ireturn, 1) := by decide +kernel
theorem dX11_refuse_0 : decode cX11_refuse 0 = .ok (.aload_n 0, 1) := by decide +kernel
theorem dX11_refuse_1 : decode cX11_refuse 1 = .ok (.getfield 77, 3) := by decide +kernel
theorem dX11_refuse_4 : decode cX11_refuse 4 = .ok (.iload_n 1, 1) := by decide +kernel
theorem dX11_refuse_5 : decode cX11_refuse 5 = .ok (.dup2, 1) := by decide +kernel
theorem dX11_refuse_6 : decode cX11_refuse 6 = .ok (.iaload, 1) := by decide +kernel
theorem dX11_refuse_7 : decode cX11_refuse 7 = .ok (.iconst 1, 1) := by decide +kernel
theorem dX11_refuse_8 : decode cX11_refuse 8 = .ok (.iadd, 1) := by decide +kernel
theorem dX11_refuse_9 : decode cX11_refuse 9 = .ok (.iastore, 1) := by decide +kernel
theorem dX11_refuse_10 : decode cX11_refuse 10 = .ok (.iconst (-1), 1) := by decide +kernel
theorem dX11_refuse_11 : decode cX11_refuse 11 = .ok (.ireturn, 1) := by decide +kernel
theorem dX11_keep_0 : decode cX11_keep 0 = .ok (.aload_n 0, 1) := by decide +kernel
theorem dX11_keep_1 : decode cX11_keep 1 = .ok (.getfield 341, 3) := by decide +kernel
theorem dX11_keep_4 : decode cX11_keep 4 = .ok (.bipush 40, 2) := by decide +kernel
theorem dX11_keep_6 : decode cX11_keep 6 = .ok (.if_icmp .ne 46, 3) := by decide +kernel
theorem dX11_keep_9 : decode cX11_keep 9 = .ok (.bipush 31, 2) := by decide +kernel
theorem dX11_keep_11 : decode cX11_keep 11 = .ok (.istore_n 1, 1) := by decide +kernel
theorem dX11_keep_12 : decode cX11_keep 12 = .ok (.iload_n 1, 1) := by decide +kernel
theorem dX11_keep_13 : decode cX11_keep 13 = .ok (.aload_n 0, 1) := by decide +kernel
theorem dX11_keep_14 : decode cX11_keep 14 = .ok (.getfield 94, 3) := by decide +kernel
theorem dX11_keep_17 : decode cX11_keep 17 = .ok (.arraylength, 1) := by decide +kernel
theorem dX11_keep_18 : decode cX11_keep 18 = .ok (.if_icmp .ge 24, 3) := by decide +kernel
theorem dX11_keep_21 : decode cX11_keep 21 = .ok (.aload_n 0, 1) := by decide +kernel
theorem dX11_keep_22 : decode cX11_keep 22 = .ok (.getfield 94, 3) := by decide +kernel
theorem dX11_keep_25 : decode cX11_keep 25 = .ok (.iload_n 1, 1) := by decide +kernel
theorem dX11_keep_26 : decode cX11_keep 26 = .ok (.bipush 31, 2) := by decide +kernel
theorem dX11_keep_28 : decode cX11_keep 28 = .ok (.isub, 1) := by decide +kernel
theorem dX11_keep_29 : decode cX11_keep 29 = .ok (.aload_n 0, 1) := by decide +kernel
theorem dX11_keep_30 : decode cX11_keep 30 = .ok (.getfield 94, 3) := by decide +kernel
theorem dX11_keep_33 : decode cX11_keep 33 = .ok (.iload_n 1, 1) := by decide +kernel
theorem dX11_keep_34 : decode cX11_keep 34 = .ok (.iaload, 1) := by decide +kernel
theorem dX11_keep_35 : decode cX11_keep 35 = .ok (.iastore, 1) := by decide +kernel
theorem dX11_keep_36 : decode cX11_keep 36 = .ok (.iinc 1 1, 3) := by decide +kernel
theorem dX11_keep_39 : decode cX11_keep 39 = .ok (.goto (-27), 3) := by decide +kernel
theorem dX11_keep_42 : decode cX11_keep 42 = .ok (.aload_n 0, 1) := by decide +kernel
theorem dX11_keep_43 : decode cX11_keep 43 = .ok (.dup, 1) := by decide +kernel
theorem dX11_keep_44 : decode cX11_keep 44 = .ok (.getfield 341, 3) := by decide +kernel
theorem dX11_keep_47 : decode cX11_keep 47 = .ok (.iconst 1, 1) := by decide +kernel
theorem dX11_keep_48 : decode cX11_keep 48 = .ok (.isub, 1) := by decide +kernel
theorem dX11_keep_49 : decode cX11_keep 49 = .ok (.putfield 341, 3) := by decide +kernel
theorem dX11_keep_52 : decode cX11_keep 52 = .ok (.aload_n 0, 1) := by decide +kernel
theorem dX11_keep_53 : decode cX11_keep 53 = .ok (.aload_n 0, 1) := by decide +kernel
theorem dX11_keep_54 : decode cX11_keep 54 = .ok (.getfield 94, 3) := by decide +kernel
theorem dX11_keep_57 : decode cX11_keep 57 = .ok (.bipush 31, 2) := by decide +kernel
theorem dX11_keep_59 : decode cX11_keep 59 = .ok (.aload_n 0, 1) := by decide +kernel
theorem dX11_keep_60 : decode cX11_keep 60 = .ok (.getfield 341, 3) := by decide +kernel
theorem dX11_keep_63 : decode cX11_keep 63 = .ok (.imul, 1) := by decide +kernel
theorem dX11_keep_64 : decode cX11_keep 64 = .ok (.invokevirtual 403, 3) := by decide +kernel
theorem dX11_keep_67 : decode cX11_keep 67 = .ok (.aload_n 0, 1) := by decide +kernel
theorem dX11_keep_68 : decode cX11_keep 68 = .ok (.dup, 1) := by decide +kernel
theorem dX11_keep_69 : decode cX11_keep 69 = .ok (.getfield 341, 3) := by decide +kernel
theorem dX11_keep_72 : decode cX11_keep 72 = .ok (.iconst 1, 1) := by decide +kernel
theorem dX11_keep_73 : decode cX11_keep 73 = .ok (.iadd, 1) := by decide +kernel
theorem dX11_keep_74 : decode cX11_keep 74 = .ok (.putfield 341, 3) := by decide +kernel
theorem dX11_keep_77 : decode cX11_keep 77 = .ok (.return_, 1) := by decide +kernel
theorem dX11_days_0 : decode cX11_days 0 = .ok (.aload_n 0, 1) := by decide +kernel
theorem dX11_days_1 : decode cX11_days 1 = .ok (.iconst 0, 1) := by decide +kernel
theorem dX11_days_2 : decode cX11_days 2 = .ok (.putfield 157, 3) := by decide +kernel
theorem dX11_days_5 : decode cX11_days 5 = .ok (.iload_n 1, 1) := by decide +kernel
theorem dX11_days_6 : decode cX11_days 6 = .ok (.i2l, 1) := by decide +kernel
theorem dX11_days_7 : decode cX11_days 7 = .ok (.lconst 1, 1) := by decide +kernel
theorem dX11_days_8 : decode cX11_days 8 = .ok (.ldc2_w 407, 3) := by decide +kernel
theorem dX11_days_11 : decode cX11_days 11 = .ok (.invokestatic 160, 3) := by decide +kernel
theorem dX11_days_14 : decode cX11_days 14 = .ok (.ifCond .eq 15, 3) := by decide +kernel
theorem dX11_days_17 : decode cX11_days 17 = .ok (.aload_n 0, 1) := by decide +kernel
theorem dX11_days_18 : decode cX11_days 18 = .ok (.getfield 333, 3) := by decide +kernel
theorem dX11_days_21 : decode cX11_days 21 = .ok (.iload_n 1, 1) := by decide +kernel
theorem dX11_days_22 : decode cX11_days 22 = .ok (.iadd, 1) := by decide +kernel
theorem dX11_days_23 : decode cX11_days 23 = .ok (.sipush 999, 3) := by decide +kernel
theorem dX11_days_26 : decode cX11_days 26 = .ok (.if_icmp .le 9, 3) := by decide +kernel
theorem dX11_days_29 : decode cX11_days 29 = .ok (.aload_n 0, 1) := by decide +kernel
theorem dX11_days_30 : decode cX11_days 30 = .ok (.iconst 1, 1) := by decide +kernel
theorem dX11_days_31 : decode cX11_days 31 = .ok (.invokevirtual 409, 3) := by decide +kernel
theorem dX11_days_34 : decode cX11_days 34 = .ok (.ireturn, 1) := by decide +kernel
theorem dX11_days_35 : decode cX11_days 35 = .ok (.aload_n 0, 1) := by decide +kernel
theorem dX11_days_36 : decode cX11_days 36 = .ok (.invokevirtual 412, 3) := by decide +kernel
theorem dX11_days_39 : decode cX11_days 39 = .ok (.aload_n 0, 1) := by decide +kernel
theorem dX11_days_40 : decode cX11_days 40 = .ok (.iload_n 1, 1) := by decide +kernel
theorem dX11_days_41 : decode cX11_days 41 = .ok (.invokevirtual 415, 3) := by decide +kernel
theorem dX11_days_44 : decode cX11_days 44 = .ok (.aload_n 0, 1) := by decide +kernel
theorem dX11_days_45 : decode cX11_days 45 = .ok (.getfield 333, 3) := by decide +kernel
theorem dX11_days_48 : decode cX11_days 48 = .ok (.ireturn, 1) := by decide +kernel
theorem dX11_bring_0 : decode cX11_bring 0 = .ok (.aload_n 0, 1) := by decide +kernel
theorem dX11_bring_1 : decode cX11_bring 1 = .ok (.getfield 87, 3) := by decide +kernel
theorem dX11_bring_4 : decode cX11_bring 4 = .ok (.iload_n 1, 1) := by decide +kernel
theorem dX11_bring_5 : decode cX11_bring 5 = .ok (.dup2, 1) := by decide +kernel
theorem dX11_bring_6 : decode cX11_bring 6 = .ok (.iaload, 1) := by decide +kernel
theorem dX11_bring_7 : decode cX11_bring 7 = .ok (.iload_n 3, 1) := by decide +kernel
theorem dX11_bring_8 : decode cX11_bring 8 = .ok (.isub, 1) := by decide +kernel
theorem dX11_bring_9 : decode cX11_bring 9 = .ok (.iastore, 1) := by decide +kernel
theorem dX11_bring_10 : decode cX11_bring 10 = .ok (.aload_n 0, 1) := by decide +kernel
theorem dX11_bring_11 : decode cX11_bring 11 = .ok (.iload_n 2, 1) := by decide +kernel
theorem dX11_bring_12 : decode cX11_bring 12 = .ok (.iload_n 3, 1) := by decide +kernel
theorem dX11_bring_13 : decode cX11_bring 13 = .ok (.invokevirtual 358, 3) := by decide +kernel
theorem dX11_bring_16 : decode cX11_bring 16 = .ok (.aload_n 0, 1) := by decide +kernel
theorem dX11_bring_17 : decode cX11_bring 17 = .ok (.getfield 89, 3) := by decide +kernel
theorem dX11_bring_20 : decode cX11_bring 20 = .ok (.iload_n 2, 1) := by decide +kernel
theorem dX11_bring_21 : decode cX11_bring 21 = .ok (.dup2, 1) := by decide +kernel
theorem dX11_bring_22 : decode cX11_bring 22 = .ok (.iaload, 1) := by decide +kernel
theorem dX11_bring_23 : decode cX11_bring 23 = .ok (.iload_n 3, 1) := by decide +kernel
theorem dX11_bring_24 : decode cX11_bring 24 = .ok (.iadd, 1) := by decide +kernel
theorem dX11_bring_25 : decode cX11_bring 25 = .ok (.iastore, 1) := by decide +kernel
theorem dX11_bring_26 : decode cX11_bring 26 = .ok (.return_, 1) := by decide +kernel
theorem dX11_sweep_0 : decode cX11_sweep 0 = .ok (.aload_n 0, 1) := by decide +kernel
theorem dX11_sweep_1 : decode cX11_sweep 1 = .ok (.iconst 0, 1) := by decide +kernel
theorem dX11_sweep_2 : decode cX11_sweep 2 = .ok (.putfield 157, 3) := by decide +kernel
theorem dX11_sweep_5 : decode cX11_sweep 5 = .ok (.aload_n 0, 1) := by decide +kernel
theorem dX11_sweep_6 : decode cX11_sweep 6 = .ok (.iload_n 1, 1) := by decide +kernel
theorem dX11_sweep_7 : decode cX11_sweep 7 = .ok (.invokevirtual 387, 3) := by decide +kernel
theorem dX11_sweep_10 : decode cX11_sweep 10 = .ok (.ifCond .eq 11, 3) := by decide +kernel
theorem dX11_sweep_13 : decode cX11_sweep 13 = .ok (.aload_n 0, 1) := by decide +kernel
theorem dX11_sweep_14 : decode cX11_sweep 14 = .ok (.iload_n 2, 1) := by decide +kernel
theorem dX11_sweep_15 : decode cX11_sweep 15 = .ok (.invokevirtual 387, 3) := by decide +kernel
theorem dX11_sweep_18 : decode cX11_sweep 18 = .ok (.ifCond .ne 9, 3) := by decide +kernel
theorem dX11_sweep_21 : decode cX11_sweep 21 = .ok (.aload_n 0, 1) := by decide +kernel
theorem dX11_sweep_22 : decode cX11_sweep 22 = .ok (.iconst 1, 1) := by decide +kernel
theorem dX11_sweep_23 : decode cX11_sweep 23 = .ok (.invokevirtual 320, 3) := by decide +kernel
theorem dX11_sweep_26 : decode cX11_sweep 26 = .ok (.ireturn, 1) := by decide +kernel
theorem dX11_sweep_27 : decode cX11_sweep 27 = .ok (.aload_n 0, 1) := by decide +kernel
theorem dX11_sweep_28 : decode cX11_sweep 28 = .ok (.iload_n 1, 1) := by decide +kernel
theorem dX11_sweep_29 : decode cX11_sweep 29 = .ok (.iload_n 2, 1) := by decide +kernel
theorem dX11_sweep_30 : decode cX11_sweep 30 = .ok (.invokevirtual 418, 3) := by decide +kernel
theorem dX11_sweep_33 : decode cX11_sweep 33 = .ok (.ifCond .eq 25, 3) := by decide +kernel
theorem dX11_sweep_36 : decode cX11_sweep 36 = .ok (.iload_n 3, 1) := by decide +kernel
theorem dX11_sweep_37 : decode cX11_sweep 37 = .ok (.i2l, 1) := by decide +kernel
theorem dX11_sweep_38 : decode cX11_sweep 38 = .ok (.lconst 1, 1) := by decide +kernel
theorem dX11_sweep_39 : decode cX11_sweep 39 = .ok (.ldc2_w 421, 3) := by decide +kernel
theorem dX11_sweep_42 : decode cX11_sweep 42 = .ok (.invokestatic 160, 3) := by decide +kernel
theorem dX11_sweep_45 : decode cX11_sweep 45 = .ok (.ifCond .eq 13, 3) := by decide +kernel
theorem dX11_sweep_48 : decode cX11_sweep 48 = .ok (.iload_n 3, 1) := by decide +kernel
theorem dX11_sweep_49 : decode cX11_sweep 49 = .ok (.aload_n 0, 1) := by decide +kernel
theorem dX11_sweep_50 : decode cX11_sweep 50 = .ok (.getfield 87, 3) := by decide +kernel
theorem dX11_sweep_53 : decode cX11_sweep 53 = .ok (.iload_n 1, 1) := by decide +kernel
theorem dX11_sweep_54 : decode cX11_sweep 54 = .ok (.iaload, 1) := by decide +kernel
theorem dX11_sweep_55 : decode cX11_sweep 55 = .ok (.if_icmp .le 9, 3) := by decide +kernel
theorem dX11_sweep_58 : decode cX11_sweep 58 = .ok (.aload_n 0, 1) := by decide +kernel
theorem dX11_sweep_59 : decode cX11_sweep 59 = .ok (.iconst 1, 1) := by decide +kernel
theorem dX11_sweep_60 : decode cX11_sweep 60 = .ok (.invokevirtual 409, 3) := by decide +kernel
theorem dX11_sweep_63 : decode cX11_sweep 63 = .ok (.ireturn, 1) := by decide +kernel
theorem dX11_sweep_64 : decode cX11_sweep 64 = .ok (.aload_n 0, 1) := by decide +kernel
theorem dX11_sweep_65 : decode cX11_sweep 65 = .ok (.invokevirtual 412, 3) := by decide +kernel
theorem dX11_sweep_68 : decode cX11_sweep 68 = .ok (.aload_n 0, 1) := by decide +kernel
theorem dX11_sweep_69 : decode cX11_sweep 69 = .ok (.iload_n 1, 1) := by decide +kernel
theorem dX11_sweep_70 : decode cX11_sweep 70 = .ok (.iload_n 2, 1) := by decide +kernel
theorem dX11_sweep_71 : decode cX11_sweep 71 = .ok (.iload_n 3, 1) := by decide +kernel
theorem dX11_sweep_72 : decode cX11_sweep 72 = .ok (.invokevirtual 423, 3) := by decide +kernel
theorem dX11_sweep_75 : decode cX11_sweep 75 = .ok (.aload_n 0, 1) := by decide +kernel
theorem dX11_sweep_76 : decode cX11_sweep 76 = .ok (.getfield 87, 3) := by decide +kernel
theorem dX11_sweep_79 : decode cX11_sweep 79 = .ok (.iload_n 1, 1) := by decide +kernel
theorem dX11_sweep_80 : decode cX11_sweep 80 = .ok (.iaload, 1) := by decide +kernel
theorem dX11_sweep_81 : decode cX11_sweep 81 = .ok (.ireturn, 1) := by decide +kernel
theorem dX11_shake_0 : decode cX11_shake 0 = .ok (.aload_n 0, 1) := by decide +kernel
theorem dX11_shake_1 : decode cX11_shake 1 = .ok (.iconst 0, 1) := by decide +kernel
theorem dX11_shake_2 : decode cX11_shake 2 = .ok (.putfield 157, 3) := by decide +kernel
theorem dX11_shake_5 : decode cX11_shake 5 = .ok (.aload_n 0, 1) := by decide +kernel
theorem dX11_shake_6 : decode cX11_shake 6 = .ok (.iload_n 1, 1) := by decide +kernel
theorem dX11_shake_7 : decode cX11_shake 7 = .ok (.invokevirtual 387, 3) := by decide +kernel
theorem dX11_shake_10 : decode cX11_shake 10 = .ok (.ifCond .eq 11, 3) := by decide +kernel
theorem dX11_shake_13 : decode cX11_shake 13 = .ok (.aload_n 0, 1) := by decide +kernel
theorem dX11_shake_14 : decode cX11_shake 14 = .ok (.iload_n 2, 1) := by decide +kernel
theorem dX11_shake_15 : decode cX11_shake 15 = .ok (.invokevirtual 387, 3) := by decide +kernel
theorem dX11_shake_18 : decode cX11_shake 18 = .ok (.ifCond .ne 9, 3) := by decide +kernel
theorem dX11_shake_21 : decode cX11_shake 21 = .ok (.aload_n 0, 1) := by decide +kernel
theorem dX11_shake_22 : decode cX11_shake 22 = .ok (.iconst 1, 1) := by decide +kernel
theorem dX11_shake_23 : decode cX11_shake 23 = .ok (.invokevirtual 320, 3) := by decide +kernel
theorem dX11_shake_26 : decode cX11_shake 26 = .ok (.ireturn, 1) := by decide +kernel
theorem dX11_shake_27 : decode cX11_shake 27 = .ok (.aload_n 0, 1) := by decide +kernel
theorem dX11_shake_28 : decode cX11_shake 28 = .ok (.iload_n 1, 1) := by decide +kernel
theorem dX11_shake_29 : decode cX11_shake 29 = .ok (.iload_n 2, 1) := by decide +kernel
theorem dX11_shake_30 : decode cX11_shake 30 = .ok (.invokevirtual 418, 3) := by decide +kernel
theorem dX11_shake_33 : decode cX11_shake 33 = .ok (.ifCond .ne 9, 3) := by decide +kernel
theorem dX11_shake_36 : decode cX11_shake 36 = .ok (.aload_n 0, 1) := by decide +kernel
theorem dX11_shake_37 : decode cX11_shake 37 = .ok (.iconst 1, 1) := by decide +kernel
theorem dX11_shake_38 : decode cX11_shake 38 = .ok (.invokevirtual 409, 3) := by decide +kernel
theorem dX11_shake_41 : decode cX11_shake 41 = .ok (.ireturn, 1) := by decide +kernel
theorem dX11_shake_42 : decode cX11_shake 42 = .ok (.aload_n 0, 1) := by decide +kernel
theorem dX11_shake_43 : decode cX11_shake 43 = .ok (.invokevirtual 412, 3) := by decide +kernel
theorem dX11_shake_46 : decode cX11_shake 46 = .ok (.aload_n 0, 1) := by decide +kernel
theorem dX11_shake_47 : decode cX11_shake 47 = .ok (.getfield 87, 3) := by decide +kernel
theorem dX11_shake_50 : decode cX11_shake 50 = .ok (.iload_n 1, 1) := by decide +kernel
theorem dX11_shake_51 : decode cX11_shake 51 = .ok (.iaload, 1) := by decide +kernel
theorem dX11_shake_52 : decode cX11_shake 52 = .ok (.iconst 2, 1) := by decide +kernel
theorem dX11_shake_53 : decode cX11_shake 53 = .ok (.idiv, 1) := by decide +kernel
theorem dX11_shake_54 : decode cX11_shake 54 = .ok (.istore_n 3, 1) := by decide +kernel
theorem dX11_shake_55 : decode cX11_shake 55 = .ok (.aload_n 0, 1) := by decide +kernel
theorem dX11_shake_56 : decode cX11_shake 56 = .ok (.iload_n 1, 1) := by decide +kernel
theorem dX11_shake_57 : decode cX11_shake 57 = .ok (.iload_n 2, 1) := by decide +kernel
theorem dX11_shake_58 : decode cX11_shake 58 = .ok (.iload_n 3, 1) := by decide +kernel
theorem dX11_shake_59 : decode cX11_shake 59 = .ok (.invokevirtual 423, 3) := by decide +kernel
theorem dX11_shake_62 : decode cX11_shake 62 = .ok (.iload_n 3, 1) := by decide +kernel
theorem dX11_shake_63 : decode cX11_shake 63 = .ok (.ireturn, 1) := by decide +kernel
theorem dX11_steal_0 : decode cX11_steal 0 = .ok (.iload_n 2, 1) := by decide +kernel
theorem dX11_steal_1 : decode cX11_steal 1 = .ok (.aload_n 0, 1) := by decide +kernel
theorem dX11_steal_2 : decode cX11_steal 2 = .ok (.getfield 87, 3) := by decide +kernel
theorem dX11_steal_5 : decode cX11_steal 5 = .ok (.iload_n 1, 1) := by decide +kernel
theorem dX11_steal_6 : decode cX11_steal 6 = .ok (.iaload, 1) := by decide +kernel
theorem dX11_steal_7 : decode cX11_steal 7 = .ok (.invokestatic 196, 3) := by decide +kernel
theorem dX11_steal_10 : decode cX11_steal 10 = .ok (.istore_n 3, 1) := by decide +kernel
theorem dX11_steal_11 : decode cX11_steal 11 = .ok (.aload_n 0, 1) := by decide +kernel
theorem dX11_steal_12 : decode cX11_steal 12 = .ok (.getfield 87, 3) := by decide +kernel
theorem dX11_steal_15 : decode cX11_steal 15 = .ok (.iload_n 1, 1) := by decide +kernel
theorem dX11_steal_16 : decode cX11_steal 16 = .ok (.dup2, 1) := by decide +kernel
theorem dX11_steal_17 : decode cX11_steal 17 = .ok (.iaload, 1) := by decide +kernel
theorem dX11_steal_18 : decode cX11_steal 18 = .ok (.iload_n 3, 1) := by decide +kernel
theorem dX11_steal_19 : decode cX11_steal 19 = .ok (.isub, 1) := by decide +kernel
theorem dX11_steal_20 : decode cX11_steal 20 = .ok (.iastore, 1) := by decide +kernel
theorem dX11_steal_21 : decode cX11_steal 21 = .ok (.aload_n 0, 1) := by decide +kernel
theorem dX11_steal_22 : decode cX11_steal 22 = .ok (.dup, 1) := by decide +kernel
theorem dX11_steal_23 : decode cX11_steal 23 = .ok (.getfield 338, 3) := by decide +kernel
theorem dX11_steal_26 : decode cX11_steal 26 = .ok (.iload_n 3, 1) := by decide +kernel
theorem dX11_steal_27 : decode cX11_steal 27 = .ok (.iadd, 1) := by decide +kernel
theorem dX11_steal_28 : decode cX11_steal 28 = .ok (.putfield 338, 3) := by decide +kernel
theorem dX11_steal_31 : decode cX11_steal 31 = .ok (.iload_n 3, 1) := by decide +kernel
theorem dX11_steal_32 : decode cX11_steal 32 = .ok (.ireturn, 1) := by decide +kernel
theorem dX11_sneeze_0 : decode cX11_sneeze 0 = .ok (.aload_n 0, 1) := by decide +kernel
theorem dX11_sneeze_1 : decode cX11_sneeze 1 = .ok (.iconst 0, 1) := by decide +kernel
theorem dX11_sneeze_2 : decode cX11_sneeze 2 = .ok (.putfield 157, 3) := by decide +kernel
theorem dX11_sneeze_5 : decode cX11_sneeze 5 = .ok (.aload_n 0, 1) := by decide +kernel
theorem dX11_sneeze_6 : decode cX11_sneeze 6 = .ok (.iload_n 1, 1) := by decide +kernel
theorem dX11_sneeze_7 : decode cX11_sneeze 7 = .ok (.invokevirtual 387, 3) := by decide +kernel
theorem dX11_sneeze_10 : decode cX11_sneeze 10 = .ok (.ifCond .ne 9, 3) := by decide +kernel
theorem dX11_sneeze_13 : decode cX11_sneeze 13 = .ok (.aload_n 0, 1) := by decide +kernel
theorem dX11_sneeze_14 : decode cX11_sneeze 14 = .ok (.iconst 1, 1) := by decide +kernel
theorem dX11_sneeze_15 : decode cX11_sneeze 15 = .ok (.invokevirtual 320, 3) := by decide +kernel
theorem dX11_sneeze_18 : decode cX11_sneeze 18 = .ok (.ireturn, 1) := by decide +kernel
theorem dX11_sneeze_19 : decode cX11_sneeze 19 = .ok (.iload_n 2, 1) := by decide +kernel
theorem dX11_sneeze_20 : decode cX11_sneeze 20 = .ok (.i2l, 1) := by decide +kernel
theorem dX11_sneeze_21 : decode cX11_sneeze 21 = .ok (.lconst 1, 1) := by decide +kernel
theorem dX11_sneeze_22 : decode cX11_sneeze 22 = .ok (.ldc2_w 164, 3) := by decide +kernel
theorem dX11_sneeze_25 : decode cX11_sneeze 25 = .ok (.invokestatic 160, 3) := by decide +kernel
theorem dX11_sneeze_28 : decode cX11_sneeze 28 = .ok (.ifCond .ne 9, 3) := by decide +kernel
theorem dX11_sneeze_31 : decode cX11_sneeze 31 = .ok (.aload_n 0, 1) := by decide +kernel
theorem dX11_sneeze_32 : decode cX11_sneeze 32 = .ok (.iconst 1, 1) := by decide +kernel
theorem dX11_sneeze_33 : decode cX11_sneeze 33 = .ok (.invokevirtual 409, 3) := by decide +kernel
theorem dX11_sneeze_36 : decode cX11_sneeze 36 = .ok (.ireturn, 1) := by decide +kernel
theorem dX11_sneeze_37 : decode cX11_sneeze 37 = .ok (.aload_n 0, 1) := by decide +kernel
theorem dX11_sneeze_38 : decode cX11_sneeze 38 = .ok (.invokevirtual 412, 3) := by decide +kernel
theorem dX11_sneeze_41 : decode cX11_sneeze 41 = .ok (.aload_n 0, 1) := by decide +kernel
theorem dX11_sneeze_42 : decode cX11_sneeze 42 = .ok (.iload_n 1, 1) := by decide +kernel
theorem dX11_sneeze_43 : decode cX11_sneeze 43 = .ok (.iload_n 2, 1) := by decide +kernel
theorem dX11_sneeze_44 : decode cX11_sneeze 44 = .ok (.invokevirtual 427, 3) := by decide +kernel
theorem dX11_sneeze_47 : decode cX11_sneeze 47 = .ok (.ireturn, 1) := by decide +kernel
theorem dX11_plan_0 : decode cX11_plan 0 = .ok (.aload_n 0, 1) := by decide +kernel
theorem dX11_plan_1 : decode cX11_plan 1 = .ok (.iconst 0, 1) := by decide +kernel
theorem dX11_plan_2 : decode cX11_plan 2 = .ok (.putfield 157, 3) := by decide +kernel
theorem dX11_plan_5 : decode cX11_plan 5 = .ok (.iload_n 1, 1) := by decide +kernel
theorem dX11_plan_6 : decode cX11_plan 6 = .ok (.i2l, 1) := by decide +kernel
theorem dX11_plan_7 : decode cX11_plan 7 = .ok (.lconst 0, 1) := by decide +kernel
theorem dX11_plan_8 : decode cX11_plan 8 = .ok (.aload_n 0, 1) := by decide +kernel
theorem dX11_plan_9 : decode cX11_plan 9 = .ok (.getfield 36, 3) := by decide +kernel
theorem dX11_plan_12 : decode cX11_plan 12 = .ok (.iconst 3, 1) := by decide +kernel
theorem dX11_plan_13 : decode cX11_plan 13 = .ok (.iaload, 1) := by decide +kernel
theorem dX11_plan_14 : decode cX11_plan 14 = .ok (.iconst 1, 1) := by decide +kernel
theorem dX11_plan_15 : decode cX11_plan 15 = .ok (.isub, 1) := by decide +kernel
theorem dX11_plan_16 : decode cX11_plan 16 = .ok (.i2l, 1) := by decide +kernel
theorem dX11_plan_17 : decode cX11_plan 17 = .ok (.invokestatic 160, 3) := by decide +kernel
theorem dX11_plan_20 : decode cX11_plan 20 = .ok (.ifCond .eq 26, 3) := by decide +kernel
theorem dX11_plan_23 : decode cX11_plan 23 = .ok (.iload_n 2, 1) := by decide +kernel
theorem dX11_plan_24 : decode cX11_plan 24 = .ok (.iconst 5, 1) := by decide +kernel
theorem dX11_plan_25 : decode cX11_plan 25 = .ok (.if_icmp .eq 27, 3) := by decide +kernel
theorem dX11_plan_28 : decode cX11_plan 28 = .ok (.iload_n 2, 1) := by decide +kernel
theorem dX11_plan_29 : decode cX11_plan 29 = .ok (.i2l, 1) := by decide +kernel
theorem dX11_plan_30 : decode cX11_plan 30 = .ok (.lconst 0, 1) := by decide +kernel
theorem dX11_plan_31 : decode cX11_plan 31 = .ok (.aload_n 0, 1) := by decide +kernel
theorem dX11_plan_32 : decode cX11_plan 32 = .ok (.getfield 36, 3) := by decide +kernel
theorem dX11_plan_35 : decode cX11_plan 35 = .ok (.iconst 2, 1) := by decide +kernel
theorem dX11_plan_36 : decode cX11_plan 36 = .ok (.iaload, 1) := by decide +kernel
theorem dX11_plan_37 : decode cX11_plan 37 = .ok (.iconst 1, 1) := by decide +kernel
theorem dX11_plan_38 : decode cX11_plan 38 = .ok (.isub, 1) := by decide +kernel
theorem dX11_plan_39 : decode cX11_plan 39 = .ok (.i2l, 1) := by decide +kernel
theorem dX11_plan_40 : decode cX11_plan 40 = .ok (.invokestatic 160, 3) := by decide +kernel
theorem dX11_plan_43 : decode cX11_plan 43 = .ok (.ifCond .ne 9, 3) := by decide +kernel
theorem dX11_plan_46 : decode cX11_plan 46 = .ok (.aload_n 0, 1) := by decide +kernel
theorem dX11_plan_47 : decode cX11_plan 47 = .ok (.iconst 1, 1) := by decide +kernel
theorem dX11_plan_48 : decode cX11_plan 48 = .ok (.invokevirtual 409, 3) := by decide +kernel
theorem dX11_plan_51 : decode cX11_plan 51 = .ok (.ireturn, 1) := by decide +kernel
theorem dX11_plan_52 : decode cX11_plan 52 = .ok (.aload_n 0, 1) := by decide +kernel
theorem dX11_plan_53 : decode cX11_plan 53 = .ok (.invokevirtual 412, 3) := by decide +kernel
theorem dX11_plan_56 : decode cX11_plan 56 = .ok (.aload_n 0, 1) := by decide +kernel
theorem dX11_plan_57 : decode cX11_plan 57 = .ok (.getfield 91, 3) := by decide +kernel
theorem dX11_plan_60 : decode cX11_plan 60 = .ok (.iload_n 1, 1) := by decide +kernel
theorem dX11_plan_61 : decode cX11_plan 61 = .ok (.iaload, 1) := by decide +kernel
theorem dX11_plan_62 : decode cX11_plan 62 = .ok (.istore_n 3, 1) := by decide +kernel
theorem dX11_plan_63 : decode cX11_plan 63 = .ok (.aload_n 0, 1) := by decide +kernel
theorem dX11_plan_64 : decode cX11_plan 64 = .ok (.getfield 91, 3) := by decide +kernel
theorem dX11_plan_67 : decode cX11_plan 67 = .ok (.iload_n 1, 1) := by decide +kernel
theorem dX11_plan_68 : decode cX11_plan 68 = .ok (.iload_n 2, 1) := by decide +kernel
theorem dX11_plan_69 : decode cX11_plan 69 = .ok (.iastore, 1) := by decide +kernel
theorem dX11_plan_70 : decode cX11_plan 70 = .ok (.iload_n 3, 1) := by decide +kernel
theorem dX11_plan_71 : decode cX11_plan 71 = .ok (.ireturn, 1) := by decide +kernel
theorem dX11_undo_0 : decode cX11_undo 0 = .ok (.aload_n 0, 1) := by decide +kernel
theorem dX11_undo_1 : decode cX11_undo 1 = .ok (.iconst 0, 1) := by decide +kernel
theorem dX11_undo_2 : decode cX11_undo 2 = .ok (.putfield 157, 3) := by decide +kernel
theorem dX11_undo_5 : decode cX11_undo 5 = .ok (.aload_n 0, 1) := by decide +kernel
theorem dX11_undo_6 : decode cX11_undo 6 = .ok (.getfield 341, 3) := by decide +kernel
theorem dX11_undo_9 : decode cX11_undo 9 = .ok (.ifCond .ne 5, 3) := by decide +kernel
theorem dX11_undo_12 : decode cX11_undo 12 = .ok (.iconst (-1), 1) := by decide +kernel
theorem dX11_undo_13 : decode cX11_undo 13 = .ok (.ireturn, 1) := by decide +kernel
theorem dX11_undo_14 : decode cX11_undo 14 = .ok (.aload_n 0, 1) := by decide +kernel
theorem dX11_undo_15 : decode cX11_undo 15 = .ok (.dup, 1) := by decide +kernel
theorem dX11_undo_16 : decode cX11_undo 16 = .ok (.getfield 341, 3) := by decide +kernel
theorem dX11_undo_19 : decode cX11_undo 19 = .ok (.iconst 1, 1) := by decide +kernel
theorem dX11_undo_20 : decode cX11_undo 20 = .ok (.isub, 1) := by decide +kernel
theorem dX11_undo_21 : decode cX11_undo 21 = .ok (.putfield 341, 3) := by decide +kernel
theorem dX11_undo_24 : decode cX11_undo 24 = .ok (.aload_n 0, 1) := by decide +kernel
theorem dX11_undo_25 : decode cX11_undo 25 = .ok (.aload_n 0, 1) := by decide +kernel
theorem dX11_undo_26 : decode cX11_undo 26 = .ok (.getfield 94, 3) := by decide +kernel
theorem dX11_undo_29 : decode cX11_undo 29 = .ok (.bipush 31, 2) := by decide +kernel
theorem dX11_undo_31 : decode cX11_undo 31 = .ok (.aload_n 0, 1) := by decide +kernel
theorem dX11_undo_32 : decode cX11_undo 32 = .ok (.getfield 341, 3) := by decide +kernel
theorem dX11_undo_35 : decode cX11_undo 35 = .ok (.imul, 1) := by decide +kernel
theorem dX11_undo_36 : decode cX11_undo 36 = .ok (.invokevirtual 430, 3) := by decide +kernel
theorem dX11_undo_39 : decode cX11_undo 39 = .ok (.aload_n 0, 1) := by decide +kernel
theorem dX11_undo_40 : decode cX11_undo 40 = .ok (.getfield 341, 3) := by decide +kernel
theorem dX11_undo_43 : decode cX11_undo 43 = .ok (.ireturn, 1) := by decide +kernel
theorem dX11_then_0 : decode cX11_then 0 = .ok (.aload_n 0, 1) := by decide +kernel
theorem dX11_then_1 : decode cX11_then 1 = .ok (.iconst 0, 1) := by decide +kernel
theorem dX11_then_2 : decode cX11_then 2 = .ok (.putfield 157, 3) := by decide +kernel
theorem dX11_then_5 : decode cX11_then 5 = .ok (.aload_n 0, 1) := by decide +kernel
theorem dX11_then_6 : decode cX11_then 6 = .ok (.iload_n 1, 1) := by decide +kernel
theorem dX11_then_7 : decode cX11_then 7 = .ok (.invokevirtual 387, 3) := by decide +kernel
theorem dX11_then_10 : decode cX11_then 10 = .ok (.ifCond .ne 9, 3) := by decide +kernel
theorem dX11_then_13 : decode cX11_then 13 = .ok (.aload_n 0, 1) := by decide +kernel
theorem dX11_then_14 : decode cX11_then 14 = .ok (.iconst 1, 1) := by decide +kernel
theorem dX11_then_15 : decode cX11_then 15 = .ok (.invokevirtual 320, 3) := by decide +kernel
theorem dX11_then_18 : decode cX11_then 18 = .ok (.ireturn, 1) := by decide +kernel
theorem dX11_then_19 : decode cX11_then 19 = .ok (.iload_n 2, 1) := by decide +kernel
theorem dX11_then_20 : decode cX11_then 20 = .ok (.invokestatic 433, 3) := by decide +kernel
theorem dX11_then_23 : decode cX11_then 23 = .ok (.ifCond .ne 9, 3) := by decide +kernel
theorem dX11_then_26 : decode cX11_then 26 = .ok (.aload_n 0, 1) := by decide +kernel
theorem dX11_then_27 : decode cX11_then 27 = .ok (.iconst 2, 1) := by decide +kernel
theorem dX11_then_28 : decode cX11_then 28 = .ok (.invokevirtual 320, 3) := by decide +kernel
theorem dX11_then_31 : decode cX11_then 31 = .ok (.ireturn, 1) := by decide +kernel
theorem dX11_then_32 : decode cX11_then 32 = .ok (.aload_n 0, 1) := by decide +kernel
theorem dX11_then_33 : decode cX11_then 33 = .ok (.aload_n 0, 1) := by decide +kernel
theorem dX11_then_34 : decode cX11_then 34 = .ok (.getfield 109, 3) := by decide +kernel
theorem dX11_then_37 : decode cX11_then 37 = .ok (.iconst 0, 1) := by decide +kernel
theorem dX11_then_38 : decode cX11_then 38 = .ok (.invokevirtual 403, 3) := by decide +kernel
theorem dX11_then_41 : decode cX11_then 41 = .ok (.aload_n 0, 1) := by decide +kernel
theorem dX11_then_42 : decode cX11_then 42 = .ok (.iload_n 2, 1) := by decide +kernel
theorem dX11_then_43 : decode cX11_then 43 = .ok (.invokevirtual 415, 3) := by decide +kernel
theorem dX11_then_46 : decode cX11_then 46 = .ok (.aload_n 0, 1) := by decide +kernel
theorem dX11_then_47 : decode cX11_then 47 = .ok (.getfield 87, 3) := by decide +kernel
theorem dX11_then_50 : decode cX11_then 50 = .ok (.iload_n 1, 1) := by decide +kernel
theorem dX11_then_51 : decode cX11_then 51 = .ok (.iaload, 1) := by decide +kernel
theorem dX11_then_52 : decode cX11_then 52 = .ok (.istore_n 3, 1) := by decide +kernel
theorem dX11_then_53 : decode cX11_then 53 = .ok (.aload_n 0, 1) := by decide +kernel
theorem dX11_then_54 : decode cX11_then 54 = .ok (.aload_n 0, 1) := by decide +kernel
theorem dX11_then_55 : decode cX11_then 55 = .ok (.getfield 109, 3) := by decide +kernel
theorem dX11_then_58 : decode cX11_then 58 = .ok (.iconst 0, 1) := by decide +kernel
theorem dX11_then_59 : decode cX11_then 59 = .ok (.invokevirtual 430, 3) := by decide +kernel
theorem dX11_then_62 : decode cX11_then 62 = .ok (.iload_n 3, 1) := by decide +kernel
theorem dX11_then_63 : decode cX11_then 63 = .ok (.ireturn, 1) := by decide +kernel
theorem dX11_takenIn_0 : decode cX11_takenIn 0 = .ok (.aload_n 0, 1) := by decide +kernel
theorem dX11_takenIn_1 : decode cX11_takenIn 1 = .ok (.aload_n 0, 1) := by decide +kernel
theorem dX11_takenIn_2 : decode cX11_takenIn 2 = .ok (.getfield 109, 3) := by decide +kernel
theorem dX11_takenIn_5 : decode cX11_takenIn 5 = .ok (.iconst 0, 1) := by decide +kernel
theorem dX11_takenIn_6 : decode cX11_takenIn 6 = .ok (.invokevirtual 403, 3) := by decide +kernel
theorem dX11_takenIn_9 : decode cX11_takenIn 9 = .ok (.aload_n 0, 1) := by decide +kernel
theorem dX11_takenIn_10 : decode cX11_takenIn 10 = .ok (.getfield 335, 3) := by decide +kernel
theorem dX11_takenIn_13 : decode cX11_takenIn 13 = .ok (.istore_n 3, 1) := by decide +kernel
theorem dX11_takenIn_14 : decode cX11_takenIn 14 = .ok (.iconst 0, 1) := by decide +kernel
theorem dX11_takenIn_15 : decode cX11_takenIn 15 = .ok (.istore 4, 2) := by decide +kernel
theorem dX11_takenIn_17 : decode cX11_takenIn 17 = .ok (.iload 4, 2) := by decide +kernel
theorem dX11_takenIn_19 : decode cX11_takenIn 19 = .ok (.iload_n 1, 1) := by decide +kernel
theorem dX11_takenIn_20 : decode cX11_takenIn 20 = .ok (.if_icmp .ge 22, 3) := by decide +kernel
theorem dX11_takenIn_23 : decode cX11_takenIn 23 = .ok (.aload_n 0, 1) := by decide +kernel
theorem dX11_takenIn_24 : decode cX11_takenIn 24 = .ok (.aload_n 0, 1) := by decide +kernel
theorem dX11_takenIn_25 : decode cX11_takenIn 25 = .ok (.aload_n 0, 1) := by decide +kernel
theorem dX11_takenIn_26 : decode cX11_takenIn 26 = .ok (.getfield 333, 3) := by decide +kernel
theorem dX11_takenIn_29 : decode cX11_takenIn 29 = .ok (.invokevirtual 372, 3) := by decide +kernel
theorem dX11_takenIn_32 : decode cX11_takenIn 32 = .ok (.iload_n 2, 1) := by decide +kernel
theorem dX11_takenIn_33 : decode cX11_takenIn 33 = .ok (.invokevirtual 375, 3) := by decide +kernel
theorem dX11_takenIn_36 : decode cX11_takenIn 36 = .ok (.iinc 4 1, 3) := by decide +kernel
theorem dX11_takenIn_39 : decode cX11_takenIn 39 = .ok (.goto (-22), 3) := by decide +kernel
theorem dX11_takenIn_42 : decode cX11_takenIn 42 = .ok (.aload_n 0, 1) := by decide +kernel
theorem dX11_takenIn_43 : decode cX11_takenIn 43 = .ok (.getfield 335, 3) := by decide +kernel
theorem dX11_takenIn_46 : decode cX11_takenIn 46 = .ok (.iload_n 3, 1) := by decide +kernel
theorem dX11_takenIn_47 : decode cX11_takenIn 47 = .ok (.isub, 1) := by decide +kernel
theorem dX11_takenIn_48 : decode cX11_takenIn 48 = .ok (.istore 4, 2) := by decide +kernel
theorem dX11_takenIn_50 : decode cX11_takenIn 50 = .ok (.aload_n 0, 1) := by decide +kernel
theorem dX11_takenIn_51 : decode cX11_takenIn 51 = .ok (.aload_n 0, 1) := by decide +kernel
theorem dX11_takenIn_52 : decode cX11_takenIn 52 = .ok (.getfield 109, 3) := by decide +kernel
theorem dX11_takenIn_55 : decode cX11_takenIn 55 = .ok (.iconst 0, 1) := by decide +kernel
theorem dX11_takenIn_56 : decode cX11_takenIn 56 = .ok (.invokevirtual 430, 3) := by decide +kernel
theorem dX11_takenIn_59 : decode cX11_takenIn 59 = .ok (.iload 4, 2) := by decide +kernel
theorem dX11_takenIn_61 : decode cX11_takenIn 61 = .ok (.ireturn, 1) := by decide +kernel
theorem dX11_taken_0 : decode cX11_taken 0 = .ok (.aload_n 0, 1) := by decide +kernel
theorem dX11_taken_1 : decode cX11_taken 1 = .ok (.iconst 0, 1) := by decide +kernel
theorem dX11_taken_2 : decode cX11_taken 2 = .ok (.putfield 157, 3) := by decide +kernel
theorem dX11_taken_5 : decode cX11_taken 5 = .ok (.iload_n 1, 1) := by decide +kernel
theorem dX11_taken_6 : decode cX11_taken 6 = .ok (.invokestatic 433, 3) := by decide +kernel
theorem dX11_taken_9 : decode cX11_taken 9 = .ok (.ifCond .eq 17, 3) := by decide +kernel
theorem dX11_taken_12 : decode cX11_taken 12 = .ok (.aload_n 0, 1) := by decide +kernel
theorem dX11_taken_13 : decode cX11_taken 13 = .ok (.iload_n 1, 1) := by decide +kernel
theorem dX11_taken_14 : decode cX11_taken 14 = .ok (.aload_n 0, 1) := by decide +kernel
theorem dX11_taken_15 : decode cX11_taken 15 = .ok (.getfield 36, 3) := by decide +kernel
theorem dX11_taken_18 : decode cX11_taken 18 = .ok (.iconst 4, 1) := by decide +kernel
theorem dX11_taken_19 : decode cX11_taken 19 = .ok (.iaload, 1) := by decide +kernel
theorem dX11_taken_20 : decode cX11_taken 20 = .ok (.invokevirtual 436, 3) := by decide +kernel
theorem dX11_taken_23 : decode cX11_taken 23 = .ok (.goto 8, 3) := by decide +kernel
theorem dX11_taken_26 : decode cX11_taken 26 = .ok (.aload_n 0, 1) := by decide +kernel
theorem dX11_taken_27 : decode cX11_taken 27 = .ok (.iconst 1, 1) := by decide +kernel
theorem dX11_taken_28 : decode cX11_taken 28 = .ok (.invokevirtual 320, 3) := by decide +kernel
theorem dX11_taken_31 : decode cX11_taken 31 = .ok (.ireturn, 1) := by decide +kernel
theorem dX11_thick_0 : decode cX11_thick 0 = .ok (.aload_n 0, 1) := by decide +kernel
theorem dX11_thick_1 : decode cX11_thick 1 = .ok (.iconst 0, 1) := by decide +kernel
theorem dX11_thick_2 : decode cX11_thick 2 = .ok (.putfield 157, 3) := by decide +kernel
theorem dX11_thick_5 : decode cX11_thick 5 = .ok (.aload_n 0, 1) := by decide +kernel
theorem dX11_thick_6 : decode cX11_thick 6 = .ok (.iload_n 1, 1) := by decide +kernel
theorem dX11_thick_7 : decode cX11_thick 7 = .ok (.invokevirtual 387, 3) := by decide +kernel
theorem dX11_thick_10 : decode cX11_thick 10 = .ok (.ifCond .ne 9, 3) := by decide +kernel
theorem dX11_thick_13 : decode cX11_thick 13 = .ok (.aload_n 0, 1) := by decide +kernel
theorem dX11_thick_14 : decode cX11_thick 14 = .ok (.iconst 1, 1) := by decide +kernel
theorem dX11_thick_15 : decode cX11_thick 15 = .ok (.invokevirtual 320, 3) := by decide +kernel
theorem dX11_thick_18 : decode cX11_thick 18 = .ok (.ireturn, 1) := by decide +kernel
theorem dX11_thick_19 : decode cX11_thick 19 = .ok (.iload_n 2, 1) := by decide +kernel
theorem dX11_thick_20 : decode cX11_thick 20 = .ok (.i2l, 1) := by decide +kernel
theorem dX11_thick_21 : decode cX11_thick 21 = .ok (.lconst 0, 1) := by decide +kernel
theorem dX11_thick_22 : decode cX11_thick 22 = .ok (.ldc2_w 401, 3) := by decide +kernel
theorem dX11_thick_25 : decode cX11_thick 25 = .ok (.invokestatic 160, 3) := by decide +kernel
theorem dX11_thick_28 : decode cX11_thick 28 = .ok (.ifCond .ne 9, 3) := by decide +kernel
theorem dX11_thick_31 : decode cX11_thick 31 = .ok (.aload_n 0, 1) := by decide +kernel
theorem dX11_thick_32 : decode cX11_thick 32 = .ok (.iconst 2, 1) := by decide +kernel
theorem dX11_thick_33 : decode cX11_thick 33 = .ok (.invokevirtual 320, 3) := by decide +kernel
theorem dX11_thick_36 : decode cX11_thick 36 = .ok (.ireturn, 1) := by decide +kernel
theorem dX11_thick_37 : decode cX11_thick 37 = .ok (.aload_n 0, 1) := by decide +kernel
theorem dX11_thick_38 : decode cX11_thick 38 = .ok (.aload_n 0, 1) := by decide +kernel
theorem dX11_thick_39 : decode cX11_thick 39 = .ok (.getfield 109, 3) := by decide +kernel
theorem dX11_thick_42 : decode cX11_thick 42 = .ok (.iconst 0, 1) := by decide +kernel
theorem dX11_thick_43 : decode cX11_thick 43 = .ok (.invokevirtual 403, 3) := by decide +kernel
theorem dX11_thick_46 : decode cX11_thick 46 = .ok (.iconst (-1), 1) := by decide +kernel
theorem dX11_thick_47 : decode cX11_thick 47 = .ok (.istore_n 3, 1) := by decide +kernel
theorem dX11_thick_48 : decode cX11_thick 48 = .ok (.iconst 0, 1) := by decide +kernel
theorem dX11_thick_49 : decode cX11_thick 49 = .ok (.istore 4, 2) := by decide +kernel
theorem dX11_thick_51 : decode cX11_thick 51 = .ok (.iload 4, 2) := by decide +kernel
theorem dX11_thick_53 : decode cX11_thick 53 = .ok (.bipush 99, 2) := by decide +kernel
theorem dX11_thick_55 : decode cX11_thick 55 = .ok (.if_icmp .gt 31, 3) := by decide +kernel
theorem dX11_thick_58 : decode cX11_thick 58 = .ok (.iload_n 3, 1) := by decide +kernel
theorem dX11_thick_59 : decode cX11_thick 59 = .ok (.iconst (-1), 1) := by decide +kernel
theorem dX11_thick_60 : decode cX11_thick 60 = .ok (.if_icmp .ne 26, 3) := by decide +kernel
theorem dX11_thick_63 : decode cX11_thick 63 = .ok (.aload_n 0, 1) := by decide +kernel
theorem dX11_thick_64 : decode cX11_thick 64 = .ok (.getfield 87, 3) := by decide +kernel
theorem dX11_thick_67 : decode cX11_thick 67 = .ok (.iload_n 1, 1) := by decide +kernel
theorem dX11_thick_68 : decode cX11_thick 68 = .ok (.iaload, 1) := by decide +kernel
theorem dX11_thick_69 : decode cX11_thick 69 = .ok (.iload_n 2, 1) := by decide +kernel
theorem dX11_thick_70 : decode cX11_thick 70 = .ok (.if_icmp .lt 6, 3) := by decide +kernel
theorem dX11_thick_73 : decode cX11_thick 73 = .ok (.iload 4, 2) := by decide +kernel
theorem dX11_thick_75 : decode cX11_thick 75 = .ok (.istore_n 3, 1) := by decide +kernel
theorem dX11_thick_76 : decode cX11_thick 76 = .ok (.aload_n 0, 1) := by decide +kernel
theorem dX11_thick_77 : decode cX11_thick 77 = .ok (.invokevirtual 378, 3) := by decide +kernel
theorem dX11_thick_80 : decode cX11_thick 80 = .ok (.iinc 4 1, 3) := by decide +kernel
theorem dX11_thick_83 : decode cX11_thick 83 = .ok (.goto (-32), 3) := by decide +kernel
theorem dX11_thick_86 : decode cX11_thick 86 = .ok (.aload_n 0, 1) := by decide +kernel
theorem dX11_thick_87 : decode cX11_thick 87 = .ok (.aload_n 0, 1) := by decide +kernel
theorem dX11_thick_88 : decode cX11_thick 88 = .ok (.getfield 109, 3) := by decide +kernel
theorem dX11_thick_91 : decode cX11_thick 91 = .ok (.iconst 0, 1) := by decide +kernel
theorem dX11_thick_92 : decode cX11_thick 92 = .ok (.invokevirtual 430, 3) := by decide +kernel
theorem dX11_thick_95 : decode cX11_thick 95 = .ok (.iload_n 3, 1) := by decide +kernel
theorem dX11_thick_96 : decode cX11_thick 96 = .ok (.ireturn, 1) := by decide +kernel
theorem dX11_heresy_0 : decode cX11_heresy 0 = .ok (.aload_n 0, 1) := by decide +kernel
theorem dX11_heresy_1 : decode cX11_heresy 1 = .ok (.iconst 0, 1) := by decide +kernel
theorem dX11_heresy_2 : decode cX11_heresy 2 = .ok (.putfield 157, 3) := by decide +kernel
theorem dX11_heresy_5 : decode cX11_heresy 5 = .ok (.aload_n 0, 1) := by decide +kernel
theorem dX11_heresy_6 : decode cX11_heresy 6 = .ok (.aload_n 0, 1) := by decide +kernel
theorem dX11_heresy_7 : decode cX11_heresy 7 = .ok (.getfield 109, 3) := by decide +kernel
theorem dX11_heresy_10 : decode cX11_heresy 10 = .ok (.iconst 0, 1) := by decide +kernel
theorem dX11_heresy_11 : decode cX11_heresy 11 = .ok (.invokevirtual 403, 3) := by decide +kernel
theorem dX11_heresy_14 : decode cX11_heresy 14 = .ok (.iconst (-1), 1) := by decide +kernel
theorem dX11_heresy_15 : decode cX11_heresy 15 = .ok (.istore_n 1, 1) := by decide +kernel
theorem dX11_heresy_16 : decode cX11_heresy 16 = .ok (.iconst 0, 1) := by decide +kernel
theorem dX11_heresy_17 : decode cX11_heresy 17 = .ok (.istore_n 2, 1) := by decide +kernel
theorem dX11_heresy_18 : decode cX11_heresy 18 = .ok (.iload_n 2, 1) := by decide +kernel
theorem dX11_heresy_19 : decode cX11_heresy 19 = .ok (.bipush 99, 2) := by decide +kernel
theorem dX11_heresy_21 : decode cX11_heresy 21 = .ok (.if_icmp .gt 27, 3) := by decide +kernel
theorem dX11_heresy_24 : decode cX11_heresy 24 = .ok (.iload_n 1, 1) := by decide +kernel
theorem dX11_heresy_25 : decode cX11_heresy 25 = .ok (.iconst (-1), 1) := by decide +kernel
theorem dX11_heresy_26 : decode cX11_heresy 26 = .ok (.if_icmp .ne 22, 3) := by decide +kernel
theorem dX11_heresy_29 : decode cX11_heresy 29 = .ok (.aload_n 0, 1) := by decide +kernel
theorem dX11_heresy_30 : decode cX11_heresy 30 = .ok (.invokevirtual 384, 3) := by decide +kernel
theorem dX11_heresy_33 : decode cX11_heresy 33 = .ok (.ifCond .eq 5, 3) := by decide +kernel
theorem dX11_heresy_36 : decode cX11_heresy 36 = .ok (.iload_n 2, 1) := by decide +kernel
theorem dX11_heresy_37 : decode cX11_heresy 37 = .ok (.istore_n 1, 1) := by decide +kernel
theorem dX11_heresy_38 : decode cX11_heresy 38 = .ok (.aload_n 0, 1) := by decide +kernel
theorem dX11_heresy_39 : decode cX11_heresy 39 = .ok (.invokevirtual 378, 3) := by decide +kernel
theorem dX11_heresy_42 : decode cX11_heresy 42 = .ok (.iinc 2 1, 3) := by decide +kernel
theorem dX11_heresy_45 : decode cX11_heresy 45 = .ok (.goto (-27), 3) := by decide +kernel
theorem dX11_heresy_48 : decode cX11_heresy 48 = .ok (.aload_n 0, 1) := by decide +kernel
theorem dX11_heresy_49 : decode cX11_heresy 49 = .ok (.aload_n 0, 1) := by decide +kernel
theorem dX11_heresy_50 : decode cX11_heresy 50 = .ok (.getfield 109, 3) := by decide +kernel
theorem dX11_heresy_53 : decode cX11_heresy 53 = .ok (.iconst 0, 1) := by decide +kernel
theorem dX11_heresy_54 : decode cX11_heresy 54 = .ok (.invokevirtual 430, 3) := by decide +kernel
theorem dX11_heresy_57 : decode cX11_heresy 57 = .ok (.iload_n 1, 1) := by decide +kernel
theorem dX11_heresy_58 : decode cX11_heresy 58 = .ok (.ireturn, 1) := by decide +kernel
theorem dX11_byOrder_0 : decode cX11_byOrder 0 = .ok (.aload_n 0, 1) := by decide +kernel
theorem dX11_byOrder_1 : decode cX11_byOrder 1 = .ok (.aload_n 0, 1) := by decide +kernel
theorem dX11_byOrder_2 : decode cX11_byOrder 2 = .ok (.getfield 109, 3) := by decide +kernel
theorem dX11_byOrder_5 : decode cX11_byOrder 5 = .ok (.iconst 0, 1) := by decide +kernel
theorem dX11_byOrder_6 : decode cX11_byOrder 6 = .ok (.invokevirtual 403, 3) := by decide +kernel
theorem dX11_byOrder_9 : decode cX11_byOrder 9 = .ok (.iconst 0, 1) := by decide +kernel
theorem dX11_byOrder_10 : decode cX11_byOrder 10 = .ok (.istore_n 2, 1) := by decide +kernel
theorem dX11_byOrder_11 : decode cX11_byOrder 11 = .ok (.iload_n 2, 1) := by decide +kernel
theorem dX11_byOrder_12 : decode cX11_byOrder 12 = .ok (.aload_n 0, 1) := by decide +kernel
theorem dX11_byOrder_13 : decode cX11_byOrder 13 = .ok (.getfield 36, 3) := by decide +kernel
theorem dX11_byOrder_16 : decode cX11_byOrder 16 = .ok (.iconst 2, 1) := by decide +kernel
theorem dX11_byOrder_17 : decode cX11_byOrder 17 = .ok (.iaload, 1) := by decide +kernel
theorem dX11_byOrder_18 : decode cX11_byOrder 18 = .ok (.if_icmp .ge 25, 3) := by decide +kernel
theorem dX11_byOrder_21 : decode cX11_byOrder 21 = .ok (.aload_n 0, 1) := by decide +kernel
theorem dX11_byOrder_22 : decode cX11_byOrder 22 = .ok (.aload_n 0, 1) := by decide +kernel
theorem dX11_byOrder_23 : decode cX11_byOrder 23 = .ok (.getfield 112, 3) := by decide +kernel
theorem dX11_byOrder_26 : decode cX11_byOrder 26 = .ok (.iload_n 2, 1) := by decide +kernel
theorem dX11_byOrder_27 : decode cX11_byOrder 27 = .ok (.iaload, 1) := by decide +kernel
theorem dX11_byOrder_28 : decode cX11_byOrder 28 = .ok (.aload_n 0, 1) := by decide +kernel
theorem dX11_byOrder_29 : decode cX11_byOrder 29 = .ok (.getfield 36, 3) := by decide +kernel
theorem dX11_byOrder_32 : decode cX11_byOrder 32 = .ok (.iconst 4, 1) := by decide +kernel
theorem dX11_byOrder_33 : decode cX11_byOrder 33 = .ok (.iaload, 1) := by decide +kernel
theorem dX11_byOrder_34 : decode cX11_byOrder 34 = .ok (.invokevirtual 375, 3) := by decide +kernel
theorem dX11_byOrder_37 : decode cX11_byOrder 37 = .ok (.iinc 2 1, 3) := by decide +kernel
theorem dX11_byOrder_40 : decode cX11_byOrder 40 = .ok (.goto (-29), 3) := by decide +kernel
theorem dX11_byOrder_43 : decode cX11_byOrder 43 = .ok (.aload_n 0, 1) := by decide +kernel
theorem dX11_byOrder_44 : decode cX11_byOrder 44 = .ok (.getfield 87, 3) := by decide +kernel
theorem dX11_byOrder_47 : decode cX11_byOrder 47 = .ok (.iload_n 1, 1) := by decide +kernel
theorem dX11_byOrder_48 : decode cX11_byOrder 48 = .ok (.iaload, 1) := by decide +kernel
theorem dX11_byOrder_49 : decode cX11_byOrder 49 = .ok (.istore_n 2, 1) := by decide +kernel
theorem dX11_byOrder_50 : decode cX11_byOrder 50 = .ok (.aload_n 0, 1) := by decide +kernel
theorem dX11_byOrder_51 : decode cX11_byOrder 51 = .ok (.aload_n 0, 1) := by decide +kernel
theorem dX11_byOrder_52 : decode cX11_byOrder 52 = .ok (.getfield 109, 3) := by decide +kernel
theorem dX11_byOrder_55 : decode cX11_byOrder 55 = .ok (.iconst 0, 1) := by decide +kernel
theorem dX11_byOrder_56 : decode cX11_byOrder 56 = .ok (.invokevirtual 430, 3) := by decide +kernel
theorem dX11_byOrder_59 : decode cX11_byOrder 59 = .ok (.iload_n 2, 1) := by decide +kernel
theorem dX11_byOrder_60 : decode cX11_byOrder 60 = .ok (.ireturn, 1) := by decide +kernel
theorem dX11_goOrders_0 : decode cX11_goOrders 0 = .ok (.iload_n 2, 1) := by decide +kernel
theorem dX11_goOrders_1 : decode cX11_goOrders 1 = .ok (.aload_n 0, 1) := by decide +kernel
theorem dX11_goOrders_2 : decode cX11_goOrders 2 = .ok (.getfield 36, 3) := by decide +kernel
theorem dX11_goOrders_5 : decode cX11_goOrders 5 = .ok (.iconst 2, 1) := by decide +kernel
theorem dX11_goOrders_6 : decode cX11_goOrders 6 = .ok (.iaload, 1) := by decide +kernel
theorem dX11_goOrders_7 : decode cX11_goOrders 7 = .ok (.if_icmp .ne 56, 3) := by decide +kernel
theorem dX11_goOrders_10 : decode cX11_goOrders 10 = .ok (.aload_n 0, 1) := by decide +kernel
theorem dX11_goOrders_11 : decode cX11_goOrders 11 = .ok (.iload_n 1, 1) := by decide +kernel
theorem dX11_goOrders_12 : decode cX11_goOrders 12 = .ok (.invokevirtual 439, 3) := by decide +kernel
theorem dX11_goOrders_15 : decode cX11_goOrders 15 = .ok (.istore 4, 2) := by decide +kernel
theorem dX11_goOrders_17 : decode cX11_goOrders 17 = .ok (.iload 4, 2) := by decide +kernel
theorem dX11_goOrders_19 : decode cX11_goOrders 19 = .ok (.aload_n 0, 1) := by decide +kernel
theorem dX11_goOrders_20 : decode cX11_goOrders 20 = .ok (.getfield 442, 3) := by decide +kernel
theorem dX11_goOrders_23 : decode cX11_goOrders 23 = .ok (.if_icmp .gt 4, 3) := by decide +kernel
theorem dX11_goOrders_26 : decode cX11_goOrders 26 = .ok (.return_, 1) := by decide +kernel
theorem dX11_goOrders_27 : decode cX11_goOrders 27 = .ok (.aload_n 0, 1) := by decide +kernel
theorem dX11_goOrders_28 : decode cX11_goOrders 28 = .ok (.iload 4, 2) := by decide +kernel
theorem dX11_goOrders_30 : decode cX11_goOrders 30 = .ok (.putfield 442, 3) := by decide +kernel
theorem dX11_goOrders_33 : decode cX11_goOrders 33 = .ok (.iconst 0, 1) := by decide +kernel
theorem dX11_goOrders_34 : decode cX11_goOrders 34 = .ok (.istore 5, 2) := by decide +kernel
theorem dX11_goOrders_36 : decode cX11_goOrders 36 = .ok (.iload 5, 2) := by decide +kernel
theorem dX11_goOrders_38 : decode cX11_goOrders 38 = .ok (.iload_n 2, 1) := by decide +kernel
theorem dX11_goOrders_39 : decode cX11_goOrders 39 = .ok (.if_icmp .ge 23, 3) := by decide +kernel
theorem dX11_goOrders_42 : decode cX11_goOrders 42 = .ok (.aload_n 0, 1) := by decide +kernel
theorem dX11_goOrders_43 : decode cX11_goOrders 43 = .ok (.getfield 115, 3) := by decide +kernel
theorem dX11_goOrders_46 : decode cX11_goOrders 46 = .ok (.iload 5, 2) := by decide +kernel
theorem dX11_goOrders_48 : decode cX11_goOrders 48 = .ok (.aload_n 0, 1) := by decide +kernel
theorem dX11_goOrders_49 : decode cX11_goOrders 49 = .ok (.getfield 112, 3) := by decide +kernel
theorem dX11_goOrders_52 : decode cX11_goOrders 52 = .ok (.iload 5, 2) := by decide +kernel
theorem dX11_goOrders_54 : decode cX11_goOrders 54 = .ok (.iaload, 1) := by decide +kernel
theorem dX11_goOrders_55 : decode cX11_goOrders 55 = .ok (.iastore, 1) := by decide +kernel
theorem dX11_goOrders_56 : decode cX11_goOrders 56 = .ok (.iinc 5 1, 3) := by decide +kernel
theorem dX11_goOrders_59 : decode cX11_goOrders 59 = .ok (.goto (-23), 3) := by decide +kernel
theorem dX11_goOrders_62 : decode cX11_goOrders 62 = .ok (.return_, 1) := by decide +kernel
theorem dX11_goOrders_63 : decode cX11_goOrders 63 = .ok (.iconst 0, 1) := by decide +kernel
theorem dX11_goOrders_64 : decode cX11_goOrders 64 = .ok (.istore 4, 2) := by decide +kernel
theorem dX11_goOrders_66 : decode cX11_goOrders 66 = .ok (.iload 4, 2) := by decide +kernel
theorem dX11_goOrders_68 : decode cX11_goOrders 68 = .ok (.aload_n 0, 1) := by decide +kernel
theorem dX11_goOrders_69 : decode cX11_goOrders 69 = .ok (.getfield 36, 3) := by decide +kernel
theorem dX11_goOrders_72 : decode cX11_goOrders 72 = .ok (.iconst 2, 1) := by decide +kernel
theorem dX11_goOrders_73 : decode cX11_goOrders 73 = .ok (.iaload, 1) := by decide +kernel
theorem dX11_goOrders_74 : decode cX11_goOrders 74 = .ok (.if_icmp .ge 43, 3) := by decide +kernel
theorem dX11_goOrders_77 : decode cX11_goOrders 77 = .ok (.iload_n 3, 1) := by decide +kernel
theorem dX11_goOrders_78 : decode cX11_goOrders 78 = .ok (.iload 4, 2) := by decide +kernel
theorem dX11_goOrders_80 : decode cX11_goOrders 80 = .ok (.invokestatic 445, 3) := by decide +kernel
theorem dX11_goOrders_83 : decode cX11_goOrders 83 = .ok (.ifCond .eq 6, 3) := by decide +kernel
theorem dX11_goOrders_86 : decode cX11_goOrders 86 = .ok (.goto 25, 3) := by decide +kernel
theorem dX11_goOrders_89 : decode cX11_goOrders 89 = .ok (.aload_n 0, 1) := by decide +kernel
theorem dX11_goOrders_90 : decode cX11_goOrders 90 = .ok (.getfield 112, 3) := by decide +kernel
theorem dX11_goOrders_93 : decode cX11_goOrders 93 = .ok (.iload_n 2, 1) := by decide +kernel
theorem dX11_goOrders_94 : decode cX11_goOrders 94 = .ok (.iload 4, 2) := by decide +kernel
theorem dX11_goOrders_96 : decode cX11_goOrders 96 = .ok (.iastore, 1) := by decide +kernel
theorem dX11_goOrders_97 : decode cX11_goOrders 97 = .ok (.aload_n 0, 1) := by decide +kernel
theorem dX11_goOrders_98 : decode cX11_goOrders 98 = .ok (.iload_n 1, 1) := by decide +kernel
theorem dX11_goOrders_99 : decode cX11_goOrders 99 = .ok (.iload_n 2, 1) := by decide +kernel
theorem dX11_goOrders_100 : decode cX11_goOrders 100 = .ok (.iconst 1, 1) := by decide +kernel
theorem dX11_goOrders_101 : decode cX11_goOrders 101 = .ok (.iadd, 1) := by decide +kernel
theorem dX11_goOrders_102 : decode cX11_goOrders 102 = .ok (.iload_n 3, 1) := by decide +kernel
theorem dX11_goOrders_103 : decode cX11_goOrders 103 = .ok (.iconst 1, 1) := by decide +kernel
theorem dX11_goOrders_104 : decode cX11_goOrders 104 = .ok (.iload 4, 2) := by decide +kernel
theorem dX11_goOrders_106 : decode cX11_goOrders 106 = .ok (.ishl, 1) := by decide +kernel
theorem dX11_goOrders_107 : decode cX11_goOrders 107 = .ok (.ior, 1) := by decide +kernel
theorem dX11_goOrders_108 : decode cX11_goOrders 108 = .ok (.invokevirtual 448, 3) := by decide +kernel
theorem dX11_goOrders_111 : decode cX11_goOrders 111 = .ok (.iinc 4 1, 3) := by decide +kernel
theorem dX11_goOrders_114 : decode cX11_goOrders 114 = .ok (.goto (-48), 3) := by decide +kernel
theorem dX11_goOrders_117 : decode cX11_goOrders 117 = .ok (.return_, 1) := by decide +kernel
theorem dX11_order_0 : decode cX11_order 0 = .ok (.aload_n 0, 1) := by decide +kernel
theorem dX11_order_1 : decode cX11_order 1 = .ok (.iconst 0, 1) := by decide +kernel
theorem dX11_order_2 : decode cX11_order 2 = .ok (.putfield 157, 3) := by decide +kernel
theorem dX11_order_5 : decode cX11_order 5 = .ok (.aload_n 0, 1) := by decide +kernel
theorem dX11_order_6 : decode cX11_order 6 = .ok (.iload_n 1, 1) := by decide +kernel
theorem dX11_order_7 : decode cX11_order 7 = .ok (.invokevirtual 387, 3) := by decide +kernel
theorem dX11_order_10 : decode cX11_order 10 = .ok (.ifCond .eq 23, 3) := by decide +kernel
theorem dX11_order_13 : decode cX11_order 13 = .ok (.iload_n 2, 1) := by decide +kernel
theorem dX11_order_14 : decode cX11_order 14 = .ok (.i2l, 1) := by decide +kernel
theorem dX11_order_15 : decode cX11_order 15 = .ok (.ldc2_w 399, 3) := by decide +kernel
theorem dX11_order_18 : decode cX11_order 18 = .ok (.aload_n 0, 1) := by decide +kernel
theorem dX11_order_19 : decode cX11_order 19 = .ok (.getfield 36, 3) := by decide +kernel
theorem dX11_order_22 : decode cX11_order 22 = .ok (.iconst 2, 1) := by decide +kernel
theorem dX11_order_23 : decode cX11_order 23 = .ok (.iaload, 1) := by decide +kernel
theorem dX11_order_24 : decode cX11_order 24 = .ok (.iconst 1, 1) := by decide +kernel
theorem dX11_order_25 : decode cX11_order 25 = .ok (.isub, 1) := by decide +kernel
theorem dX11_order_26 : decode cX11_order 26 = .ok (.i2l, 1) := by decide +kernel
theorem dX11_order_27 : decode cX11_order 27 = .ok (.invokestatic 160, 3) := by decide +kernel
theorem dX11_order_30 : decode cX11_order 30 = .ok (.ifCond .ne 9, 3) := by decide +kernel
theorem dX11_order_33 : decode cX11_order 33 = .ok (.aload_n 0, 1) := by decide +kernel
theorem dX11_order_34 : decode cX11_order 34 = .ok (.iconst 1, 1) := by decide +kernel
theorem dX11_order_35 : decode cX11_order 35 = .ok (.invokevirtual 320, 3) := by decide +kernel
theorem dX11_order_38 : decode cX11_order 38 = .ok (.ireturn, 1) := by decide +kernel
theorem dX11_order_39 : decode cX11_order 39 = .ok (.aload_n 0, 1) := by decide +kernel
theorem dX11_order_40 : decode cX11_order 40 = .ok (.iconst (-1), 1) := by decide +kernel
theorem dX11_order_41 : decode cX11_order 41 = .ok (.putfield 442, 3) := by decide +kernel
theorem dX11_order_44 : decode cX11_order 44 = .ok (.aload_n 0, 1) := by decide +kernel
theorem dX11_order_45 : decode cX11_order 45 = .ok (.iload_n 1, 1) := by decide +kernel
theorem dX11_order_46 : decode cX11_order 46 = .ok (.iconst 0, 1) := by decide +kernel
theorem dX11_order_47 : decode cX11_order 47 = .ok (.iconst 0, 1) := by decide +kernel
theorem dX11_order_48 : decode cX11_order 48 = .ok (.invokevirtual 448, 3) := by decide +kernel
theorem dX11_order_51 : decode cX11_order 51 = .ok (.iload_n 2, 1) := by decide +kernel
theorem dX11_order_52 : decode cX11_order 52 = .ok (.iconst (-1), 1) := by decide +kernel
theorem dX11_order_53 : decode cX11_order 53 = .ok (.if_icmp .ne 10, 3) := by decide +kernel
theorem dX11_order_56 : decode cX11_order 56 = .ok (.aload_n 0, 1) := by decide +kernel
theorem dX11_order_57 : decode cX11_order 57 = .ok (.getfield 442, 3) := by decide +kernel
theorem dX11_order_60 : decode cX11_order 60 = .ok (.goto 9, 3) := by decide +kernel
theorem dX11_order_63 : decode cX11_order 63 = .ok (.aload_n 0, 1) := by decide +kernel
theorem dX11_order_64 : decode cX11_order 64 = .ok (.getfield 115, 3) := by decide +kernel
theorem dX11_order_67 : decode cX11_order 67 = .ok (.iload_n 2, 1) := by decide +kernel
theorem dX11_order_68 : decode cX11_order 68 = .ok (.iaload, 1) := by decide +kernel
theorem dX11_order_69 : decode cX11_order 69 = .ok (.ireturn, 1) := by decide +kernel
theorem dX11_alms_0 : decode cX11_alms 0 = .ok (.aload_n 0, 1) := by decide +kernel
theorem dX11_alms_1 : decode cX11_alms 1 = .ok (.iconst 0, 1) := by decide +kernel
theorem dX11_alms_2 : decode cX11_alms 2 = .ok (.putfield 157, 3) := by decide +kernel
theorem dX11_alms_5 : decode cX11_alms 5 = .ok (.iconst 0, 1) := by decide +kernel
theorem dX11_alms_6 : decode cX11_alms 6 = .ok (.istore_n 1, 1) := by decide +kernel
theorem dX11_alms_7 : decode cX11_alms 7 = .ok (.iconst 0, 1) := by decide +kernel
theorem dX11_alms_8 : decode cX11_alms 8 = .ok (.istore_n 2, 1) := by decide +kernel
theorem dX11_alms_9 : decode cX11_alms 9 = .ok (.iload_n 2, 1) := by decide +kernel
theorem dX11_alms_10 : decode cX11_alms 10 = .ok (.aload_n 0, 1) := by decide +kernel
theorem dX11_alms_11 : decode cX11_alms 11 = .ok (.getfield 36, 3) := by decide +kernel
theorem dX11_alms_14 : decode cX11_alms 14 = .ok (.iconst 0, 1) := by decide +kernel
theorem dX11_alms_15 : decode cX11_alms 15 = .ok (.iaload, 1) := by decide +kernel
theorem dX11_alms_16 : decode cX11_alms 16 = .ok (.if_icmp .ge 43, 3) := by decide +kernel
theorem dX11_alms_19 : decode cX11_alms 19 = .ok (.iload_n 1, 1) := by decide +kernel
theorem dX11_alms_20 : decode cX11_alms 20 = .ok (.aload_n 0, 1) := by decide +kernel
theorem dX11_alms_21 : decode cX11_alms 21 = .ok (.getfield 40, 3) := by decide +kernel
theorem dX11_alms_24 : decode cX11_alms 24 = .ok (.iload_n 2, 1) := by decide +kernel
theorem dX11_alms_25 : decode cX11_alms 25 = .ok (.iaload, 1) := by decide +kernel
theorem dX11_alms_26 : decode cX11_alms 26 = .ok (.iconst 2, 1) := by decide +kernel
theorem dX11_alms_27 : decode cX11_alms 27 = .ok (.if_icmp .ne 7, 3) := by decide +kernel
theorem dX11_alms_30 : decode cX11_alms 30 = .ok (.iconst 0, 1) := by decide +kernel
theorem dX11_alms_31 : decode cX11_alms 31 = .ok (.goto 20, 3) := by decide +kernel
theorem dX11_alms_34 : decode cX11_alms 34 = .ok (.iconst 0, 1) := by decide +kernel
theorem dX11_alms_35 : decode cX11_alms 35 = .ok (.aload_n 0, 1) := by decide +kernel
theorem dX11_alms_36 : decode cX11_alms 36 = .ok (.getfield 36, 3) := by decide +kernel
theorem dX11_alms_39 : decode cX11_alms 39 = .ok (.iconst 5, 1) := by decide +kernel
theorem dX11_alms_40 : decode cX11_alms 40 = .ok (.iaload, 1) := by decide +kernel
theorem dX11_alms_41 : decode cX11_alms 41 = .ok (.aload_n 0, 1) := by decide +kernel
theorem dX11_alms_42 : decode cX11_alms 42 = .ok (.getfield 87, 3) := by decide +kernel
theorem dX11_alms_45 : decode cX11_alms 45 = .ok (.iload_n 2, 1) := by decide +kernel
theorem dX11_alms_46 : decode cX11_alms 46 = .ok (.iaload, 1) := by decide +kernel
theorem dX11_alms_47 : decode cX11_alms 47 = .ok (.isub, 1) := by decide +kernel
theorem dX11_alms_48 : decode cX11_alms 48 = .ok (.invokestatic 289, 3) := by decide +kernel
theorem dX11_alms_51 : decode cX11_alms 51 = .ok (.iadd, 1) := by decide +kernel
theorem dX11_alms_52 : decode cX11_alms 52 = .ok (.istore_n 1, 1) := by decide +kernel
theorem dX11_alms_53 : decode cX11_alms 53 = .ok (.iinc 2 1, 3) := by decide +kernel
theorem dX11_alms_56 : decode cX11_alms 56 = .ok (.goto (-47), 3) := by decide +kernel
theorem dX11_alms_59 : decode cX11_alms 59 = .ok (.iload_n 1, 1) := by decide +kernel
theorem dX11_alms_60 : decode cX11_alms 60 = .ok (.ireturn, 1) := by decide +kernel
theorem dX11_round_0 : decode cX11_round 0 = .ok (.aload_n 0, 1) := by decide +kernel
theorem dX11_round_1 : decode cX11_round 1 = .ok (.iconst 0, 1) := by decide +kernel
theorem dX11_round_2 : decode cX11_round 2 = .ok (.putfield 157, 3) := by decide +kernel
theorem dX11_round_5 : decode cX11_round 5 = .ok (.aload_n 0, 1) := by decide +kernel
theorem dX11_round_6 : decode cX11_round 6 = .ok (.iload_n 1, 1) := by decide +kernel
theorem dX11_round_7 : decode cX11_round 7 = .ok (.invokevirtual 387, 3) := by decide +kernel
theorem dX11_round_10 : decode cX11_round 10 = .ok (.ifCond .ne 9, 3) := by decide +kernel
theorem dX11_round_13 : decode cX11_round 13 = .ok (.aload_n 0, 1) := by decide +kernel
theorem dX11_round_14 : decode cX11_round 14 = .ok (.iconst 1, 1) := by decide +kernel
theorem dX11_round_15 : decode cX11_round 15 = .ok (.invokevirtual 320, 3) := by decide +kernel
theorem dX11_round_18 : decode cX11_round 18 = .ok (.ireturn, 1) := by decide +kernel
theorem dX11_round_19 : decode cX11_round 19 = .ok (.iload_n 2, 1) := by decide +kernel
theorem dX11_round_20 : decode cX11_round 20 = .ok (.i2l, 1) := by decide +kernel
theorem dX11_round_21 : decode cX11_round 21 = .ok (.lconst 0, 1) := by decide +kernel
theorem dX11_round_22 : decode cX11_round 22 = .ok (.iconst 1, 1) := by decide +kernel
theorem dX11_round_23 : decode cX11_round 23 = .ok (.aload_n 0, 1) := by decide +kernel
theorem dX11_round_24 : decode cX11_round 24 = .ok (.getfield 36, 3) := by decide +kernel
theorem dX11_round_27 : decode cX11_round 27 = .ok (.iconst 0, 1) := by decide +kernel
theorem dX11_round_28 : decode cX11_round 28 = .ok (.iaload, 1) := by decide +kernel
theorem dX11_round_29 : decode cX11_round 29 = .ok (.ishl, 1) := by decide +kernel
theorem dX11_round_30 : decode cX11_round 30 = .ok (.iconst 1, 1) := by decide +kernel
theorem dX11_round_31 : decode cX11_round 31 = .ok (.isub, 1) := by decide +kernel
theorem dX11_round_32 : decode cX11_round 32 = .ok (.i2l, 1) := by decide +kernel
theorem dX11_round_33 : decode cX11_round 33 = .ok (.invokestatic 160, 3) := by decide +kernel
theorem dX11_round_36 : decode cX11_round 36 = .ok (.ifCond .ne 9, 3) := by decide +kernel
theorem dX11_round_39 : decode cX11_round 39 = .ok (.aload_n 0, 1) := by decide +kernel
theorem dX11_round_40 : decode cX11_round 40 = .ok (.iconst 2, 1) := by decide +kernel
theorem dX11_round_41 : decode cX11_round 41 = .ok (.invokevirtual 320, 3) := by decide +kernel
theorem dX11_round_44 : decode cX11_round 44 = .ok (.ireturn, 1) := by decide +kernel
theorem dX11_round_45 : decode cX11_round 45 = .ok (.aload_n 0, 1) := by decide +kernel
theorem dX11_round_46 : decode cX11_round 46 = .ok (.invokevirtual 391, 3) := by decide +kernel
theorem dX11_round_49 : decode cX11_round 49 = .ok (.iconst 0, 1) := by decide +kernel
theorem dX11_round_50 : decode cX11_round 50 = .ok (.istore_n 3, 1) := by decide +kernel
theorem dX11_round_51 : decode cX11_round 51 = .ok (.iload_n 3, 1) := by decide +kernel
theorem dX11_round_52 : decode cX11_round 52 = .ok (.sipush 4608, 3) := by decide +kernel
theorem dX11_round_55 : decode cX11_round 55 = .ok (.if_icmp .ge 18, 3) := by decide +kernel
theorem dX11_round_58 : decode cX11_round 58 = .ok (.aload_n 0, 1) := by decide +kernel
theorem dX11_round_59 : decode cX11_round 59 = .ok (.getfield 118, 3) := by decide +kernel
theorem dX11_round_62 : decode cX11_round 62 = .ok (.iload_n 3, 1) := by decide +kernel
theorem dX11_round_63 : decode cX11_round 63 = .ok (.ldc_w 390, 3) := by decide +kernel
theorem dX11_round_66 : decode cX11_round 66 = .ok (.iastore, 1) := by decide +kernel
theorem dX11_round_67 : decode cX11_round 67 = .ok (.iinc 3 1, 3) := by decide +kernel
theorem dX11_round_70 : decode cX11_round 70 = .ok (.goto (-19), 3) := by decide +kernel
theorem dX11_round_73 : decode cX11_round 73 = .ok (.aload_n 0, 1) := by decide +kernel
theorem dX11_round_74 : decode cX11_round 74 = .ok (.getfield 118, 3) := by decide +kernel
theorem dX11_round_77 : decode cX11_round 77 = .ok (.bipush 9, 2) := by decide +kernel
theorem dX11_round_79 : decode cX11_round 79 = .ok (.iload_n 2, 1) := by decide +kernel
theorem dX11_round_80 : decode cX11_round 80 = .ok (.iconst 1, 1) := by decide +kernel
theorem dX11_round_81 : decode cX11_round 81 = .ok (.iload_n 1, 1) := by decide +kernel
theorem dX11_round_82 : decode cX11_round 82 = .ok (.ishl, 1) := by decide +kernel
theorem dX11_round_83 : decode cX11_round 83 = .ok (.iand, 1) := by decide +kernel
theorem dX11_round_84 : decode cX11_round 84 = .ok (.imul, 1) := by decide +kernel
theorem dX11_round_85 : decode cX11_round 85 = .ok (.iload_n 1, 1) := by decide +kernel
theorem dX11_round_86 : decode cX11_round 86 = .ok (.iadd, 1) := by decide +kernel
theorem dX11_round_87 : decode cX11_round 87 = .ok (.iconst 0, 1) := by decide +kernel
theorem dX11_round_88 : decode cX11_round 88 = .ok (.iastore, 1) := by decide +kernel
theorem dX11_round_89 : decode cX11_round 89 = .ok (.ldc_w 390, 3) := by decide +kernel
theorem dX11_round_92 : decode cX11_round 92 = .ok (.istore_n 3, 1) := by decide +kernel
theorem dX11_round_93 : decode cX11_round 93 = .ok (.iconst 0, 1) := by decide +kernel
theorem dX11_round_94 : decode cX11_round 94 = .ok (.istore 4, 2) := by decide +kernel
theorem dX11_round_96 : decode cX11_round 96 = .ok (.iload 4, 2) := by decide +kernel
theorem dX11_round_98 : decode cX11_round 98 = .ok (.iload_n 2, 1) := by decide +kernel
theorem dX11_round_99 : decode cX11_round 99 = .ok (.if_icmp .gt 162, 3) := by decide +kernel
theorem dX11_round_102 : decode cX11_round 102 = .ok (.iconst 0, 1) := by decide +kernel
theorem dX11_round_103 : decode cX11_round 103 = .ok (.istore 5, 2) := by decide +kernel
theorem dX11_round_105 : decode cX11_round 105 = .ok (.iload 5, 2) := by decide +kernel
theorem dX11_round_107 : decode cX11_round 107 = .ok (.aload_n 0, 1) := by decide +kernel
theorem dX11_round_108 : decode cX11_round 108 = .ok (.getfield 36, 3) := by decide +kernel
theorem dX11_round_111 : decode cX11_round 111 = .ok (.iconst 0, 1) := by decide +kernel
theorem dX11_round_112 : decode cX11_round 112 = .ok (.iaload, 1) := by decide +kernel
theorem dX11_round_113 : decode cX11_round 113 = .ok (.if_icmp .ge 142, 3) := by decide +kernel
theorem dX11_round_116 : decode cX11_round 116 = .ok (.iload 4, 2) := by decide +kernel
theorem dX11_round_118 : decode cX11_round 118 = .ok (.iload_n 2, 1) := by decide +kernel
theorem dX11_round_119 : decode cX11_round 119 = .ok (.iconst (-1), 1) := by decide +kernel
theorem dX11_round_120 : decode cX11_round 120 = .ok (.ixor, 1) := by decide +kernel
theorem dX11_round_121 : decode cX11_round 121 = .ok (.iand, 1) := by decide +kernel
theorem dX11_round_122 : decode cX11_round 122 = .ok (.ifCond .ne 133, 3) := by decide +kernel
theorem dX11_round_125 : decode cX11_round 125 = .ok (.aload_n 0, 1) := by decide +kernel
theorem dX11_round_126 : decode cX11_round 126 = .ok (.getfield 118, 3) := by decide +kernel
theorem dX11_round_129 : decode cX11_round 129 = .ok (.bipush 9, 2) := by decide +kernel
theorem dX11_round_131 : decode cX11_round 131 = .ok (.iload 4, 2) := by decide +kernel
theorem dX11_round_133 : decode cX11_round 133 = .ok (.imul, 1) := by decide +kernel
theorem dX11_round_134 : decode cX11_round 134 = .ok (.iload 5, 2) := by decide +kernel
theorem dX11_round_136 : decode cX11_round 136 = .ok (.iadd, 1) := by decide +kernel
theorem dX11_round_137 : decode cX11_round 137 = .ok (.iaload, 1) := by decide +kernel
theorem dX11_round_138 : decode cX11_round 138 = .ok (.istore 6, 2) := by decide +kernel
theorem dX11_round_140 : decode cX11_round 140 = .ok (.iload 6, 2) := by decide +kernel
theorem dX11_round_142 : decode cX11_round 142 = .ok (.ldc_w 390, 3) := by decide +kernel
theorem dX11_round_145 : decode cX11_round 145 = .ok (.if_icmp .lt 6, 3) := by decide +kernel
theorem dX11_round_148 : decode cX11_round 148 = .ok (.goto 101, 3) := by decide +kernel
theorem dX11_round_151 : decode cX11_round 151 = .ok (.iload 4, 2) := by decide +kernel
theorem dX11_round_153 : decode cX11_round 153 = .ok (.iload_n 2, 1) := by decide +kernel
theorem dX11_round_154 : decode cX11_round 154 = .ok (.if_icmp .ne 10, 3) := by decide +kernel
theorem dX11_round_157 : decode cX11_round 157 = .ok (.iload_n 3, 1) := by decide +kernel
theorem dX11_round_158 : decode cX11_round 158 = .ok (.iload 6, 2) := by decide +kernel
theorem dX11_round_160 : decode cX11_round 160 = .ok (.invokestatic 196, 3) := by decide +kernel
theorem dX11_round_163 : decode cX11_round 163 = .ok (.istore_n 3, 1) := by decide +kernel
theorem dX11_round_164 : decode cX11_round 164 = .ok (.iconst 0, 1) := by decide +kernel
theorem dX11_round_165 : decode cX11_round 165 = .ok (.istore 7, 2) := by decide +kernel
theorem dX11_round_167 : decode cX11_round 167 = .ok (.iload 7, 2) := by decide +kernel
theorem dX11_round_169 : decode cX11_round 169 = .ok (.aload_n 0, 1) := by decide +kernel
theorem dX11_round_170 : decode cX11_round 170 = .ok (.getfield 36, 3) := by decide +kernel
theorem dX11_round_173 : decode cX11_round 173 = .ok (.iconst 0, 1) := by decide +kernel
theorem dX11_round_174 : decode cX11_round 174 = .ok (.iaload, 1) := by decide +kernel
theorem dX11_round_175 : decode cX11_round 175 = .ok (.if_icmp .ge 74, 3) := by decide +kernel
theorem dX11_round_178 : decode cX11_round 178 = .ok (.iload_n 2, 1) := by decide +kernel
theorem dX11_round_179 : decode cX11_round 179 = .ok (.iload 4, 2) := by decide +kernel
theorem dX11_round_181 : decode cX11_round 181 = .ok (.iconst (-1), 1) := by decide +kernel
theorem dX11_round_182 : decode cX11_round 182 = .ok (.ixor, 1) := by decide +kernel
theorem dX11_round_183 : decode cX11_round 183 = .ok (.iand, 1) := by decide +kernel
theorem dX11_round_184 : decode cX11_round 184 = .ok (.iload 7, 2) := by decide +kernel
theorem dX11_round_186 : decode cX11_round 186 = .ok (.invokestatic 445, 3) := by decide +kernel
theorem dX11_round_189 : decode cX11_round 189 = .ok (.ifCond .ne 6, 3) := by decide +kernel
theorem dX11_round_192 : decode cX11_round 192 = .ok (.goto 51, 3) := by decide +kernel
theorem dX11_round_195 : decode cX11_round 195 = .ok (.bipush 9, 2) := by decide +kernel
theorem dX11_round_197 : decode cX11_round 197 = .ok (.iload 4, 2) := by decide +kernel
theorem dX11_round_199 : decode cX11_round 199 = .ok (.iconst 1, 1) := by decide +kernel
theorem dX11_round_200 : decode cX11_round 200 = .ok (.iload 7, 2) := by decide +kernel
theorem dX11_round_202 : decode cX11_round 202 = .ok (.ishl, 1) := by decide +kernel
theorem dX11_round_203 : decode cX11_round 203 = .ok (.ior, 1) := by decide +kernel
theorem dX11_round_204 : decode cX11_round 204 = .ok (.imul, 1) := by decide +kernel
theorem dX11_round_205 : decode cX11_round 205 = .ok (.iload 7, 2) := by decide +kernel
theorem dX11_round_207 : decode cX11_round 207 = .ok (.iadd, 1) := by decide +kernel
theorem dX11_round_208 : decode cX11_round 208 = .ok (.istore 8, 2) := by decide +kernel
theorem dX11_round_210 : decode cX11_round 210 = .ok (.aload_n 0, 1) := by decide +kernel
theorem dX11_round_211 : decode cX11_round 211 = .ok (.getfield 118, 3) := by decide +kernel
theorem dX11_round_214 : decode cX11_round 214 = .ok (.iload 8, 2) := by decide +kernel
theorem dX11_round_216 : decode cX11_round 216 = .ok (.aload_n 0, 1) := by decide +kernel
theorem dX11_round_217 : decode cX11_round 217 = .ok (.getfield 118, 3) := by decide +kernel
theorem dX11_round_220 : decode cX11_round 220 = .ok (.iload 8, 2) := by decide +kernel
theorem dX11_round_222 : decode cX11_round 222 = .ok (.iaload, 1) := by decide +kernel
theorem dX11_round_223 : decode cX11_round 223 = .ok (.iload 6, 2) := by decide +kernel
theorem dX11_round_225 : decode cX11_round 225 = .ok (.aload_n 0, 1) := by decide +kernel
theorem dX11_round_226 : decode cX11_round 226 = .ok (.getfield 106, 3) := by decide +kernel
theorem dX11_round_229 : decode cX11_round 229 = .ok (.bipush 9, 2) := by decide +kernel
theorem dX11_round_231 : decode cX11_round 231 = .ok (.iload 5, 2) := by decide +kernel
theorem dX11_round_233 : decode cX11_round 233 = .ok (.imul, 1) := by decide +kernel
theorem dX11_round_234 : decode cX11_round 234 = .ok (.iload 7, 2) := by decide +kernel
theorem dX11_round_236 : decode cX11_round 236 = .ok (.iadd, 1) := by decide +kernel
theorem dX11_round_237 : decode cX11_round 237 = .ok (.iaload, 1) := by decide +kernel
theorem dX11_round_238 : decode cX11_round 238 = .ok (.iadd, 1) := by decide +kernel
theorem dX11_round_239 : decode cX11_round 239 = .ok (.invokestatic 196, 3) := by decide +kernel
theorem dX11_round_242 : decode cX11_round 242 = .ok (.iastore, 1) := by decide +kernel
theorem dX11_round_243 : decode cX11_round 243 = .ok (.iinc 7 1, 3) := by decide +kernel
theorem dX11_round_246 : decode cX11_round 246 = .ok (.goto (-79), 3) := by decide +kernel
theorem dX11_round_249 : decode cX11_round 249 = .ok (.iinc 5 1, 3) := by decide +kernel
theorem dX11_round_252 : decode cX11_round 252 = .ok (.goto (-147), 3) := by decide +kernel
theorem dX11_round_255 : decode cX11_round 255 = .ok (.iinc 4 1, 3) := by decide +kernel
theorem dX11_round_258 : decode cX11_round 258 = .ok (.goto (-162), 3) := by decide +kernel
theorem dX11_round_261 : decode cX11_round 261 = .ok (.iload_n 3, 1) := by decide +kernel
theorem dX11_round_262 : decode cX11_round 262 = .ok (.invokestatic 394, 3) := by decide +kernel
theorem dX11_round_265 : decode cX11_round 265 = .ok (.ireturn, 1) := by decide +kernel
theorem dX11_sharesFrom_0 : decode cX11_sharesFrom 0 = .ok (.iconst 0, 1) := by decide +kernel
theorem dX11_sharesFrom_1 : decode cX11_sharesFrom 1 = .ok (.istore 4, 2) := by decide +kernel
theorem dX11_sharesFrom_3 : decode cX11_sharesFrom 3 = .ok (.iconst 0, 1) := by decide +kernel
theorem dX11_sharesFrom_4 : decode cX11_sharesFrom 4 = .ok (.istore 5, 2) := by decide +kernel
theorem dX11_sharesFrom_6 : decode cX11_sharesFrom 6 = .ok (.iload 5, 2) := by decide +kernel
theorem dX11_sharesFrom_8 : decode cX11_sharesFrom 8 = .ok (.iload_n 2, 1) := by decide +kernel
theorem dX11_sharesFrom_9 : decode cX11_sharesFrom 9 = .ok (.if_icmp .ge 23, 3) := by decide +kernel
theorem dX11_sharesFrom_12 : decode cX11_sharesFrom 12 = .ok (.iload 4, 2) := by decide +kernel
theorem dX11_sharesFrom_14 : decode cX11_sharesFrom 14 = .ok (.aload_n 0, 1) := by decide +kernel
theorem dX11_sharesFrom_15 : decode cX11_sharesFrom 15 = .ok (.getfield 121, 3) := by decide +kernel
theorem dX11_sharesFrom_18 : decode cX11_sharesFrom 18 = .ok (.iload 5, 2) := by decide +kernel
theorem dX11_sharesFrom_20 : decode cX11_sharesFrom 20 = .ok (.iaload, 1) := by decide +kernel
theorem dX11_sharesFrom_21 : decode cX11_sharesFrom 21 = .ok (.invokestatic 289, 3) := by decide +kernel
theorem dX11_sharesFrom_24 : decode cX11_sharesFrom 24 = .ok (.istore 4, 2) := by decide +kernel
theorem dX11_sharesFrom_26 : decode cX11_sharesFrom 26 = .ok (.iinc 5 1, 3) := by decide +kernel
theorem dX11_sharesFrom_29 : decode cX11_sharesFrom 29 = .ok (.goto (-23), 3) := by decide +kernel
theorem dX11_sharesFrom_32 : decode cX11_sharesFrom 32 = .ok (.iload 4, 2) := by decide +kernel
theorem dX11_sharesFrom_34 : decode cX11_sharesFrom 34 = .ok (.iload_n 3, 1) := by decide +kernel
theorem dX11_sharesFrom_35 : decode cX11_sharesFrom 35 = .ok (.if_icmp .lt 5, 3) := by decide +kernel
theorem dX11_sharesFrom_38 : decode cX11_sharesFrom 38 = .ok (.iload_n 3, 1) := by decide +kernel
theorem dX11_sharesFrom_39 : decode cX11_sharesFrom 39 = .ok (.ireturn, 1) := by decide +kernel
theorem dX11_sharesFrom_40 : decode cX11_sharesFrom 40 = .ok (.iload_n 1, 1) := by decide +kernel
theorem dX11_sharesFrom_41 : decode cX11_sharesFrom 41 = .ok (.aload_n 0, 1) := by decide +kernel
theorem dX11_sharesFrom_42 : decode cX11_sharesFrom 42 = .ok (.getfield 36, 3) := by decide +kernel
theorem dX11_sharesFrom_45 : decode cX11_sharesFrom 45 = .ok (.iconst 0, 1) := by decide +kernel
theorem dX11_sharesFrom_46 : decode cX11_sharesFrom 46 = .ok (.iaload, 1) := by decide +kernel
theorem dX11_sharesFrom_47 : decode cX11_sharesFrom 47 = .ok (.if_icmp .ne 6, 3) := by decide +kernel
theorem dX11_sharesFrom_50 : decode cX11_sharesFrom 50 = .ok (.iload 4, 2) := by decide +kernel
theorem dX11_sharesFrom_52 : decode cX11_sharesFrom 52 = .ok (.ireturn, 1) := by decide +kernel
theorem dX11_sharesFrom_53 : decode cX11_sharesFrom 53 = .ok (.iload_n 3, 1) := by decide +kernel
theorem dX11_sharesFrom_54 : decode cX11_sharesFrom 54 = .ok (.istore 5, 2) := by decide +kernel
theorem dX11_sharesFrom_56 : decode cX11_sharesFrom 56 = .ok (.iconst 0, 1) := by decide +kernel
theorem dX11_sharesFrom_57 : decode cX11_sharesFrom 57 = .ok (.istore 6, 2) := by decide +kernel
theorem dX11_sharesFrom_59 : decode cX11_sharesFrom 59 = .ok (.iload 6, 2) := by decide +kernel
theorem dX11_sharesFrom_61 : decode cX11_sharesFrom 61 = .ok (.iload_n 2, 1) := by decide +kernel
theorem dX11_sharesFrom_62 : decode cX11_sharesFrom 62 = .ok (.if_icmp .ge 53, 3) := by decide +kernel
theorem dX11_sharesFrom_65 : decode cX11_sharesFrom 65 = .ok (.aload_n 0, 1) := by decide +kernel
theorem dX11_sharesFrom_66 : decode cX11_sharesFrom 66 = .ok (.getfield 121, 3) := by decide +kernel
theorem dX11_sharesFrom_69 : decode cX11_sharesFrom 69 = .ok (.iload 6, 2) := by decide +kernel
theorem dX11_sharesFrom_71 : decode cX11_sharesFrom 71 = .ok (.dup2, 1) := by decide +kernel
theorem dX11_sharesFrom_72 : decode cX11_sharesFrom 72 = .ok (.iaload, 1) := by decide +kernel
theorem dX11_sharesFrom_73 : decode cX11_sharesFrom 73 = .ok (.aload_n 0, 1) := by decide +kernel
theorem dX11_sharesFrom_74 : decode cX11_sharesFrom 74 = .ok (.getfield 87, 3) := by decide +kernel
theorem dX11_sharesFrom_77 : decode cX11_sharesFrom 77 = .ok (.iload_n 1, 1) := by decide +kernel
theorem dX11_sharesFrom_78 : decode cX11_sharesFrom 78 = .ok (.iaload, 1) := by decide +kernel
theorem dX11_sharesFrom_79 : decode cX11_sharesFrom 79 = .ok (.iadd, 1) := by decide +kernel
theorem dX11_sharesFrom_80 : decode cX11_sharesFrom 80 = .ok (.iastore, 1) := by decide +kernel
theorem dX11_sharesFrom_81 : decode cX11_sharesFrom 81 = .ok (.aload_n 0, 1) := by decide +kernel
theorem dX11_sharesFrom_82 : decode cX11_sharesFrom 82 = .ok (.iload_n 1, 1) := by decide +kernel
theorem dX11_sharesFrom_83 : decode cX11_sharesFrom 83 = .ok (.iconst 1, 1) := by decide +kernel
theorem dX11_sharesFrom_84 : decode cX11_sharesFrom 84 = .ok (.iadd, 1) := by decide +kernel
theorem dX11_sharesFrom_85 : decode cX11_sharesFrom 85 = .ok (.iload_n 2, 1) := by decide +kernel
theorem dX11_sharesFrom_86 : decode cX11_sharesFrom 86 = .ok (.iload 5, 2) := by decide +kernel
theorem dX11_sharesFrom_88 : decode cX11_sharesFrom 88 = .ok (.invokevirtual 451, 3) := by decide +kernel
theorem dX11_sharesFrom_91 : decode cX11_sharesFrom 91 = .ok (.istore 5, 2) := by decide +kernel
theorem dX11_sharesFrom_93 : decode cX11_sharesFrom 93 = .ok (.aload_n 0, 1) := by decide +kernel
theorem dX11_sharesFrom_94 : decode cX11_sharesFrom 94 = .ok (.getfield 121, 3) := by decide +kernel
theorem dX11_sharesFrom_97 : decode cX11_sharesFrom 97 = .ok (.iload 6, 2) := by decide +kernel
theorem dX11_sharesFrom_99 : decode cX11_sharesFrom 99 = .ok (.dup2, 1) := by decide +kernel
theorem dX11_sharesFrom_100 : decode cX11_sharesFrom 100 = .ok (.iaload, 1) := by decide +kernel
theorem dX11_sharesFrom_101 : decode cX11_sharesFrom 101 = .ok (.aload_n 0, 1) := by decide +kernel
theorem dX11_sharesFrom_102 : decode cX11_sharesFrom 102 = .ok (.getfield 87, 3) := by decide +kernel
theorem dX11_sharesFrom_105 : decode cX11_sharesFrom 105 = .ok (.iload_n 1, 1) := by decide +kernel
theorem dX11_sharesFrom_106 : decode cX11_sharesFrom 106 = .ok (.iaload, 1) := by decide +kernel
theorem dX11_sharesFrom_107 : decode cX11_sharesFrom 107 = .ok (.isub, 1) := by decide +kernel
theorem dX11_sharesFrom_108 : decode cX11_sharesFrom 108 = .ok (.iastore, 1) := by decide +kernel
theorem dX11_sharesFrom_109 : decode cX11_sharesFrom 109 = .ok (.iinc 6 1, 3) := by decide +kernel
theorem dX11_sharesFrom_112 : decode cX11_sharesFrom 112 = .ok (.goto (-53), 3) := by decide +kernel
theorem dX11_sharesFrom_115 : decode cX11_sharesFrom 115 = .ok (.iload 5, 2) := by decide +kernel
theorem dX11_sharesFrom_117 : decode cX11_sharesFrom 117 = .ok (.ireturn, 1) := by decide +kernel
theorem dX11_shares_0 : decode cX11_shares 0 = .ok (.aload_n 0, 1) := by decide +kernel
theorem dX11_shares_1 : decode cX11_shares 1 = .ok (.iconst 0, 1) := by decide +kernel
theorem dX11_shares_2 : decode cX11_shares 2 = .ok (.putfield 157, 3) := by decide +kernel
theorem dX11_shares_5 : decode cX11_shares 5 = .ok (.iload_n 1, 1) := by decide +kernel
theorem dX11_shares_6 : decode cX11_shares 6 = .ok (.i2l, 1) := by decide +kernel
theorem dX11_shares_7 : decode cX11_shares 7 = .ok (.lconst 1, 1) := by decide +kernel
theorem dX11_shares_8 : decode cX11_shares 8 = .ok (.ldc2_w 454, 3) := by decide +kernel
theorem dX11_shares_11 : decode cX11_shares 11 = .ok (.invokestatic 160, 3) := by decide +kernel
theorem dX11_shares_14 : decode cX11_shares 14 = .ok (.ifCond .ne 9, 3) := by decide +kernel
theorem dX11_shares_17 : decode cX11_shares 17 = .ok (.aload_n 0, 1) := by decide +kernel
theorem dX11_shares_18 : decode cX11_shares 18 = .ok (.iconst 1, 1) := by decide +kernel
theorem dX11_shares_19 : decode cX11_shares 19 = .ok (.invokevirtual 320, 3) := by decide +kernel
theorem dX11_shares_22 : decode cX11_shares 22 = .ok (.ireturn, 1) := by decide +kernel
theorem dX11_shares_23 : decode cX11_shares 23 = .ok (.iconst 0, 1) := by decide +kernel
theorem dX11_shares_24 : decode cX11_shares 24 = .ok (.istore_n 2, 1) := by decide +kernel
theorem dX11_shares_25 : decode cX11_shares 25 = .ok (.iload_n 2, 1) := by decide +kernel
theorem dX11_shares_26 : decode cX11_shares 26 = .ok (.iconst 4, 1) := by decide +kernel
theorem dX11_shares_27 : decode cX11_shares 27 = .ok (.if_icmp .ge 16, 3) := by decide +kernel
theorem dX11_shares_30 : decode cX11_shares 30 = .ok (.aload_n 0, 1) := by decide +kernel
theorem dX11_shares_31 : decode cX11_shares 31 = .ok (.getfield 121, 3) := by decide +kernel
theorem dX11_shares_34 : decode cX11_shares 34 = .ok (.iload_n 2, 1) := by decide +kernel
theorem dX11_shares_35 : decode cX11_shares 35 = .ok (.iconst 0, 1) := by decide +kernel
theorem dX11_shares_36 : decode cX11_shares 36 = .ok (.iastore, 1) := by decide +kernel
theorem dX11_shares_37 : decode cX11_shares 37 = .ok (.iinc 2 1, 3) := by decide +kernel
theorem dX11_shares_40 : decode cX11_shares 40 = .ok (.goto (-15), 3) := by decide +kernel
theorem dX11_shares_43 : decode cX11_shares 43 = .ok (.aload_n 0, 1) := by decide +kernel
theorem dX11_shares_44 : decode cX11_shares 44 = .ok (.iconst 0, 1) := by decide +kernel
theorem dX11_shares_45 : decode cX11_shares 45 = .ok (.iload_n 1, 1) := by decide +kernel
theorem dX11_shares_46 : decode cX11_shares 46 = .ok (.ldc_w 390, 3) := by decide +kernel
theorem dX11_shares_49 : decode cX11_shares 49 = .ok (.invokevirtual 451, 3) := by decide +kernel
theorem dX11_shares_52 : decode cX11_shares 52 = .ok (.ireturn, 1) := by decide +kernel
theorem dX11_from_0 : decode cX11_from 0 = .ok (.aload_n 0, 1) := by decide +kernel
theorem dX11_from_1 : decode cX11_from 1 = .ok (.iconst 0, 1) := by decide +kernel
theorem dX11_from_2 : decode cX11_from 2 = .ok (.putfield 157, 3) := by decide +kernel
theorem dX11_from_5 : decode cX11_from 5 = .ok (.aload_n 0, 1) := by decide +kernel
theorem dX11_from_6 : decode cX11_from 6 = .ok (.iload_n 1, 1) := by decide +kernel
theorem dX11_from_7 : decode cX11_from 7 = .ok (.invokevirtual 387, 3) := by decide +kernel
theorem dX11_from_10 : decode cX11_from 10 = .ok (.ifCond .eq 11, 3) := by decide +kernel
theorem dX11_from_13 : decode cX11_from 13 = .ok (.aload_n 0, 1) := by decide +kernel
theorem dX11_from_14 : decode cX11_from 14 = .ok (.iload_n 2, 1) := by decide +kernel
theorem dX11_from_15 : decode cX11_from 15 = .ok (.invokevirtual 387, 3) := by decide +kernel
theorem dX11_from_18 : decode cX11_from 18 = .ok (.ifCond .ne 9, 3) := by decide +kernel
theorem dX11_from_21 : decode cX11_from 21 = .ok (.aload_n 0, 1) := by decide +kernel
theorem dX11_from_22 : decode cX11_from 22 = .ok (.iconst 1, 1) := by decide +kernel
theorem dX11_from_23 : decode cX11_from 23 = .ok (.invokevirtual 320, 3) := by decide +kernel
theorem dX11_from_26 : decode cX11_from 26 = .ok (.ireturn, 1) := by decide +kernel
theorem dX11_from_27 : decode cX11_from 27 = .ok (.iload_n 3, 1) := by decide +kernel
theorem dX11_from_28 : decode cX11_from 28 = .ok (.i2l, 1) := by decide +kernel
theorem dX11_from_29 : decode cX11_from 29 = .ok (.lconst 0, 1) := by decide +kernel
theorem dX11_from_30 : decode cX11_from 30 = .ok (.ldc2_w 456, 3) := by decide +kernel
theorem dX11_from_33 : decode cX11_from 33 = .ok (.invokestatic 160, 3) := by decide +kernel
theorem dX11_from_36 : decode cX11_from 36 = .ok (.ifCond .ne 9, 3) := by decide +kernel
theorem dX11_from_39 : decode cX11_from 39 = .ok (.aload_n 0, 1) := by decide +kernel
theorem dX11_from_40 : decode cX11_from 40 = .ok (.iconst 2, 1) := by decide +kernel
theorem dX11_from_41 : decode cX11_from 41 = .ok (.invokevirtual 320, 3) := by decide +kernel
theorem dX11_from_44 : decode cX11_from 44 = .ok (.ireturn, 1) := by decide +kernel
theorem dX11_from_45 : decode cX11_from 45 = .ok (.iconst 0, 1) := by decide +kernel
theorem dX11_from_46 : decode cX11_from 46 = .ok (.istore 4, 2) := by decide +kernel
theorem dX11_from_48 : decode cX11_from 48 = .ok (.iload 4, 2) := by decide +kernel
theorem dX11_from_50 : decode cX11_from 50 = .ok (.bipush 9, 2) := by decide +kernel
theorem dX11_from_52 : decode cX11_from 52 = .ok (.if_icmp .ge 29, 3) := by decide +kernel
theorem dX11_from_55 : decode cX11_from 55 = .ok (.aload_n 0, 1) := by decide +kernel
theorem dX11_from_56 : decode cX11_from 56 = .ok (.getfield 124, 3) := by decide +kernel
theorem dX11_from_59 : decode cX11_from 59 = .ok (.iload 4, 2) := by decide +kernel
theorem dX11_from_61 : decode cX11_from 61 = .ok (.iload 4, 2) := by decide +kernel
theorem dX11_from_63 : decode cX11_from 63 = .ok (.iload_n 1, 1) := by decide +kernel
theorem dX11_from_64 : decode cX11_from 64 = .ok (.if_icmp .ne 9, 3) := by decide +kernel
theorem dX11_from_67 : decode cX11_from 67 = .ok (.sipush 10000, 3) := by decide +kernel
theorem dX11_from_70 : decode cX11_from 70 = .ok (.goto 4, 3) := by decide +kernel
theorem dX11_from_73 : decode cX11_from 73 = .ok (.iconst 0, 1) := by decide +kernel
theorem dX11_from_74 : decode cX11_from 74 = .ok (.iastore, 1) := by decide +kernel
theorem dX11_from_75 : decode cX11_from 75 = .ok (.iinc 4 1, 3) := by decide +kernel
theorem dX11_from_78 : decode cX11_from 78 = .ok (.goto (-30), 3) := by decide +kernel
theorem dX11_from_81 : decode cX11_from 81 = .ok (.aload_n 0, 1) := by decide +kernel
theorem dX11_from_82 : decode cX11_from 82 = .ok (.getfield 333, 3) := by decide +kernel
theorem dX11_from_85 : decode cX11_from 85 = .ok (.istore 4, 2) := by decide +kernel
theorem dX11_from_87 : decode cX11_from 87 = .ok (.iload 4, 2) := by decide +kernel
theorem dX11_from_89 : decode cX11_from 89 = .ok (.aload_n 0, 1) := by decide +kernel
theorem dX11_from_90 : decode cX11_from 90 = .ok (.getfield 333, 3) := by decide +kernel
theorem dX11_from_93 : decode cX11_from 93 = .ok (.iload_n 3, 1) := by decide +kernel
theorem dX11_from_94 : decode cX11_from 94 = .ok (.iadd, 1) := by decide +kernel
theorem dX11_from_95 : decode cX11_from 95 = .ok (.if_icmp .ge 136, 3) := by decide +kernel
theorem dX11_from_98 : decode cX11_from 98 = .ok (.aload_n 0, 1) := by decide +kernel
theorem dX11_from_99 : decode cX11_from 99 = .ok (.iload 4, 2) := by decide +kernel
theorem dX11_from_101 : decode cX11_from 101 = .ok (.invokevirtual 372, 3) := by decide +kernel
theorem dX11_from_104 : decode cX11_from 104 = .ok (.istore 5, 2) := by decide +kernel
theorem dX11_from_106 : decode cX11_from 106 = .ok (.bipush 8, 2) := by decide +kernel
theorem dX11_from_108 : decode cX11_from 108 = .ok (.iload 5, 2) := by decide +kernel
theorem dX11_from_110 : decode cX11_from 110 = .ok (.imul, 1) := by decide +kernel
theorem dX11_from_111 : decode cX11_from 111 = .ok (.istore 6, 2) := by decide +kernel
theorem dX11_from_113 : decode cX11_from 113 = .ok (.iload 5, 2) := by decide +kernel
theorem dX11_from_115 : decode cX11_from 115 = .ok (.iconst 5, 1) := by decide +kernel
theorem dX11_from_116 : decode cX11_from 116 = .ok (.if_icmp .eq 109, 3) := by decide +kernel
theorem dX11_from_119 : decode cX11_from 119 = .ok (.iload 6, 2) := by decide +kernel
theorem dX11_from_121 : decode cX11_from 121 = .ok (.bipush 8, 2) := by decide +kernel
theorem dX11_from_123 : decode cX11_from 123 = .ok (.iload 5, 2) := by decide +kernel
theorem dX11_from_125 : decode cX11_from 125 = .ok (.imul, 1) := by decide +kernel
theorem dX11_from_126 : decode cX11_from 126 = .ok (.aload_n 0, 1) := by decide +kernel
theorem dX11_from_127 : decode cX11_from 127 = .ok (.getfield 59, 3) := by decide +kernel
theorem dX11_from_130 : decode cX11_from 130 = .ok (.iload 5, 2) := by decide +kernel
theorem dX11_from_132 : decode cX11_from 132 = .ok (.iaload, 1) := by decide +kernel
theorem dX11_from_133 : decode cX11_from 133 = .ok (.iadd, 1) := by decide +kernel
theorem dX11_from_134 : decode cX11_from 134 = .ok (.if_icmp .ge 91, 3) := by decide +kernel
theorem dX11_from_137 : decode cX11_from 137 = .ok (.aload_n 0, 1) := by decide +kernel
theorem dX11_from_138 : decode cX11_from 138 = .ok (.getfield 124, 3) := by decide +kernel
theorem dX11_from_141 : decode cX11_from 141 = .ok (.aload_n 0, 1) := by decide +kernel
theorem dX11_from_142 : decode cX11_from 142 = .ok (.getfield 62, 3) := by decide +kernel
theorem dX11_from_145 : decode cX11_from 145 = .ok (.iload 6, 2) := by decide +kernel
theorem dX11_from_147 : decode cX11_from 147 = .ok (.iaload, 1) := by decide +kernel
theorem dX11_from_148 : decode cX11_from 148 = .ok (.iaload, 1) := by decide +kernel
theorem dX11_from_149 : decode cX11_from 149 = .ok (.aload_n 0, 1) := by decide +kernel
theorem dX11_from_150 : decode cX11_from 150 = .ok (.getfield 68, 3) := by decide +kernel
theorem dX11_from_153 : decode cX11_from 153 = .ok (.iload 6, 2) := by decide +kernel
theorem dX11_from_155 : decode cX11_from 155 = .ok (.iaload, 1) := by decide +kernel
theorem dX11_from_156 : decode cX11_from 156 = .ok (.imul, 1) := by decide +kernel
theorem dX11_from_157 : decode cX11_from 157 = .ok (.bipush 10, 2) := by decide +kernel
theorem dX11_from_159 : decode cX11_from 159 = .ok (.idiv, 1) := by decide +kernel
theorem dX11_from_160 : decode cX11_from 160 = .ok (.istore 7, 2) := by decide +kernel
theorem dX11_from_162 : decode cX11_from 162 = .ok (.aload_n 0, 1) := by decide +kernel
theorem dX11_from_163 : decode cX11_from 163 = .ok (.getfield 124, 3) := by decide +kernel
theorem dX11_from_166 : decode cX11_from 166 = .ok (.aload_n 0, 1) := by decide +kernel
theorem dX11_from_167 : decode cX11_from 167 = .ok (.getfield 62, 3) := by decide +kernel
theorem dX11_from_170 : decode cX11_from 170 = .ok (.iload 6, 2) := by decide +kernel
theorem dX11_from_172 : decode cX11_from 172 = .ok (.iaload, 1) := by decide +kernel
theorem dX11_from_173 : decode cX11_from 173 = .ok (.dup2, 1) := by decide +kernel
theorem dX11_from_174 : decode cX11_from 174 = .ok (.iaload, 1) := by decide +kernel
theorem dX11_from_175 : decode cX11_from 175 = .ok (.iload 7, 2) := by decide +kernel
theorem dX11_from_177 : decode cX11_from 177 = .ok (.isub, 1) := by decide +kernel
theorem dX11_from_178 : decode cX11_from 178 = .ok (.iastore, 1) := by decide +kernel
theorem dX11_from_179 : decode cX11_from 179 = .ok (.aload_n 0, 1) := by decide +kernel
theorem dX11_from_180 : decode cX11_from 180 = .ok (.getfield 124, 3) := by decide +kernel
theorem dX11_from_183 : decode cX11_from 183 = .ok (.aload_n 0, 1) := by decide +kernel
theorem dX11_from_184 : decode cX11_from 184 = .ok (.getfield 65, 3) := by decide +kernel
theorem dX11_from_187 : decode cX11_from 187 = .ok (.iload 6, 2) := by decide +kernel
theorem dX11_from_189 : decode cX11_from 189 = .ok (.iaload, 1) := by decide +kernel
theorem dX11_from_190 : decode cX11_from 190 = .ok (.dup2, 1) := by decide +kernel
theorem dX11_from_191 : decode cX11_from 191 = .ok (.iaload, 1) := by decide +kernel
theorem dX11_from_192 : decode cX11_from 192 = .ok (.aload_n 0, 1) := by decide +kernel
theorem dX11_from_193 : decode cX11_from 193 = .ok (.getfield 40, 3) := by decide +kernel
theorem dX11_from_196 : decode cX11_from 196 = .ok (.aload_n 0, 1) := by decide +kernel
theorem dX11_from_197 : decode cX11_from 197 = .ok (.getfield 65, 3) := by decide +kernel
theorem dX11_from_200 : decode cX11_from 200 = .ok (.iload 6, 2) := by decide +kernel
theorem dX11_from_202 : decode cX11_from 202 = .ok (.iaload, 1) := by decide +kernel
theorem dX11_from_203 : decode cX11_from 203 = .ok (.iaload, 1) := by decide +kernel
theorem dX11_from_204 : decode cX11_from 204 = .ok (.iconst 1, 1) := by decide +kernel
theorem dX11_from_205 : decode cX11_from 205 = .ok (.if_icmp .ne 10, 3) := by decide +kernel
theorem dX11_from_208 : decode cX11_from 208 = .ok (.iload 7, 2) := by decide +kernel
theorem dX11_from_210 : decode cX11_from 210 = .ok (.iconst 2, 1) := by decide +kernel
theorem dX11_from_211 : decode cX11_from 211 = .ok (.idiv, 1) := by decide +kernel
theorem dX11_from_212 : decode cX11_from 212 = .ok (.goto 5, 3) := by decide +kernel
theorem dX11_from_215 : decode cX11_from 215 = .ok (.iload 7, 2) := by decide +kernel
theorem dX11_from_217 : decode cX11_from 217 = .ok (.iadd, 1) := by decide +kernel
theorem dX11_from_218 : decode cX11_from 218 = .ok (.iastore, 1) := by decide +kernel
theorem dX11_from_219 : decode cX11_from 219 = .ok (.iinc 6 1, 3) := by decide +kernel
theorem dX11_from_222 : decode cX11_from 222 = .ok (.goto (-109), 3) := by decide +kernel
theorem dX11_from_225 : decode cX11_from 225 = .ok (.iinc 4 1, 3) := by decide +kernel
theorem dX11_from_228 : decode cX11_from 228 = .ok (.goto (-141), 3) := by decide +kernel
theorem dX11_from_231 : decode cX11_from 231 = .ok (.aload_n 0, 1) := by decide +kernel
theorem dX11_from_232 : decode cX11_from 232 = .ok (.getfield 124, 3) := by decide +kernel
theorem dX11_from_235 : decode cX11_from 235 = .ok (.iload_n 2, 1) := by decide +kernel
theorem dX11_from_236 : decode cX11_from 236 = .ok (.iaload, 1) := by decide +kernel
theorem dX11_from_237 : decode cX11_from 237 = .ok (.ireturn, 1) := by decide +kernel
theorem dX11_poorest_0 : decode cX11_poorest 0 = .ok (.aload_n 0, 1) := by decide +kernel
theorem dX11_poorest_1 : decode cX11_poorest 1 = .ok (.iconst 0, 1) := by decide +kernel
theorem dX11_poorest_2 : decode cX11_poorest 2 = .ok (.putfield 157, 3) := by decide +kernel
theorem dX11_poorest_5 : decode cX11_poorest 5 = .ok (.iload_n 1, 1) := by decide +kernel
theorem dX11_poorest_6 : decode cX11_poorest 6 = .ok (.invokestatic 433, 3) := by decide +kernel
theorem dX11_poorest_9 : decode cX11_poorest 9 = .ok (.ifCond .ne 9, 3) := by decide +kernel
theorem dX11_poorest_12 : decode cX11_poorest 12 = .ok (.aload_n 0, 1) := by decide +kernel
theorem dX11_poorest_13 : decode cX11_poorest 13 = .ok (.iconst 1, 1) := by decide +kernel
theorem dX11_poorest_14 : decode cX11_poorest 14 = .ok (.invokevirtual 320, 3) := by decide +kernel
theorem dX11_poorest_17 : decode cX11_poorest 17 = .ok (.ireturn, 1) := by decide +kernel
theorem dX11_poorest_18 : decode cX11_poorest 18 = .ok (.aload_n 0, 1) := by decide +kernel
theorem dX11_poorest_19 : decode cX11_poorest 19 = .ok (.aload_n 0, 1) := by decide +kernel
theorem dX11_poorest_20 : decode cX11_poorest 20 = .ok (.getfield 109, 3) := by decide +kernel
theorem dX11_poorest_23 : decode cX11_poorest 23 = .ok (.iconst 0, 1) := by decide +kernel
theorem dX11_poorest_24 : decode cX11_poorest 24 = .ok (.invokevirtual 403, 3) := by decide +kernel
theorem dX11_poorest_27 : decode cX11_poorest 27 = .ok (.aload_n 0, 1) := by decide +kernel
theorem dX11_poorest_28 : decode cX11_poorest 28 = .ok (.iload_n 1, 1) := by decide +kernel
theorem dX11_poorest_29 : decode cX11_poorest 29 = .ok (.invokevirtual 415, 3) := by decide +kernel
theorem dX11_poorest_32 : decode cX11_poorest 32 = .ok (.iconst (-1), 1) := by decide +kernel
theorem dX11_poorest_33 : decode cX11_poorest 33 = .ok (.istore_n 2, 1) := by decide +kernel
theorem dX11_poorest_34 : decode cX11_poorest 34 = .ok (.iconst 0, 1) := by decide +kernel
theorem dX11_poorest_35 : decode cX11_poorest 35 = .ok (.istore_n 3, 1) := by decide +kernel
theorem dX11_poorest_36 : decode cX11_poorest 36 = .ok (.iload_n 3, 1) := by decide +kernel
theorem dX11_poorest_37 : decode cX11_poorest 37 = .ok (.aload_n 0, 1) := by decide +kernel
theorem dX11_poorest_38 : decode cX11_poorest 38 = .ok (.getfield 36, 3) := by decide +kernel
theorem dX11_poorest_41 : decode cX11_poorest 41 = .ok (.iconst 0, 1) := by decide +kernel
theorem dX11_poorest_42 : decode cX11_poorest 42 = .ok (.iaload, 1) := by decide +kernel
theorem dX11_poorest_43 : decode cX11_poorest 43 = .ok (.if_icmp .ge 31, 3) := by decide +kernel
theorem dX11_poorest_46 : decode cX11_poorest 46 = .ok (.iload_n 2, 1) := by decide +kernel
theorem dX11_poorest_47 : decode cX11_poorest 47 = .ok (.iconst (-1), 1) := by decide +kernel
theorem dX11_poorest_48 : decode cX11_poorest 48 = .ok (.if_icmp .eq 18, 3) := by decide +kernel
theorem dX11_poorest_51 : decode cX11_poorest 51 = .ok (.aload_n 0, 1) := by decide +kernel
theorem dX11_poorest_52 : decode cX11_poorest 52 = .ok (.getfield 87, 3) := by decide +kernel
theorem dX11_poorest_55 : decode cX11_poorest 55 = .ok (.iload_n 3, 1) := by decide +kernel
theorem dX11_poorest_56 : decode cX11_poorest 56 = .ok (.iaload, 1) := by decide +kernel
theorem dX11_poorest_57 : decode cX11_poorest 57 = .ok (.aload_n 0, 1) := by decide +kernel
theorem dX11_poorest_58 : decode cX11_poorest 58 = .ok (.getfield 87, 3) := by decide +kernel
theorem dX11_poorest_61 : decode cX11_poorest 61 = .ok (.iload_n 2, 1) := by decide +kernel
theorem dX11_poorest_62 : decode cX11_poorest 62 = .ok (.iaload, 1) := by decide +kernel
theorem dX11_poorest_63 : decode cX11_poorest 63 = .ok (.if_icmp .ge 5, 3) := by decide +kernel
theorem dX11_poorest_66 : decode cX11_poorest 66 = .ok (.iload_n 3, 1) := by decide +kernel
theorem dX11_poorest_67 : decode cX11_poorest 67 = .ok (.istore_n 2, 1) := by decide +kernel
theorem dX11_poorest_68 : decode cX11_poorest 68 = .ok (.iinc 3 1, 3) := by decide +kernel
theorem dX11_poorest_71 : decode cX11_poorest 71 = .ok (.goto (-35), 3) := by decide +kernel
theorem dX11_poorest_74 : decode cX11_poorest 74 = .ok (.aload_n 0, 1) := by decide +kernel
theorem dX11_poorest_75 : decode cX11_poorest 75 = .ok (.aload_n 0, 1) := by decide +kernel
theorem dX11_poorest_76 : decode cX11_poorest 76 = .ok (.getfield 109, 3) := by decide +kernel
theorem dX11_poorest_79 : decode cX11_poorest 79 = .ok (.iconst 0, 1) := by decide +kernel
theorem dX11_poorest_80 : decode cX11_poorest 80 = .ok (.invokevirtual 430, 3) := by decide +kernel
theorem dX11_poorest_83 : decode cX11_poorest 83 = .ok (.iload_n 2, 1) := by decide +kernel
theorem dX11_poorest_84 : decode cX11_poorest 84 = .ok (.ireturn, 1) := by decide +kernel
theorem dX11_fullest_0 : decode cX11_fullest 0 = .ok (.aload_n 0, 1) := by decide +kernel
theorem dX11_fullest_1 : decode cX11_fullest 1 = .ok (.iconst 0, 1) := by decide +kernel
theorem dX11_fullest_2 : decode cX11_fullest 2 = .ok (.putfield 157, 3) := by decide +kernel
theorem dX11_fullest_5 : decode cX11_fullest 5 = .ok (.iload_n 1, 1) := by decide +kernel
theorem dX11_fullest_6 : decode cX11_fullest 6 = .ok (.invokestatic 433, 3) := by decide +kernel
theorem dX11_fullest_9 : decode cX11_fullest 9 = .ok (.ifCond .ne 9, 3) := by decide +kernel
theorem dX11_fullest_12 : decode cX11_fullest 12 = .ok (.aload_n 0, 1) := by decide +kernel
theorem dX11_fullest_13 : decode cX11_fullest 13 = .ok (.iconst 1, 1) := by decide +kernel
theorem dX11_fullest_14 : decode cX11_fullest 14 = .ok (.invokevirtual 320, 3) := by decide +kernel
theorem dX11_fullest_17 : decode cX11_fullest 17 = .ok (.ireturn, 1) := by decide +kernel
theorem dX11_fullest_18 : decode cX11_fullest 18 = .ok (.aload_n 0, 1) := by decide +kernel
theorem dX11_fullest_19 : decode cX11_fullest 19 = .ok (.aload_n 0, 1) := by decide +kernel
theorem dX11_fullest_20 : decode cX11_fullest 20 = .ok (.getfield 109, 3) := by decide +kernel
theorem dX11_fullest_23 : decode cX11_fullest 23 = .ok (.iconst 0, 1) := by decide +kernel
theorem dX11_fullest_24 : decode cX11_fullest 24 = .ok (.invokevirtual 403, 3) := by decide +kernel
theorem dX11_fullest_27 : decode cX11_fullest 27 = .ok (.iconst 0, 1) := by decide +kernel
theorem dX11_fullest_28 : decode cX11_fullest 28 = .ok (.istore_n 2, 1) := by decide +kernel
theorem dX11_fullest_29 : decode cX11_fullest 29 = .ok (.iconst (-1), 1) := by decide +kernel
theorem dX11_fullest_30 : decode cX11_fullest 30 = .ok (.istore_n 3, 1) := by decide +kernel
theorem dX11_fullest_31 : decode cX11_fullest 31 = .ok (.iconst 0, 1) := by decide +kernel
theorem dX11_fullest_32 : decode cX11_fullest 32 = .ok (.istore 4, 2) := by decide +kernel
theorem dX11_fullest_34 : decode cX11_fullest 34 = .ok (.iload 4, 2) := by decide +kernel
theorem dX11_fullest_36 : decode cX11_fullest 36 = .ok (.iload_n 1, 1) := by decide +kernel
theorem dX11_fullest_37 : decode cX11_fullest 37 = .ok (.if_icmp .gt 29, 3) := by decide +kernel
theorem dX11_fullest_40 : decode cX11_fullest 40 = .ok (.aload_n 0, 1) := by decide +kernel
theorem dX11_fullest_41 : decode cX11_fullest 41 = .ok (.invokevirtual 381, 3) := by decide +kernel
theorem dX11_fullest_44 : decode cX11_fullest 44 = .ok (.iload_n 3, 1) := by decide +kernel
theorem dX11_fullest_45 : decode cX11_fullest 45 = .ok (.if_icmp .le 11, 3) := by decide +kernel
theorem dX11_fullest_48 : decode cX11_fullest 48 = .ok (.aload_n 0, 1) := by decide +kernel
theorem dX11_fullest_49 : decode cX11_fullest 49 = .ok (.invokevirtual 381, 3) := by decide +kernel
theorem dX11_fullest_52 : decode cX11_fullest 52 = .ok (.istore_n 3, 1) := by decide +kernel
theorem dX11_fullest_53 : decode cX11_fullest 53 = .ok (.iload 4, 2) := by decide +kernel
theorem dX11_fullest_55 : decode cX11_fullest 55 = .ok (.istore_n 2, 1) := by decide +kernel
theorem dX11_fullest_56 : decode cX11_fullest 56 = .ok (.aload_n 0, 1) := by decide +kernel
theorem dX11_fullest_57 : decode cX11_fullest 57 = .ok (.invokevirtual 378, 3) := by decide +kernel
theorem dX11_fullest_60 : decode cX11_fullest 60 = .ok (.iinc 4 1, 3) := by decide +kernel
theorem dX11_fullest_63 : decode cX11_fullest 63 = .ok (.goto (-29), 3) := by decide +kernel
theorem dX11_fullest_66 : decode cX11_fullest 66 = .ok (.aload_n 0, 1) := by decide +kernel
theorem dX11_fullest_67 : decode cX11_fullest 67 = .ok (.aload_n 0, 1) := by decide +kernel
theorem dX11_fullest_68 : decode cX11_fullest 68 = .ok (.getfield 109, 3) := by decide +kernel
theorem dX11_fullest_71 : decode cX11_fullest 71 = .ok (.iconst 0, 1) := by decide +kernel
theorem dX11_fullest_72 : decode cX11_fullest 72 = .ok (.invokevirtual 430, 3) := by decide +kernel
theorem dX11_fullest_75 : decode cX11_fullest 75 = .ok (.iload_n 2, 1) := by decide +kernel
theorem dX11_fullest_76 : decode cX11_fullest 76 = .ok (.ireturn, 1) := by decide +kernel
theorem dX11_exchange_0 : decode cX11_exchange 0 = .ok (.aload_n 0, 1) := by decide +kernel
theorem dX11_exchange_1 : decode cX11_exchange 1 = .ok (.getfield 91, 3) := by decide +kernel
theorem dX11_exchange_4 : decode cX11_exchange 4 = .ok (.iload_n 1, 1) := by decide +kernel
theorem dX11_exchange_5 : decode cX11_exchange 5 = .ok (.iaload, 1) := by decide +kernel
theorem dX11_exchange_6 : decode cX11_exchange 6 = .ok (.istore_n 3, 1) := by decide +kernel
theorem dX11_exchange_7 : decode cX11_exchange 7 = .ok (.aload_n 0, 1) := by decide +kernel
theorem dX11_exchange_8 : decode cX11_exchange 8 = .ok (.getfield 91, 3) := by decide +kernel
theorem dX11_exchange_11 : decode cX11_exchange 11 = .ok (.iload_n 1, 1) := by decide +kernel
theorem dX11_exchange_12 : decode cX11_exchange 12 = .ok (.aload_n 0, 1) := by decide +kernel
theorem dX11_exchange_13 : decode cX11_exchange 13 = .ok (.getfield 91, 3) := by decide +kernel
