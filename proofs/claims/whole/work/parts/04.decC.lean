theorem dX0_init_0 : decode cX0_init 0 = .ok (.aload_n 0, 1) := by decide +kernel
theorem dX0_init_1 : decode cX0_init 1 = .ok (.invokespecial 3, 3) := by decide +kernel
theorem dX0_init_4 : decode cX0_init 4 = .ok (.aload_n 0, 1) := by decide +kernel
theorem dX0_init_5 : decode cX0_init 5 = .ok (.new 9, 3) := by decide +kernel
theorem dX0_init_8 : decode cX0_init 8 = .ok (.dup, 1) := by decide +kernel
theorem dX0_init_9 : decode cX0_init 9 = .ok (.invokespecial 11, 3) := by decide +kernel
theorem dX0_init_12 : decode cX0_init 12 = .ok (.putfield 12, 3) := by decide +kernel
theorem dX0_init_15 : decode cX0_init 15 = .ok (.aload_n 0, 1) := by decide +kernel
theorem dX0_init_16 : decode cX0_init 16 = .ok (.new 18, 3) := by decide +kernel
theorem dX0_init_19 : decode cX0_init 19 = .ok (.dup, 1) := by decide +kernel
theorem dX0_init_20 : decode cX0_init 20 = .ok (.invokespecial 20, 3) := by decide +kernel
theorem dX0_init_23 : decode cX0_init 23 = .ok (.putfield 21, 3) := by decide +kernel
theorem dX0_init_26 : decode cX0_init 26 = .ok (.aload_n 0, 1) := by decide +kernel
theorem dX0_init_27 : decode cX0_init 27 = .ok (.bipush 8, 2) := by decide +kernel
theorem dX0_init_29 : decode cX0_init 29 = .ok (.newarray .int, 2) := by decide +kernel
theorem dX0_init_31 : decode cX0_init 31 = .ok (.putfield 25, 3) := by decide +kernel
theorem dX0_init_34 : decode cX0_init 34 = .ok (.return_, 1) := by decide +kernel
theorem dX0_carries_0 : decode cX0_carries 0 = .ok (.aload_n 0, 1) := by decide +kernel
theorem dX0_carries_1 : decode cX0_carries 1 = .ok (.getfield 12, 3) := by decide +kernel
theorem dX0_carries_4 : decode cX0_carries 4 = .ok (.iload_n 1, 1) := by decide +kernel
theorem dX0_carries_5 : decode cX0_carries 5 = .ok (.iconst 0, 1) := by decide +kernel
theorem dX0_carries_6 : decode cX0_carries 6 = .ok (.invokevirtual 29, 3) := by decide +kernel
theorem dX0_carries_9 : decode cX0_carries 9 = .ok (.istore_n 3, 1) := by decide +kernel
theorem dX0_carries_10 : decode cX0_carries 10 = .ok (.aload_n 0, 1) := by decide +kernel
theorem dX0_carries_11 : decode cX0_carries 11 = .ok (.getfield 12, 3) := by decide +kernel
theorem dX0_carries_14 : decode cX0_carries 14 = .ok (.iload_n 1, 1) := by decide +kernel
theorem dX0_carries_15 : decode cX0_carries 15 = .ok (.iconst 3, 1) := by decide +kernel
theorem dX0_carries_16 : decode cX0_carries 16 = .ok (.invokevirtual 29, 3) := by decide +kernel
theorem dX0_carries_19 : decode cX0_carries 19 = .ok (.istore 4, 2) := by decide +kernel
theorem dX0_carries_21 : decode cX0_carries 21 = .ok (.aload_n 0, 1) := by decide +kernel
theorem dX0_carries_22 : decode cX0_carries 22 = .ok (.getfield 21, 3) := by decide +kernel
theorem dX0_carries_25 : decode cX0_carries 25 = .ok (.iload 4, 2) := by decide +kernel
theorem dX0_carries_27 : decode cX0_carries 27 = .ok (.iload_n 2, 1) := by decide +kernel
theorem dX0_carries_28 : decode cX0_carries 28 = .ok (.invokevirtual 33, 3) := by decide +kernel
theorem dX0_carries_31 : decode cX0_carries 31 = .ok (.istore 5, 2) := by decide +kernel
theorem dX0_carries_33 : decode cX0_carries 33 = .ok (.aload_n 0, 1) := by decide +kernel
theorem dX0_carries_34 : decode cX0_carries 34 = .ok (.getfield 12, 3) := by decide +kernel
theorem dX0_carries_37 : decode cX0_carries 37 = .ok (.iload_n 1, 1) := by decide +kernel
theorem dX0_carries_38 : decode cX0_carries 38 = .ok (.bipush 6, 2) := by decide +kernel
theorem dX0_carries_40 : decode cX0_carries 40 = .ok (.invokevirtual 29, 3) := by decide +kernel
theorem dX0_carries_43 : decode cX0_carries 43 = .ok (.istore 6, 2) := by decide +kernel
theorem dX0_carries_45 : decode cX0_carries 45 = .ok (.aload_n 0, 1) := by decide +kernel
theorem dX0_carries_46 : decode cX0_carries 46 = .ok (.getfield 12, 3) := by decide +kernel
theorem dX0_carries_49 : decode cX0_carries 49 = .ok (.iload_n 1, 1) := by decide +kernel
theorem dX0_carries_50 : decode cX0_carries 50 = .ok (.bipush 7, 2) := by decide +kernel
theorem dX0_carries_52 : decode cX0_carries 52 = .ok (.invokevirtual 29, 3) := by decide +kernel
theorem dX0_carries_55 : decode cX0_carries 55 = .ok (.istore 7, 2) := by decide +kernel
theorem dX0_carries_57 : decode cX0_carries 57 = .ok (.iload_n 3, 1) := by decide +kernel
theorem dX0_carries_58 : decode cX0_carries 58 = .ok (.iconst 2, 1) := by decide +kernel
theorem dX0_carries_59 : decode cX0_carries 59 = .ok (.if_icmp .ne 9, 3) := by decide +kernel
theorem dX0_carries_62 : decode cX0_carries 62 = .ok (.iinc 6 1, 3) := by decide +kernel
theorem dX0_carries_65 : decode cX0_carries 65 = .ok (.iinc 7 2, 3) := by decide +kernel
theorem dX0_carries_68 : decode cX0_carries 68 = .ok (.iload 5, 2) := by decide +kernel
theorem dX0_carries_70 : decode cX0_carries 70 = .ok (.iload 6, 2) := by decide +kernel
theorem dX0_carries_72 : decode cX0_carries 72 = .ok (.if_icmp .lt 10, 3) := by decide +kernel
theorem dX0_carries_75 : decode cX0_carries 75 = .ok (.iload 5, 2) := by decide +kernel
theorem dX0_carries_77 : decode cX0_carries 77 = .ok (.iload 7, 2) := by decide +kernel
theorem dX0_carries_79 : decode cX0_carries 79 = .ok (.if_icmp .le 5, 3) := by decide +kernel
theorem dX0_carries_82 : decode cX0_carries 82 = .ok (.iconst 0, 1) := by decide +kernel
theorem dX0_carries_83 : decode cX0_carries 83 = .ok (.ireturn, 1) := by decide +kernel
theorem dX0_carries_84 : decode cX0_carries 84 = .ok (.iload_n 3, 1) := by decide +kernel
theorem dX0_carries_85 : decode cX0_carries 85 = .ok (.iconst 1, 1) := by decide +kernel
theorem dX0_carries_86 : decode cX0_carries 86 = .ok (.invokestatic 36, 3) := by decide +kernel
theorem dX0_carries_89 : decode cX0_carries 89 = .ok (.ifCond .eq 13, 3) := by decide +kernel
theorem dX0_carries_92 : decode cX0_carries 92 = .ok (.aload_n 0, 1) := by decide +kernel
theorem dX0_carries_93 : decode cX0_carries 93 = .ok (.iload 4, 2) := by decide +kernel
theorem dX0_carries_95 : decode cX0_carries 95 = .ok (.iload_n 2, 1) := by decide +kernel
theorem dX0_carries_96 : decode cX0_carries 96 = .ok (.invokevirtual 40, 3) := by decide +kernel
theorem dX0_carries_99 : decode cX0_carries 99 = .ok (.ifCond .eq 7, 3) := by decide +kernel
theorem dX0_carries_102 : decode cX0_carries 102 = .ok (.iconst 1, 1) := by decide +kernel
theorem dX0_carries_103 : decode cX0_carries 103 = .ok (.goto 4, 3) := by decide +kernel
theorem dX0_carries_106 : decode cX0_carries 106 = .ok (.iconst 0, 1) := by decide +kernel
theorem dX0_carries_107 : decode cX0_carries 107 = .ok (.ireturn, 1) := by decide +kernel
theorem dX0_isSteady_0 : decode cX0_isSteady 0 = .ok (.iload_n 2, 1) := by decide +kernel
theorem dX0_isSteady_1 : decode cX0_isSteady 1 = .ok (.ifCond .ne 5, 3) := by decide +kernel
theorem dX0_isSteady_4 : decode cX0_isSteady 4 = .ok (.iconst 1, 1) := by decide +kernel
theorem dX0_isSteady_5 : decode cX0_isSteady 5 = .ok (.ireturn, 1) := by decide +kernel
theorem dX0_isSteady_6 : decode cX0_isSteady 6 = .ok (.aload_n 0, 1) := by decide +kernel
theorem dX0_isSteady_7 : decode cX0_isSteady 7 = .ok (.getfield 21, 3) := by decide +kernel
theorem dX0_isSteady_10 : decode cX0_isSteady 10 = .ok (.iload_n 1, 1) := by decide +kernel
theorem dX0_isSteady_11 : decode cX0_isSteady 11 = .ok (.iload_n 2, 1) := by decide +kernel
theorem dX0_isSteady_12 : decode cX0_isSteady 12 = .ok (.invokevirtual 33, 3) := by decide +kernel
theorem dX0_isSteady_15 : decode cX0_isSteady 15 = .ok (.aload_n 0, 1) := by decide +kernel
theorem dX0_isSteady_16 : decode cX0_isSteady 16 = .ok (.getfield 21, 3) := by decide +kernel
theorem dX0_isSteady_19 : decode cX0_isSteady 19 = .ok (.iload_n 1, 1) := by decide +kernel
theorem dX0_isSteady_20 : decode cX0_isSteady 20 = .ok (.iload_n 2, 1) := by decide +kernel
theorem dX0_isSteady_21 : decode cX0_isSteady 21 = .ok (.iconst 1, 1) := by decide +kernel
theorem dX0_isSteady_22 : decode cX0_isSteady 22 = .ok (.isub, 1) := by decide +kernel
theorem dX0_isSteady_23 : decode cX0_isSteady 23 = .ok (.invokevirtual 33, 3) := by decide +kernel
theorem dX0_isSteady_26 : decode cX0_isSteady 26 = .ok (.isub, 1) := by decide +kernel
theorem dX0_isSteady_27 : decode cX0_isSteady 27 = .ok (.istore_n 3, 1) := by decide +kernel
theorem dX0_isSteady_28 : decode cX0_isSteady 28 = .ok (.iload_n 3, 1) := by decide +kernel
theorem dX0_isSteady_29 : decode cX0_isSteady 29 = .ok (.invokestatic 43, 3) := by decide +kernel
theorem dX0_isSteady_32 : decode cX0_isSteady 32 = .ok (.iconst 3, 1) := by decide +kernel
theorem dX0_isSteady_33 : decode cX0_isSteady 33 = .ok (.if_icmp .gt 7, 3) := by decide +kernel
theorem dX0_isSteady_36 : decode cX0_isSteady 36 = .ok (.iconst 1, 1) := by decide +kernel
theorem dX0_isSteady_37 : decode cX0_isSteady 37 = .ok (.goto 4, 3) := by decide +kernel
theorem dX0_isSteady_40 : decode cX0_isSteady 40 = .ok (.iconst 0, 1) := by decide +kernel
theorem dX0_isSteady_41 : decode cX0_isSteady 41 = .ok (.ireturn, 1) := by decide +kernel
theorem dX0_kiteX_0 : decode cX0_kiteX 0 = .ok (.aload_n 0, 1) := by decide +kernel
theorem dX0_kiteX_1 : decode cX0_kiteX 1 = .ok (.getfield 12, 3) := by decide +kernel
theorem dX0_kiteX_4 : decode cX0_kiteX 4 = .ok (.iload_n 1, 1) := by decide +kernel
theorem dX0_kiteX_5 : decode cX0_kiteX 5 = .ok (.iconst 4, 1) := by decide +kernel
theorem dX0_kiteX_6 : decode cX0_kiteX 6 = .ok (.invokevirtual 29, 3) := by decide +kernel
theorem dX0_kiteX_9 : decode cX0_kiteX 9 = .ok (.istore_n 3, 1) := by decide +kernel
theorem dX0_kiteX_10 : decode cX0_kiteX 10 = .ok (.aload_n 0, 1) := by decide +kernel
theorem dX0_kiteX_11 : decode cX0_kiteX 11 = .ok (.getfield 12, 3) := by decide +kernel
theorem dX0_kiteX_14 : decode cX0_kiteX 14 = .ok (.iload_n 1, 1) := by decide +kernel
theorem dX0_kiteX_15 : decode cX0_kiteX 15 = .ok (.iconst 1, 1) := by decide +kernel
theorem dX0_kiteX_16 : decode cX0_kiteX 16 = .ok (.invokevirtual 29, 3) := by decide +kernel
theorem dX0_kiteX_19 : decode cX0_kiteX 19 = .ok (.iload_n 3, 1) := by decide +kernel
theorem dX0_kiteX_20 : decode cX0_kiteX 20 = .ok (.getstatic 49, 3) := by decide +kernel
theorem dX0_kiteX_23 : decode cX0_kiteX 23 = .ok (.aload_n 0, 1) := by decide +kernel
theorem dX0_kiteX_24 : decode cX0_kiteX 24 = .ok (.iload_n 1, 1) := by decide +kernel
theorem dX0_kiteX_25 : decode cX0_kiteX 25 = .ok (.iload_n 2, 1) := by decide +kernel
theorem dX0_kiteX_26 : decode cX0_kiteX 26 = .ok (.invokevirtual 52, 3) := by decide +kernel
theorem dX0_kiteX_29 : decode cX0_kiteX 29 = .ok (.iaload, 1) := by decide +kernel
theorem dX0_kiteX_30 : decode cX0_kiteX 30 = .ok (.imul, 1) := by decide +kernel
theorem dX0_kiteX_31 : decode cX0_kiteX 31 = .ok (.iadd, 1) := by decide +kernel
theorem dX0_kiteX_32 : decode cX0_kiteX 32 = .ok (.ireturn, 1) := by decide +kernel
theorem dX0_kiteY_0 : decode cX0_kiteY 0 = .ok (.aload_n 0, 1) := by decide +kernel
theorem dX0_kiteY_1 : decode cX0_kiteY 1 = .ok (.getfield 12, 3) := by decide +kernel
theorem dX0_kiteY_4 : decode cX0_kiteY 4 = .ok (.iload_n 1, 1) := by decide +kernel
theorem dX0_kiteY_5 : decode cX0_kiteY 5 = .ok (.iconst 4, 1) := by decide +kernel
theorem dX0_kiteY_6 : decode cX0_kiteY 6 = .ok (.invokevirtual 29, 3) := by decide +kernel
theorem dX0_kiteY_9 : decode cX0_kiteY 9 = .ok (.istore_n 3, 1) := by decide +kernel
theorem dX0_kiteY_10 : decode cX0_kiteY 10 = .ok (.aload_n 0, 1) := by decide +kernel
theorem dX0_kiteY_11 : decode cX0_kiteY 11 = .ok (.getfield 12, 3) := by decide +kernel
theorem dX0_kiteY_14 : decode cX0_kiteY 14 = .ok (.iload_n 1, 1) := by decide +kernel
theorem dX0_kiteY_15 : decode cX0_kiteY 15 = .ok (.iconst 2, 1) := by decide +kernel
theorem dX0_kiteY_16 : decode cX0_kiteY 16 = .ok (.invokevirtual 29, 3) := by decide +kernel
theorem dX0_kiteY_19 : decode cX0_kiteY 19 = .ok (.iload_n 3, 1) := by decide +kernel
theorem dX0_kiteY_20 : decode cX0_kiteY 20 = .ok (.getstatic 55, 3) := by decide +kernel
theorem dX0_kiteY_23 : decode cX0_kiteY 23 = .ok (.aload_n 0, 1) := by decide +kernel
theorem dX0_kiteY_24 : decode cX0_kiteY 24 = .ok (.iload_n 1, 1) := by decide +kernel
theorem dX0_kiteY_25 : decode cX0_kiteY 25 = .ok (.iload_n 2, 1) := by decide +kernel
theorem dX0_kiteY_26 : decode cX0_kiteY 26 = .ok (.invokevirtual 52, 3) := by decide +kernel
theorem dX0_kiteY_29 : decode cX0_kiteY 29 = .ok (.iaload, 1) := by decide +kernel
theorem dX0_kiteY_30 : decode cX0_kiteY 30 = .ok (.imul, 1) := by decide +kernel
theorem dX0_kiteY_31 : decode cX0_kiteY 31 = .ok (.iadd, 1) := by decide +kernel
theorem dX0_kiteY_32 : decode cX0_kiteY 32 = .ok (.ireturn, 1) := by decide +kernel
theorem dX0_directionFor_0 : decode cX0_directionFor 0 = .ok (.aload_n 0, 1) := by decide +kernel
theorem dX0_directionFor_1 : decode cX0_directionFor 1 = .ok (.getfield 21, 3) := by decide +kernel
theorem dX0_directionFor_4 : decode cX0_directionFor 4 = .ok (.aload_n 0, 1) := by decide +kernel
theorem dX0_directionFor_5 : decode cX0_directionFor 5 = .ok (.getfield 12, 3) := by decide +kernel
theorem dX0_directionFor_8 : decode cX0_directionFor 8 = .ok (.iload_n 1, 1) := by decide +kernel
theorem dX0_directionFor_9 : decode cX0_directionFor 9 = .ok (.iconst 3, 1) := by decide +kernel
theorem dX0_directionFor_10 : decode cX0_directionFor 10 = .ok (.invokevirtual 29, 3) := by decide +kernel
theorem dX0_directionFor_13 : decode cX0_directionFor 13 = .ok (.iload_n 2, 1) := by decide +kernel
theorem dX0_directionFor_14 : decode cX0_directionFor 14 = .ok (.invokevirtual 58, 3) := by decide +kernel
theorem dX0_directionFor_17 : decode cX0_directionFor 17 = .ok (.ireturn, 1) := by decide +kernel
theorem dX0_areTooNear_0 : decode cX0_areTooNear 0 = .ok (.aload_n 0, 1) := by decide +kernel
theorem dX0_areTooNear_1 : decode cX0_areTooNear 1 = .ok (.getfield 12, 3) := by decide +kernel
theorem dX0_areTooNear_4 : decode cX0_areTooNear 4 = .ok (.iload_n 1, 1) := by decide +kernel
theorem dX0_areTooNear_5 : decode cX0_areTooNear 5 = .ok (.iconst 3, 1) := by decide +kernel
theorem dX0_areTooNear_6 : decode cX0_areTooNear 6 = .ok (.invokevirtual 29, 3) := by decide +kernel
theorem dX0_areTooNear_9 : decode cX0_areTooNear 9 = .ok (.aload_n 0, 1) := by decide +kernel
theorem dX0_areTooNear_10 : decode cX0_areTooNear 10 = .ok (.getfield 12, 3) := by decide +kernel
theorem dX0_areTooNear_13 : decode cX0_areTooNear 13 = .ok (.iload_n 2, 1) := by decide +kernel
theorem dX0_areTooNear_14 : decode cX0_areTooNear 14 = .ok (.iconst 3, 1) := by decide +kernel
theorem dX0_areTooNear_15 : decode cX0_areTooNear 15 = .ok (.invokevirtual 29, 3) := by decide +kernel
theorem dX0_areTooNear_18 : decode cX0_areTooNear 18 = .ok (.if_icmp .eq 5, 3) := by decide +kernel
theorem dX0_areTooNear_21 : decode cX0_areTooNear 21 = .ok (.iconst 0, 1) := by decide +kernel
theorem dX0_areTooNear_22 : decode cX0_areTooNear 22 = .ok (.ireturn, 1) := by decide +kernel
theorem dX0_areTooNear_23 : decode cX0_areTooNear 23 = .ok (.aload_n 0, 1) := by decide +kernel
theorem dX0_areTooNear_24 : decode cX0_areTooNear 24 = .ok (.iload_n 1, 1) := by decide +kernel
theorem dX0_areTooNear_25 : decode cX0_areTooNear 25 = .ok (.iload_n 3, 1) := by decide +kernel
theorem dX0_areTooNear_26 : decode cX0_areTooNear 26 = .ok (.invokevirtual 61, 3) := by decide +kernel
theorem dX0_areTooNear_29 : decode cX0_areTooNear 29 = .ok (.ifCond .eq 12, 3) := by decide +kernel
theorem dX0_areTooNear_32 : decode cX0_areTooNear 32 = .ok (.aload_n 0, 1) := by decide +kernel
theorem dX0_areTooNear_33 : decode cX0_areTooNear 33 = .ok (.iload_n 2, 1) := by decide +kernel
theorem dX0_areTooNear_34 : decode cX0_areTooNear 34 = .ok (.iload_n 3, 1) := by decide +kernel
theorem dX0_areTooNear_35 : decode cX0_areTooNear 35 = .ok (.invokevirtual 61, 3) := by decide +kernel
theorem dX0_areTooNear_38 : decode cX0_areTooNear 38 = .ok (.ifCond .ne 5, 3) := by decide +kernel
theorem dX0_areTooNear_41 : decode cX0_areTooNear 41 = .ok (.iconst 0, 1) := by decide +kernel
theorem dX0_areTooNear_42 : decode cX0_areTooNear 42 = .ok (.ireturn, 1) := by decide +kernel
theorem dX0_areTooNear_43 : decode cX0_areTooNear 43 = .ok (.aload_n 0, 1) := by decide +kernel
theorem dX0_areTooNear_44 : decode cX0_areTooNear 44 = .ok (.getfield 12, 3) := by decide +kernel
theorem dX0_areTooNear_47 : decode cX0_areTooNear 47 = .ok (.iload_n 1, 1) := by decide +kernel
theorem dX0_areTooNear_48 : decode cX0_areTooNear 48 = .ok (.iconst 5, 1) := by decide +kernel
theorem dX0_areTooNear_49 : decode cX0_areTooNear 49 = .ok (.invokevirtual 29, 3) := by decide +kernel
theorem dX0_areTooNear_52 : decode cX0_areTooNear 52 = .ok (.aload_n 0, 1) := by decide +kernel
theorem dX0_areTooNear_53 : decode cX0_areTooNear 53 = .ok (.getfield 12, 3) := by decide +kernel
theorem dX0_areTooNear_56 : decode cX0_areTooNear 56 = .ok (.iload_n 2, 1) := by decide +kernel
theorem dX0_areTooNear_57 : decode cX0_areTooNear 57 = .ok (.iconst 5, 1) := by decide +kernel
theorem dX0_areTooNear_58 : decode cX0_areTooNear 58 = .ok (.invokevirtual 29, 3) := by decide +kernel
theorem dX0_areTooNear_61 : decode cX0_areTooNear 61 = .ok (.iadd, 1) := by decide +kernel
theorem dX0_areTooNear_62 : decode cX0_areTooNear 62 = .ok (.istore 4, 2) := by decide +kernel
theorem dX0_areTooNear_64 : decode cX0_areTooNear 64 = .ok (.aload_n 0, 1) := by decide +kernel
theorem dX0_areTooNear_65 : decode cX0_areTooNear 65 = .ok (.iload_n 1, 1) := by decide +kernel
theorem dX0_areTooNear_66 : decode cX0_areTooNear 66 = .ok (.iload_n 3, 1) := by decide +kernel
theorem dX0_areTooNear_67 : decode cX0_areTooNear 67 = .ok (.invokevirtual 64, 3) := by decide +kernel
theorem dX0_areTooNear_70 : decode cX0_areTooNear 70 = .ok (.aload_n 0, 1) := by decide +kernel
theorem dX0_areTooNear_71 : decode cX0_areTooNear 71 = .ok (.iload_n 2, 1) := by decide +kernel
theorem dX0_areTooNear_72 : decode cX0_areTooNear 72 = .ok (.iload_n 3, 1) := by decide +kernel
theorem dX0_areTooNear_73 : decode cX0_areTooNear 73 = .ok (.invokevirtual 64, 3) := by decide +kernel
theorem dX0_areTooNear_76 : decode cX0_areTooNear 76 = .ok (.isub, 1) := by decide +kernel
theorem dX0_areTooNear_77 : decode cX0_areTooNear 77 = .ok (.invokestatic 43, 3) := by decide +kernel
theorem dX0_areTooNear_80 : decode cX0_areTooNear 80 = .ok (.iload 4, 2) := by decide +kernel
theorem dX0_areTooNear_82 : decode cX0_areTooNear 82 = .ok (.if_icmp .ge 28, 3) := by decide +kernel
theorem dX0_areTooNear_85 : decode cX0_areTooNear 85 = .ok (.aload_n 0, 1) := by decide +kernel
theorem dX0_areTooNear_86 : decode cX0_areTooNear 86 = .ok (.iload_n 1, 1) := by decide +kernel
theorem dX0_areTooNear_87 : decode cX0_areTooNear 87 = .ok (.iload_n 3, 1) := by decide +kernel
theorem dX0_areTooNear_88 : decode cX0_areTooNear 88 = .ok (.invokevirtual 67, 3) := by decide +kernel
theorem dX0_areTooNear_91 : decode cX0_areTooNear 91 = .ok (.aload_n 0, 1) := by decide +kernel
theorem dX0_areTooNear_92 : decode cX0_areTooNear 92 = .ok (.iload_n 2, 1) := by decide +kernel
theorem dX0_areTooNear_93 : decode cX0_areTooNear 93 = .ok (.iload_n 3, 1) := by decide +kernel
theorem dX0_areTooNear_94 : decode cX0_areTooNear 94 = .ok (.invokevirtual 67, 3) := by decide +kernel
theorem dX0_areTooNear_97 : decode cX0_areTooNear 97 = .ok (.isub, 1) := by decide +kernel
theorem dX0_areTooNear_98 : decode cX0_areTooNear 98 = .ok (.invokestatic 43, 3) := by decide +kernel
theorem dX0_areTooNear_101 : decode cX0_areTooNear 101 = .ok (.iload 4, 2) := by decide +kernel
theorem dX0_areTooNear_103 : decode cX0_areTooNear 103 = .ok (.if_icmp .ge 7, 3) := by decide +kernel
theorem dX0_areTooNear_106 : decode cX0_areTooNear 106 = .ok (.iconst 1, 1) := by decide +kernel
theorem dX0_areTooNear_107 : decode cX0_areTooNear 107 = .ok (.goto 4, 3) := by decide +kernel
theorem dX0_areTooNear_110 : decode cX0_areTooNear 110 = .ok (.iconst 0, 1) := by decide +kernel
theorem dX0_areTooNear_111 : decode cX0_areTooNear 111 = .ok (.ireturn, 1) := by decide +kernel
theorem dX0_pairsTooNear_0 : decode cX0_pairsTooNear 0 = .ok (.iconst 0, 1) := by decide +kernel
theorem dX0_pairsTooNear_1 : decode cX0_pairsTooNear 1 = .ok (.istore_n 2, 1) := by decide +kernel
theorem dX0_pairsTooNear_2 : decode cX0_pairsTooNear 2 = .ok (.iconst 0, 1) := by decide +kernel
theorem dX0_pairsTooNear_3 : decode cX0_pairsTooNear 3 = .ok (.istore_n 3, 1) := by decide +kernel
theorem dX0_pairsTooNear_4 : decode cX0_pairsTooNear 4 = .ok (.iload_n 3, 1) := by decide +kernel
theorem dX0_pairsTooNear_5 : decode cX0_pairsTooNear 5 = .ok (.aload_n 0, 1) := by decide +kernel
theorem dX0_pairsTooNear_6 : decode cX0_pairsTooNear 6 = .ok (.getfield 12, 3) := by decide +kernel
theorem dX0_pairsTooNear_9 : decode cX0_pairsTooNear 9 = .ok (.getfield 70, 3) := by decide +kernel
theorem dX0_pairsTooNear_12 : decode cX0_pairsTooNear 12 = .ok (.if_icmp .ge 46, 3) := by decide +kernel
theorem dX0_pairsTooNear_15 : decode cX0_pairsTooNear 15 = .ok (.iload_n 3, 1) := by decide +kernel
theorem dX0_pairsTooNear_16 : decode cX0_pairsTooNear 16 = .ok (.iconst 1, 1) := by decide +kernel
theorem dX0_pairsTooNear_17 : decode cX0_pairsTooNear 17 = .ok (.iadd, 1) := by decide +kernel
theorem dX0_pairsTooNear_18 : decode cX0_pairsTooNear 18 = .ok (.istore 4, 2) := by decide +kernel
theorem dX0_pairsTooNear_20 : decode cX0_pairsTooNear 20 = .ok (.iload 4, 2) := by decide +kernel
theorem dX0_pairsTooNear_22 : decode cX0_pairsTooNear 22 = .ok (.aload_n 0, 1) := by decide +kernel
theorem dX0_pairsTooNear_23 : decode cX0_pairsTooNear 23 = .ok (.getfield 12, 3) := by decide +kernel
theorem dX0_pairsTooNear_26 : decode cX0_pairsTooNear 26 = .ok (.getfield 70, 3) := by decide +kernel
theorem dX0_pairsTooNear_29 : decode cX0_pairsTooNear 29 = .ok (.if_icmp .ge 23, 3) := by decide +kernel
theorem dX0_pairsTooNear_32 : decode cX0_pairsTooNear 32 = .ok (.iload_n 2, 1) := by decide +kernel
theorem dX0_pairsTooNear_33 : decode cX0_pairsTooNear 33 = .ok (.aload_n 0, 1) := by decide +kernel
theorem dX0_pairsTooNear_34 : decode cX0_pairsTooNear 34 = .ok (.iload_n 3, 1) := by decide +kernel
theorem dX0_pairsTooNear_35 : decode cX0_pairsTooNear 35 = .ok (.iload 4, 2) := by decide +kernel
theorem dX0_pairsTooNear_37 : decode cX0_pairsTooNear 37 = .ok (.iload_n 1, 1) := by decide +kernel
theorem dX0_pairsTooNear_38 : decode cX0_pairsTooNear 38 = .ok (.invokevirtual 74, 3) := by decide +kernel
theorem dX0_pairsTooNear_41 : decode cX0_pairsTooNear 41 = .ok (.invokestatic 78, 3) := by decide +kernel
theorem dX0_pairsTooNear_44 : decode cX0_pairsTooNear 44 = .ok (.iadd, 1) := by decide +kernel
theorem dX0_pairsTooNear_45 : decode cX0_pairsTooNear 45 = .ok (.istore_n 2, 1) := by decide +kernel
theorem dX0_pairsTooNear_46 : decode cX0_pairsTooNear 46 = .ok (.iinc 4 1, 3) := by decide +kernel
theorem dX0_pairsTooNear_49 : decode cX0_pairsTooNear 49 = .ok (.goto (-29), 3) := by decide +kernel
theorem dX0_pairsTooNear_52 : decode cX0_pairsTooNear 52 = .ok (.iinc 3 1, 3) := by decide +kernel
theorem dX0_pairsTooNear_55 : decode cX0_pairsTooNear 55 = .ok (.goto (-51), 3) := by decide +kernel
theorem dX0_pairsTooNear_58 : decode cX0_pairsTooNear 58 = .ok (.iload_n 2, 1) := by decide +kernel
theorem dX0_pairsTooNear_59 : decode cX0_pairsTooNear 59 = .ok (.ireturn, 1) := by decide +kernel
theorem dX0_largestApart_0 : decode cX0_largestApart 0 = .ok (.aload_n 0, 1) := by decide +kernel
theorem dX0_largestApart_1 : decode cX0_largestApart 1 = .ok (.iload_n 1, 1) := by decide +kernel
theorem dX0_largestApart_2 : decode cX0_largestApart 2 = .ok (.invokevirtual 82, 3) := by decide +kernel
theorem dX0_largestApart_5 : decode cX0_largestApart 5 = .ok (.istore_n 2, 1) := by decide +kernel
theorem dX0_largestApart_6 : decode cX0_largestApart 6 = .ok (.iconst 0, 1) := by decide +kernel
theorem dX0_largestApart_7 : decode cX0_largestApart 7 = .ok (.istore_n 3, 1) := by decide +kernel
theorem dX0_largestApart_8 : decode cX0_largestApart 8 = .ok (.iconst 0, 1) := by decide +kernel
theorem dX0_largestApart_9 : decode cX0_largestApart 9 = .ok (.istore 4, 2) := by decide +kernel
theorem dX0_largestApart_11 : decode cX0_largestApart 11 = .ok (.iconst 1, 1) := by decide +kernel
theorem dX0_largestApart_12 : decode cX0_largestApart 12 = .ok (.istore 5, 2) := by decide +kernel
theorem dX0_largestApart_14 : decode cX0_largestApart 14 = .ok (.iload 5, 2) := by decide +kernel
theorem dX0_largestApart_16 : decode cX0_largestApart 16 = .ok (.iload_n 2, 1) := by decide +kernel
theorem dX0_largestApart_17 : decode cX0_largestApart 17 = .ok (.if_icmp .gt 47, 3) := by decide +kernel
theorem dX0_largestApart_20 : decode cX0_largestApart 20 = .ok (.iload 5, 2) := by decide +kernel
theorem dX0_largestApart_22 : decode cX0_largestApart 22 = .ok (.iload_n 2, 1) := by decide +kernel
theorem dX0_largestApart_23 : decode cX0_largestApart 23 = .ok (.iconst (-1), 1) := by decide +kernel
theorem dX0_largestApart_24 : decode cX0_largestApart 24 = .ok (.ixor, 1) := by decide +kernel
theorem dX0_largestApart_25 : decode cX0_largestApart 25 = .ok (.iand, 1) := by decide +kernel
theorem dX0_largestApart_26 : decode cX0_largestApart 26 = .ok (.ifCond .ne 32, 3) := by decide +kernel
theorem dX0_largestApart_29 : decode cX0_largestApart 29 = .ok (.iload 5, 2) := by decide +kernel
theorem dX0_largestApart_31 : decode cX0_largestApart 31 = .ok (.invokestatic 85, 3) := by decide +kernel
theorem dX0_largestApart_34 : decode cX0_largestApart 34 = .ok (.iload 4, 2) := by decide +kernel
theorem dX0_largestApart_36 : decode cX0_largestApart 36 = .ok (.if_icmp .le 22, 3) := by decide +kernel
theorem dX0_largestApart_39 : decode cX0_largestApart 39 = .ok (.aload_n 0, 1) := by decide +kernel
theorem dX0_largestApart_40 : decode cX0_largestApart 40 = .ok (.iload 5, 2) := by decide +kernel
theorem dX0_largestApart_42 : decode cX0_largestApart 42 = .ok (.invokevirtual 90, 3) := by decide +kernel
theorem dX0_largestApart_45 : decode cX0_largestApart 45 = .ok (.ifCond .eq 13, 3) := by decide +kernel
theorem dX0_largestApart_48 : decode cX0_largestApart 48 = .ok (.iload 5, 2) := by decide +kernel
theorem dX0_largestApart_50 : decode cX0_largestApart 50 = .ok (.istore_n 3, 1) := by decide +kernel
theorem dX0_largestApart_51 : decode cX0_largestApart 51 = .ok (.iload 5, 2) := by decide +kernel
theorem dX0_largestApart_53 : decode cX0_largestApart 53 = .ok (.invokestatic 85, 3) := by decide +kernel
theorem dX0_largestApart_56 : decode cX0_largestApart 56 = .ok (.istore 4, 2) := by decide +kernel
theorem dX0_largestApart_58 : decode cX0_largestApart 58 = .ok (.iinc 5 1, 3) := by decide +kernel
theorem dX0_largestApart_61 : decode cX0_largestApart 61 = .ok (.goto (-47), 3) := by decide +kernel
theorem dX0_largestApart_64 : decode cX0_largestApart 64 = .ok (.iload_n 3, 1) := by decide +kernel
theorem dX0_largestApart_65 : decode cX0_largestApart 65 = .ok (.ireturn, 1) := by decide +kernel
theorem dX0_lookAround_0 : decode cX0_lookAround 0 = .ok (.iconst 0, 1) := by decide +kernel
theorem dX0_lookAround_1 : decode cX0_lookAround 1 = .ok (.istore_n 2, 1) := by decide +kernel
theorem dX0_lookAround_2 : decode cX0_lookAround 2 = .ok (.iconst 0, 1) := by decide +kernel
theorem dX0_lookAround_3 : decode cX0_lookAround 3 = .ok (.istore_n 3, 1) := by decide +kernel
theorem dX0_lookAround_4 : decode cX0_lookAround 4 = .ok (.iload_n 3, 1) := by decide +kernel
theorem dX0_lookAround_5 : decode cX0_lookAround 5 = .ok (.aload_n 0, 1) := by decide +kernel
theorem dX0_lookAround_6 : decode cX0_lookAround 6 = .ok (.getfield 12, 3) := by decide +kernel
theorem dX0_lookAround_9 : decode cX0_lookAround 9 = .ok (.getfield 70, 3) := by decide +kernel
theorem dX0_lookAround_12 : decode cX0_lookAround 12 = .ok (.if_icmp .ge 70, 3) := by decide +kernel
theorem dX0_lookAround_15 : decode cX0_lookAround 15 = .ok (.aload_n 0, 1) := by decide +kernel
theorem dX0_lookAround_16 : decode cX0_lookAround 16 = .ok (.getfield 25, 3) := by decide +kernel
theorem dX0_lookAround_19 : decode cX0_lookAround 19 = .ok (.iload_n 3, 1) := by decide +kernel
theorem dX0_lookAround_20 : decode cX0_lookAround 20 = .ok (.iconst 0, 1) := by decide +kernel
theorem dX0_lookAround_21 : decode cX0_lookAround 21 = .ok (.iastore, 1) := by decide +kernel
theorem dX0_lookAround_22 : decode cX0_lookAround 22 = .ok (.aload_n 0, 1) := by decide +kernel
theorem dX0_lookAround_23 : decode cX0_lookAround 23 = .ok (.iload_n 3, 1) := by decide +kernel
theorem dX0_lookAround_24 : decode cX0_lookAround 24 = .ok (.iload_n 1, 1) := by decide +kernel
theorem dX0_lookAround_25 : decode cX0_lookAround 25 = .ok (.invokevirtual 61, 3) := by decide +kernel
theorem dX0_lookAround_28 : decode cX0_lookAround 28 = .ok (.ifCond .eq 9, 3) := by decide +kernel
theorem dX0_lookAround_31 : decode cX0_lookAround 31 = .ok (.iload_n 2, 1) := by decide +kernel
theorem dX0_lookAround_32 : decode cX0_lookAround 32 = .ok (.iconst 1, 1) := by decide +kernel
theorem dX0_lookAround_33 : decode cX0_lookAround 33 = .ok (.iload_n 3, 1) := by decide +kernel
theorem dX0_lookAround_34 : decode cX0_lookAround 34 = .ok (.ishl, 1) := by decide +kernel
theorem dX0_lookAround_35 : decode cX0_lookAround 35 = .ok (.ior, 1) := by decide +kernel
theorem dX0_lookAround_36 : decode cX0_lookAround 36 = .ok (.istore_n 2, 1) := by decide +kernel
theorem dX0_lookAround_37 : decode cX0_lookAround 37 = .ok (.iconst 0, 1) := by decide +kernel
theorem dX0_lookAround_38 : decode cX0_lookAround 38 = .ok (.istore 4, 2) := by decide +kernel
theorem dX0_lookAround_40 : decode cX0_lookAround 40 = .ok (.iload 4, 2) := by decide +kernel
theorem dX0_lookAround_42 : decode cX0_lookAround 42 = .ok (.iload_n 3, 1) := by decide +kernel
theorem dX0_lookAround_43 : decode cX0_lookAround 43 = .ok (.if_icmp .ge 33, 3) := by decide +kernel
theorem dX0_lookAround_46 : decode cX0_lookAround 46 = .ok (.aload_n 0, 1) := by decide +kernel
theorem dX0_lookAround_47 : decode cX0_lookAround 47 = .ok (.iload_n 3, 1) := by decide +kernel
theorem dX0_lookAround_48 : decode cX0_lookAround 48 = .ok (.iload 4, 2) := by decide +kernel
theorem dX0_lookAround_50 : decode cX0_lookAround 50 = .ok (.iload_n 1, 1) := by decide +kernel
theorem dX0_lookAround_51 : decode cX0_lookAround 51 = .ok (.invokevirtual 74, 3) := by decide +kernel
theorem dX0_lookAround_54 : decode cX0_lookAround 54 = .ok (.ifCond .eq 16, 3) := by decide +kernel
theorem dX0_lookAround_57 : decode cX0_lookAround 57 = .ok (.aload_n 0, 1) := by decide +kernel
theorem dX0_lookAround_58 : decode cX0_lookAround 58 = .ok (.getfield 25, 3) := by decide +kernel
theorem dX0_lookAround_61 : decode cX0_lookAround 61 = .ok (.iload_n 3, 1) := by decide +kernel
theorem dX0_lookAround_62 : decode cX0_lookAround 62 = .ok (.dup2, 1) := by decide +kernel
theorem dX0_lookAround_63 : decode cX0_lookAround 63 = .ok (.iaload, 1) := by decide +kernel
theorem dX0_lookAround_64 : decode cX0_lookAround 64 = .ok (.iconst 1, 1) := by decide +kernel
theorem dX0_lookAround_65 : decode cX0_lookAround 65 = .ok (.iload 4, 2) := by decide +kernel
theorem dX0_lookAround_67 : decode cX0_lookAround 67 = .ok (.ishl, 1) := by decide +kernel
theorem dX0_lookAround_68 : decode cX0_lookAround 68 = .ok (.ior, 1) := by decide +kernel
theorem dX0_lookAround_69 : decode cX0_lookAround 69 = .ok (.iastore, 1) := by decide +kernel
theorem dX0_lookAround_70 : decode cX0_lookAround 70 = .ok (.iinc 4 1, 3) := by decide +kernel
theorem dX0_lookAround_73 : decode cX0_lookAround 73 = .ok (.goto (-33), 3) := by decide +kernel
theorem dX0_lookAround_76 : decode cX0_lookAround 76 = .ok (.iinc 3 1, 3) := by decide +kernel
theorem dX0_lookAround_79 : decode cX0_lookAround 79 = .ok (.goto (-75), 3) := by decide +kernel
theorem dX0_lookAround_82 : decode cX0_lookAround 82 = .ok (.iload_n 2, 1) := by decide +kernel
theorem dX0_lookAround_83 : decode cX0_lookAround 83 = .ok (.ireturn, 1) := by decide +kernel
theorem dX0_areApart_0 : decode cX0_areApart 0 = .ok (.iconst 0, 1) := by decide +kernel
theorem dX0_areApart_1 : decode cX0_areApart 1 = .ok (.istore_n 2, 1) := by decide +kernel
theorem dX0_areApart_2 : decode cX0_areApart 2 = .ok (.iload_n 2, 1) := by decide +kernel
theorem dX0_areApart_3 : decode cX0_areApart 3 = .ok (.aload_n 0, 1) := by decide +kernel
theorem dX0_areApart_4 : decode cX0_areApart 4 = .ok (.getfield 12, 3) := by decide +kernel
theorem dX0_areApart_7 : decode cX0_areApart 7 = .ok (.getfield 70, 3) := by decide +kernel
theorem dX0_areApart_10 : decode cX0_areApart 10 = .ok (.if_icmp .ge 31, 3) := by decide +kernel
theorem dX0_areApart_13 : decode cX0_areApart 13 = .ok (.iload_n 1, 1) := by decide +kernel
theorem dX0_areApart_14 : decode cX0_areApart 14 = .ok (.iload_n 2, 1) := by decide +kernel
theorem dX0_areApart_15 : decode cX0_areApart 15 = .ok (.ishr, 1) := by decide +kernel
theorem dX0_areApart_16 : decode cX0_areApart 16 = .ok (.iconst 1, 1) := by decide +kernel
theorem dX0_areApart_17 : decode cX0_areApart 17 = .ok (.iand, 1) := by decide +kernel
theorem dX0_areApart_18 : decode cX0_areApart 18 = .ok (.iconst 1, 1) := by decide +kernel
theorem dX0_areApart_19 : decode cX0_areApart 19 = .ok (.if_icmp .ne 16, 3) := by decide +kernel
theorem dX0_areApart_22 : decode cX0_areApart 22 = .ok (.aload_n 0, 1) := by decide +kernel
theorem dX0_areApart_23 : decode cX0_areApart 23 = .ok (.getfield 25, 3) := by decide +kernel
theorem dX0_areApart_26 : decode cX0_areApart 26 = .ok (.iload_n 2, 1) := by decide +kernel
theorem dX0_areApart_27 : decode cX0_areApart 27 = .ok (.iaload, 1) := by decide +kernel
theorem dX0_areApart_28 : decode cX0_areApart 28 = .ok (.iload_n 1, 1) := by decide +kernel
theorem dX0_areApart_29 : decode cX0_areApart 29 = .ok (.iand, 1) := by decide +kernel
theorem dX0_areApart_30 : decode cX0_areApart 30 = .ok (.ifCond .eq 5, 3) := by decide +kernel
theorem dX0_areApart_33 : decode cX0_areApart 33 = .ok (.iconst 0, 1) := by decide +kernel
theorem dX0_areApart_34 : decode cX0_areApart 34 = .ok (.ireturn, 1) := by decide +kernel
theorem dX0_areApart_35 : decode cX0_areApart 35 = .ok (.iinc 2 1, 3) := by decide +kernel
theorem dX0_areApart_38 : decode cX0_areApart 38 = .ok (.goto (-36), 3) := by decide +kernel
theorem dX0_areApart_41 : decode cX0_areApart 41 = .ok (.iconst 1, 1) := by decide +kernel
theorem dX0_areApart_42 : decode cX0_areApart 42 = .ok (.ireturn, 1) := by decide +kernel
theorem dX1_init_0 : decode cX1_init 0 = .ok (.aload_n 0, 1) := by decide +kernel
theorem dX1_init_1 : decode cX1_init 1 = .ok (.invokespecial 3, 3) := by decide +kernel
theorem dX1_init_4 : decode cX1_init 4 = .ok (.aload_n 0, 1) := by decide +kernel
theorem dX1_init_5 : decode cX1_init 5 = .ok (.bipush 64, 2) := by decide +kernel
theorem dX1_init_7 : decode cX1_init 7 = .ok (.newarray .int, 2) := by decide +kernel
theorem dX1_init_9 : decode cX1_init 9 = .ok (.putfield 11, 3) := by decide +kernel
theorem dX1_init_12 : decode cX1_init 12 = .ok (.return_, 1) := by decide +kernel
theorem dX1_have_0 : decode cX1_have 0 = .ok (.iload_n 1, 1) := by decide +kernel
theorem dX1_have_1 : decode cX1_have 1 = .ok (.ifCond .lt 15, 3) := by decide +kernel
theorem dX1_have_4 : decode cX1_have 4 = .ok (.iload_n 1, 1) := by decide +kernel
theorem dX1_have_5 : decode cX1_have 5 = .ok (.aload_n 0, 1) := by decide +kernel
theorem dX1_have_6 : decode cX1_have 6 = .ok (.getfield 15, 3) := by decide +kernel
theorem dX1_have_9 : decode cX1_have 9 = .ok (.if_icmp .ge 7, 3) := by decide +kernel
theorem dX1_have_12 : decode cX1_have 12 = .ok (.iconst 1, 1) := by decide +kernel
theorem dX1_have_13 : decode cX1_have 13 = .ok (.goto 4, 3) := by decide +kernel
theorem dX1_have_16 : decode cX1_have 16 = .ok (.iconst 0, 1) := by decide +kernel
theorem dX1_have_17 : decode cX1_have 17 = .ok (.ireturn, 1) := by decide +kernel
theorem dX1_areFull_0 : decode cX1_areFull 0 = .ok (.aload_n 0, 1) := by decide +kernel
theorem dX1_areFull_1 : decode cX1_areFull 1 = .ok (.getfield 15, 3) := by decide +kernel
theorem dX1_areFull_4 : decode cX1_areFull 4 = .ok (.bipush 8, 2) := by decide +kernel
theorem dX1_areFull_6 : decode cX1_areFull 6 = .ok (.if_icmp .lt 7, 3) := by decide +kernel
theorem dX1_areFull_9 : decode cX1_areFull 9 = .ok (.iconst 1, 1) := by decide +kernel
theorem dX1_areFull_10 : decode cX1_areFull 10 = .ok (.goto 4, 3) := by decide +kernel
theorem dX1_areFull_13 : decode cX1_areFull 13 = .ok (.iconst 0, 1) := by decide +kernel
theorem dX1_areFull_14 : decode cX1_areFull 14 = .ok (.ireturn, 1) := by decide +kernel
theorem dX1_told_0 : decode cX1_told 0 = .ok (.aload_n 0, 1) := by decide +kernel
theorem dX1_told_1 : decode cX1_told 1 = .ok (.getfield 11, 3) := by decide +kernel
theorem dX1_told_4 : decode cX1_told 4 = .ok (.iload_n 1, 1) := by decide +kernel
theorem dX1_told_5 : decode cX1_told 5 = .ok (.bipush 8, 2) := by decide +kernel
theorem dX1_told_7 : decode cX1_told 7 = .ok (.imul, 1) := by decide +kernel
theorem dX1_told_8 : decode cX1_told 8 = .ok (.iload_n 2, 1) := by decide +kernel
theorem dX1_told_9 : decode cX1_told 9 = .ok (.iadd, 1) := by decide +kernel
theorem dX1_told_10 : decode cX1_told 10 = .ok (.iaload, 1) := by decide +kernel
theorem dX1_told_11 : decode cX1_told 11 = .ok (.ireturn, 1) := by decide +kernel
theorem dX1_tell_0 : decode cX1_tell 0 = .ok (.aload_n 0, 1) := by decide +kernel
theorem dX1_tell_1 : decode cX1_tell 1 = .ok (.getfield 11, 3) := by decide +kernel
theorem dX1_tell_4 : decode cX1_tell 4 = .ok (.iload_n 1, 1) := by decide +kernel
theorem dX1_tell_5 : decode cX1_tell 5 = .ok (.bipush 8, 2) := by decide +kernel
theorem dX1_tell_7 : decode cX1_tell 7 = .ok (.imul, 1) := by decide +kernel
theorem dX1_tell_8 : decode cX1_tell 8 = .ok (.iload_n 2, 1) := by decide +kernel
theorem dX1_tell_9 : decode cX1_tell 9 = .ok (.iadd, 1) := by decide +kernel
theorem dX1_tell_10 : decode cX1_tell 10 = .ok (.iload_n 3, 1) := by decide +kernel
theorem dX1_tell_11 : decode cX1_tell 11 = .ok (.iastore, 1) := by decide +kernel
theorem dX1_tell_12 : decode cX1_tell 12 = .ok (.return_, 1) := by decide +kernel
theorem dX1_add_0 : decode cX1_add 0 = .ok (.aload_n 0, 1) := by decide +kernel
theorem dX1_add_1 : decode cX1_add 1 = .ok (.getfield 15, 3) := by decide +kernel
theorem dX1_add_4 : decode cX1_add 4 = .ok (.istore 4, 2) := by decide +kernel
theorem dX1_add_6 : decode cX1_add 6 = .ok (.aload_n 0, 1) := by decide +kernel
theorem dX1_add_7 : decode cX1_add 7 = .ok (.dup, 1) := by decide +kernel
theorem dX1_add_8 : decode cX1_add 8 = .ok (.getfield 15, 3) := by decide +kernel
theorem dX1_add_11 : decode cX1_add 11 = .ok (.iconst 1, 1) := by decide +kernel
theorem dX1_add_12 : decode cX1_add 12 = .ok (.iadd, 1) := by decide +kernel
theorem dX1_add_13 : decode cX1_add 13 = .ok (.putfield 15, 3) := by decide +kernel
theorem dX1_add_16 : decode cX1_add 16 = .ok (.aload_n 0, 1) := by decide +kernel
theorem dX1_add_17 : decode cX1_add 17 = .ok (.iload 4, 2) := by decide +kernel
theorem dX1_add_19 : decode cX1_add 19 = .ok (.iconst 0, 1) := by decide +kernel
theorem dX1_add_20 : decode cX1_add 20 = .ok (.iload_n 1, 1) := by decide +kernel
theorem dX1_add_21 : decode cX1_add 21 = .ok (.invokevirtual 19, 3) := by decide +kernel
theorem dX1_add_24 : decode cX1_add 24 = .ok (.aload_n 0, 1) := by decide +kernel
theorem dX1_add_25 : decode cX1_add 25 = .ok (.iload 4, 2) := by decide +kernel
theorem dX1_add_27 : decode cX1_add 27 = .ok (.iload_n 2, 1) := by decide +kernel
theorem dX1_add_28 : decode cX1_add 28 = .ok (.invokevirtual 23, 3) := by decide +kernel
theorem dX1_add_31 : decode cX1_add 31 = .ok (.aload_n 0, 1) := by decide +kernel
theorem dX1_add_32 : decode cX1_add 32 = .ok (.iload 4, 2) := by decide +kernel
theorem dX1_add_34 : decode cX1_add 34 = .ok (.iconst 3, 1) := by decide +kernel
theorem dX1_add_35 : decode cX1_add 35 = .ok (.iload_n 3, 1) := by decide +kernel
theorem dX1_add_36 : decode cX1_add 36 = .ok (.invokevirtual 19, 3) := by decide +kernel
theorem dX1_add_39 : decode cX1_add 39 = .ok (.iload 4, 2) := by decide +kernel
theorem dX1_add_41 : decode cX1_add 41 = .ok (.ireturn, 1) := by decide +kernel
theorem dX1_equip_0 : decode cX1_equip 0 = .ok (.aload_n 0, 1) := by decide +kernel
theorem dX1_equip_1 : decode cX1_equip 1 = .ok (.iload_n 1, 1) := by decide +kernel
theorem dX1_equip_2 : decode cX1_equip 2 = .ok (.iconst 4, 1) := by decide +kernel
theorem dX1_equip_3 : decode cX1_equip 3 = .ok (.iload_n 2, 1) := by decide +kernel
theorem dX1_equip_4 : decode cX1_equip 4 = .ok (.invokevirtual 19, 3) := by decide +kernel
theorem dX1_equip_7 : decode cX1_equip 7 = .ok (.aload_n 0, 1) := by decide +kernel
theorem dX1_equip_8 : decode cX1_equip 8 = .ok (.iload_n 1, 1) := by decide +kernel
theorem dX1_equip_9 : decode cX1_equip 9 = .ok (.iconst 5, 1) := by decide +kernel
theorem dX1_equip_10 : decode cX1_equip 10 = .ok (.iload_n 3, 1) := by decide +kernel
theorem dX1_equip_11 : decode cX1_equip 11 = .ok (.invokevirtual 19, 3) := by decide +kernel
theorem dX1_equip_14 : decode cX1_equip 14 = .ok (.aload_n 0, 1) := by decide +kernel
theorem dX1_equip_15 : decode cX1_equip 15 = .ok (.iload_n 1, 1) := by decide +kernel
theorem dX1_equip_16 : decode cX1_equip 16 = .ok (.bipush 6, 2) := by decide +kernel
theorem dX1_equip_18 : decode cX1_equip 18 = .ok (.iload 4, 2) := by decide +kernel
theorem dX1_equip_20 : decode cX1_equip 20 = .ok (.invokestatic 27, 3) := by decide +kernel
theorem dX1_equip_23 : decode cX1_equip 23 = .ok (.invokevirtual 19, 3) := by decide +kernel
theorem dX1_equip_26 : decode cX1_equip 26 = .ok (.aload_n 0, 1) := by decide +kernel
theorem dX1_equip_27 : decode cX1_equip 27 = .ok (.iload_n 1, 1) := by decide +kernel
theorem dX1_equip_28 : decode cX1_equip 28 = .ok (.bipush 7, 2) := by decide +kernel
theorem dX1_equip_30 : decode cX1_equip 30 = .ok (.iload 4, 2) := by decide +kernel
theorem dX1_equip_32 : decode cX1_equip 32 = .ok (.invokestatic 31, 3) := by decide +kernel
theorem dX1_equip_35 : decode cX1_equip 35 = .ok (.invokevirtual 19, 3) := by decide +kernel
theorem dX1_equip_38 : decode cX1_equip 38 = .ok (.return_, 1) := by decide +kernel
theorem dX1_spotOf_0 : decode cX1_spotOf 0 = .ok (.bipush 100, 2) := by decide +kernel
theorem dX1_spotOf_2 : decode cX1_spotOf 2 = .ok (.aload_n 0, 1) := by decide +kernel
theorem dX1_spotOf_3 : decode cX1_spotOf 3 = .ok (.iload_n 1, 1) := by decide +kernel
theorem dX1_spotOf_4 : decode cX1_spotOf 4 = .ok (.iconst 1, 1) := by decide +kernel
theorem dX1_spotOf_5 : decode cX1_spotOf 5 = .ok (.invokevirtual 34, 3) := by decide +kernel
theorem dX1_spotOf_8 : decode cX1_spotOf 8 = .ok (.imul, 1) := by decide +kernel
theorem dX1_spotOf_9 : decode cX1_spotOf 9 = .ok (.aload_n 0, 1) := by decide +kernel
theorem dX1_spotOf_10 : decode cX1_spotOf 10 = .ok (.iload_n 1, 1) := by decide +kernel
theorem dX1_spotOf_11 : decode cX1_spotOf 11 = .ok (.iconst 2, 1) := by decide +kernel
theorem dX1_spotOf_12 : decode cX1_spotOf 12 = .ok (.invokevirtual 34, 3) := by decide +kernel
theorem dX1_spotOf_15 : decode cX1_spotOf 15 = .ok (.iadd, 1) := by decide +kernel
theorem dX1_spotOf_16 : decode cX1_spotOf 16 = .ok (.ireturn, 1) := by decide +kernel
theorem dX1_stand_0 : decode cX1_stand 0 = .ok (.aload_n 0, 1) := by decide +kernel
theorem dX1_stand_1 : decode cX1_stand 1 = .ok (.iload_n 1, 1) := by decide +kernel
theorem dX1_stand_2 : decode cX1_stand 2 = .ok (.iconst 1, 1) := by decide +kernel
theorem dX1_stand_3 : decode cX1_stand 3 = .ok (.iload_n 2, 1) := by decide +kernel
theorem dX1_stand_4 : decode cX1_stand 4 = .ok (.bipush 100, 2) := by decide +kernel
theorem dX1_stand_6 : decode cX1_stand 6 = .ok (.idiv, 1) := by decide +kernel
theorem dX1_stand_7 : decode cX1_stand 7 = .ok (.invokevirtual 19, 3) := by decide +kernel
theorem dX1_stand_10 : decode cX1_stand 10 = .ok (.aload_n 0, 1) := by decide +kernel
theorem dX1_stand_11 : decode cX1_stand 11 = .ok (.iload_n 1, 1) := by decide +kernel
theorem dX1_stand_12 : decode cX1_stand 12 = .ok (.iconst 2, 1) := by decide +kernel
theorem dX1_stand_13 : decode cX1_stand 13 = .ok (.iload_n 2, 1) := by decide +kernel
theorem dX1_stand_14 : decode cX1_stand 14 = .ok (.bipush 100, 2) := by decide +kernel
theorem dX1_stand_16 : decode cX1_stand 16 = .ok (.irem, 1) := by decide +kernel
theorem dX1_stand_17 : decode cX1_stand 17 = .ok (.invokevirtual 19, 3) := by decide +kernel
theorem dX1_stand_20 : decode cX1_stand 20 = .ok (.return_, 1) := by decide +kernel
theorem dX1_fight_0 : decode cX1_fight 0 = .ok (.aload_n 0, 1) := by decide +kernel
theorem dX1_fight_1 : decode cX1_fight 1 = .ok (.iload_n 1, 1) := by decide +kernel
theorem dX1_fight_2 : decode cX1_fight 2 = .ok (.invokevirtual 38, 3) := by decide +kernel
theorem dX1_fight_5 : decode cX1_fight 5 = .ok (.ifCond .eq 17, 3) := by decide +kernel
theorem dX1_fight_8 : decode cX1_fight 8 = .ok (.aload_n 0, 1) := by decide +kernel
theorem dX1_fight_9 : decode cX1_fight 9 = .ok (.iload_n 1, 1) := by decide +kernel
theorem dX1_fight_10 : decode cX1_fight 10 = .ok (.iconst 0, 1) := by decide +kernel
theorem dX1_fight_11 : decode cX1_fight 11 = .ok (.invokevirtual 34, 3) := by decide +kernel
theorem dX1_fight_14 : decode cX1_fight 14 = .ok (.iconst 3, 1) := by decide +kernel
theorem dX1_fight_15 : decode cX1_fight 15 = .ok (.if_icmp .ne 7, 3) := by decide +kernel
theorem dX1_fight_18 : decode cX1_fight 18 = .ok (.iconst 1, 1) := by decide +kernel
theorem dX1_fight_19 : decode cX1_fight 19 = .ok (.goto 4, 3) := by decide +kernel
theorem dX1_fight_22 : decode cX1_fight 22 = .ok (.iconst 0, 1) := by decide +kernel
theorem dX1_fight_23 : decode cX1_fight 23 = .ok (.ireturn, 1) := by decide +kernel
theorem dX1_takeFrom_0 : decode cX1_takeFrom 0 = .ok (.aload_n 1, 1) := by decide +kernel
theorem dX1_takeFrom_1 : decode cX1_takeFrom 1 = .ok (.getfield 11, 3) := by decide +kernel
theorem dX1_takeFrom_4 : decode cX1_takeFrom 4 = .ok (.iconst 0, 1) := by decide +kernel
theorem dX1_takeFrom_5 : decode cX1_takeFrom 5 = .ok (.aload_n 0, 1) := by decide +kernel
theorem dX1_takeFrom_6 : decode cX1_takeFrom 6 = .ok (.getfield 11, 3) := by decide +kernel
theorem dX1_takeFrom_9 : decode cX1_takeFrom 9 = .ok (.iconst 0, 1) := by decide +kernel
theorem dX1_takeFrom_10 : decode cX1_takeFrom 10 = .ok (.aload_n 0, 1) := by decide +kernel
theorem dX1_takeFrom_11 : decode cX1_takeFrom 11 = .ok (.getfield 11, 3) := by decide +kernel
theorem dX1_takeFrom_14 : decode cX1_takeFrom 14 = .ok (.arraylength, 1) := by decide +kernel
theorem dX1_takeFrom_15 : decode cX1_takeFrom 15 = .ok (.invokestatic 42, 3) := by decide +kernel
theorem dX1_takeFrom_18 : decode cX1_takeFrom 18 = .ok (.aload_n 0, 1) := by decide +kernel
theorem dX1_takeFrom_19 : decode cX1_takeFrom 19 = .ok (.aload_n 1, 1) := by decide +kernel
theorem dX1_takeFrom_20 : decode cX1_takeFrom 20 = .ok (.getfield 15, 3) := by decide +kernel
theorem dX1_takeFrom_23 : decode cX1_takeFrom 23 = .ok (.putfield 15, 3) := by decide +kernel
theorem dX1_takeFrom_26 : decode cX1_takeFrom 26 = .ok (.return_, 1) := by decide +kernel
theorem dX2_init_0 : decode cX2_init 0 = .ok (.aload_n 0, 1) := by decide +kernel
theorem dX2_init_1 : decode cX2_init 1 = .ok (.invokespecial 3, 3) := by decide +kernel
theorem dX2_init_4 : decode cX2_init 4 = .ok (.aload_n 0, 1) := by decide +kernel
theorem dX2_init_5 : decode cX2_init 5 = .ok (.bipush 20, 2) := by decide +kernel
theorem dX2_init_7 : decode cX2_init 7 = .ok (.anewarray 9, 3) := by decide +kernel
theorem dX2_init_10 : decode cX2_init 10 = .ok (.putfield 11, 3) := by decide +kernel
theorem dX2_init_13 : decode cX2_init 13 = .ok (.return_, 1) := by decide +kernel
theorem dX2_keep_0 : decode cX2_keep 0 = .ok (.aload_n 0, 1) := by decide +kernel
theorem dX2_keep_1 : decode cX2_keep 1 = .ok (.getfield 11, 3) := by decide +kernel
theorem dX2_keep_4 : decode cX2_keep 4 = .ok (.aload_n 0, 1) := by decide +kernel
theorem dX2_keep_5 : decode cX2_keep 5 = .ok (.getfield 17, 3) := by decide +kernel
theorem dX2_keep_8 : decode cX2_keep 8 = .ok (.aaload, 1) := by decide +kernel
theorem dX2_keep_9 : decode cX2_keep 9 = .ok (.ifnonnull 19, 3) := by decide +kernel
theorem dX2_keep_12 : decode cX2_keep 12 = .ok (.aload_n 0, 1) := by decide +kernel
theorem dX2_keep_13 : decode cX2_keep 13 = .ok (.getfield 11, 3) := by decide +kernel
theorem dX2_keep_16 : decode cX2_keep 16 = .ok (.aload_n 0, 1) := by decide +kernel
theorem dX2_keep_17 : decode cX2_keep 17 = .ok (.getfield 17, 3) := by decide +kernel
theorem dX2_keep_20 : decode cX2_keep 20 = .ok (.new 9, 3) := by decide +kernel
theorem dX2_keep_23 : decode cX2_keep 23 = .ok (.dup, 1) := by decide +kernel
theorem dX2_keep_24 : decode cX2_keep 24 = .ok (.invokespecial 21, 3) := by decide +kernel
theorem dX2_keep_27 : decode cX2_keep 27 = .ok (.aastore, 1) := by decide +kernel
theorem dX2_keep_28 : decode cX2_keep 28 = .ok (.aload_n 0, 1) := by decide +kernel
theorem dX2_keep_29 : decode cX2_keep 29 = .ok (.getfield 11, 3) := by decide +kernel
theorem dX2_keep_32 : decode cX2_keep 32 = .ok (.aload_n 0, 1) := by decide +kernel
theorem dX2_keep_33 : decode cX2_keep 33 = .ok (.getfield 17, 3) := by decide +kernel
theorem dX2_keep_36 : decode cX2_keep 36 = .ok (.aaload, 1) := by decide +kernel
theorem dX2_keep_37 : decode cX2_keep 37 = .ok (.aload_n 1, 1) := by decide +kernel
theorem dX2_keep_38 : decode cX2_keep 38 = .ok (.invokevirtual 22, 3) := by decide +kernel
theorem dX2_keep_41 : decode cX2_keep 41 = .ok (.aload_n 0, 1) := by decide +kernel
theorem dX2_keep_42 : decode cX2_keep 42 = .ok (.aload_n 0, 1) := by decide +kernel
theorem dX2_keep_43 : decode cX2_keep 43 = .ok (.getfield 17, 3) := by decide +kernel
theorem dX2_keep_46 : decode cX2_keep 46 = .ok (.iconst 1, 1) := by decide +kernel
theorem dX2_keep_47 : decode cX2_keep 47 = .ok (.iadd, 1) := by decide +kernel
theorem dX2_keep_48 : decode cX2_keep 48 = .ok (.bipush 20, 2) := by decide +kernel
theorem dX2_keep_50 : decode cX2_keep 50 = .ok (.irem, 1) := by decide +kernel
theorem dX2_keep_51 : decode cX2_keep 51 = .ok (.putfield 17, 3) := by decide +kernel
theorem dX2_keep_54 : decode cX2_keep 54 = .ok (.aload_n 0, 1) := by decide +kernel
theorem dX2_keep_55 : decode cX2_keep 55 = .ok (.aload_n 0, 1) := by decide +kernel
theorem dX2_keep_56 : decode cX2_keep 56 = .ok (.getfield 26, 3) := by decide +kernel
theorem dX2_keep_59 : decode cX2_keep 59 = .ok (.iconst 1, 1) := by decide +kernel
theorem dX2_keep_60 : decode cX2_keep 60 = .ok (.iadd, 1) := by decide +kernel
theorem dX2_keep_61 : decode cX2_keep 61 = .ok (.bipush 20, 2) := by decide +kernel
theorem dX2_keep_63 : decode cX2_keep 63 = .ok (.invokestatic 29, 3) := by decide +kernel
theorem dX2_keep_66 : decode cX2_keep 66 = .ok (.putfield 26, 3) := by decide +kernel
theorem dX2_keep_69 : decode cX2_keep 69 = .ok (.return_, 1) := by decide +kernel
theorem dX2_giveBack_0 : decode cX2_giveBack 0 = .ok (.aload_n 0, 1) := by decide +kernel
theorem dX2_giveBack_1 : decode cX2_giveBack 1 = .ok (.getfield 17, 3) := by decide +kernel
theorem dX2_giveBack_4 : decode cX2_giveBack 4 = .ok (.bipush 20, 2) := by decide +kernel
theorem dX2_giveBack_6 : decode cX2_giveBack 6 = .ok (.iadd, 1) := by decide +kernel
theorem dX2_giveBack_7 : decode cX2_giveBack 7 = .ok (.iconst 1, 1) := by decide +kernel
theorem dX2_giveBack_8 : decode cX2_giveBack 8 = .ok (.isub, 1) := by decide +kernel
theorem dX2_giveBack_9 : decode cX2_giveBack 9 = .ok (.bipush 20, 2) := by decide +kernel
theorem dX2_giveBack_11 : decode cX2_giveBack 11 = .ok (.irem, 1) := by decide +kernel
theorem dX2_giveBack_12 : decode cX2_giveBack 12 = .ok (.istore_n 2, 1) := by decide +kernel
theorem dX2_giveBack_13 : decode cX2_giveBack 13 = .ok (.aload_n 0, 1) := by decide +kernel
theorem dX2_giveBack_14 : decode cX2_giveBack 14 = .ok (.getfield 26, 3) := by decide +kernel
theorem dX2_giveBack_17 : decode cX2_giveBack 17 = .ok (.ifCond .le 37, 3) := by decide +kernel
theorem dX2_giveBack_20 : decode cX2_giveBack 20 = .ok (.aload_n 0, 1) := by decide +kernel
theorem dX2_giveBack_21 : decode cX2_giveBack 21 = .ok (.getfield 11, 3) := by decide +kernel
theorem dX2_giveBack_24 : decode cX2_giveBack 24 = .ok (.iload_n 2, 1) := by decide +kernel
theorem dX2_giveBack_25 : decode cX2_giveBack 25 = .ok (.aaload, 1) := by decide +kernel
theorem dX2_giveBack_26 : decode cX2_giveBack 26 = .ok (.ifnull 28, 3) := by decide +kernel
theorem dX2_giveBack_29 : decode cX2_giveBack 29 = .ok (.aload_n 1, 1) := by decide +kernel
theorem dX2_giveBack_30 : decode cX2_giveBack 30 = .ok (.aload_n 0, 1) := by decide +kernel
theorem dX2_giveBack_31 : decode cX2_giveBack 31 = .ok (.getfield 11, 3) := by decide +kernel
theorem dX2_giveBack_34 : decode cX2_giveBack 34 = .ok (.iload_n 2, 1) := by decide +kernel
theorem dX2_giveBack_35 : decode cX2_giveBack 35 = .ok (.aaload, 1) := by decide +kernel
theorem dX2_giveBack_36 : decode cX2_giveBack 36 = .ok (.invokevirtual 22, 3) := by decide +kernel
theorem dX2_giveBack_39 : decode cX2_giveBack 39 = .ok (.aload_n 0, 1) := by decide +kernel
theorem dX2_giveBack_40 : decode cX2_giveBack 40 = .ok (.iload_n 2, 1) := by decide +kernel
theorem dX2_giveBack_41 : decode cX2_giveBack 41 = .ok (.putfield 17, 3) := by decide +kernel
theorem dX2_giveBack_44 : decode cX2_giveBack 44 = .ok (.aload_n 0, 1) := by decide +kernel
theorem dX2_giveBack_45 : decode cX2_giveBack 45 = .ok (.dup, 1) := by decide +kernel
theorem dX2_giveBack_46 : decode cX2_giveBack 46 = .ok (.getfield 26, 3) := by decide +kernel
theorem dX2_giveBack_49 : decode cX2_giveBack 49 = .ok (.iconst 1, 1) := by decide +kernel
theorem dX2_giveBack_50 : decode cX2_giveBack 50 = .ok (.isub, 1) := by decide +kernel
theorem dX2_giveBack_51 : decode cX2_giveBack 51 = .ok (.putfield 26, 3) := by decide +kernel
theorem dX2_giveBack_54 : decode cX2_giveBack 54 = .ok (.return_, 1) := by decide +kernel
theorem dX3_init_0 : decode cX3_init 0 = .ok (.aload_n 0, 1) := by decide +kernel
theorem dX3_init_1 : decode cX3_init 1 = .ok (.invokespecial 3, 3) := by decide +kernel
theorem dX3_init_4 : decode cX3_init 4 = .ok (.aload_n 0, 1) := by decide +kernel
theorem dX3_init_5 : decode cX3_init 5 = .ok (.sipush 180, 3) := by decide +kernel
theorem dX3_init_8 : decode cX3_init 8 = .ok (.newarray .int, 2) := by decide +kernel
theorem dX3_init_10 : decode cX3_init 10 = .ok (.putfield 9, 3) := by decide +kernel
theorem dX3_init_13 : decode cX3_init 13 = .ok (.return_, 1) := by decide +kernel
theorem dX3_begin_0 : decode cX3_begin 0 = .ok (.aload_n 0, 1) := by decide +kernel
theorem dX3_begin_1 : decode cX3_begin 1 = .ok (.iconst 0, 1) := by decide +kernel
theorem dX3_begin_2 : decode cX3_begin 2 = .ok (.putfield 15, 3) := by decide +kernel
theorem dX3_begin_5 : decode cX3_begin 5 = .ok (.return_, 1) := by decide +kernel
theorem dX3_addWord_0 : decode cX3_addWord 0 = .ok (.iconst 0, 1) := by decide +kernel
theorem dX3_addWord_1 : decode cX3_addWord 1 = .ok (.istore_n 3, 1) := by decide +kernel
theorem dX3_addWord_2 : decode cX3_addWord 2 = .ok (.iload_n 3, 1) := by decide +kernel
theorem dX3_addWord_3 : decode cX3_addWord 3 = .ok (.aload_n 1, 1) := by decide +kernel
theorem dX3_addWord_4 : decode cX3_addWord 4 = .ok (.getfield 19, 3) := by decide +kernel
theorem dX3_addWord_7 : decode cX3_addWord 7 = .ok (.iload_n 2, 1) := by decide +kernel
theorem dX3_addWord_8 : decode cX3_addWord 8 = .ok (.iaload, 1) := by decide +kernel
theorem dX3_addWord_9 : decode cX3_addWord 9 = .ok (.if_icmp .ge 19, 3) := by decide +kernel
theorem dX3_addWord_12 : decode cX3_addWord 12 = .ok (.aload_n 0, 1) := by decide +kernel
theorem dX3_addWord_13 : decode cX3_addWord 13 = .ok (.aload_n 1, 1) := by decide +kernel
theorem dX3_addWord_14 : decode cX3_addWord 14 = .ok (.iload_n 2, 1) := by decide +kernel
theorem dX3_addWord_15 : decode cX3_addWord 15 = .ok (.iload_n 3, 1) := by decide +kernel
theorem dX3_addWord_16 : decode cX3_addWord 16 = .ok (.invokevirtual 24, 3) := by decide +kernel
theorem dX3_addWord_19 : decode cX3_addWord 19 = .ok (.invokevirtual 28, 3) := by decide +kernel
theorem dX3_addWord_22 : decode cX3_addWord 22 = .ok (.iinc 3 1, 3) := by decide +kernel
theorem dX3_addWord_25 : decode cX3_addWord 25 = .ok (.goto (-23), 3) := by decide +kernel
theorem dX3_addWord_28 : decode cX3_addWord 28 = .ok (.return_, 1) := by decide +kernel
theorem dX3_addTurned_0 : decode cX3_addTurned 0 = .ok (.aload_n 1, 1) := by decide +kernel
theorem dX3_addTurned_1 : decode cX3_addTurned 1 = .ok (.getfield 19, 3) := by decide +kernel
theorem dX3_addTurned_4 : decode cX3_addTurned 4 = .ok (.iload_n 2, 1) := by decide +kernel
theorem dX3_addTurned_5 : decode cX3_addTurned 5 = .ok (.iaload, 1) := by decide +kernel
theorem dX3_addTurned_6 : decode cX3_addTurned 6 = .ok (.iconst 1, 1) := by decide +kernel
theorem dX3_addTurned_7 : decode cX3_addTurned 7 = .ok (.isub, 1) := by decide +kernel
theorem dX3_addTurned_8 : decode cX3_addTurned 8 = .ok (.istore_n 3, 1) := by decide +kernel
theorem dX3_addTurned_9 : decode cX3_addTurned 9 = .ok (.iload_n 3, 1) := by decide +kernel
theorem dX3_addTurned_10 : decode cX3_addTurned 10 = .ok (.ifCond .lt 22, 3) := by decide +kernel
theorem dX3_addTurned_13 : decode cX3_addTurned 13 = .ok (.aload_n 0, 1) := by decide +kernel
theorem dX3_addTurned_14 : decode cX3_addTurned 14 = .ok (.aload_n 1, 1) := by decide +kernel
theorem dX3_addTurned_15 : decode cX3_addTurned 15 = .ok (.iload_n 2, 1) := by decide +kernel
theorem dX3_addTurned_16 : decode cX3_addTurned 16 = .ok (.iload_n 3, 1) := by decide +kernel
theorem dX3_addTurned_17 : decode cX3_addTurned 17 = .ok (.invokevirtual 24, 3) := by decide +kernel
theorem dX3_addTurned_20 : decode cX3_addTurned 20 = .ok (.invokestatic 32, 3) := by decide +kernel
theorem dX3_addTurned_23 : decode cX3_addTurned 23 = .ok (.invokevirtual 28, 3) := by decide +kernel
theorem dX3_addTurned_26 : decode cX3_addTurned 26 = .ok (.iinc 3 (-1), 3) := by decide +kernel
theorem dX3_addTurned_29 : decode cX3_addTurned 29 = .ok (.goto (-20), 3) := by decide +kernel
theorem dX3_addTurned_32 : decode cX3_addTurned 32 = .ok (.return_, 1) := by decide +kernel
theorem dX3_add_0 : decode cX3_add 0 = .ok (.aload_n 0, 1) := by decide +kernel
theorem dX3_add_1 : decode cX3_add 1 = .ok (.getfield 15, 3) := by decide +kernel
theorem dX3_add_4 : decode cX3_add 4 = .ok (.ifCond .le 34, 3) := by decide +kernel
theorem dX3_add_7 : decode cX3_add 7 = .ok (.aload_n 0, 1) := by decide +kernel
theorem dX3_add_8 : decode cX3_add 8 = .ok (.getfield 9, 3) := by decide +kernel
theorem dX3_add_11 : decode cX3_add 11 = .ok (.aload_n 0, 1) := by decide +kernel
theorem dX3_add_12 : decode cX3_add 12 = .ok (.getfield 15, 3) := by decide +kernel
theorem dX3_add_15 : decode cX3_add 15 = .ok (.iconst 1, 1) := by decide +kernel
theorem dX3_add_16 : decode cX3_add 16 = .ok (.isub, 1) := by decide +kernel
theorem dX3_add_17 : decode cX3_add 17 = .ok (.iaload, 1) := by decide +kernel
theorem dX3_add_18 : decode cX3_add 18 = .ok (.iload_n 1, 1) := by decide +kernel
theorem dX3_add_19 : decode cX3_add 19 = .ok (.invokestatic 32, 3) := by decide +kernel
theorem dX3_add_22 : decode cX3_add 22 = .ok (.if_icmp .ne 16, 3) := by decide +kernel
theorem dX3_add_25 : decode cX3_add 25 = .ok (.aload_n 0, 1) := by decide +kernel
theorem dX3_add_26 : decode cX3_add 26 = .ok (.dup, 1) := by decide +kernel
theorem dX3_add_27 : decode cX3_add 27 = .ok (.getfield 15, 3) := by decide +kernel
theorem dX3_add_30 : decode cX3_add 30 = .ok (.iconst 1, 1) := by decide +kernel
theorem dX3_add_31 : decode cX3_add 31 = .ok (.isub, 1) := by decide +kernel
theorem dX3_add_32 : decode cX3_add 32 = .ok (.putfield 15, 3) := by decide +kernel
theorem dX3_add_35 : decode cX3_add 35 = .ok (.goto 35, 3) := by decide +kernel
theorem dX3_add_38 : decode cX3_add 38 = .ok (.aload_n 0, 1) := by decide +kernel
theorem dX3_add_39 : decode cX3_add 39 = .ok (.getfield 15, 3) := by decide +kernel
theorem dX3_add_42 : decode cX3_add 42 = .ok (.aload_n 0, 1) := by decide +kernel
theorem dX3_add_43 : decode cX3_add 43 = .ok (.getfield 9, 3) := by decide +kernel
theorem dX3_add_46 : decode cX3_add 46 = .ok (.arraylength, 1) := by decide +kernel
theorem dX3_add_47 : decode cX3_add 47 = .ok (.if_icmp .ge 23, 3) := by decide +kernel
theorem dX3_add_50 : decode cX3_add 50 = .ok (.aload_n 0, 1) := by decide +kernel
theorem dX3_add_51 : decode cX3_add 51 = .ok (.getfield 9, 3) := by decide +kernel
theorem dX3_add_54 : decode cX3_add 54 = .ok (.aload_n 0, 1) := by decide +kernel
theorem dX3_add_55 : decode cX3_add 55 = .ok (.getfield 15, 3) := by decide +kernel
theorem dX3_add_58 : decode cX3_add 58 = .ok (.iload_n 1, 1) := by decide +kernel
theorem dX3_add_59 : decode cX3_add 59 = .ok (.iastore, 1) := by decide +kernel
theorem dX3_add_60 : decode cX3_add 60 = .ok (.aload_n 0, 1) := by decide +kernel
theorem dX3_add_61 : decode cX3_add 61 = .ok (.dup, 1) := by decide +kernel
theorem dX3_add_62 : decode cX3_add 62 = .ok (.getfield 15, 3) := by decide +kernel
theorem dX3_add_65 : decode cX3_add 65 = .ok (.iconst 1, 1) := by decide +kernel
theorem dX3_add_66 : decode cX3_add 66 = .ok (.iadd, 1) := by decide +kernel
theorem dX3_add_67 : decode cX3_add 67 = .ok (.putfield 15, 3) := by decide +kernel
theorem dX3_add_70 : decode cX3_add 70 = .ok (.return_, 1) := by decide +kernel
theorem dX3_turned_0 : decode cX3_turned 0 = .ok (.iload_n 0, 1) := by decide +kernel
theorem dX3_turned_1 : decode cX3_turned 1 = .ok (.bipush 10, 2) := by decide +kernel
theorem dX3_turned_3 : decode cX3_turned 3 = .ok (.if_icmp .ge 10, 3) := by decide +kernel
theorem dX3_turned_6 : decode cX3_turned 6 = .ok (.iload_n 0, 1) := by decide +kernel
theorem dX3_turned_7 : decode cX3_turned 7 = .ok (.bipush 10, 2) := by decide +kernel
theorem dX3_turned_9 : decode cX3_turned 9 = .ok (.iadd, 1) := by decide +kernel
theorem dX3_turned_10 : decode cX3_turned 10 = .ok (.goto 7, 3) := by decide +kernel
theorem dX3_turned_13 : decode cX3_turned 13 = .ok (.iload_n 0, 1) := by decide +kernel
theorem dX3_turned_14 : decode cX3_turned 14 = .ok (.bipush 10, 2) := by decide +kernel
theorem dX3_turned_16 : decode cX3_turned 16 = .ok (.isub, 1) := by decide +kernel
theorem dX3_turned_17 : decode cX3_turned 17 = .ok (.ireturn, 1) := by decide +kernel
theorem dX4_init_0 : decode cX4_init 0 = .ok (.aload_n 0, 1) := by decide +kernel
theorem dX4_init_1 : decode cX4_init 1 = .ok (.invokespecial 3, 3) := by decide +kernel
theorem dX4_init_4 : decode cX4_init 4 = .ok (.aload_n 0, 1) := by decide +kernel
theorem dX4_init_5 : decode cX4_init 5 = .ok (.new 9, 3) := by decide +kernel
theorem dX4_init_8 : decode cX4_init 8 = .ok (.dup, 1) := by decide +kernel
theorem dX4_init_9 : decode cX4_init 9 = .ok (.invokespecial 11, 3) := by decide +kernel
theorem dX4_init_12 : decode cX4_init 12 = .ok (.putfield 12, 3) := by decide +kernel
theorem dX4_init_15 : decode cX4_init 15 = .ok (.aload_n 0, 1) := by decide +kernel
theorem dX4_init_16 : decode cX4_init 16 = .ok (.iconst 5, 1) := by decide +kernel
theorem dX4_init_17 : decode cX4_init 17 = .ok (.newarray .int, 2) := by decide +kernel
theorem dX4_init_19 : decode cX4_init 19 = .ok (.putfield 18, 3) := by decide +kernel
theorem dX4_init_22 : decode cX4_init 22 = .ok (.aload_n 0, 1) := by decide +kernel
theorem dX4_init_23 : decode cX4_init 23 = .ok (.bipush 25, 2) := by decide +kernel
theorem dX4_init_25 : decode cX4_init 25 = .ok (.newarray .int, 2) := by decide +kernel
theorem dX4_init_27 : decode cX4_init 27 = .ok (.putfield 22, 3) := by decide +kernel
theorem dX4_init_30 : decode cX4_init 30 = .ok (.aload_n 0, 1) := by decide +kernel
theorem dX4_init_31 : decode cX4_init 31 = .ok (.iconst 5, 1) := by decide +kernel
theorem dX4_init_32 : decode cX4_init 32 = .ok (.newarray .int, 2) := by decide +kernel
theorem dX4_init_34 : decode cX4_init 34 = .ok (.putfield 25, 3) := by decide +kernel
theorem dX4_init_37 : decode cX4_init 37 = .ok (.aload_n 0, 1) := by decide +kernel
theorem dX4_init_38 : decode cX4_init 38 = .ok (.iconst 5, 1) := by decide +kernel
theorem dX4_init_39 : decode cX4_init 39 = .ok (.newarray .int, 2) := by decide +kernel
theorem dX4_init_41 : decode cX4_init 41 = .ok (.putfield 28, 3) := by decide +kernel
theorem dX4_init_44 : decode cX4_init 44 = .ok (.aload_n 0, 1) := by decide +kernel
theorem dX4_init_45 : decode cX4_init 45 = .ok (.iconst 3, 1) := by decide +kernel
theorem dX4_init_46 : decode cX4_init 46 = .ok (.invokevirtual 31, 3) := by decide +kernel
theorem dX4_init_49 : decode cX4_init 49 = .ok (.return_, 1) := by decide +kernel
theorem dX4_begin_0 : decode cX4_begin 0 = .ok (.aload_n 0, 1) := by decide +kernel
theorem dX4_begin_1 : decode cX4_begin 1 = .ok (.iload_n 1, 1) := by decide +kernel
theorem dX4_begin_2 : decode cX4_begin 2 = .ok (.putfield 35, 3) := by decide +kernel
theorem dX4_begin_5 : decode cX4_begin 5 = .ok (.aload_n 0, 1) := by decide +kernel
theorem dX4_begin_6 : decode cX4_begin 6 = .ok (.iconst 0, 1) := by decide +kernel
theorem dX4_begin_7 : decode cX4_begin 7 = .ok (.putfield 39, 3) := by decide +kernel
theorem dX4_begin_10 : decode cX4_begin 10 = .ok (.aload_n 0, 1) := by decide +kernel
theorem dX4_begin_11 : decode cX4_begin 11 = .ok (.getfield 12, 3) := by decide +kernel
theorem dX4_begin_14 : decode cX4_begin 14 = .ok (.iload_n 1, 1) := by decide +kernel
theorem dX4_begin_15 : decode cX4_begin 15 = .ok (.invokevirtual 42, 3) := by decide +kernel
theorem dX4_begin_18 : decode cX4_begin 18 = .ok (.iconst 0, 1) := by decide +kernel
theorem dX4_begin_19 : decode cX4_begin 19 = .ok (.istore_n 2, 1) := by decide +kernel
theorem dX4_begin_20 : decode cX4_begin 20 = .ok (.iload_n 2, 1) := by decide +kernel
theorem dX4_begin_21 : decode cX4_begin 21 = .ok (.iconst 5, 1) := by decide +kernel
theorem dX4_begin_22 : decode cX4_begin 22 = .ok (.if_icmp .ge 30, 3) := by decide +kernel
theorem dX4_begin_25 : decode cX4_begin 25 = .ok (.aload_n 0, 1) := by decide +kernel
theorem dX4_begin_26 : decode cX4_begin 26 = .ok (.getfield 18, 3) := by decide +kernel
theorem dX4_begin_29 : decode cX4_begin 29 = .ok (.iload_n 2, 1) := by decide +kernel
theorem dX4_begin_30 : decode cX4_begin 30 = .ok (.iload_n 2, 1) := by decide +kernel
theorem dX4_begin_31 : decode cX4_begin 31 = .ok (.iastore, 1) := by decide +kernel
theorem dX4_begin_32 : decode cX4_begin 32 = .ok (.aload_n 0, 1) := by decide +kernel
theorem dX4_begin_33 : decode cX4_begin 33 = .ok (.getfield 25, 3) := by decide +kernel
theorem dX4_begin_36 : decode cX4_begin 36 = .ok (.iload_n 2, 1) := by decide +kernel
theorem dX4_begin_37 : decode cX4_begin 37 = .ok (.iconst 0, 1) := by decide +kernel
theorem dX4_begin_38 : decode cX4_begin 38 = .ok (.iastore, 1) := by decide +kernel
theorem dX4_begin_39 : decode cX4_begin 39 = .ok (.aload_n 0, 1) := by decide +kernel
theorem dX4_begin_40 : decode cX4_begin 40 = .ok (.getfield 28, 3) := by decide +kernel
theorem dX4_begin_43 : decode cX4_begin 43 = .ok (.iload_n 2, 1) := by decide +kernel
theorem dX4_begin_44 : decode cX4_begin 44 = .ok (.iconst 0, 1) := by decide +kernel
theorem dX4_begin_45 : decode cX4_begin 45 = .ok (.iastore, 1) := by decide +kernel
theorem dX4_begin_46 : decode cX4_begin 46 = .ok (.iinc 2 1, 3) := by decide +kernel
theorem dX4_begin_49 : decode cX4_begin 49 = .ok (.goto (-29), 3) := by decide +kernel
theorem dX4_begin_52 : decode cX4_begin 52 = .ok (.iconst 0, 1) := by decide +kernel
theorem dX4_begin_53 : decode cX4_begin 53 = .ok (.istore_n 2, 1) := by decide +kernel
theorem dX4_begin_54 : decode cX4_begin 54 = .ok (.iload_n 2, 1) := by decide +kernel
theorem dX4_begin_55 : decode cX4_begin 55 = .ok (.aload_n 0, 1) := by decide +kernel
theorem dX4_begin_56 : decode cX4_begin 56 = .ok (.getfield 22, 3) := by decide +kernel
theorem dX4_begin_59 : decode cX4_begin 59 = .ok (.arraylength, 1) := by decide +kernel
theorem dX4_begin_60 : decode cX4_begin 60 = .ok (.if_icmp .ge 16, 3) := by decide +kernel
theorem dX4_begin_63 : decode cX4_begin 63 = .ok (.aload_n 0, 1) := by decide +kernel
theorem dX4_begin_64 : decode cX4_begin 64 = .ok (.getfield 22, 3) := by decide +kernel
theorem dX4_begin_67 : decode cX4_begin 67 = .ok (.iload_n 2, 1) := by decide +kernel
theorem dX4_begin_68 : decode cX4_begin 68 = .ok (.iconst 0, 1) := by decide +kernel
theorem dX4_begin_69 : decode cX4_begin 69 = .ok (.iastore, 1) := by decide +kernel
theorem dX4_begin_70 : decode cX4_begin 70 = .ok (.iinc 2 1, 3) := by decide +kernel
theorem dX4_begin_73 : decode cX4_begin 73 = .ok (.goto (-19), 3) := by decide +kernel
theorem dX4_begin_76 : decode cX4_begin 76 = .ok (.return_, 1) := by decide +kernel
theorem dX4_has_0 : decode cX4_has 0 = .ok (.iload_n 1, 1) := by decide +kernel
theorem dX4_has_1 : decode cX4_has 1 = .ok (.ifCond .lt 15, 3) := by decide +kernel
theorem dX4_has_4 : decode cX4_has 4 = .ok (.iload_n 1, 1) := by decide +kernel
theorem dX4_has_5 : decode cX4_has 5 = .ok (.aload_n 0, 1) := by decide +kernel
theorem dX4_has_6 : decode cX4_has 6 = .ok (.getfield 35, 3) := by decide +kernel
theorem dX4_has_9 : decode cX4_has 9 = .ok (.if_icmp .ge 7, 3) := by decide +kernel
theorem dX4_has_12 : decode cX4_has 12 = .ok (.iconst 1, 1) := by decide +kernel
theorem dX4_has_13 : decode cX4_has 13 = .ok (.goto 4, 3) := by decide +kernel
theorem dX4_has_16 : decode cX4_has 16 = .ok (.iconst 0, 1) := by decide +kernel
theorem dX4_has_17 : decode cX4_has 17 = .ok (.ireturn, 1) := by decide +kernel
theorem dX4_isCut_0 : decode cX4_isCut 0 = .ok (.aload_n 0, 1) := by decide +kernel
theorem dX4_isCut_1 : decode cX4_isCut 1 = .ok (.getfield 28, 3) := by decide +kernel
theorem dX4_isCut_4 : decode cX4_isCut 4 = .ok (.iload_n 1, 1) := by decide +kernel
theorem dX4_isCut_5 : decode cX4_isCut 5 = .ok (.iaload, 1) := by decide +kernel
theorem dX4_isCut_6 : decode cX4_isCut 6 = .ok (.bipush 20, 2) := by decide +kernel
theorem dX4_isCut_8 : decode cX4_isCut 8 = .ok (.if_icmp .lt 7, 3) := by decide +kernel
theorem dX4_isCut_11 : decode cX4_isCut 11 = .ok (.iconst 1, 1) := by decide +kernel
theorem dX4_isCut_12 : decode cX4_isCut 12 = .ok (.goto 4, 3) := by decide +kernel
theorem dX4_isCut_15 : decode cX4_isCut 15 = .ok (.iconst 0, 1) := by decide +kernel
theorem dX4_isCut_16 : decode cX4_isCut 16 = .ok (.ireturn, 1) := by decide +kernel
theorem dX4_twistOf_0 : decode cX4_twistOf 0 = .ok (.aload_n 0, 1) := by decide +kernel
theorem dX4_twistOf_1 : decode cX4_twistOf 1 = .ok (.getfield 22, 3) := by decide +kernel
theorem dX4_twistOf_4 : decode cX4_twistOf 4 = .ok (.iload_n 1, 1) := by decide +kernel
theorem dX4_twistOf_5 : decode cX4_twistOf 5 = .ok (.iload_n 2, 1) := by decide +kernel
theorem dX4_twistOf_6 : decode cX4_twistOf 6 = .ok (.invokestatic 43, 3) := by decide +kernel
theorem dX4_twistOf_9 : decode cX4_twistOf 9 = .ok (.iaload, 1) := by decide +kernel
theorem dX4_twistOf_10 : decode cX4_twistOf 10 = .ok (.ireturn, 1) := by decide +kernel
theorem dX4_pair_0 : decode cX4_pair 0 = .ok (.iconst 5, 1) := by decide +kernel
theorem dX4_pair_1 : decode cX4_pair 1 = .ok (.iload_n 0, 1) := by decide +kernel
theorem dX4_pair_2 : decode cX4_pair 2 = .ok (.iload_n 1, 1) := by decide +kernel
theorem dX4_pair_3 : decode cX4_pair 3 = .ok (.invokestatic 47, 3) := by decide +kernel
theorem dX4_pair_6 : decode cX4_pair 6 = .ok (.imul, 1) := by decide +kernel
theorem dX4_pair_7 : decode cX4_pair 7 = .ok (.iload_n 0, 1) := by decide +kernel
theorem dX4_pair_8 : decode cX4_pair 8 = .ok (.iload_n 1, 1) := by decide +kernel
theorem dX4_pair_9 : decode cX4_pair 9 = .ok (.invokestatic 52, 3) := by decide +kernel
theorem dX4_pair_12 : decode cX4_pair 12 = .ok (.iadd, 1) := by decide +kernel
theorem dX4_pair_13 : decode cX4_pair 13 = .ok (.ireturn, 1) := by decide +kernel
theorem dX4_settle_0 : decode cX4_settle 0 = .ok (.aload_n 0, 1) := by decide +kernel
theorem dX4_settle_1 : decode cX4_settle 1 = .ok (.getfield 18, 3) := by decide +kernel
theorem dX4_settle_4 : decode cX4_settle 4 = .ok (.iload_n 1, 1) := by decide +kernel
theorem dX4_settle_5 : decode cX4_settle 5 = .ok (.iaload, 1) := by decide +kernel
theorem dX4_settle_6 : decode cX4_settle 6 = .ok (.istore 5, 2) := by decide +kernel
theorem dX4_settle_8 : decode cX4_settle 8 = .ok (.aload_n 0, 1) := by decide +kernel
theorem dX4_settle_9 : decode cX4_settle 9 = .ok (.getfield 18, 3) := by decide +kernel
theorem dX4_settle_12 : decode cX4_settle 12 = .ok (.iload_n 1, 1) := by decide +kernel
theorem dX4_settle_13 : decode cX4_settle 13 = .ok (.iconst 1, 1) := by decide +kernel
theorem dX4_settle_14 : decode cX4_settle 14 = .ok (.iadd, 1) := by decide +kernel
theorem dX4_settle_15 : decode cX4_settle 15 = .ok (.iaload, 1) := by decide +kernel
theorem dX4_settle_16 : decode cX4_settle 16 = .ok (.istore 6, 2) := by decide +kernel
theorem dX4_settle_18 : decode cX4_settle 18 = .ok (.aload_n 0, 1) := by decide +kernel
theorem dX4_settle_19 : decode cX4_settle 19 = .ok (.getfield 12, 3) := by decide +kernel
theorem dX4_settle_22 : decode cX4_settle 22 = .ok (.iload_n 1, 1) := by decide +kernel
theorem dX4_settle_23 : decode cX4_settle 23 = .ok (.iload_n 2, 1) := by decide +kernel
theorem dX4_settle_24 : decode cX4_settle 24 = .ok (.aload_n 3, 1) := by decide +kernel
theorem dX4_settle_25 : decode cX4_settle 25 = .ok (.invokevirtual 55, 3) := by decide +kernel
theorem dX4_settle_28 : decode cX4_settle 28 = .ok (.aload_n 0, 1) := by decide +kernel
theorem dX4_settle_29 : decode cX4_settle 29 = .ok (.getfield 18, 3) := by decide +kernel
theorem dX4_settle_32 : decode cX4_settle 32 = .ok (.iload_n 1, 1) := by decide +kernel
theorem dX4_settle_33 : decode cX4_settle 33 = .ok (.iload 6, 2) := by decide +kernel
theorem dX4_settle_35 : decode cX4_settle 35 = .ok (.iastore, 1) := by decide +kernel
theorem dX4_settle_36 : decode cX4_settle 36 = .ok (.aload_n 0, 1) := by decide +kernel
theorem dX4_settle_37 : decode cX4_settle 37 = .ok (.getfield 18, 3) := by decide +kernel
theorem dX4_settle_40 : decode cX4_settle 40 = .ok (.iload_n 1, 1) := by decide +kernel
theorem dX4_settle_41 : decode cX4_settle 41 = .ok (.iconst 1, 1) := by decide +kernel
theorem dX4_settle_42 : decode cX4_settle 42 = .ok (.iadd, 1) := by decide +kernel
theorem dX4_settle_43 : decode cX4_settle 43 = .ok (.iload 5, 2) := by decide +kernel
theorem dX4_settle_45 : decode cX4_settle 45 = .ok (.iastore, 1) := by decide +kernel
theorem dX4_settle_46 : decode cX4_settle 46 = .ok (.aload_n 0, 1) := by decide +kernel
theorem dX4_settle_47 : decode cX4_settle 47 = .ok (.getfield 22, 3) := by decide +kernel
theorem dX4_settle_50 : decode cX4_settle 50 = .ok (.iload 5, 2) := by decide +kernel
theorem dX4_settle_52 : decode cX4_settle 52 = .ok (.iload 6, 2) := by decide +kernel
theorem dX4_settle_54 : decode cX4_settle 54 = .ok (.invokestatic 43, 3) := by decide +kernel
theorem dX4_settle_57 : decode cX4_settle 57 = .ok (.dup2, 1) := by decide +kernel
theorem dX4_settle_58 : decode cX4_settle 58 = .ok (.iaload, 1) := by decide +kernel
theorem dX4_settle_59 : decode cX4_settle 59 = .ok (.iload_n 2, 1) := by decide +kernel
theorem dX4_settle_60 : decode cX4_settle 60 = .ok (.ifCond .eq 7, 3) := by decide +kernel
theorem dX4_settle_63 : decode cX4_settle 63 = .ok (.iconst 1, 1) := by decide +kernel
theorem dX4_settle_64 : decode cX4_settle 64 = .ok (.goto 4, 3) := by decide +kernel
theorem dX4_settle_67 : decode cX4_settle 67 = .ok (.iconst (-1), 1) := by decide +kernel
theorem dX4_settle_68 : decode cX4_settle 68 = .ok (.iadd, 1) := by decide +kernel
theorem dX4_settle_69 : decode cX4_settle 69 = .ok (.iastore, 1) := by decide +kernel
theorem dX4_settle_70 : decode cX4_settle 70 = .ok (.aload_n 0, 1) := by decide +kernel
theorem dX4_settle_71 : decode cX4_settle 71 = .ok (.getfield 28, 3) := by decide +kernel
theorem dX4_settle_74 : decode cX4_settle 74 = .ok (.iload 5, 2) := by decide +kernel
theorem dX4_settle_76 : decode cX4_settle 76 = .ok (.dup2, 1) := by decide +kernel
theorem dX4_settle_77 : decode cX4_settle 77 = .ok (.iaload, 1) := by decide +kernel
theorem dX4_settle_78 : decode cX4_settle 78 = .ok (.aload_n 0, 1) := by decide +kernel
theorem dX4_settle_79 : decode cX4_settle 79 = .ok (.iload 6, 2) := by decide +kernel
theorem dX4_settle_81 : decode cX4_settle 81 = .ok (.aload 4, 2) := by decide +kernel
theorem dX4_settle_83 : decode cX4_settle 83 = .ok (.invokevirtual 59, 3) := by decide +kernel
theorem dX4_settle_86 : decode cX4_settle 86 = .ok (.iadd, 1) := by decide +kernel
theorem dX4_settle_87 : decode cX4_settle 87 = .ok (.iastore, 1) := by decide +kernel
theorem dX4_settle_88 : decode cX4_settle 88 = .ok (.aload_n 0, 1) := by decide +kernel
theorem dX4_settle_89 : decode cX4_settle 89 = .ok (.getfield 28, 3) := by decide +kernel
theorem dX4_settle_92 : decode cX4_settle 92 = .ok (.iload 6, 2) := by decide +kernel
theorem dX4_settle_94 : decode cX4_settle 94 = .ok (.dup2, 1) := by decide +kernel
theorem dX4_settle_95 : decode cX4_settle 95 = .ok (.iaload, 1) := by decide +kernel
theorem dX4_settle_96 : decode cX4_settle 96 = .ok (.aload_n 0, 1) := by decide +kernel
theorem dX4_settle_97 : decode cX4_settle 97 = .ok (.iload 5, 2) := by decide +kernel
theorem dX4_settle_99 : decode cX4_settle 99 = .ok (.aload 4, 2) := by decide +kernel
theorem dX4_settle_101 : decode cX4_settle 101 = .ok (.invokevirtual 59, 3) := by decide +kernel
theorem dX4_settle_104 : decode cX4_settle 104 = .ok (.iadd, 1) := by decide +kernel
theorem dX4_settle_105 : decode cX4_settle 105 = .ok (.iastore, 1) := by decide +kernel
theorem dX4_settle_106 : decode cX4_settle 106 = .ok (.aload_n 0, 1) := by decide +kernel
theorem dX4_settle_107 : decode cX4_settle 107 = .ok (.dup, 1) := by decide +kernel
theorem dX4_settle_108 : decode cX4_settle 108 = .ok (.getfield 39, 3) := by decide +kernel
theorem dX4_settle_111 : decode cX4_settle 111 = .ok (.iconst 1, 1) := by decide +kernel
theorem dX4_settle_112 : decode cX4_settle 112 = .ok (.iadd, 1) := by decide +kernel
theorem dX4_settle_113 : decode cX4_settle 113 = .ok (.putfield 39, 3) := by decide +kernel
theorem dX4_settle_116 : decode cX4_settle 116 = .ok (.return_, 1) := by decide +kernel
theorem dX4_biteOf_0 : decode cX4_biteOf 0 = .ok (.aload_n 2, 1) := by decide +kernel
theorem dX4_biteOf_1 : decode cX4_biteOf 1 = .ok (.iload_n 1, 1) := by decide +kernel
theorem dX4_biteOf_2 : decode cX4_biteOf 2 = .ok (.invokevirtual 63, 3) := by decide +kernel
theorem dX4_biteOf_5 : decode cX4_biteOf 5 = .ok (.ifCond .eq 14, 3) := by decide +kernel
theorem dX4_biteOf_8 : decode cX4_biteOf 8 = .ok (.iconst 2, 1) := by decide +kernel
theorem dX4_biteOf_9 : decode cX4_biteOf 9 = .ok (.aload_n 0, 1) := by decide +kernel
theorem dX4_biteOf_10 : decode cX4_biteOf 10 = .ok (.getfield 25, 3) := by decide +kernel
theorem dX4_biteOf_13 : decode cX4_biteOf 13 = .ok (.iload_n 1, 1) := by decide +kernel
theorem dX4_biteOf_14 : decode cX4_biteOf 14 = .ok (.iaload, 1) := by decide +kernel
theorem dX4_biteOf_15 : decode cX4_biteOf 15 = .ok (.imul, 1) := by decide +kernel
theorem dX4_biteOf_16 : decode cX4_biteOf 16 = .ok (.goto 9, 3) := by decide +kernel
theorem dX4_biteOf_19 : decode cX4_biteOf 19 = .ok (.aload_n 0, 1) := by decide +kernel
theorem dX4_biteOf_20 : decode cX4_biteOf 20 = .ok (.getfield 25, 3) := by decide +kernel
theorem dX4_biteOf_23 : decode cX4_biteOf 23 = .ok (.iload_n 1, 1) := by decide +kernel
theorem dX4_biteOf_24 : decode cX4_biteOf 24 = .ok (.iaload, 1) := by decide +kernel
theorem dX4_biteOf_25 : decode cX4_biteOf 25 = .ok (.ireturn, 1) := by decide +kernel
theorem dX4_takeFrom_0 : decode cX4_takeFrom 0 = .ok (.aload_n 0, 1) := by decide +kernel
theorem dX4_takeFrom_1 : decode cX4_takeFrom 1 = .ok (.getfield 12, 3) := by decide +kernel
theorem dX4_takeFrom_4 : decode cX4_takeFrom 4 = .ok (.aload_n 1, 1) := by decide +kernel
theorem dX4_takeFrom_5 : decode cX4_takeFrom 5 = .ok (.getfield 12, 3) := by decide +kernel
theorem dX4_takeFrom_8 : decode cX4_takeFrom 8 = .ok (.invokevirtual 69, 3) := by decide +kernel
theorem dX4_takeFrom_11 : decode cX4_takeFrom 11 = .ok (.aload_n 1, 1) := by decide +kernel
theorem dX4_takeFrom_12 : decode cX4_takeFrom 12 = .ok (.getfield 18, 3) := by decide +kernel
theorem dX4_takeFrom_15 : decode cX4_takeFrom 15 = .ok (.iconst 0, 1) := by decide +kernel
theorem dX4_takeFrom_16 : decode cX4_takeFrom 16 = .ok (.aload_n 0, 1) := by decide +kernel
theorem dX4_takeFrom_17 : decode cX4_takeFrom 17 = .ok (.getfield 18, 3) := by decide +kernel
theorem dX4_takeFrom_20 : decode cX4_takeFrom 20 = .ok (.iconst 0, 1) := by decide +kernel
theorem dX4_takeFrom_21 : decode cX4_takeFrom 21 = .ok (.iconst 5, 1) := by decide +kernel
theorem dX4_takeFrom_22 : decode cX4_takeFrom 22 = .ok (.invokestatic 73, 3) := by decide +kernel
theorem dX4_takeFrom_25 : decode cX4_takeFrom 25 = .ok (.aload_n 1, 1) := by decide +kernel
theorem dX4_takeFrom_26 : decode cX4_takeFrom 26 = .ok (.getfield 22, 3) := by decide +kernel
theorem dX4_takeFrom_29 : decode cX4_takeFrom 29 = .ok (.iconst 0, 1) := by decide +kernel
theorem dX4_takeFrom_30 : decode cX4_takeFrom 30 = .ok (.aload_n 0, 1) := by decide +kernel
theorem dX4_takeFrom_31 : decode cX4_takeFrom 31 = .ok (.getfield 22, 3) := by decide +kernel
theorem dX4_takeFrom_34 : decode cX4_takeFrom 34 = .ok (.iconst 0, 1) := by decide +kernel
theorem dX4_takeFrom_35 : decode cX4_takeFrom 35 = .ok (.aload_n 0, 1) := by decide +kernel
theorem dX4_takeFrom_36 : decode cX4_takeFrom 36 = .ok (.getfield 22, 3) := by decide +kernel
theorem dX4_takeFrom_39 : decode cX4_takeFrom 39 = .ok (.arraylength, 1) := by decide +kernel
theorem dX4_takeFrom_40 : decode cX4_takeFrom 40 = .ok (.invokestatic 73, 3) := by decide +kernel
theorem dX4_takeFrom_43 : decode cX4_takeFrom 43 = .ok (.aload_n 1, 1) := by decide +kernel
theorem dX4_takeFrom_44 : decode cX4_takeFrom 44 = .ok (.getfield 25, 3) := by decide +kernel
theorem dX4_takeFrom_47 : decode cX4_takeFrom 47 = .ok (.iconst 0, 1) := by decide +kernel
theorem dX4_takeFrom_48 : decode cX4_takeFrom 48 = .ok (.aload_n 0, 1) := by decide +kernel
theorem dX4_takeFrom_49 : decode cX4_takeFrom 49 = .ok (.getfield 25, 3) := by decide +kernel
theorem dX4_takeFrom_52 : decode cX4_takeFrom 52 = .ok (.iconst 0, 1) := by decide +kernel
theorem dX4_takeFrom_53 : decode cX4_takeFrom 53 = .ok (.iconst 5, 1) := by decide +kernel
theorem dX4_takeFrom_54 : decode cX4_takeFrom 54 = .ok (.invokestatic 73, 3) := by decide +kernel
theorem dX4_takeFrom_57 : decode cX4_takeFrom 57 = .ok (.aload_n 1, 1) := by decide +kernel
theorem dX4_takeFrom_58 : decode cX4_takeFrom 58 = .ok (.getfield 28, 3) := by decide +kernel
theorem dX4_takeFrom_61 : decode cX4_takeFrom 61 = .ok (.iconst 0, 1) := by decide +kernel
theorem dX4_takeFrom_62 : decode cX4_takeFrom 62 = .ok (.aload_n 0, 1) := by decide +kernel
theorem dX4_takeFrom_63 : decode cX4_takeFrom 63 = .ok (.getfield 28, 3) := by decide +kernel
theorem dX4_takeFrom_66 : decode cX4_takeFrom 66 = .ok (.iconst 0, 1) := by decide +kernel
theorem dX4_takeFrom_67 : decode cX4_takeFrom 67 = .ok (.iconst 5, 1) := by decide +kernel
theorem dX4_takeFrom_68 : decode cX4_takeFrom 68 = .ok (.invokestatic 73, 3) := by decide +kernel
theorem dX4_takeFrom_71 : decode cX4_takeFrom 71 = .ok (.aload_n 0, 1) := by decide +kernel
theorem dX4_takeFrom_72 : decode cX4_takeFrom 72 = .ok (.aload_n 1, 1) := by decide +kernel
theorem dX4_takeFrom_73 : decode cX4_takeFrom 73 = .ok (.getfield 35, 3) := by decide +kernel
theorem dX4_takeFrom_76 : decode cX4_takeFrom 76 = .ok (.putfield 35, 3) := by decide +kernel
theorem dX4_takeFrom_79 : decode cX4_takeFrom 79 = .ok (.aload_n 0, 1) := by decide +kernel
theorem dX4_takeFrom_80 : decode cX4_takeFrom 80 = .ok (.aload_n 1, 1) := by decide +kernel
theorem dX4_takeFrom_81 : decode cX4_takeFrom 81 = .ok (.getfield 39, 3) := by decide +kernel
theorem dX4_takeFrom_84 : decode cX4_takeFrom 84 = .ok (.putfield 39, 3) := by decide +kernel
theorem dX4_takeFrom_87 : decode cX4_takeFrom 87 = .ok (.return_, 1) := by decide +kernel
theorem dX5_init_0 : decode cX5_init 0 = .ok (.aload_n 0, 1) := by decide +kernel
theorem dX5_init_1 : decode cX5_init 1 = .ok (.invokespecial 3, 3) := by decide +kernel
theorem dX5_init_4 : decode cX5_init 4 = .ok (.aload_n 0, 1) := by decide +kernel
theorem dX5_init_5 : decode cX5_init 5 = .ok (.bipush 40, 2) := by decide +kernel
theorem dX5_init_7 : decode cX5_init 7 = .ok (.newarray .int, 2) := by decide +kernel
theorem dX5_init_9 : decode cX5_init 9 = .ok (.putfield 9, 3) := by decide +kernel
theorem dX5_init_12 : decode cX5_init 12 = .ok (.return_, 1) := by decide +kernel
theorem dX5_begin_0 : decode cX5_begin 0 = .ok (.aload_n 0, 1) := by decide +kernel
theorem dX5_begin_1 : decode cX5_begin 1 = .ok (.iload_n 1, 1) := by decide +kernel
theorem dX5_begin_2 : decode cX5_begin 2 = .ok (.putfield 15, 3) := by decide +kernel
theorem dX5_begin_5 : decode cX5_begin 5 = .ok (.aload_n 0, 1) := by decide +kernel
theorem dX5_begin_6 : decode cX5_begin 6 = .ok (.iload_n 1, 1) := by decide +kernel
theorem dX5_begin_7 : decode cX5_begin 7 = .ok (.ifCond .ne 7, 3) := by decide +kernel
theorem dX5_begin_10 : decode cX5_begin 10 = .ok (.iconst 0, 1) := by decide +kernel
theorem dX5_begin_11 : decode cX5_begin 11 = .ok (.goto 4, 3) := by decide +kernel
theorem dX5_begin_14 : decode cX5_begin 14 = .ok (.iload_n 2, 1) := by decide +kernel
theorem dX5_begin_15 : decode cX5_begin 15 = .ok (.putfield 19, 3) := by decide +kernel
theorem dX5_begin_18 : decode cX5_begin 18 = .ok (.iconst 0, 1) := by decide +kernel
theorem dX5_begin_19 : decode cX5_begin 19 = .ok (.istore_n 3, 1) := by decide +kernel
theorem dX5_begin_20 : decode cX5_begin 20 = .ok (.iload_n 3, 1) := by decide +kernel
theorem dX5_begin_21 : decode cX5_begin 21 = .ok (.aload_n 0, 1) := by decide +kernel
theorem dX5_begin_22 : decode cX5_begin 22 = .ok (.getfield 19, 3) := by decide +kernel
theorem dX5_begin_25 : decode cX5_begin 25 = .ok (.if_icmp .ge 16, 3) := by decide +kernel
theorem dX5_begin_28 : decode cX5_begin 28 = .ok (.aload_n 0, 1) := by decide +kernel
theorem dX5_begin_29 : decode cX5_begin 29 = .ok (.getfield 9, 3) := by decide +kernel
theorem dX5_begin_32 : decode cX5_begin 32 = .ok (.iload_n 3, 1) := by decide +kernel
theorem dX5_begin_33 : decode cX5_begin 33 = .ok (.iconst 0, 1) := by decide +kernel
theorem dX5_begin_34 : decode cX5_begin 34 = .ok (.iastore, 1) := by decide +kernel
theorem dX5_begin_35 : decode cX5_begin 35 = .ok (.iinc 3 1, 3) := by decide +kernel
theorem dX5_begin_38 : decode cX5_begin 38 = .ok (.goto (-18), 3) := by decide +kernel
theorem dX5_begin_41 : decode cX5_begin 41 = .ok (.return_, 1) := by decide +kernel
theorem dX5_isMissing_0 : decode cX5_isMissing 0 = .ok (.aload_n 0, 1) := by decide +kernel
theorem dX5_isMissing_1 : decode cX5_isMissing 1 = .ok (.getfield 15, 3) := by decide +kernel
theorem dX5_isMissing_4 : decode cX5_isMissing 4 = .ok (.ifCond .ne 7, 3) := by decide +kernel
theorem dX5_isMissing_7 : decode cX5_isMissing 7 = .ok (.iconst 1, 1) := by decide +kernel
theorem dX5_isMissing_8 : decode cX5_isMissing 8 = .ok (.goto 4, 3) := by decide +kernel
theorem dX5_isMissing_11 : decode cX5_isMissing 11 = .ok (.iconst 0, 1) := by decide +kernel
theorem dX5_isMissing_12 : decode cX5_isMissing 12 = .ok (.ireturn, 1) := by decide +kernel
theorem dX5_write_0 : decode cX5_write 0 = .ok (.bipush 32, 2) := by decide +kernel
theorem dX5_write_2 : decode cX5_write 2 = .ok (.aload_n 0, 1) := by decide +kernel
theorem dX5_write_3 : decode cX5_write 3 = .ok (.getfield 15, 3) := by decide +kernel
theorem dX5_write_6 : decode cX5_write 6 = .ok (.isub, 1) := by decide +kernel
theorem dX5_write_7 : decode cX5_write 7 = .ok (.istore_n 3, 1) := by decide +kernel
theorem dX5_write_8 : decode cX5_write 8 = .ok (.aload_n 0, 1) := by decide +kernel
theorem dX5_write_9 : decode cX5_write 9 = .ok (.getfield 9, 3) := by decide +kernel
theorem dX5_write_12 : decode cX5_write 12 = .ok (.iload_n 1, 1) := by decide +kernel
theorem dX5_write_13 : decode cX5_write 13 = .ok (.iload_n 2, 1) := by decide +kernel
theorem dX5_write_14 : decode cX5_write 14 = .ok (.iload_n 3, 1) := by decide +kernel
theorem dX5_write_15 : decode cX5_write 15 = .ok (.ishl, 1) := by decide +kernel
theorem dX5_write_16 : decode cX5_write 16 = .ok (.iload_n 3, 1) := by decide +kernel
theorem dX5_write_17 : decode cX5_write 17 = .ok (.ishr, 1) := by decide +kernel
theorem dX5_write_18 : decode cX5_write 18 = .ok (.iastore, 1) := by decide +kernel
theorem dX5_write_19 : decode cX5_write 19 = .ok (.return_, 1) := by decide +kernel
theorem dX5_isWithin_0 : decode cX5_isWithin 0 = .ok (.iconst 0, 1) := by decide +kernel
theorem dX5_isWithin_1 : decode cX5_isWithin 1 = .ok (.istore_n 2, 1) := by decide +kernel
theorem dX5_isWithin_2 : decode cX5_isWithin 2 = .ok (.iload_n 2, 1) := by decide +kernel
theorem dX5_isWithin_3 : decode cX5_isWithin 3 = .ok (.aload_n 0, 1) := by decide +kernel
theorem dX5_isWithin_4 : decode cX5_isWithin 4 = .ok (.getfield 19, 3) := by decide +kernel
theorem dX5_isWithin_7 : decode cX5_isWithin 7 = .ok (.if_icmp .ge 30, 3) := by decide +kernel
theorem dX5_isWithin_10 : decode cX5_isWithin 10 = .ok (.aload_n 0, 1) := by decide +kernel
theorem dX5_isWithin_11 : decode cX5_isWithin 11 = .ok (.getfield 9, 3) := by decide +kernel
theorem dX5_isWithin_14 : decode cX5_isWithin 14 = .ok (.iload_n 2, 1) := by decide +kernel
theorem dX5_isWithin_15 : decode cX5_isWithin 15 = .ok (.iaload, 1) := by decide +kernel
theorem dX5_isWithin_16 : decode cX5_isWithin 16 = .ok (.ifCond .lt 13, 3) := by decide +kernel
theorem dX5_isWithin_19 : decode cX5_isWithin 19 = .ok (.aload_n 0, 1) := by decide +kernel
theorem dX5_isWithin_20 : decode cX5_isWithin 20 = .ok (.getfield 9, 3) := by decide +kernel
theorem dX5_isWithin_23 : decode cX5_isWithin 23 = .ok (.iload_n 2, 1) := by decide +kernel
theorem dX5_isWithin_24 : decode cX5_isWithin 24 = .ok (.iaload, 1) := by decide +kernel
theorem dX5_isWithin_25 : decode cX5_isWithin 25 = .ok (.iload_n 1, 1) := by decide +kernel
theorem dX5_isWithin_26 : decode cX5_isWithin 26 = .ok (.if_icmp .le 5, 3) := by decide +kernel
theorem dX5_isWithin_29 : decode cX5_isWithin 29 = .ok (.iconst 0, 1) := by decide +kernel
theorem dX5_isWithin_30 : decode cX5_isWithin 30 = .ok (.ireturn, 1) := by decide +kernel
theorem dX5_isWithin_31 : decode cX5_isWithin 31 = .ok (.iinc 2 1, 3) := by decide +kernel
theorem dX5_isWithin_34 : decode cX5_isWithin 34 = .ok (.goto (-32), 3) := by decide +kernel
theorem dX5_isWithin_37 : decode cX5_isWithin 37 = .ok (.iconst 1, 1) := by decide +kernel
theorem dX5_isWithin_38 : decode cX5_isWithin 38 = .ok (.ireturn, 1) := by decide +kernel
theorem dX5_reaches_0 : decode cX5_reaches 0 = .ok (.iload_n 1, 1) := by decide +kernel
theorem dX5_reaches_1 : decode cX5_reaches 1 = .ok (.ifCond .lt 29, 3) := by decide +kernel
theorem dX5_reaches_4 : decode cX5_reaches 4 = .ok (.iload_n 2, 1) := by decide +kernel
theorem dX5_reaches_5 : decode cX5_reaches 5 = .ok (.ifCond .lt 25, 3) := by decide +kernel
theorem dX5_reaches_8 : decode cX5_reaches 8 = .ok (.iload_n 1, 1) := by decide +kernel
theorem dX5_reaches_9 : decode cX5_reaches 9 = .ok (.aload_n 0, 1) := by decide +kernel
theorem dX5_reaches_10 : decode cX5_reaches 10 = .ok (.getfield 19, 3) := by decide +kernel
theorem dX5_reaches_13 : decode cX5_reaches 13 = .ok (.if_icmp .gt 17, 3) := by decide +kernel
theorem dX5_reaches_16 : decode cX5_reaches 16 = .ok (.iload_n 2, 1) := by decide +kernel
theorem dX5_reaches_17 : decode cX5_reaches 17 = .ok (.aload_n 0, 1) := by decide +kernel
theorem dX5_reaches_18 : decode cX5_reaches 18 = .ok (.getfield 19, 3) := by decide +kernel
theorem dX5_reaches_21 : decode cX5_reaches 21 = .ok (.iload_n 1, 1) := by decide +kernel
theorem dX5_reaches_22 : decode cX5_reaches 22 = .ok (.isub, 1) := by decide +kernel
theorem dX5_reaches_23 : decode cX5_reaches 23 = .ok (.if_icmp .gt 7, 3) := by decide +kernel
theorem dX5_reaches_26 : decode cX5_reaches 26 = .ok (.iconst 1, 1) := by decide +kernel
theorem dX5_reaches_27 : decode cX5_reaches 27 = .ok (.goto 4, 3) := by decide +kernel
theorem dX5_reaches_30 : decode cX5_reaches 30 = .ok (.iconst 0, 1) := by decide +kernel
theorem dX5_reaches_31 : decode cX5_reaches 31 = .ok (.ireturn, 1) := by decide +kernel
theorem dX6_init_0 : decode cX6_init 0 = .ok (.aload_n 0, 1) := by decide +kernel
theorem dX6_init_1 : decode cX6_init 1 = .ok (.invokespecial 1, 3) := by decide +kernel
theorem dX6_init_4 : decode cX6_init 4 = .ok (.aload_n 0, 1) := by decide +kernel
theorem dX6_init_5 : decode cX6_init 5 = .ok (.new 7, 3) := by decide +kernel
theorem dX6_init_8 : decode cX6_init 8 = .ok (.dup, 1) := by decide +kernel
theorem dX6_init_9 : decode cX6_init 9 = .ok (.invokespecial 9, 3) := by decide +kernel
theorem dX6_init_12 : decode cX6_init 12 = .ok (.putfield 10, 3) := by decide +kernel
theorem dX6_init_15 : decode cX6_init 15 = .ok (.aload_n 0, 1) := by decide +kernel
theorem dX6_init_16 : decode cX6_init 16 = .ok (.new 16, 3) := by decide +kernel
theorem dX6_init_19 : decode cX6_init 19 = .ok (.dup, 1) := by decide +kernel
theorem dX6_init_20 : decode cX6_init 20 = .ok (.invokespecial 18, 3) := by decide +kernel
theorem dX6_init_23 : decode cX6_init 23 = .ok (.putfield 19, 3) := by decide +kernel
theorem dX6_init_26 : decode cX6_init 26 = .ok (.return_, 1) := by decide +kernel
theorem dX6_takeFrom_0 : decode cX6_takeFrom 0 = .ok (.aload_n 0, 1) := by decide +kernel
theorem dX6_takeFrom_1 : decode cX6_takeFrom 1 = .ok (.getfield 10, 3) := by decide +kernel
theorem dX6_takeFrom_4 : decode cX6_takeFrom 4 = .ok (.getfield 23, 3) := by decide +kernel
theorem dX6_takeFrom_7 : decode cX6_takeFrom 7 = .ok (.aload_n 1, 1) := by decide +kernel
theorem dX6_takeFrom_8 : decode cX6_takeFrom 8 = .ok (.getfield 10, 3) := by decide +kernel
theorem dX6_takeFrom_11 : decode cX6_takeFrom 11 = .ok (.getfield 23, 3) := by decide +kernel
theorem dX6_takeFrom_14 : decode cX6_takeFrom 14 = .ok (.invokevirtual 27, 3) := by decide +kernel
theorem dX6_takeFrom_17 : decode cX6_takeFrom 17 = .ok (.aload_n 0, 1) := by decide +kernel
theorem dX6_takeFrom_18 : decode cX6_takeFrom 18 = .ok (.getfield 10, 3) := by decide +kernel
theorem dX6_takeFrom_21 : decode cX6_takeFrom 21 = .ok (.getfield 33, 3) := by decide +kernel
theorem dX6_takeFrom_24 : decode cX6_takeFrom 24 = .ok (.aload_n 1, 1) := by decide +kernel
theorem dX6_takeFrom_25 : decode cX6_takeFrom 25 = .ok (.getfield 10, 3) := by decide +kernel
theorem dX6_takeFrom_28 : decode cX6_takeFrom 28 = .ok (.getfield 33, 3) := by decide +kernel
theorem dX6_takeFrom_31 : decode cX6_takeFrom 31 = .ok (.invokevirtual 37, 3) := by decide +kernel
theorem dX6_takeFrom_34 : decode cX6_takeFrom 34 = .ok (.aload_n 0, 1) := by decide +kernel
theorem dX6_takeFrom_35 : decode cX6_takeFrom 35 = .ok (.getfield 19, 3) := by decide +kernel
theorem dX6_takeFrom_38 : decode cX6_takeFrom 38 = .ok (.aload_n 1, 1) := by decide +kernel
theorem dX6_takeFrom_39 : decode cX6_takeFrom 39 = .ok (.getfield 19, 3) := by decide +kernel
theorem dX6_takeFrom_42 : decode cX6_takeFrom 42 = .ok (.invokevirtual 42, 3) := by decide +kernel
theorem dX6_takeFrom_45 : decode cX6_takeFrom 45 = .ok (.return_, 1) := by decide +kernel
theorem dX7_init_0 : decode cX7_init 0 = .ok (.aload_n 0, 1) := by decide +kernel
theorem dX7_init_1 : decode cX7_init 1 = .ok (.invokespecial 3, 3) := by decide +kernel
theorem dX7_init_4 : decode cX7_init 4 = .ok (.aload_n 0, 1) := by decide +kernel
theorem dX7_init_5 : decode cX7_init 5 = .ok (.iconst 3, 1) := by decide +kernel
theorem dX7_init_6 : decode cX7_init 6 = .ok (.newarray .int, 2) := by decide +kernel
theorem dX7_init_8 : decode cX7_init 8 = .ok (.putfield 9, 3) := by decide +kernel
theorem dX7_init_11 : decode cX7_init 11 = .ok (.return_, 1) := by decide +kernel
theorem dX7_shortest_0 : decode cX7_shortest 0 = .ok (.iconst 0, 1) := by decide +kernel
theorem dX7_shortest_1 : decode cX7_shortest 1 = .ok (.istore_n 3, 1) := by decide +kernel
theorem dX7_shortest_2 : decode cX7_shortest 2 = .ok (.iload_n 3, 1) := by decide +kernel
theorem dX7_shortest_3 : decode cX7_shortest 3 = .ok (.iconst 3, 1) := by decide +kernel
theorem dX7_shortest_4 : decode cX7_shortest 4 = .ok (.if_icmp .gt 22, 3) := by decide +kernel
theorem dX7_shortest_7 : decode cX7_shortest 7 = .ok (.aload_n 0, 1) := by decide +kernel
theorem dX7_shortest_8 : decode cX7_shortest 8 = .ok (.aload_n 1, 1) := by decide +kernel
theorem dX7_shortest_9 : decode cX7_shortest 9 = .ok (.aload_n 2, 1) := by decide +kernel
theorem dX7_shortest_10 : decode cX7_shortest 10 = .ok (.iconst 0, 1) := by decide +kernel
theorem dX7_shortest_11 : decode cX7_shortest 11 = .ok (.iload_n 3, 1) := by decide +kernel
theorem dX7_shortest_12 : decode cX7_shortest 12 = .ok (.invokevirtual 15, 3) := by decide +kernel
theorem dX7_shortest_15 : decode cX7_shortest 15 = .ok (.ifCond .eq 5, 3) := by decide +kernel
theorem dX7_shortest_18 : decode cX7_shortest 18 = .ok (.iload_n 3, 1) := by decide +kernel
theorem dX7_shortest_19 : decode cX7_shortest 19 = .ok (.ireturn, 1) := by decide +kernel
theorem dX7_shortest_20 : decode cX7_shortest 20 = .ok (.iinc 3 1, 3) := by decide +kernel
theorem dX7_shortest_23 : decode cX7_shortest 23 = .ok (.goto (-21), 3) := by decide +kernel
theorem dX7_shortest_26 : decode cX7_shortest 26 = .ok (.iconst (-1), 1) := by decide +kernel
theorem dX7_shortest_27 : decode cX7_shortest 27 = .ok (.ireturn, 1) := by decide +kernel
theorem dX7_untangles_0 : decode cX7_untangles 0 = .ok (.iload 4, 2) := by decide +kernel
theorem dX7_untangles_2 : decode cX7_untangles 2 = .ok (.iload_n 3, 1) := by decide +kernel
theorem dX7_untangles_3 : decode cX7_untangles 3 = .ok (.isub, 1) := by decide +kernel
theorem dX7_untangles_4 : decode cX7_untangles 4 = .ok (.istore 5, 2) := by decide +kernel
theorem dX7_untangles_6 : decode cX7_untangles 6 = .ok (.iload 5, 2) := by decide +kernel
theorem dX7_untangles_8 : decode cX7_untangles 8 = .ok (.ifCond .lt 22, 3) := by decide +kernel
theorem dX7_untangles_11 : decode cX7_untangles 11 = .ok (.iload 5, 2) := by decide +kernel
theorem dX7_untangles_13 : decode cX7_untangles 13 = .ok (.iconst 3, 1) := by decide +kernel
theorem dX7_untangles_14 : decode cX7_untangles 14 = .ok (.if_icmp .gt 16, 3) := by decide +kernel
theorem dX7_untangles_17 : decode cX7_untangles 17 = .ok (.aload_n 1, 1) := by decide +kernel
theorem dX7_untangles_18 : decode cX7_untangles 18 = .ok (.invokevirtual 19, 3) := by decide +kernel
theorem dX7_untangles_21 : decode cX7_untangles 21 = .ok (.getstatic 25, 3) := by decide +kernel
theorem dX7_untangles_24 : decode cX7_untangles 24 = .ok (.iload 5, 2) := by decide +kernel
theorem dX7_untangles_26 : decode cX7_untangles 26 = .ok (.iaload, 1) := by decide +kernel
theorem dX7_untangles_27 : decode cX7_untangles 27 = .ok (.if_icmp .le 5, 3) := by decide +kernel
theorem dX7_untangles_30 : decode cX7_untangles 30 = .ok (.iconst 0, 1) := by decide +kernel
theorem dX7_untangles_31 : decode cX7_untangles 31 = .ok (.ireturn, 1) := by decide +kernel
theorem dX7_untangles_32 : decode cX7_untangles 32 = .ok (.iload 5, 2) := by decide +kernel
theorem dX7_untangles_34 : decode cX7_untangles 34 = .ok (.ifCond .ne 8, 3) := by decide +kernel
theorem dX7_untangles_37 : decode cX7_untangles 37 = .ok (.aload_n 1, 1) := by decide +kernel
theorem dX7_untangles_38 : decode cX7_untangles 38 = .ok (.invokevirtual 28, 3) := by decide +kernel
theorem dX7_untangles_41 : decode cX7_untangles 41 = .ok (.ireturn, 1) := by decide +kernel
theorem dX7_untangles_42 : decode cX7_untangles 42 = .ok (.iconst 0, 1) := by decide +kernel
theorem dX7_untangles_43 : decode cX7_untangles 43 = .ok (.istore 6, 2) := by decide +kernel
theorem dX7_untangles_45 : decode cX7_untangles 45 = .ok (.iload 6, 2) := by decide +kernel
theorem dX7_untangles_47 : decode cX7_untangles 47 = .ok (.aload_n 1, 1) := by decide +kernel
theorem dX7_untangles_48 : decode cX7_untangles 48 = .ok (.getfield 32, 3) := by decide +kernel
theorem dX7_untangles_51 : decode cX7_untangles 51 = .ok (.invokestatic 36, 3) := by decide +kernel
theorem dX7_untangles_54 : decode cX7_untangles 54 = .ok (.if_icmp .ge 79, 3) := by decide +kernel
theorem dX7_untangles_57 : decode cX7_untangles 57 = .ok (.aload_n 1, 1) := by decide +kernel
theorem dX7_untangles_58 : decode cX7_untangles 58 = .ok (.iload 6, 2) := by decide +kernel
theorem dX7_untangles_60 : decode cX7_untangles 60 = .ok (.invokestatic 40, 3) := by decide +kernel
theorem dX7_untangles_63 : decode cX7_untangles 63 = .ok (.iload 6, 2) := by decide +kernel
theorem dX7_untangles_65 : decode cX7_untangles 65 = .ok (.invokestatic 43, 3) := by decide +kernel
theorem dX7_untangles_68 : decode cX7_untangles 68 = .ok (.aload_n 2, 1) := by decide +kernel
theorem dX7_untangles_69 : decode cX7_untangles 69 = .ok (.invokevirtual 47, 3) := by decide +kernel
theorem dX7_untangles_72 : decode cX7_untangles 72 = .ok (.ifCond .eq 55, 3) := by decide +kernel
theorem dX7_untangles_75 : decode cX7_untangles 75 = .ok (.aload_n 0, 1) := by decide +kernel
theorem dX7_untangles_76 : decode cX7_untangles 76 = .ok (.getfield 9, 3) := by decide +kernel
theorem dX7_untangles_79 : decode cX7_untangles 79 = .ok (.iload_n 3, 1) := by decide +kernel
theorem dX7_untangles_80 : decode cX7_untangles 80 = .ok (.iload 6, 2) := by decide +kernel
theorem dX7_untangles_82 : decode cX7_untangles 82 = .ok (.iastore, 1) := by decide +kernel
theorem dX7_untangles_83 : decode cX7_untangles 83 = .ok (.aload_n 0, 1) := by decide +kernel
theorem dX7_untangles_84 : decode cX7_untangles 84 = .ok (.aload_n 1, 1) := by decide +kernel
theorem dX7_untangles_85 : decode cX7_untangles 85 = .ok (.aload_n 2, 1) := by decide +kernel
theorem dX7_untangles_86 : decode cX7_untangles 86 = .ok (.iload_n 3, 1) := by decide +kernel
theorem dX7_untangles_87 : decode cX7_untangles 87 = .ok (.iconst 1, 1) := by decide +kernel
theorem dX7_untangles_88 : decode cX7_untangles 88 = .ok (.iadd, 1) := by decide +kernel
theorem dX7_untangles_89 : decode cX7_untangles 89 = .ok (.iload 4, 2) := by decide +kernel
theorem dX7_untangles_91 : decode cX7_untangles 91 = .ok (.invokevirtual 15, 3) := by decide +kernel
theorem dX7_untangles_94 : decode cX7_untangles 94 = .ok (.istore 7, 2) := by decide +kernel
theorem dX7_untangles_96 : decode cX7_untangles 96 = .ok (.aload_n 1, 1) := by decide +kernel
theorem dX7_untangles_97 : decode cX7_untangles 97 = .ok (.iload 6, 2) := by decide +kernel
theorem dX7_untangles_99 : decode cX7_untangles 99 = .ok (.invokestatic 40, 3) := by decide +kernel
theorem dX7_untangles_102 : decode cX7_untangles 102 = .ok (.iload 6, 2) := by decide +kernel
theorem dX7_untangles_104 : decode cX7_untangles 104 = .ok (.invokestatic 43, 3) := by decide +kernel
theorem dX7_untangles_107 : decode cX7_untangles 107 = .ok (.ifCond .ne 7, 3) := by decide +kernel
theorem dX7_untangles_110 : decode cX7_untangles 110 = .ok (.iconst 1, 1) := by decide +kernel
theorem dX7_untangles_111 : decode cX7_untangles 111 = .ok (.goto 4, 3) := by decide +kernel
theorem dX7_untangles_114 : decode cX7_untangles 114 = .ok (.iconst 0, 1) := by decide +kernel
theorem dX7_untangles_115 : decode cX7_untangles 115 = .ok (.aload_n 2, 1) := by decide +kernel
theorem dX7_untangles_116 : decode cX7_untangles 116 = .ok (.invokevirtual 47, 3) := by decide +kernel
theorem dX7_untangles_119 : decode cX7_untangles 119 = .ok (.pop, 1) := by decide +kernel
theorem dX7_untangles_120 : decode cX7_untangles 120 = .ok (.iload 7, 2) := by decide +kernel
theorem dX7_untangles_122 : decode cX7_untangles 122 = .ok (.ifCond .eq 5, 3) := by decide +kernel
theorem dX7_untangles_125 : decode cX7_untangles 125 = .ok (.iconst 1, 1) := by decide +kernel
theorem dX7_untangles_126 : decode cX7_untangles 126 = .ok (.ireturn, 1) := by decide +kernel
theorem dX7_untangles_127 : decode cX7_untangles 127 = .ok (.iinc 6 1, 3) := by decide +kernel
theorem dX7_untangles_130 : decode cX7_untangles 130 = .ok (.goto (-85), 3) := by decide +kernel
theorem dX7_untangles_133 : decode cX7_untangles 133 = .ok (.iconst 0, 1) := by decide +kernel
theorem dX7_untangles_134 : decode cX7_untangles 134 = .ok (.ireturn, 1) := by decide +kernel
theorem dX8_init_0 : decode cX8_init 0 = .ok (.aload_n 0, 1) := by decide +kernel
theorem dX8_init_1 : decode cX8_init 1 = .ok (.invokespecial 3, 3) := by decide +kernel
theorem dX8_init_4 : decode cX8_init 4 = .ok (.aload_n 0, 1) := by decide +kernel
theorem dX8_init_5 : decode cX8_init 5 = .ok (.bipush 80, 2) := by decide +kernel
theorem dX8_init_7 : decode cX8_init 7 = .ok (.newarray .int, 2) := by decide +kernel
theorem dX8_init_9 : decode cX8_init 9 = .ok (.putfield 9, 3) := by decide +kernel
theorem dX8_init_12 : decode cX8_init 12 = .ok (.aload_n 0, 1) := by decide +kernel
theorem dX8_init_13 : decode cX8_init 13 = .ok (.bipush 80, 2) := by decide +kernel
theorem dX8_init_15 : decode cX8_init 15 = .ok (.newarray .int, 2) := by decide +kernel
theorem dX8_init_17 : decode cX8_init 17 = .ok (.putfield 15, 3) := by decide +kernel
theorem dX8_init_20 : decode cX8_init 20 = .ok (.return_, 1) := by decide +kernel
theorem dX8_directionOf_0 : decode cX8_directionOf 0 = .ok (.aload_n 0, 1) := by decide +kernel
theorem dX8_directionOf_1 : decode cX8_directionOf 1 = .ok (.getfield 9, 3) := by decide +kernel
theorem dX8_directionOf_4 : decode cX8_directionOf 4 = .ok (.iload_n 1, 1) := by decide +kernel
theorem dX8_directionOf_5 : decode cX8_directionOf 5 = .ok (.bipush 20, 2) := by decide +kernel
theorem dX8_directionOf_7 : decode cX8_directionOf 7 = .ok (.imul, 1) := by decide +kernel
theorem dX8_directionOf_8 : decode cX8_directionOf 8 = .ok (.iload_n 2, 1) := by decide +kernel
theorem dX8_directionOf_9 : decode cX8_directionOf 9 = .ok (.iadd, 1) := by decide +kernel
theorem dX8_directionOf_10 : decode cX8_directionOf 10 = .ok (.iaload, 1) := by decide +kernel
theorem dX8_directionOf_11 : decode cX8_directionOf 11 = .ok (.ireturn, 1) := by decide +kernel
theorem dX8_forceOf_0 : decode cX8_forceOf 0 = .ok (.aload_n 0, 1) := by decide +kernel
theorem dX8_forceOf_1 : decode cX8_forceOf 1 = .ok (.getfield 15, 3) := by decide +kernel
theorem dX8_forceOf_4 : decode cX8_forceOf 4 = .ok (.iload_n 1, 1) := by decide +kernel
theorem dX8_forceOf_5 : decode cX8_forceOf 5 = .ok (.bipush 20, 2) := by decide +kernel
theorem dX8_forceOf_7 : decode cX8_forceOf 7 = .ok (.imul, 1) := by decide +kernel
theorem dX8_forceOf_8 : decode cX8_forceOf 8 = .ok (.iload_n 2, 1) := by decide +kernel
theorem dX8_forceOf_9 : decode cX8_forceOf 9 = .ok (.iadd, 1) := by decide +kernel
theorem dX8_forceOf_10 : decode cX8_forceOf 10 = .ok (.iaload, 1) := by decide +kernel
theorem dX8_forceOf_11 : decode cX8_forceOf 11 = .ok (.ireturn, 1) := by decide +kernel
theorem dX8_turn_0 : decode cX8_turn 0 = .ok (.aload_n 0, 1) := by decide +kernel
theorem dX8_turn_1 : decode cX8_turn 1 = .ok (.getfield 9, 3) := by decide +kernel
theorem dX8_turn_4 : decode cX8_turn 4 = .ok (.iload_n 1, 1) := by decide +kernel
theorem dX8_turn_5 : decode cX8_turn 5 = .ok (.bipush 20, 2) := by decide +kernel
theorem dX8_turn_7 : decode cX8_turn 7 = .ok (.imul, 1) := by decide +kernel
theorem dX8_turn_8 : decode cX8_turn 8 = .ok (.iload_n 2, 1) := by decide +kernel
theorem dX8_turn_9 : decode cX8_turn 9 = .ok (.iadd, 1) := by decide +kernel
theorem dX8_turn_10 : decode cX8_turn 10 = .ok (.iload_n 3, 1) := by decide +kernel
theorem dX8_turn_11 : decode cX8_turn 11 = .ok (.iastore, 1) := by decide +kernel
theorem dX8_turn_12 : decode cX8_turn 12 = .ok (.return_, 1) := by decide +kernel
theorem dX8_blow_0 : decode cX8_blow 0 = .ok (.aload_n 0, 1) := by decide +kernel
theorem dX8_blow_1 : decode cX8_blow 1 = .ok (.getfield 15, 3) := by decide +kernel
theorem dX8_blow_4 : decode cX8_blow 4 = .ok (.iload_n 1, 1) := by decide +kernel
theorem dX8_blow_5 : decode cX8_blow 5 = .ok (.bipush 20, 2) := by decide +kernel
theorem dX8_blow_7 : decode cX8_blow 7 = .ok (.imul, 1) := by decide +kernel
theorem dX8_blow_8 : decode cX8_blow 8 = .ok (.iload_n 2, 1) := by decide +kernel
theorem dX8_blow_9 : decode cX8_blow 9 = .ok (.iadd, 1) := by decide +kernel
theorem dX8_blow_10 : decode cX8_blow 10 = .ok (.iload_n 3, 1) := by decide +kernel
theorem dX8_blow_11 : decode cX8_blow 11 = .ok (.iastore, 1) := by decide +kernel
theorem dX8_blow_12 : decode cX8_blow 12 = .ok (.return_, 1) := by decide +kernel
theorem dX8_takeFrom_0 : decode cX8_takeFrom 0 = .ok (.aload_n 1, 1) := by decide +kernel
theorem dX8_takeFrom_1 : decode cX8_takeFrom 1 = .ok (.getfield 9, 3) := by decide +kernel
theorem dX8_takeFrom_4 : decode cX8_takeFrom 4 = .ok (.iconst 0, 1) := by decide +kernel
theorem dX8_takeFrom_5 : decode cX8_takeFrom 5 = .ok (.aload_n 0, 1) := by decide +kernel
theorem dX8_takeFrom_6 : decode cX8_takeFrom 6 = .ok (.getfield 9, 3) := by decide +kernel
theorem dX8_takeFrom_9 : decode cX8_takeFrom 9 = .ok (.iconst 0, 1) := by decide +kernel
theorem dX8_takeFrom_10 : decode cX8_takeFrom 10 = .ok (.aload_n 0, 1) := by decide +kernel
theorem dX8_takeFrom_11 : decode cX8_takeFrom 11 = .ok (.getfield 9, 3) := by decide +kernel
theorem dX8_takeFrom_14 : decode cX8_takeFrom 14 = .ok (.arraylength, 1) := by decide +kernel
theorem dX8_takeFrom_15 : decode cX8_takeFrom 15 = .ok (.invokestatic 18, 3) := by decide +kernel
theorem dX8_takeFrom_18 : decode cX8_takeFrom 18 = .ok (.aload_n 1, 1) := by decide +kernel
theorem dX8_takeFrom_19 : decode cX8_takeFrom 19 = .ok (.getfield 15, 3) := by decide +kernel
theorem dX8_takeFrom_22 : decode cX8_takeFrom 22 = .ok (.iconst 0, 1) := by decide +kernel
theorem dX8_takeFrom_23 : decode cX8_takeFrom 23 = .ok (.aload_n 0, 1) := by decide +kernel
theorem dX8_takeFrom_24 : decode cX8_takeFrom 24 = .ok (.getfield 15, 3) := by decide +kernel
theorem dX8_takeFrom_27 : decode cX8_takeFrom 27 = .ok (.iconst 0, 1) := by decide +kernel
theorem dX8_takeFrom_28 : decode cX8_takeFrom 28 = .ok (.aload_n 0, 1) := by decide +kernel
theorem dX8_takeFrom_29 : decode cX8_takeFrom 29 = .ok (.getfield 15, 3) := by decide +kernel
theorem dX8_takeFrom_32 : decode cX8_takeFrom 32 = .ok (.arraylength, 1) := by decide +kernel
theorem dX8_takeFrom_33 : decode cX8_takeFrom 33 = .ok (.invokestatic 18, 3) := by decide +kernel
theorem dX8_takeFrom_36 : decode cX8_takeFrom 36 = .ok (.return_, 1) := by decide +kernel
theorem dX9_init_0 : decode cX9_init 0 = .ok (.aload_n 0, 1) := by decide +kernel
theorem dX9_init_1 : decode cX9_init 1 = .ok (.invokespecial 3, 3) := by decide +kernel
theorem dX9_init_4 : decode cX9_init 4 = .ok (.aload_n 0, 1) := by decide +kernel
theorem dX9_init_5 : decode cX9_init 5 = .ok (.iconst 5, 1) := by decide +kernel
theorem dX9_init_6 : decode cX9_init 6 = .ok (.newarray .int, 2) := by decide +kernel
theorem dX9_init_8 : decode cX9_init 8 = .ok (.putfield 9, 3) := by decide +kernel
theorem dX9_init_11 : decode cX9_init 11 = .ok (.aload_n 0, 1) := by decide +kernel
theorem dX9_init_12 : decode cX9_init 12 = .ok (.sipush 300, 3) := by decide +kernel
theorem dX9_init_15 : decode cX9_init 15 = .ok (.newarray .int, 2) := by decide +kernel
theorem dX9_init_17 : decode cX9_init 17 = .ok (.putfield 15, 3) := by decide +kernel
theorem dX9_init_20 : decode cX9_init 20 = .ok (.return_, 1) := by decide +kernel
theorem dX9_begin_0 : decode cX9_begin 0 = .ok (.aload_n 0, 1) := by decide +kernel
theorem dX9_begin_1 : decode cX9_begin 1 = .ok (.iload_n 1, 1) := by decide +kernel
theorem dX9_begin_2 : decode cX9_begin 2 = .ok (.putfield 18, 3) := by decide +kernel
theorem dX9_begin_5 : decode cX9_begin 5 = .ok (.iconst 0, 1) := by decide +kernel
theorem dX9_begin_6 : decode cX9_begin 6 = .ok (.istore_n 2, 1) := by decide +kernel
theorem dX9_begin_7 : decode cX9_begin 7 = .ok (.iload_n 2, 1) := by decide +kernel
theorem dX9_begin_8 : decode cX9_begin 8 = .ok (.iload_n 1, 1) := by decide +kernel
theorem dX9_begin_9 : decode cX9_begin 9 = .ok (.if_icmp .ge 26, 3) := by decide +kernel
theorem dX9_begin_12 : decode cX9_begin 12 = .ok (.aload_n 0, 1) := by decide +kernel
theorem dX9_begin_13 : decode cX9_begin 13 = .ok (.getfield 9, 3) := by decide +kernel
theorem dX9_begin_16 : decode cX9_begin 16 = .ok (.iload_n 2, 1) := by decide +kernel
theorem dX9_begin_17 : decode cX9_begin 17 = .ok (.iconst 1, 1) := by decide +kernel
theorem dX9_begin_18 : decode cX9_begin 18 = .ok (.iastore, 1) := by decide +kernel
theorem dX9_begin_19 : decode cX9_begin 19 = .ok (.aload_n 0, 1) := by decide +kernel
theorem dX9_begin_20 : decode cX9_begin 20 = .ok (.getfield 15, 3) := by decide +kernel
theorem dX9_begin_23 : decode cX9_begin 23 = .ok (.iload_n 2, 1) := by decide +kernel
theorem dX9_begin_24 : decode cX9_begin 24 = .ok (.bipush 60, 2) := by decide +kernel
theorem dX9_begin_26 : decode cX9_begin 26 = .ok (.imul, 1) := by decide +kernel
theorem dX9_begin_27 : decode cX9_begin 27 = .ok (.iload_n 2, 1) := by decide +kernel
theorem dX9_begin_28 : decode cX9_begin 28 = .ok (.iastore, 1) := by decide +kernel
theorem dX9_begin_29 : decode cX9_begin 29 = .ok (.iinc 2 1, 3) := by decide +kernel
theorem dX9_begin_32 : decode cX9_begin 32 = .ok (.goto (-25), 3) := by decide +kernel
theorem dX9_begin_35 : decode cX9_begin 35 = .ok (.return_, 1) := by decide +kernel
theorem dX9_told_0 : decode cX9_told 0 = .ok (.aload_n 0, 1) := by decide +kernel
theorem dX9_told_1 : decode cX9_told 1 = .ok (.getfield 15, 3) := by decide +kernel
theorem dX9_told_4 : decode cX9_told 4 = .ok (.iload_n 1, 1) := by decide +kernel
theorem dX9_told_5 : decode cX9_told 5 = .ok (.bipush 60, 2) := by decide +kernel
theorem dX9_told_7 : decode cX9_told 7 = .ok (.imul, 1) := by decide +kernel
theorem dX9_told_8 : decode cX9_told 8 = .ok (.iload_n 2, 1) := by decide +kernel
theorem dX9_told_9 : decode cX9_told 9 = .ok (.iadd, 1) := by decide +kernel
theorem dX9_told_10 : decode cX9_told 10 = .ok (.iaload, 1) := by decide +kernel
theorem dX9_told_11 : decode cX9_told 11 = .ok (.ireturn, 1) := by decide +kernel
theorem dX9_canPass_0 : decode cX9_canPass 0 = .ok (.aload_n 3, 1) := by decide +kernel
theorem dX9_canPass_1 : decode cX9_canPass 1 = .ok (.invokevirtual 22, 3) := by decide +kernel
theorem dX9_canPass_4 : decode cX9_canPass 4 = .ok (.iload_n 2, 1) := by decide +kernel
theorem dX9_canPass_5 : decode cX9_canPass 5 = .ok (.ifCond .eq 26, 3) := by decide +kernel
theorem dX9_canPass_8 : decode cX9_canPass 8 = .ok (.aload_n 3, 1) := by decide +kernel
theorem dX9_canPass_9 : decode cX9_canPass 9 = .ok (.aload_n 0, 1) := by decide +kernel
theorem dX9_canPass_10 : decode cX9_canPass 10 = .ok (.iload_n 1, 1) := by decide +kernel
theorem dX9_canPass_11 : decode cX9_canPass 11 = .ok (.invokevirtual 27, 3) := by decide +kernel
theorem dX9_canPass_14 : decode cX9_canPass 14 = .ok (.aload_n 3, 1) := by decide +kernel
theorem dX9_canPass_15 : decode cX9_canPass 15 = .ok (.aload_n 0, 1) := by decide +kernel
theorem dX9_canPass_16 : decode cX9_canPass 16 = .ok (.iload_n 1, 1) := by decide +kernel
theorem dX9_canPass_17 : decode cX9_canPass 17 = .ok (.iconst 1, 1) := by decide +kernel
theorem dX9_canPass_18 : decode cX9_canPass 18 = .ok (.iadd, 1) := by decide +kernel
theorem dX9_canPass_19 : decode cX9_canPass 19 = .ok (.invokevirtual 27, 3) := by decide +kernel
theorem dX9_canPass_22 : decode cX9_canPass 22 = .ok (.aload_n 3, 1) := by decide +kernel
theorem dX9_canPass_23 : decode cX9_canPass 23 = .ok (.aload_n 0, 1) := by decide +kernel
theorem dX9_canPass_24 : decode cX9_canPass 24 = .ok (.iload_n 1, 1) := by decide +kernel
theorem dX9_canPass_25 : decode cX9_canPass 25 = .ok (.invokevirtual 31, 3) := by decide +kernel
theorem dX9_canPass_28 : decode cX9_canPass 28 = .ok (.goto 25, 3) := by decide +kernel
theorem dX9_canPass_31 : decode cX9_canPass 31 = .ok (.aload_n 3, 1) := by decide +kernel
theorem dX9_canPass_32 : decode cX9_canPass 32 = .ok (.aload_n 0, 1) := by decide +kernel
theorem dX9_canPass_33 : decode cX9_canPass 33 = .ok (.iload_n 1, 1) := by decide +kernel
theorem dX9_canPass_34 : decode cX9_canPass 34 = .ok (.iconst 1, 1) := by decide +kernel
theorem dX9_canPass_35 : decode cX9_canPass 35 = .ok (.iadd, 1) := by decide +kernel
theorem dX9_canPass_36 : decode cX9_canPass 36 = .ok (.invokevirtual 31, 3) := by decide +kernel
theorem dX9_canPass_39 : decode cX9_canPass 39 = .ok (.aload_n 3, 1) := by decide +kernel
theorem dX9_canPass_40 : decode cX9_canPass 40 = .ok (.aload_n 0, 1) := by decide +kernel
theorem dX9_canPass_41 : decode cX9_canPass 41 = .ok (.iload_n 1, 1) := by decide +kernel
theorem dX9_canPass_42 : decode cX9_canPass 42 = .ok (.invokevirtual 27, 3) := by decide +kernel
theorem dX9_canPass_45 : decode cX9_canPass 45 = .ok (.aload_n 3, 1) := by decide +kernel
theorem dX9_canPass_46 : decode cX9_canPass 46 = .ok (.aload_n 0, 1) := by decide +kernel
theorem dX9_canPass_47 : decode cX9_canPass 47 = .ok (.iload_n 1, 1) := by decide +kernel
theorem dX9_canPass_48 : decode cX9_canPass 48 = .ok (.iconst 1, 1) := by decide +kernel
theorem dX9_canPass_49 : decode cX9_canPass 49 = .ok (.iadd, 1) := by decide +kernel
theorem dX9_canPass_50 : decode cX9_canPass 50 = .ok (.invokevirtual 27, 3) := by decide +kernel
theorem dX9_canPass_53 : decode cX9_canPass 53 = .ok (.aload_n 3, 1) := by decide +kernel
theorem dX9_canPass_54 : decode cX9_canPass 54 = .ok (.getfield 34, 3) := by decide +kernel
theorem dX9_canPass_57 : decode cX9_canPass 57 = .ok (.bipush 60, 2) := by decide +kernel
theorem dX9_canPass_59 : decode cX9_canPass 59 = .ok (.if_icmp .gt 7, 3) := by decide +kernel
theorem dX9_canPass_62 : decode cX9_canPass 62 = .ok (.iconst 1, 1) := by decide +kernel
theorem dX9_canPass_63 : decode cX9_canPass 63 = .ok (.goto 4, 3) := by decide +kernel
theorem dX9_canPass_66 : decode cX9_canPass 66 = .ok (.iconst 0, 1) := by decide +kernel
theorem dX9_canPass_67 : decode cX9_canPass 67 = .ok (.ireturn, 1) := by decide +kernel
theorem dX9_pass_0 : decode cX9_pass 0 = .ok (.aload_n 0, 1) := by decide +kernel
theorem dX9_pass_1 : decode cX9_pass 1 = .ok (.iload_n 1, 1) := by decide +kernel
theorem dX9_pass_2 : decode cX9_pass 2 = .ok (.iload_n 2, 1) := by decide +kernel
theorem dX9_pass_3 : decode cX9_pass 3 = .ok (.aload_n 3, 1) := by decide +kernel
theorem dX9_pass_4 : decode cX9_pass 4 = .ok (.invokevirtual 37, 3) := by decide +kernel
theorem dX9_pass_7 : decode cX9_pass 7 = .ok (.ifCond .ne 5, 3) := by decide +kernel
theorem dX9_pass_10 : decode cX9_pass 10 = .ok (.iconst 0, 1) := by decide +kernel
theorem dX9_pass_11 : decode cX9_pass 11 = .ok (.ireturn, 1) := by decide +kernel
theorem dX9_pass_12 : decode cX9_pass 12 = .ok (.aload_n 0, 1) := by decide +kernel
theorem dX9_pass_13 : decode cX9_pass 13 = .ok (.iload_n 1, 1) := by decide +kernel
theorem dX9_pass_14 : decode cX9_pass 14 = .ok (.iload_n 2, 1) := by decide +kernel
theorem dX9_pass_15 : decode cX9_pass 15 = .ok (.aload_n 3, 1) := by decide +kernel
theorem dX9_pass_16 : decode cX9_pass 16 = .ok (.invokevirtual 41, 3) := by decide +kernel
theorem dX9_pass_19 : decode cX9_pass 19 = .ok (.iconst 1, 1) := by decide +kernel
theorem dX9_pass_20 : decode cX9_pass 20 = .ok (.ireturn, 1) := by decide +kernel
theorem dX9_settle_0 : decode cX9_settle 0 = .ok (.iload_n 2, 1) := by decide +kernel
theorem dX9_settle_1 : decode cX9_settle 1 = .ok (.ifCond .eq 7, 3) := by decide +kernel
theorem dX9_settle_4 : decode cX9_settle 4 = .ok (.iload_n 1, 1) := by decide +kernel
theorem dX9_settle_5 : decode cX9_settle 5 = .ok (.goto 6, 3) := by decide +kernel
theorem dX9_settle_8 : decode cX9_settle 8 = .ok (.iload_n 1, 1) := by decide +kernel
theorem dX9_settle_9 : decode cX9_settle 9 = .ok (.iconst 1, 1) := by decide +kernel
theorem dX9_settle_10 : decode cX9_settle 10 = .ok (.iadd, 1) := by decide +kernel
theorem dX9_settle_11 : decode cX9_settle 11 = .ok (.istore 4, 2) := by decide +kernel
theorem dX9_settle_13 : decode cX9_settle 13 = .ok (.iload_n 2, 1) := by decide +kernel
theorem dX9_settle_14 : decode cX9_settle 14 = .ok (.ifCond .eq 9, 3) := by decide +kernel
theorem dX9_settle_17 : decode cX9_settle 17 = .ok (.iload_n 1, 1) := by decide +kernel
theorem dX9_settle_18 : decode cX9_settle 18 = .ok (.iconst 1, 1) := by decide +kernel
theorem dX9_settle_19 : decode cX9_settle 19 = .ok (.iadd, 1) := by decide +kernel
theorem dX9_settle_20 : decode cX9_settle 20 = .ok (.goto 4, 3) := by decide +kernel
theorem dX9_settle_23 : decode cX9_settle 23 = .ok (.iload_n 1, 1) := by decide +kernel
theorem dX9_settle_24 : decode cX9_settle 24 = .ok (.istore 5, 2) := by decide +kernel
theorem dX9_settle_26 : decode cX9_settle 26 = .ok (.aload_n 0, 1) := by decide +kernel
theorem dX9_settle_27 : decode cX9_settle 27 = .ok (.iload 5, 2) := by decide +kernel
theorem dX9_settle_29 : decode cX9_settle 29 = .ok (.aload_n 0, 1) := by decide +kernel
theorem dX9_settle_30 : decode cX9_settle 30 = .ok (.getfield 15, 3) := by decide +kernel
theorem dX9_settle_33 : decode cX9_settle 33 = .ok (.iload 4, 2) := by decide +kernel
theorem dX9_settle_35 : decode cX9_settle 35 = .ok (.bipush 60, 2) := by decide +kernel
theorem dX9_settle_37 : decode cX9_settle 37 = .ok (.imul, 1) := by decide +kernel
theorem dX9_settle_38 : decode cX9_settle 38 = .ok (.aload_n 0, 1) := by decide +kernel
theorem dX9_settle_39 : decode cX9_settle 39 = .ok (.getfield 9, 3) := by decide +kernel
theorem dX9_settle_42 : decode cX9_settle 42 = .ok (.iload 4, 2) := by decide +kernel
theorem dX9_settle_44 : decode cX9_settle 44 = .ok (.iaload, 1) := by decide +kernel
theorem dX9_settle_45 : decode cX9_settle 45 = .ok (.invokevirtual 45, 3) := by decide +kernel
theorem dX9_settle_48 : decode cX9_settle 48 = .ok (.aload_n 0, 1) := by decide +kernel
theorem dX9_settle_49 : decode cX9_settle 49 = .ok (.iload 4, 2) := by decide +kernel
theorem dX9_settle_51 : decode cX9_settle 51 = .ok (.aload_n 3, 1) := by decide +kernel
theorem dX9_settle_52 : decode cX9_settle 52 = .ok (.getfield 49, 3) := by decide +kernel
theorem dX9_settle_55 : decode cX9_settle 55 = .ok (.iconst 0, 1) := by decide +kernel
theorem dX9_settle_56 : decode cX9_settle 56 = .ok (.aload_n 3, 1) := by decide +kernel
theorem dX9_settle_57 : decode cX9_settle 57 = .ok (.getfield 34, 3) := by decide +kernel
theorem dX9_settle_60 : decode cX9_settle 60 = .ok (.invokevirtual 45, 3) := by decide +kernel
theorem dX9_settle_63 : decode cX9_settle 63 = .ok (.return_, 1) := by decide +kernel
theorem dX9_setWord_0 : decode cX9_setWord 0 = .ok (.aload_n 2, 1) := by decide +kernel
theorem dX9_setWord_1 : decode cX9_setWord 1 = .ok (.iload_n 3, 1) := by decide +kernel
theorem dX9_setWord_2 : decode cX9_setWord 2 = .ok (.aload_n 0, 1) := by decide +kernel
theorem dX9_setWord_3 : decode cX9_setWord 3 = .ok (.getfield 15, 3) := by decide +kernel
theorem dX9_setWord_6 : decode cX9_setWord 6 = .ok (.iload_n 1, 1) := by decide +kernel
theorem dX9_setWord_7 : decode cX9_setWord 7 = .ok (.bipush 60, 2) := by decide +kernel
theorem dX9_setWord_9 : decode cX9_setWord 9 = .ok (.imul, 1) := by decide +kernel
theorem dX9_setWord_10 : decode cX9_setWord 10 = .ok (.iload 4, 2) := by decide +kernel
theorem dX9_setWord_12 : decode cX9_setWord 12 = .ok (.invokestatic 50, 3) := by decide +kernel
theorem dX9_setWord_15 : decode cX9_setWord 15 = .ok (.aload_n 0, 1) := by decide +kernel
theorem dX9_setWord_16 : decode cX9_setWord 16 = .ok (.getfield 9, 3) := by decide +kernel
theorem dX9_setWord_19 : decode cX9_setWord 19 = .ok (.iload_n 1, 1) := by decide +kernel
theorem dX9_setWord_20 : decode cX9_setWord 20 = .ok (.iload 4, 2) := by decide +kernel
theorem dX9_setWord_22 : decode cX9_setWord 22 = .ok (.iastore, 1) := by decide +kernel
theorem dX9_setWord_23 : decode cX9_setWord 23 = .ok (.return_, 1) := by decide +kernel
theorem dX9_tangled_0 : decode cX9_tangled 0 = .ok (.iconst 0, 1) := by decide +kernel
theorem dX9_tangled_1 : decode cX9_tangled 1 = .ok (.istore_n 1, 1) := by decide +kernel
theorem dX9_tangled_2 : decode cX9_tangled 2 = .ok (.iconst 0, 1) := by decide +kernel
theorem dX9_tangled_3 : decode cX9_tangled 3 = .ok (.istore_n 2, 1) := by decide +kernel
theorem dX9_tangled_4 : decode cX9_tangled 4 = .ok (.iload_n 2, 1) := by decide +kernel
theorem dX9_tangled_5 : decode cX9_tangled 5 = .ok (.aload_n 0, 1) := by decide +kernel
theorem dX9_tangled_6 : decode cX9_tangled 6 = .ok (.getfield 18, 3) := by decide +kernel
theorem dX9_tangled_9 : decode cX9_tangled 9 = .ok (.if_icmp .ge 18, 3) := by decide +kernel
theorem dX9_tangled_12 : decode cX9_tangled 12 = .ok (.iload_n 1, 1) := by decide +kernel
theorem dX9_tangled_13 : decode cX9_tangled 13 = .ok (.aload_n 0, 1) := by decide +kernel
theorem dX9_tangled_14 : decode cX9_tangled 14 = .ok (.getfield 9, 3) := by decide +kernel
theorem dX9_tangled_17 : decode cX9_tangled 17 = .ok (.iload_n 2, 1) := by decide +kernel
theorem dX9_tangled_18 : decode cX9_tangled 18 = .ok (.iaload, 1) := by decide +kernel
theorem dX9_tangled_19 : decode cX9_tangled 19 = .ok (.iadd, 1) := by decide +kernel
theorem dX9_tangled_20 : decode cX9_tangled 20 = .ok (.istore_n 1, 1) := by decide +kernel
theorem dX9_tangled_21 : decode cX9_tangled 21 = .ok (.iinc 2 1, 3) := by decide +kernel
theorem dX9_tangled_24 : decode cX9_tangled 24 = .ok (.goto (-20), 3) := by decide +kernel
theorem dX9_tangled_27 : decode cX9_tangled 27 = .ok (.iload_n 1, 1) := by decide +kernel
theorem dX9_tangled_28 : decode cX9_tangled 28 = .ok (.aload_n 0, 1) := by decide +kernel
theorem dX9_tangled_29 : decode cX9_tangled 29 = .ok (.getfield 18, 3) := by decide +kernel
theorem dX9_tangled_32 : decode cX9_tangled 32 = .ok (.isub, 1) := by decide +kernel
theorem dX9_tangled_33 : decode cX9_tangled 33 = .ok (.ireturn, 1) := by decide +kernel
theorem dX9_longest_0 : decode cX9_longest 0 = .ok (.iconst 0, 1) := by decide +kernel
theorem dX9_longest_1 : decode cX9_longest 1 = .ok (.istore_n 1, 1) := by decide +kernel
theorem dX9_longest_2 : decode cX9_longest 2 = .ok (.iconst 0, 1) := by decide +kernel
theorem dX9_longest_3 : decode cX9_longest 3 = .ok (.istore_n 2, 1) := by decide +kernel
theorem dX9_longest_4 : decode cX9_longest 4 = .ok (.iload_n 2, 1) := by decide +kernel
theorem dX9_longest_5 : decode cX9_longest 5 = .ok (.aload_n 0, 1) := by decide +kernel
theorem dX9_longest_6 : decode cX9_longest 6 = .ok (.getfield 18, 3) := by decide +kernel
theorem dX9_longest_9 : decode cX9_longest 9 = .ok (.if_icmp .ge 20, 3) := by decide +kernel
theorem dX9_longest_12 : decode cX9_longest 12 = .ok (.iload_n 1, 1) := by decide +kernel
theorem dX9_longest_13 : decode cX9_longest 13 = .ok (.aload_n 0, 1) := by decide +kernel
theorem dX9_longest_14 : decode cX9_longest 14 = .ok (.getfield 9, 3) := by decide +kernel
theorem dX9_longest_17 : decode cX9_longest 17 = .ok (.iload_n 2, 1) := by decide +kernel
theorem dX9_longest_18 : decode cX9_longest 18 = .ok (.iaload, 1) := by decide +kernel
theorem dX9_longest_19 : decode cX9_longest 19 = .ok (.invokestatic 56, 3) := by decide +kernel
theorem dX9_longest_22 : decode cX9_longest 22 = .ok (.istore_n 1, 1) := by decide +kernel
theorem dX9_longest_23 : decode cX9_longest 23 = .ok (.iinc 2 1, 3) := by decide +kernel
theorem dX9_longest_26 : decode cX9_longest 26 = .ok (.goto (-22), 3) := by decide +kernel
theorem dX9_longest_29 : decode cX9_longest 29 = .ok (.iload_n 1, 1) := by decide +kernel
theorem dX9_longest_30 : decode cX9_longest 30 = .ok (.ireturn, 1) := by decide +kernel
theorem dX9_areAsAtFirst_0 : decode cX9_areAsAtFirst 0 = .ok (.iconst 0, 1) := by decide +kernel
theorem dX9_areAsAtFirst_1 : decode cX9_areAsAtFirst 1 = .ok (.istore_n 1, 1) := by decide +kernel
theorem dX9_areAsAtFirst_2 : decode cX9_areAsAtFirst 2 = .ok (.iload_n 1, 1) := by decide +kernel
theorem dX9_areAsAtFirst_3 : decode cX9_areAsAtFirst 3 = .ok (.aload_n 0, 1) := by decide +kernel
theorem dX9_areAsAtFirst_4 : decode cX9_areAsAtFirst 4 = .ok (.getfield 18, 3) := by decide +kernel
theorem dX9_areAsAtFirst_7 : decode cX9_areAsAtFirst 7 = .ok (.if_icmp .ge 31, 3) := by decide +kernel
theorem dX9_areAsAtFirst_10 : decode cX9_areAsAtFirst 10 = .ok (.aload_n 0, 1) := by decide +kernel
theorem dX9_areAsAtFirst_11 : decode cX9_areAsAtFirst 11 = .ok (.getfield 9, 3) := by decide +kernel
theorem dX9_areAsAtFirst_14 : decode cX9_areAsAtFirst 14 = .ok (.iload_n 1, 1) := by decide +kernel
theorem dX9_areAsAtFirst_15 : decode cX9_areAsAtFirst 15 = .ok (.iaload, 1) := by decide +kernel
theorem dX9_areAsAtFirst_16 : decode cX9_areAsAtFirst 16 = .ok (.iconst 1, 1) := by decide +kernel
theorem dX9_areAsAtFirst_17 : decode cX9_areAsAtFirst 17 = .ok (.if_icmp .ne 13, 3) := by decide +kernel
theorem dX9_areAsAtFirst_20 : decode cX9_areAsAtFirst 20 = .ok (.aload_n 0, 1) := by decide +kernel
theorem dX9_areAsAtFirst_21 : decode cX9_areAsAtFirst 21 = .ok (.iload_n 1, 1) := by decide +kernel
theorem dX9_areAsAtFirst_22 : decode cX9_areAsAtFirst 22 = .ok (.iconst 0, 1) := by decide +kernel
theorem dX9_areAsAtFirst_23 : decode cX9_areAsAtFirst 23 = .ok (.invokevirtual 62, 3) := by decide +kernel
theorem dX9_areAsAtFirst_26 : decode cX9_areAsAtFirst 26 = .ok (.iload_n 1, 1) := by decide +kernel
theorem dX9_areAsAtFirst_27 : decode cX9_areAsAtFirst 27 = .ok (.if_icmp .eq 5, 3) := by decide +kernel
theorem dX9_areAsAtFirst_30 : decode cX9_areAsAtFirst 30 = .ok (.iconst 0, 1) := by decide +kernel
theorem dX9_areAsAtFirst_31 : decode cX9_areAsAtFirst 31 = .ok (.ireturn, 1) := by decide +kernel
theorem dX9_areAsAtFirst_32 : decode cX9_areAsAtFirst 32 = .ok (.iinc 1 1, 3) := by decide +kernel
theorem dX9_areAsAtFirst_35 : decode cX9_areAsAtFirst 35 = .ok (.goto (-33), 3) := by decide +kernel
theorem dX9_areAsAtFirst_38 : decode cX9_areAsAtFirst 38 = .ok (.iconst 1, 1) := by decide +kernel
theorem dX9_areAsAtFirst_39 : decode cX9_areAsAtFirst 39 = .ok (.ireturn, 1) := by decide +kernel
theorem dX9_areThoseOf_0 : decode cX9_areThoseOf 0 = .ok (.iconst 0, 1) := by decide +kernel
theorem dX9_areThoseOf_1 : decode cX9_areThoseOf 1 = .ok (.istore_n 2, 1) := by decide +kernel
theorem dX9_areThoseOf_2 : decode cX9_areThoseOf 2 = .ok (.iload_n 2, 1) := by decide +kernel
theorem dX9_areThoseOf_3 : decode cX9_areThoseOf 3 = .ok (.aload_n 0, 1) := by decide +kernel
theorem dX9_areThoseOf_4 : decode cX9_areThoseOf 4 = .ok (.getfield 18, 3) := by decide +kernel
theorem dX9_areThoseOf_7 : decode cX9_areThoseOf 7 = .ok (.if_icmp .ge 20, 3) := by decide +kernel
theorem dX9_areThoseOf_10 : decode cX9_areThoseOf 10 = .ok (.aload_n 0, 1) := by decide +kernel
theorem dX9_areThoseOf_11 : decode cX9_areThoseOf 11 = .ok (.aload_n 1, 1) := by decide +kernel
theorem dX9_areThoseOf_12 : decode cX9_areThoseOf 12 = .ok (.iload_n 2, 1) := by decide +kernel
theorem dX9_areThoseOf_13 : decode cX9_areThoseOf 13 = .ok (.invokevirtual 65, 3) := by decide +kernel
theorem dX9_areThoseOf_16 : decode cX9_areThoseOf 16 = .ok (.ifCond .ne 5, 3) := by decide +kernel
theorem dX9_areThoseOf_19 : decode cX9_areThoseOf 19 = .ok (.iconst 0, 1) := by decide +kernel
theorem dX9_areThoseOf_20 : decode cX9_areThoseOf 20 = .ok (.ireturn, 1) := by decide +kernel
theorem dX9_areThoseOf_21 : decode cX9_areThoseOf 21 = .ok (.iinc 2 1, 3) := by decide +kernel
theorem dX9_areThoseOf_24 : decode cX9_areThoseOf 24 = .ok (.goto (-22), 3) := by decide +kernel
theorem dX9_areThoseOf_27 : decode cX9_areThoseOf 27 = .ok (.iconst 1, 1) := by decide +kernel
theorem dX9_areThoseOf_28 : decode cX9_areThoseOf 28 = .ok (.ireturn, 1) := by decide +kernel
theorem dX9_hasWordOf_0 : decode cX9_hasWordOf 0 = .ok (.aload_n 0, 1) := by decide +kernel
theorem dX9_hasWordOf_1 : decode cX9_hasWordOf 1 = .ok (.getfield 9, 3) := by decide +kernel
theorem dX9_hasWordOf_4 : decode cX9_hasWordOf 4 = .ok (.iload_n 2, 1) := by decide +kernel
theorem dX9_hasWordOf_5 : decode cX9_hasWordOf 5 = .ok (.iaload, 1) := by decide +kernel
theorem dX9_hasWordOf_6 : decode cX9_hasWordOf 6 = .ok (.aload_n 1, 1) := by decide +kernel
theorem dX9_hasWordOf_7 : decode cX9_hasWordOf 7 = .ok (.getfield 9, 3) := by decide +kernel
theorem dX9_hasWordOf_10 : decode cX9_hasWordOf 10 = .ok (.iload_n 2, 1) := by decide +kernel
theorem dX9_hasWordOf_11 : decode cX9_hasWordOf 11 = .ok (.iaload, 1) := by decide +kernel
theorem dX9_hasWordOf_12 : decode cX9_hasWordOf 12 = .ok (.if_icmp .eq 5, 3) := by decide +kernel
theorem dX9_hasWordOf_15 : decode cX9_hasWordOf 15 = .ok (.iconst 0, 1) := by decide +kernel
theorem dX9_hasWordOf_16 : decode cX9_hasWordOf 16 = .ok (.ireturn, 1) := by decide +kernel
theorem dX9_hasWordOf_17 : decode cX9_hasWordOf 17 = .ok (.iconst 0, 1) := by decide +kernel
theorem dX9_hasWordOf_18 : decode cX9_hasWordOf 18 = .ok (.istore_n 3, 1) := by decide +kernel
theorem dX9_hasWordOf_19 : decode cX9_hasWordOf 19 = .ok (.iload_n 3, 1) := by decide +kernel
theorem dX9_hasWordOf_20 : decode cX9_hasWordOf 20 = .ok (.aload_n 0, 1) := by decide +kernel
theorem dX9_hasWordOf_21 : decode cX9_hasWordOf 21 = .ok (.getfield 9, 3) := by decide +kernel
theorem dX9_hasWordOf_24 : decode cX9_hasWordOf 24 = .ok (.iload_n 2, 1) := by decide +kernel
theorem dX9_hasWordOf_25 : decode cX9_hasWordOf 25 = .ok (.iaload, 1) := by decide +kernel
theorem dX9_hasWordOf_26 : decode cX9_hasWordOf 26 = .ok (.if_icmp .ge 26, 3) := by decide +kernel
theorem dX9_hasWordOf_29 : decode cX9_hasWordOf 29 = .ok (.aload_n 0, 1) := by decide +kernel
theorem dX9_hasWordOf_30 : decode cX9_hasWordOf 30 = .ok (.iload_n 2, 1) := by decide +kernel
theorem dX9_hasWordOf_31 : decode cX9_hasWordOf 31 = .ok (.iload_n 3, 1) := by decide +kernel
theorem dX9_hasWordOf_32 : decode cX9_hasWordOf 32 = .ok (.invokevirtual 62, 3) := by decide +kernel
theorem dX9_hasWordOf_35 : decode cX9_hasWordOf 35 = .ok (.aload_n 1, 1) := by decide +kernel
theorem dX9_hasWordOf_36 : decode cX9_hasWordOf 36 = .ok (.iload_n 2, 1) := by decide +kernel
theorem dX9_hasWordOf_37 : decode cX9_hasWordOf 37 = .ok (.iload_n 3, 1) := by decide +kernel
theorem dX9_hasWordOf_38 : decode cX9_hasWordOf 38 = .ok (.invokevirtual 62, 3) := by decide +kernel
theorem dX9_hasWordOf_41 : decode cX9_hasWordOf 41 = .ok (.if_icmp .eq 5, 3) := by decide +kernel
theorem dX9_hasWordOf_44 : decode cX9_hasWordOf 44 = .ok (.iconst 0, 1) := by decide +kernel
theorem dX9_hasWordOf_45 : decode cX9_hasWordOf 45 = .ok (.ireturn, 1) := by decide +kernel
theorem dX9_hasWordOf_46 : decode cX9_hasWordOf 46 = .ok (.iinc 3 1, 3) := by decide +kernel
theorem dX9_hasWordOf_49 : decode cX9_hasWordOf 49 = .ok (.goto (-30), 3) := by decide +kernel
theorem dX9_hasWordOf_52 : decode cX9_hasWordOf 52 = .ok (.iconst 1, 1) := by decide +kernel
theorem dX9_hasWordOf_53 : decode cX9_hasWordOf 53 = .ok (.ireturn, 1) := by decide +kernel
theorem dX9_takeFrom_0 : decode cX9_takeFrom 0 = .ok (.aload_n 0, 1) := by decide +kernel
theorem dX9_takeFrom_1 : decode cX9_takeFrom 1 = .ok (.aload_n 1, 1) := by decide +kernel
theorem dX9_takeFrom_2 : decode cX9_takeFrom 2 = .ok (.getfield 18, 3) := by decide +kernel
theorem dX9_takeFrom_5 : decode cX9_takeFrom 5 = .ok (.putfield 18, 3) := by decide +kernel
theorem dX9_takeFrom_8 : decode cX9_takeFrom 8 = .ok (.iconst 0, 1) := by decide +kernel
theorem dX9_takeFrom_9 : decode cX9_takeFrom 9 = .ok (.istore_n 2, 1) := by decide +kernel
theorem dX9_takeFrom_10 : decode cX9_takeFrom 10 = .ok (.iload_n 2, 1) := by decide +kernel
theorem dX9_takeFrom_11 : decode cX9_takeFrom 11 = .ok (.aload_n 0, 1) := by decide +kernel
theorem dX9_takeFrom_12 : decode cX9_takeFrom 12 = .ok (.getfield 18, 3) := by decide +kernel
theorem dX9_takeFrom_15 : decode cX9_takeFrom 15 = .ok (.if_icmp .ge 28, 3) := by decide +kernel
theorem dX9_takeFrom_18 : decode cX9_takeFrom 18 = .ok (.aload_n 0, 1) := by decide +kernel
theorem dX9_takeFrom_19 : decode cX9_takeFrom 19 = .ok (.iload_n 2, 1) := by decide +kernel
theorem dX9_takeFrom_20 : decode cX9_takeFrom 20 = .ok (.aload_n 1, 1) := by decide +kernel
theorem dX9_takeFrom_21 : decode cX9_takeFrom 21 = .ok (.getfield 15, 3) := by decide +kernel
theorem dX9_takeFrom_24 : decode cX9_takeFrom 24 = .ok (.iload_n 2, 1) := by decide +kernel
theorem dX9_takeFrom_25 : decode cX9_takeFrom 25 = .ok (.bipush 60, 2) := by decide +kernel
theorem dX9_takeFrom_27 : decode cX9_takeFrom 27 = .ok (.imul, 1) := by decide +kernel
theorem dX9_takeFrom_28 : decode cX9_takeFrom 28 = .ok (.aload_n 1, 1) := by decide +kernel
theorem dX9_takeFrom_29 : decode cX9_takeFrom 29 = .ok (.getfield 9, 3) := by decide +kernel
theorem dX9_takeFrom_32 : decode cX9_takeFrom 32 = .ok (.iload_n 2, 1) := by decide +kernel
theorem dX9_takeFrom_33 : decode cX9_takeFrom 33 = .ok (.iaload, 1) := by decide +kernel
theorem dX9_takeFrom_34 : decode cX9_takeFrom 34 = .ok (.invokevirtual 45, 3) := by decide +kernel
theorem dX9_takeFrom_37 : decode cX9_takeFrom 37 = .ok (.iinc 2 1, 3) := by decide +kernel
theorem dX9_takeFrom_40 : decode cX9_takeFrom 40 = .ok (.goto (-30), 3) := by decide +kernel
theorem dX9_takeFrom_43 : decode cX9_takeFrom 43 = .ok (.return_, 1) := by decide +kernel
theorem dX10_init_0 : decode cX10_init 0 = .ok (.aload_n 0, 1) := by decide +kernel
theorem dX10_init_1 : decode cX10_init 1 = .ok (.invokespecial 1, 3) := by decide +kernel
theorem dX10_init_4 : decode cX10_init 4 = .ok (.aload_n 0, 1) := by decide +kernel
theorem dX10_init_5 : decode cX10_init 5 = .ok (.new 7, 3) := by decide +kernel
theorem dX10_init_8 : decode cX10_init 8 = .ok (.dup, 1) := by decide +kernel
theorem dX10_init_9 : decode cX10_init 9 = .ok (.invokespecial 9, 3) := by decide +kernel
theorem dX10_init_12 : decode cX10_init 12 = .ok (.putfield 10, 3) := by decide +kernel
theorem dX10_init_15 : decode cX10_init 15 = .ok (.aload_n 0, 1) := by decide +kernel
theorem dX10_init_16 : decode cX10_init 16 = .ok (.new 16, 3) := by decide +kernel
theorem dX10_init_19 : decode cX10_init 19 = .ok (.dup, 1) := by decide +kernel
theorem dX10_init_20 : decode cX10_init 20 = .ok (.invokespecial 18, 3) := by decide +kernel
theorem dX10_init_23 : decode cX10_init 23 = .ok (.putfield 19, 3) := by decide +kernel
theorem dX10_init_26 : decode cX10_init 26 = .ok (.aload_n 0, 1) := by decide +kernel
theorem dX10_init_27 : decode cX10_init 27 = .ok (.iconst 4, 1) := by decide +kernel
theorem dX10_init_28 : decode cX10_init 28 = .ok (.anewarray 23, 3) := by decide +kernel
theorem dX10_init_31 : decode cX10_init 31 = .ok (.putfield 25, 3) := by decide +kernel
theorem dX10_init_34 : decode cX10_init 34 = .ok (.aload_n 0, 1) := by decide +kernel
theorem dX10_init_35 : decode cX10_init 35 = .ok (.new 29, 3) := by decide +kernel
theorem dX10_init_38 : decode cX10_init 38 = .ok (.dup, 1) := by decide +kernel
theorem dX10_init_39 : decode cX10_init 39 = .ok (.invokespecial 31, 3) := by decide +kernel
theorem dX10_init_42 : decode cX10_init 42 = .ok (.putfield 32, 3) := by decide +kernel
theorem dX10_init_45 : decode cX10_init 45 = .ok (.aload_n 0, 1) := by decide +kernel
theorem dX10_init_46 : decode cX10_init 46 = .ok (.new 36, 3) := by decide +kernel
theorem dX10_init_49 : decode cX10_init 49 = .ok (.dup, 1) := by decide +kernel
theorem dX10_init_50 : decode cX10_init 50 = .ok (.invokespecial 38, 3) := by decide +kernel
theorem dX10_init_53 : decode cX10_init 53 = .ok (.putfield 39, 3) := by decide +kernel
theorem dX10_init_56 : decode cX10_init 56 = .ok (.aload_n 0, 1) := by decide +kernel
theorem dX10_init_57 : decode cX10_init 57 = .ok (.new 43, 3) := by decide +kernel
theorem dX10_init_60 : decode cX10_init 60 = .ok (.dup, 1) := by decide +kernel
theorem dX10_init_61 : decode cX10_init 61 = .ok (.invokespecial 45, 3) := by decide +kernel
theorem dX10_init_64 : decode cX10_init 64 = .ok (.putfield 46, 3) := by decide +kernel
theorem dX10_init_67 : decode cX10_init 67 = .ok (.aload_n 0, 1) := by decide +kernel
theorem dX10_init_68 : decode cX10_init 68 = .ok (.new 43, 3) := by decide +kernel
theorem dX10_init_71 : decode cX10_init 71 = .ok (.dup, 1) := by decide +kernel
theorem dX10_init_72 : decode cX10_init 72 = .ok (.invokespecial 45, 3) := by decide +kernel
theorem dX10_init_75 : decode cX10_init 75 = .ok (.putfield 50, 3) := by decide +kernel
theorem dX10_init_78 : decode cX10_init 78 = .ok (.iconst 0, 1) := by decide +kernel
theorem dX10_init_79 : decode cX10_init 79 = .ok (.istore_n 1, 1) := by decide +kernel
theorem dX10_init_80 : decode cX10_init 80 = .ok (.iload_n 1, 1) := by decide +kernel
theorem dX10_init_81 : decode cX10_init 81 = .ok (.iconst 4, 1) := by decide +kernel
theorem dX10_init_82 : decode cX10_init 82 = .ok (.if_icmp .ge 22, 3) := by decide +kernel
theorem dX10_init_85 : decode cX10_init 85 = .ok (.aload_n 0, 1) := by decide +kernel
theorem dX10_init_86 : decode cX10_init 86 = .ok (.getfield 25, 3) := by decide +kernel
theorem dX10_init_89 : decode cX10_init 89 = .ok (.iload_n 1, 1) := by decide +kernel
theorem dX10_init_90 : decode cX10_init 90 = .ok (.new 23, 3) := by decide +kernel
theorem dX10_init_93 : decode cX10_init 93 = .ok (.dup, 1) := by decide +kernel
theorem dX10_init_94 : decode cX10_init 94 = .ok (.invokespecial 53, 3) := by decide +kernel
theorem dX10_init_97 : decode cX10_init 97 = .ok (.aastore, 1) := by decide +kernel
theorem dX10_init_98 : decode cX10_init 98 = .ok (.iinc 1 1, 3) := by decide +kernel
theorem dX10_init_101 : decode cX10_init 101 = .ok (.goto (-21), 3) := by decide +kernel
theorem dX10_init_104 : decode cX10_init 104 = .ok (.return_, 1) := by decide +kernel
theorem dX10_flyer_0 : decode cX10_flyer 0 = .ok (.iload_n 1, 1) := by decide +kernel
theorem dX10_flyer_1 : decode cX10_flyer 1 = .ok (.invokestatic 54, 3) := by decide +kernel
theorem dX10_flyer_4 : decode cX10_flyer 4 = .ok (.ifCond .eq 17, 3) := by decide +kernel
theorem dX10_flyer_7 : decode cX10_flyer 7 = .ok (.iload_n 2, 1) := by decide +kernel
theorem dX10_flyer_8 : decode cX10_flyer 8 = .ok (.invokestatic 58, 3) := by decide +kernel
theorem dX10_flyer_11 : decode cX10_flyer 11 = .ok (.ifCond .eq 10, 3) := by decide +kernel
theorem dX10_flyer_14 : decode cX10_flyer 14 = .ok (.iload_n 3, 1) := by decide +kernel
theorem dX10_flyer_15 : decode cX10_flyer 15 = .ok (.invokestatic 61, 3) := by decide +kernel
theorem dX10_flyer_18 : decode cX10_flyer 18 = .ok (.ifCond .ne 10, 3) := by decide +kernel
theorem dX10_flyer_21 : decode cX10_flyer 21 = .ok (.aload_n 0, 1) := by decide +kernel
theorem dX10_flyer_22 : decode cX10_flyer 22 = .ok (.ldc 64, 2) := by decide +kernel
theorem dX10_flyer_24 : decode cX10_flyer 24 = .ok (.invokevirtual 65, 3) := by decide +kernel
theorem dX10_flyer_27 : decode cX10_flyer 27 = .ok (.ireturn, 1) := by decide +kernel
theorem dX10_flyer_28 : decode cX10_flyer 28 = .ok (.iload 4, 2) := by decide +kernel
theorem dX10_flyer_30 : decode cX10_flyer 30 = .ok (.invokestatic 69, 3) := by decide +kernel
theorem dX10_flyer_33 : decode cX10_flyer 33 = .ok (.ifCond .eq 16, 3) := by decide +kernel
theorem dX10_flyer_36 : decode cX10_flyer 36 = .ok (.iload 5, 2) := by decide +kernel
theorem dX10_flyer_38 : decode cX10_flyer 38 = .ok (.iconst 1, 1) := by decide +kernel
theorem dX10_flyer_39 : decode cX10_flyer 39 = .ok (.if_icmp .lt 10, 3) := by decide +kernel
theorem dX10_flyer_42 : decode cX10_flyer 42 = .ok (.iload 5, 2) := by decide +kernel
theorem dX10_flyer_44 : decode cX10_flyer 44 = .ok (.bipush 9, 2) := by decide +kernel
theorem dX10_flyer_46 : decode cX10_flyer 46 = .ok (.if_icmp .le 10, 3) := by decide +kernel
theorem dX10_flyer_49 : decode cX10_flyer 49 = .ok (.aload_n 0, 1) := by decide +kernel
theorem dX10_flyer_50 : decode cX10_flyer 50 = .ok (.ldc 64, 2) := by decide +kernel
theorem dX10_flyer_52 : decode cX10_flyer 52 = .ok (.invokevirtual 65, 3) := by decide +kernel
theorem dX10_flyer_55 : decode cX10_flyer 55 = .ok (.ireturn, 1) := by decide +kernel
theorem dX10_flyer_56 : decode cX10_flyer 56 = .ok (.iload 6, 2) := by decide +kernel
theorem dX10_flyer_58 : decode cX10_flyer 58 = .ok (.ifCond .lt 25, 3) := by decide +kernel
theorem dX10_flyer_61 : decode cX10_flyer 61 = .ok (.iload 6, 2) := by decide +kernel
theorem dX10_flyer_63 : decode cX10_flyer 63 = .ok (.invokestatic 72, 3) := by decide +kernel
theorem dX10_flyer_66 : decode cX10_flyer 66 = .ok (.invokestatic 75, 3) := by decide +kernel
theorem dX10_flyer_69 : decode cX10_flyer 69 = .ok (.ifCond .eq 14, 3) := by decide +kernel
theorem dX10_flyer_72 : decode cX10_flyer 72 = .ok (.iload 6, 2) := by decide +kernel
theorem dX10_flyer_74 : decode cX10_flyer 74 = .ok (.invokestatic 78, 3) := by decide +kernel
theorem dX10_flyer_77 : decode cX10_flyer 77 = .ok (.invokestatic 75, 3) := by decide +kernel
theorem dX10_flyer_80 : decode cX10_flyer 80 = .ok (.ifCond .ne 10, 3) := by decide +kernel
theorem dX10_flyer_83 : decode cX10_flyer 83 = .ok (.aload_n 0, 1) := by decide +kernel
theorem dX10_flyer_84 : decode cX10_flyer 84 = .ok (.ldc 64, 2) := by decide +kernel
theorem dX10_flyer_86 : decode cX10_flyer 86 = .ok (.invokevirtual 65, 3) := by decide +kernel
theorem dX10_flyer_89 : decode cX10_flyer 89 = .ok (.ireturn, 1) := by decide +kernel
theorem dX10_flyer_90 : decode cX10_flyer 90 = .ok (.iload 6, 2) := by decide +kernel
theorem dX10_flyer_92 : decode cX10_flyer 92 = .ok (.invokestatic 72, 3) := by decide +kernel
theorem dX10_flyer_95 : decode cX10_flyer 95 = .ok (.iload 6, 2) := by decide +kernel
theorem dX10_flyer_97 : decode cX10_flyer 97 = .ok (.invokestatic 78, 3) := by decide +kernel
theorem dX10_flyer_100 : decode cX10_flyer 100 = .ok (.if_icmp .le 10, 3) := by decide +kernel
theorem dX10_flyer_103 : decode cX10_flyer 103 = .ok (.aload_n 0, 1) := by decide +kernel
theorem dX10_flyer_104 : decode cX10_flyer 104 = .ok (.ldc 81, 2) := by decide +kernel
theorem dX10_flyer_106 : decode cX10_flyer 106 = .ok (.invokevirtual 65, 3) := by decide +kernel
theorem dX10_flyer_109 : decode cX10_flyer 109 = .ok (.ireturn, 1) := by decide +kernel
theorem dX10_flyer_110 : decode cX10_flyer 110 = .ok (.aload_n 0, 1) := by decide +kernel
theorem dX10_flyer_111 : decode cX10_flyer 111 = .ok (.getfield 10, 3) := by decide +kernel
theorem dX10_flyer_114 : decode cX10_flyer 114 = .ok (.getfield 82, 3) := by decide +kernel
theorem dX10_flyer_117 : decode cX10_flyer 117 = .ok (.getfield 86, 3) := by decide +kernel
theorem dX10_flyer_120 : decode cX10_flyer 120 = .ok (.invokevirtual 92, 3) := by decide +kernel
theorem dX10_flyer_123 : decode cX10_flyer 123 = .ok (.ifCond .eq 10, 3) := by decide +kernel
theorem dX10_flyer_126 : decode cX10_flyer 126 = .ok (.aload_n 0, 1) := by decide +kernel
theorem dX10_flyer_127 : decode cX10_flyer 127 = .ok (.ldc 98, 2) := by decide +kernel
theorem dX10_flyer_129 : decode cX10_flyer 129 = .ok (.invokevirtual 65, 3) := by decide +kernel
theorem dX10_flyer_132 : decode cX10_flyer 132 = .ok (.ireturn, 1) := by decide +kernel
theorem dX10_flyer_133 : decode cX10_flyer 133 = .ok (.aload_n 0, 1) := by decide +kernel
theorem dX10_flyer_134 : decode cX10_flyer 134 = .ok (.getfield 19, 3) := by decide +kernel
theorem dX10_flyer_137 : decode cX10_flyer 137 = .ok (.aload_n 0, 1) := by decide +kernel
theorem dX10_flyer_138 : decode cX10_flyer 138 = .ok (.getfield 10, 3) := by decide +kernel
theorem dX10_flyer_141 : decode cX10_flyer 141 = .ok (.invokevirtual 99, 3) := by decide +kernel
theorem dX10_flyer_144 : decode cX10_flyer 144 = .ok (.aload_n 0, 1) := by decide +kernel
theorem dX10_flyer_145 : decode cX10_flyer 145 = .ok (.getfield 10, 3) := by decide +kernel
theorem dX10_flyer_148 : decode cX10_flyer 148 = .ok (.getfield 82, 3) := by decide +kernel
theorem dX10_flyer_151 : decode cX10_flyer 151 = .ok (.getfield 86, 3) := by decide +kernel
theorem dX10_flyer_154 : decode cX10_flyer 154 = .ok (.iload_n 1, 1) := by decide +kernel
theorem dX10_flyer_155 : decode cX10_flyer 155 = .ok (.iload_n 2, 1) := by decide +kernel
theorem dX10_flyer_156 : decode cX10_flyer 156 = .ok (.iload_n 3, 1) := by decide +kernel
theorem dX10_flyer_157 : decode cX10_flyer 157 = .ok (.invokevirtual 103, 3) := by decide +kernel
theorem dX10_flyer_160 : decode cX10_flyer 160 = .ok (.istore 7, 2) := by decide +kernel
theorem dX10_flyer_162 : decode cX10_flyer 162 = .ok (.aload_n 0, 1) := by decide +kernel
theorem dX10_flyer_163 : decode cX10_flyer 163 = .ok (.getfield 10, 3) := by decide +kernel
theorem dX10_flyer_166 : decode cX10_flyer 166 = .ok (.getfield 82, 3) := by decide +kernel
theorem dX10_flyer_169 : decode cX10_flyer 169 = .ok (.getfield 86, 3) := by decide +kernel
theorem dX10_flyer_172 : decode cX10_flyer 172 = .ok (.iload 7, 2) := by decide +kernel
theorem dX10_flyer_174 : decode cX10_flyer 174 = .ok (.iload 4, 2) := by decide +kernel
theorem dX10_flyer_176 : decode cX10_flyer 176 = .ok (.iload 5, 2) := by decide +kernel
theorem dX10_flyer_178 : decode cX10_flyer 178 = .ok (.iload 6, 2) := by decide +kernel
theorem dX10_flyer_180 : decode cX10_flyer 180 = .ok (.invokevirtual 107, 3) := by decide +kernel
theorem dX10_flyer_183 : decode cX10_flyer 183 = .ok (.iload 7, 2) := by decide +kernel
theorem dX10_flyer_185 : decode cX10_flyer 185 = .ok (.ireturn, 1) := by decide +kernel
theorem dX10_as_0 : decode cX10_as 0 = .ok (.aload_n 0, 1) := by decide +kernel
theorem dX10_as_1 : decode cX10_as 1 = .ok (.getfield 10, 3) := by decide +kernel
theorem dX10_as_4 : decode cX10_as 4 = .ok (.getfield 82, 3) := by decide +kernel
theorem dX10_as_7 : decode cX10_as 7 = .ok (.getfield 86, 3) := by decide +kernel
theorem dX10_as_10 : decode cX10_as 10 = .ok (.iload_n 1, 1) := by decide +kernel
theorem dX10_as_11 : decode cX10_as 11 = .ok (.invokevirtual 111, 3) := by decide +kernel
theorem dX10_as_14 : decode cX10_as 14 = .ok (.ifCond .eq 10, 3) := by decide +kernel
theorem dX10_as_17 : decode cX10_as 17 = .ok (.iload_n 2, 1) := by decide +kernel
theorem dX10_as_18 : decode cX10_as 18 = .ok (.invokestatic 54, 3) := by decide +kernel
theorem dX10_as_21 : decode cX10_as 21 = .ok (.ifCond .ne 10, 3) := by decide +kernel
theorem dX10_as_24 : decode cX10_as 24 = .ok (.aload_n 0, 1) := by decide +kernel
theorem dX10_as_25 : decode cX10_as 25 = .ok (.ldc 64, 2) := by decide +kernel
theorem dX10_as_27 : decode cX10_as 27 = .ok (.invokevirtual 65, 3) := by decide +kernel
theorem dX10_as_30 : decode cX10_as 30 = .ok (.ireturn, 1) := by decide +kernel
theorem dX10_as_31 : decode cX10_as 31 = .ok (.aload_n 0, 1) := by decide +kernel
theorem dX10_as_32 : decode cX10_as 32 = .ok (.getfield 10, 3) := by decide +kernel
theorem dX10_as_35 : decode cX10_as 35 = .ok (.getfield 82, 3) := by decide +kernel
theorem dX10_as_38 : decode cX10_as 38 = .ok (.getfield 86, 3) := by decide +kernel
theorem dX10_as_41 : decode cX10_as 41 = .ok (.iload_n 1, 1) := by decide +kernel
theorem dX10_as_42 : decode cX10_as 42 = .ok (.iconst 0, 1) := by decide +kernel
theorem dX10_as_43 : decode cX10_as 43 = .ok (.invokevirtual 114, 3) := by decide +kernel
theorem dX10_as_46 : decode cX10_as 46 = .ok (.iload_n 2, 1) := by decide +kernel
theorem dX10_as_47 : decode cX10_as 47 = .ok (.invokestatic 118, 3) := by decide +kernel
theorem dX10_as_50 : decode cX10_as 50 = .ok (.ifCond .ne 10, 3) := by decide +kernel
theorem dX10_as_53 : decode cX10_as 53 = .ok (.aload_n 0, 1) := by decide +kernel
theorem dX10_as_54 : decode cX10_as 54 = .ok (.ldc 122, 2) := by decide +kernel
theorem dX10_as_56 : decode cX10_as 56 = .ok (.invokevirtual 65, 3) := by decide +kernel
theorem dX10_as_59 : decode cX10_as 59 = .ok (.ireturn, 1) := by decide +kernel
theorem dX10_as_60 : decode cX10_as 60 = .ok (.iload_n 1, 1) := by decide +kernel
theorem dX10_as_61 : decode cX10_as 61 = .ok (.ireturn, 1) := by decide +kernel
theorem dX10_of_0 : decode cX10_of 0 = .ok (.aload_n 0, 1) := by decide +kernel
theorem dX10_of_1 : decode cX10_of 1 = .ok (.getfield 10, 3) := by decide +kernel
theorem dX10_of_4 : decode cX10_of 4 = .ok (.getfield 82, 3) := by decide +kernel
theorem dX10_of_7 : decode cX10_of 7 = .ok (.getfield 86, 3) := by decide +kernel
theorem dX10_of_10 : decode cX10_of 10 = .ok (.iload_n 1, 1) := by decide +kernel
theorem dX10_of_11 : decode cX10_of 11 = .ok (.invokevirtual 111, 3) := by decide +kernel
theorem dX10_of_14 : decode cX10_of 14 = .ok (.ifCond .eq 13, 3) := by decide +kernel
theorem dX10_of_17 : decode cX10_of 17 = .ok (.iload_n 2, 1) := by decide +kernel
theorem dX10_of_18 : decode cX10_of 18 = .ok (.ifCond .lt 9, 3) := by decide +kernel
theorem dX10_of_21 : decode cX10_of 21 = .ok (.iload_n 2, 1) := by decide +kernel
theorem dX10_of_22 : decode cX10_of 22 = .ok (.bipush 8, 2) := by decide +kernel
theorem dX10_of_24 : decode cX10_of 24 = .ok (.if_icmp .lt 10, 3) := by decide +kernel
theorem dX10_of_27 : decode cX10_of 27 = .ok (.aload_n 0, 1) := by decide +kernel
theorem dX10_of_28 : decode cX10_of 28 = .ok (.ldc 64, 2) := by decide +kernel
theorem dX10_of_30 : decode cX10_of 30 = .ok (.invokevirtual 65, 3) := by decide +kernel
theorem dX10_of_33 : decode cX10_of 33 = .ok (.ireturn, 1) := by decide +kernel
theorem dX10_of_34 : decode cX10_of 34 = .ok (.aload_n 0, 1) := by decide +kernel
theorem dX10_of_35 : decode cX10_of 35 = .ok (.getfield 10, 3) := by decide +kernel
theorem dX10_of_38 : decode cX10_of 38 = .ok (.getfield 82, 3) := by decide +kernel
theorem dX10_of_41 : decode cX10_of 41 = .ok (.getfield 86, 3) := by decide +kernel
theorem dX10_of_44 : decode cX10_of 44 = .ok (.iload_n 1, 1) := by decide +kernel
theorem dX10_of_45 : decode cX10_of 45 = .ok (.iload_n 2, 1) := by decide +kernel
theorem dX10_of_46 : decode cX10_of 46 = .ok (.invokevirtual 114, 3) := by decide +kernel
theorem dX10_of_49 : decode cX10_of 49 = .ok (.ireturn, 1) := by decide +kernel
theorem dX10_go_0 : decode cX10_go 0 = .ok (.aload_n 0, 1) := by decide +kernel
theorem dX10_go_1 : decode cX10_go 1 = .ok (.getfield 10, 3) := by decide +kernel
theorem dX10_go_4 : decode cX10_go 4 = .ok (.getfield 82, 3) := by decide +kernel
theorem dX10_go_7 : decode cX10_go 7 = .ok (.getfield 86, 3) := by decide +kernel
theorem dX10_go_10 : decode cX10_go 10 = .ok (.iload_n 1, 1) := by decide +kernel
theorem dX10_go_11 : decode cX10_go 11 = .ok (.invokevirtual 111, 3) := by decide +kernel
theorem dX10_go_14 : decode cX10_go 14 = .ok (.ifCond .eq 10, 3) := by decide +kernel
theorem dX10_go_17 : decode cX10_go 17 = .ok (.iload_n 2, 1) := by decide +kernel
theorem dX10_go_18 : decode cX10_go 18 = .ok (.invokestatic 58, 3) := by decide +kernel
theorem dX10_go_21 : decode cX10_go 21 = .ok (.ifCond .ne 10, 3) := by decide +kernel
theorem dX10_go_24 : decode cX10_go 24 = .ok (.aload_n 0, 1) := by decide +kernel
theorem dX10_go_25 : decode cX10_go 25 = .ok (.ldc 64, 2) := by decide +kernel
theorem dX10_go_27 : decode cX10_go 27 = .ok (.invokevirtual 65, 3) := by decide +kernel
theorem dX10_go_30 : decode cX10_go 30 = .ok (.ireturn, 1) := by decide +kernel
theorem dX10_go_31 : decode cX10_go 31 = .ok (.aload_n 0, 1) := by decide +kernel
theorem dX10_go_32 : decode cX10_go 32 = .ok (.getfield 10, 3) := by decide +kernel
theorem dX10_go_35 : decode cX10_go 35 = .ok (.getfield 82, 3) := by decide +kernel
theorem dX10_go_38 : decode cX10_go 38 = .ok (.getfield 86, 3) := by decide +kernel
theorem dX10_go_41 : decode cX10_go 41 = .ok (.iload_n 1, 1) := by decide +kernel
theorem dX10_go_42 : decode cX10_go 42 = .ok (.invokevirtual 123, 3) := by decide +kernel
theorem dX10_go_45 : decode cX10_go 45 = .ok (.istore_n 3, 1) := by decide +kernel
theorem dX10_go_46 : decode cX10_go 46 = .ok (.aload_n 0, 1) := by decide +kernel
theorem dX10_go_47 : decode cX10_go 47 = .ok (.getfield 19, 3) := by decide +kernel
theorem dX10_go_50 : decode cX10_go 50 = .ok (.aload_n 0, 1) := by decide +kernel
theorem dX10_go_51 : decode cX10_go 51 = .ok (.getfield 10, 3) := by decide +kernel
theorem dX10_go_54 : decode cX10_go 54 = .ok (.invokevirtual 99, 3) := by decide +kernel
theorem dX10_go_57 : decode cX10_go 57 = .ok (.aload_n 0, 1) := by decide +kernel
theorem dX10_go_58 : decode cX10_go 58 = .ok (.getfield 10, 3) := by decide +kernel
theorem dX10_go_61 : decode cX10_go 61 = .ok (.getfield 82, 3) := by decide +kernel
theorem dX10_go_64 : decode cX10_go 64 = .ok (.getfield 86, 3) := by decide +kernel
theorem dX10_go_67 : decode cX10_go 67 = .ok (.iload_n 1, 1) := by decide +kernel
theorem dX10_go_68 : decode cX10_go 68 = .ok (.iload_n 2, 1) := by decide +kernel
theorem dX10_go_69 : decode cX10_go 69 = .ok (.invokevirtual 126, 3) := by decide +kernel
theorem dX10_go_72 : decode cX10_go 72 = .ok (.iload_n 3, 1) := by decide +kernel
theorem dX10_go_73 : decode cX10_go 73 = .ok (.ireturn, 1) := by decide +kernel
theorem dX10_line_0 : decode cX10_line 0 = .ok (.aload_n 0, 1) := by decide +kernel
theorem dX10_line_1 : decode cX10_line 1 = .ok (.getfield 10, 3) := by decide +kernel
theorem dX10_line_4 : decode cX10_line 4 = .ok (.getfield 82, 3) := by decide +kernel
theorem dX10_line_7 : decode cX10_line 7 = .ok (.getfield 86, 3) := by decide +kernel
theorem dX10_line_10 : decode cX10_line 10 = .ok (.iload_n 1, 1) := by decide +kernel
theorem dX10_line_11 : decode cX10_line 11 = .ok (.invokevirtual 111, 3) := by decide +kernel
theorem dX10_line_14 : decode cX10_line 14 = .ok (.ifCond .eq 10, 3) := by decide +kernel
theorem dX10_line_17 : decode cX10_line 17 = .ok (.iload_n 2, 1) := by decide +kernel
theorem dX10_line_18 : decode cX10_line 18 = .ok (.invokestatic 69, 3) := by decide +kernel
theorem dX10_line_21 : decode cX10_line 21 = .ok (.ifCond .ne 10, 3) := by decide +kernel
theorem dX10_line_24 : decode cX10_line 24 = .ok (.aload_n 0, 1) := by decide +kernel
theorem dX10_line_25 : decode cX10_line 25 = .ok (.ldc 64, 2) := by decide +kernel
theorem dX10_line_27 : decode cX10_line 27 = .ok (.invokevirtual 65, 3) := by decide +kernel
theorem dX10_line_30 : decode cX10_line 30 = .ok (.ireturn, 1) := by decide +kernel
theorem dX10_line_31 : decode cX10_line 31 = .ok (.aload_n 0, 1) := by decide +kernel
theorem dX10_line_32 : decode cX10_line 32 = .ok (.getfield 10, 3) := by decide +kernel
theorem dX10_line_35 : decode cX10_line 35 = .ok (.getfield 82, 3) := by decide +kernel
theorem dX10_line_38 : decode cX10_line 38 = .ok (.getfield 86, 3) := by decide +kernel
theorem dX10_line_41 : decode cX10_line 41 = .ok (.iload_n 1, 1) := by decide +kernel
theorem dX10_line_42 : decode cX10_line 42 = .ok (.iconst 4, 1) := by decide +kernel
theorem dX10_line_43 : decode cX10_line 43 = .ok (.invokevirtual 114, 3) := by decide +kernel
theorem dX10_line_46 : decode cX10_line 46 = .ok (.istore_n 3, 1) := by decide +kernel
theorem dX10_line_47 : decode cX10_line 47 = .ok (.aload_n 0, 1) := by decide +kernel
theorem dX10_line_48 : decode cX10_line 48 = .ok (.getfield 19, 3) := by decide +kernel
theorem dX10_line_51 : decode cX10_line 51 = .ok (.aload_n 0, 1) := by decide +kernel
theorem dX10_line_52 : decode cX10_line 52 = .ok (.getfield 10, 3) := by decide +kernel
theorem dX10_line_55 : decode cX10_line 55 = .ok (.invokevirtual 99, 3) := by decide +kernel
theorem dX10_line_58 : decode cX10_line 58 = .ok (.aload_n 0, 1) := by decide +kernel
theorem dX10_line_59 : decode cX10_line 59 = .ok (.getfield 10, 3) := by decide +kernel
theorem dX10_line_62 : decode cX10_line 62 = .ok (.getfield 82, 3) := by decide +kernel
theorem dX10_line_65 : decode cX10_line 65 = .ok (.getfield 86, 3) := by decide +kernel
theorem dX10_line_68 : decode cX10_line 68 = .ok (.iload_n 1, 1) := by decide +kernel
theorem dX10_line_69 : decode cX10_line 69 = .ok (.iconst 4, 1) := by decide +kernel
theorem dX10_line_70 : decode cX10_line 70 = .ok (.iload_n 2, 1) := by decide +kernel
theorem dX10_line_71 : decode cX10_line 71 = .ok (.invokevirtual 130, 3) := by decide +kernel
theorem dX10_line_74 : decode cX10_line 74 = .ok (.iload_n 3, 1) := by decide +kernel
theorem dX10_line_75 : decode cX10_line 75 = .ok (.ireturn, 1) := by decide +kernel
theorem dX10_wind_0 : decode cX10_wind 0 = .ok (.iload_n 1, 1) := by decide +kernel
theorem dX10_wind_1 : decode cX10_wind 1 = .ok (.invokestatic 61, 3) := by decide +kernel
theorem dX10_wind_4 : decode cX10_wind 4 = .ok (.ifCond .eq 10, 3) := by decide +kernel
theorem dX10_wind_7 : decode cX10_wind 7 = .ok (.iload_n 2, 1) := by decide +kernel
theorem dX10_wind_8 : decode cX10_wind 8 = .ok (.invokestatic 134, 3) := by decide +kernel
theorem dX10_wind_11 : decode cX10_wind 11 = .ok (.ifCond .ne 10, 3) := by decide +kernel
theorem dX10_wind_14 : decode cX10_wind 14 = .ok (.aload_n 0, 1) := by decide +kernel
theorem dX10_wind_15 : decode cX10_wind 15 = .ok (.ldc 64, 2) := by decide +kernel
theorem dX10_wind_17 : decode cX10_wind 17 = .ok (.invokevirtual 65, 3) := by decide +kernel
theorem dX10_wind_20 : decode cX10_wind 20 = .ok (.ireturn, 1) := by decide +kernel
theorem dX10_wind_21 : decode cX10_wind 21 = .ok (.iload_n 3, 1) := by decide +kernel
theorem dX10_wind_22 : decode cX10_wind 22 = .ok (.ifCond .lt 17, 3) := by decide +kernel
theorem dX10_wind_25 : decode cX10_wind 25 = .ok (.iload_n 3, 1) := by decide +kernel
theorem dX10_wind_26 : decode cX10_wind 26 = .ok (.bipush 8, 2) := by decide +kernel
theorem dX10_wind_28 : decode cX10_wind 28 = .ok (.if_icmp .ge 11, 3) := by decide +kernel
theorem dX10_wind_31 : decode cX10_wind 31 = .ok (.iload 4, 2) := by decide +kernel
theorem dX10_wind_33 : decode cX10_wind 33 = .ok (.invokestatic 75, 3) := by decide +kernel
theorem dX10_wind_36 : decode cX10_wind 36 = .ok (.ifCond .ne 10, 3) := by decide +kernel
theorem dX10_wind_39 : decode cX10_wind 39 = .ok (.aload_n 0, 1) := by decide +kernel
theorem dX10_wind_40 : decode cX10_wind 40 = .ok (.ldc 64, 2) := by decide +kernel
theorem dX10_wind_42 : decode cX10_wind 42 = .ok (.invokevirtual 65, 3) := by decide +kernel
theorem dX10_wind_45 : decode cX10_wind 45 = .ok (.ireturn, 1) := by decide +kernel
theorem dX10_wind_46 : decode cX10_wind 46 = .ok (.aload_n 0, 1) := by decide +kernel
theorem dX10_wind_47 : decode cX10_wind 47 = .ok (.getfield 19, 3) := by decide +kernel
theorem dX10_wind_50 : decode cX10_wind 50 = .ok (.aload_n 0, 1) := by decide +kernel
theorem dX10_wind_51 : decode cX10_wind 51 = .ok (.getfield 10, 3) := by decide +kernel
theorem dX10_wind_54 : decode cX10_wind 54 = .ok (.invokevirtual 99, 3) := by decide +kernel
theorem dX10_wind_57 : decode cX10_wind 57 = .ok (.aload_n 0, 1) := by decide +kernel
theorem dX10_wind_58 : decode cX10_wind 58 = .ok (.getfield 10, 3) := by decide +kernel
theorem dX10_wind_61 : decode cX10_wind 61 = .ok (.getfield 82, 3) := by decide +kernel
theorem dX10_wind_64 : decode cX10_wind 64 = .ok (.getfield 137, 3) := by decide +kernel
theorem dX10_wind_67 : decode cX10_wind 67 = .ok (.iload_n 1, 1) := by decide +kernel
theorem dX10_wind_68 : decode cX10_wind 68 = .ok (.iload_n 2, 1) := by decide +kernel
theorem dX10_wind_69 : decode cX10_wind 69 = .ok (.iload_n 3, 1) := by decide +kernel
theorem dX10_wind_70 : decode cX10_wind 70 = .ok (.invokevirtual 141, 3) := by decide +kernel
theorem dX10_wind_73 : decode cX10_wind 73 = .ok (.aload_n 0, 1) := by decide +kernel
theorem dX10_wind_74 : decode cX10_wind 74 = .ok (.getfield 10, 3) := by decide +kernel
theorem dX10_wind_77 : decode cX10_wind 77 = .ok (.getfield 82, 3) := by decide +kernel
theorem dX10_wind_80 : decode cX10_wind 80 = .ok (.getfield 137, 3) := by decide +kernel
theorem dX10_wind_83 : decode cX10_wind 83 = .ok (.iload_n 1, 1) := by decide +kernel
theorem dX10_wind_84 : decode cX10_wind 84 = .ok (.iload_n 2, 1) := by decide +kernel
theorem dX10_wind_85 : decode cX10_wind 85 = .ok (.iload 4, 2) := by decide +kernel
theorem dX10_wind_87 : decode cX10_wind 87 = .ok (.invokevirtual 146, 3) := by decide +kernel
theorem dX10_wind_90 : decode cX10_wind 90 = .ok (.iconst 0, 1) := by decide +kernel
theorem dX10_wind_91 : decode cX10_wind 91 = .ok (.ireturn, 1) := by decide +kernel
theorem dX10_windAt_0 : decode cX10_windAt 0 = .ok (.iload_n 1, 1) := by decide +kernel
theorem dX10_windAt_1 : decode cX10_windAt 1 = .ok (.invokestatic 61, 3) := by decide +kernel
theorem dX10_windAt_4 : decode cX10_windAt 4 = .ok (.ifCond .eq 10, 3) := by decide +kernel
theorem dX10_windAt_7 : decode cX10_windAt 7 = .ok (.iload_n 2, 1) := by decide +kernel
theorem dX10_windAt_8 : decode cX10_windAt 8 = .ok (.invokestatic 134, 3) := by decide +kernel
theorem dX10_windAt_11 : decode cX10_windAt 11 = .ok (.ifCond .ne 10, 3) := by decide +kernel
theorem dX10_windAt_14 : decode cX10_windAt 14 = .ok (.aload_n 0, 1) := by decide +kernel
theorem dX10_windAt_15 : decode cX10_windAt 15 = .ok (.ldc 64, 2) := by decide +kernel
theorem dX10_windAt_17 : decode cX10_windAt 17 = .ok (.invokevirtual 65, 3) := by decide +kernel
theorem dX10_windAt_20 : decode cX10_windAt 20 = .ok (.ireturn, 1) := by decide +kernel
theorem dX10_windAt_21 : decode cX10_windAt 21 = .ok (.iload_n 3, 1) := by decide +kernel
theorem dX10_windAt_22 : decode cX10_windAt 22 = .ok (.ifCond .eq 21, 3) := by decide +kernel
theorem dX10_windAt_25 : decode cX10_windAt 25 = .ok (.aload_n 0, 1) := by decide +kernel
theorem dX10_windAt_26 : decode cX10_windAt 26 = .ok (.getfield 10, 3) := by decide +kernel
theorem dX10_windAt_29 : decode cX10_windAt 29 = .ok (.getfield 82, 3) := by decide +kernel
theorem dX10_windAt_32 : decode cX10_windAt 32 = .ok (.getfield 137, 3) := by decide +kernel
theorem dX10_windAt_35 : decode cX10_windAt 35 = .ok (.iload_n 1, 1) := by decide +kernel
theorem dX10_windAt_36 : decode cX10_windAt 36 = .ok (.iload_n 2, 1) := by decide +kernel
theorem dX10_windAt_37 : decode cX10_windAt 37 = .ok (.invokevirtual 149, 3) := by decide +kernel
theorem dX10_windAt_40 : decode cX10_windAt 40 = .ok (.goto 18, 3) := by decide +kernel
theorem dX10_windAt_43 : decode cX10_windAt 43 = .ok (.aload_n 0, 1) := by decide +kernel
theorem dX10_windAt_44 : decode cX10_windAt 44 = .ok (.getfield 10, 3) := by decide +kernel
theorem dX10_windAt_47 : decode cX10_windAt 47 = .ok (.getfield 82, 3) := by decide +kernel
theorem dX10_windAt_50 : decode cX10_windAt 50 = .ok (.getfield 137, 3) := by decide +kernel
theorem dX10_windAt_53 : decode cX10_windAt 53 = .ok (.iload_n 1, 1) := by decide +kernel
theorem dX10_windAt_54 : decode cX10_windAt 54 = .ok (.iload_n 2, 1) := by decide +kernel
theorem dX10_windAt_55 : decode cX10_windAt 55 = .ok (.invokevirtual 152, 3) := by decide +kernel
theorem dX10_windAt_58 : decode cX10_windAt 58 = .ok (.ireturn, 1) := by decide +kernel
theorem dX10_flies_0 : decode cX10_flies 0 = .ok (.aload_n 0, 1) := by decide +kernel
theorem dX10_flies_1 : decode cX10_flies 1 = .ok (.getfield 10, 3) := by decide +kernel
theorem dX10_flies_4 : decode cX10_flies 4 = .ok (.getfield 82, 3) := by decide +kernel
theorem dX10_flies_7 : decode cX10_flies 7 = .ok (.getfield 86, 3) := by decide +kernel
theorem dX10_flies_10 : decode cX10_flies 10 = .ok (.iload_n 1, 1) := by decide +kernel
theorem dX10_flies_11 : decode cX10_flies 11 = .ok (.invokevirtual 111, 3) := by decide +kernel
theorem dX10_flies_14 : decode cX10_flies 14 = .ok (.ifCond .eq 10, 3) := by decide +kernel
theorem dX10_flies_17 : decode cX10_flies 17 = .ok (.iload_n 2, 1) := by decide +kernel
theorem dX10_flies_18 : decode cX10_flies 18 = .ok (.invokestatic 134, 3) := by decide +kernel
theorem dX10_flies_21 : decode cX10_flies 21 = .ok (.ifCond .ne 10, 3) := by decide +kernel
theorem dX10_flies_24 : decode cX10_flies 24 = .ok (.aload_n 0, 1) := by decide +kernel
theorem dX10_flies_25 : decode cX10_flies 25 = .ok (.ldc 64, 2) := by decide +kernel
theorem dX10_flies_27 : decode cX10_flies 27 = .ok (.invokevirtual 65, 3) := by decide +kernel
theorem dX10_flies_30 : decode cX10_flies 30 = .ok (.ireturn, 1) := by decide +kernel
theorem dX10_flies_31 : decode cX10_flies 31 = .ok (.aload_n 0, 1) := by decide +kernel
theorem dX10_flies_32 : decode cX10_flies 32 = .ok (.getfield 10, 3) := by decide +kernel
theorem dX10_flies_35 : decode cX10_flies 35 = .ok (.getfield 82, 3) := by decide +kernel
theorem dX10_flies_38 : decode cX10_flies 38 = .ok (.iload_n 1, 1) := by decide +kernel
theorem dX10_flies_39 : decode cX10_flies 39 = .ok (.iload_n 2, 1) := by decide +kernel
theorem dX10_flies_40 : decode cX10_flies 40 = .ok (.invokevirtual 155, 3) := by decide +kernel
theorem dX10_flies_43 : decode cX10_flies 43 = .ok (.invokestatic 158, 3) := by decide +kernel
theorem dX10_flies_46 : decode cX10_flies 46 = .ok (.ireturn, 1) := by decide +kernel
theorem dX10_kite_0 : decode cX10_kite 0 = .ok (.aload_n 0, 1) := by decide +kernel
theorem dX10_kite_1 : decode cX10_kite 1 = .ok (.getfield 10, 3) := by decide +kernel
theorem dX10_kite_4 : decode cX10_kite 4 = .ok (.getfield 82, 3) := by decide +kernel
theorem dX10_kite_7 : decode cX10_kite 7 = .ok (.getfield 86, 3) := by decide +kernel
theorem dX10_kite_10 : decode cX10_kite 10 = .ok (.iload_n 1, 1) := by decide +kernel
theorem dX10_kite_11 : decode cX10_kite 11 = .ok (.invokevirtual 111, 3) := by decide +kernel
theorem dX10_kite_14 : decode cX10_kite 14 = .ok (.ifCond .eq 10, 3) := by decide +kernel
theorem dX10_kite_17 : decode cX10_kite 17 = .ok (.iload_n 2, 1) := by decide +kernel
theorem dX10_kite_18 : decode cX10_kite 18 = .ok (.invokestatic 134, 3) := by decide +kernel
theorem dX10_kite_21 : decode cX10_kite 21 = .ok (.ifCond .ne 10, 3) := by decide +kernel
theorem dX10_kite_24 : decode cX10_kite 24 = .ok (.aload_n 0, 1) := by decide +kernel
theorem dX10_kite_25 : decode cX10_kite 25 = .ok (.ldc 64, 2) := by decide +kernel
theorem dX10_kite_27 : decode cX10_kite 27 = .ok (.invokevirtual 65, 3) := by decide +kernel
theorem dX10_kite_30 : decode cX10_kite 30 = .ok (.ireturn, 1) := by decide +kernel
theorem dX10_kite_31 : decode cX10_kite 31 = .ok (.aload_n 0, 1) := by decide +kernel
theorem dX10_kite_32 : decode cX10_kite 32 = .ok (.getfield 10, 3) := by decide +kernel
theorem dX10_kite_35 : decode cX10_kite 35 = .ok (.getfield 82, 3) := by decide +kernel
theorem dX10_kite_38 : decode cX10_kite 38 = .ok (.iload_n 1, 1) := by decide +kernel
theorem dX10_kite_39 : decode cX10_kite 39 = .ok (.iload_n 2, 1) := by decide +kernel
theorem dX10_kite_40 : decode cX10_kite 40 = .ok (.invokevirtual 155, 3) := by decide +kernel
theorem dX10_kite_43 : decode cX10_kite 43 = .ok (.ifCond .ne 10, 3) := by decide +kernel
theorem dX10_kite_46 : decode cX10_kite 46 = .ok (.aload_n 0, 1) := by decide +kernel
theorem dX10_kite_47 : decode cX10_kite 47 = .ok (.ldc 162, 2) := by decide +kernel
theorem dX10_kite_49 : decode cX10_kite 49 = .ok (.invokevirtual 65, 3) := by decide +kernel
theorem dX10_kite_52 : decode cX10_kite 52 = .ok (.ireturn, 1) := by decide +kernel
theorem dX10_kite_53 : decode cX10_kite 53 = .ok (.iload_n 3, 1) := by decide +kernel
theorem dX10_kite_54 : decode cX10_kite 54 = .ok (.ifCond .eq 18, 3) := by decide +kernel
theorem dX10_kite_57 : decode cX10_kite 57 = .ok (.aload_n 0, 1) := by decide +kernel
theorem dX10_kite_58 : decode cX10_kite 58 = .ok (.getfield 10, 3) := by decide +kernel
theorem dX10_kite_61 : decode cX10_kite 61 = .ok (.getfield 82, 3) := by decide +kernel
theorem dX10_kite_64 : decode cX10_kite 64 = .ok (.iload_n 1, 1) := by decide +kernel
theorem dX10_kite_65 : decode cX10_kite 65 = .ok (.iload_n 2, 1) := by decide +kernel
theorem dX10_kite_66 : decode cX10_kite 66 = .ok (.invokevirtual 163, 3) := by decide +kernel
theorem dX10_kite_69 : decode cX10_kite 69 = .ok (.goto 15, 3) := by decide +kernel
theorem dX10_kite_72 : decode cX10_kite 72 = .ok (.aload_n 0, 1) := by decide +kernel
theorem dX10_kite_73 : decode cX10_kite 73 = .ok (.getfield 10, 3) := by decide +kernel
theorem dX10_kite_76 : decode cX10_kite 76 = .ok (.getfield 82, 3) := by decide +kernel
theorem dX10_kite_79 : decode cX10_kite 79 = .ok (.iload_n 1, 1) := by decide +kernel
theorem dX10_kite_80 : decode cX10_kite 80 = .ok (.iload_n 2, 1) := by decide +kernel
theorem dX10_kite_81 : decode cX10_kite 81 = .ok (.invokevirtual 166, 3) := by decide +kernel
theorem dX10_kite_84 : decode cX10_kite 84 = .ok (.ireturn, 1) := by decide +kernel
theorem dX10_meet_0 : decode cX10_meet 0 = .ok (.aload_n 0, 1) := by decide +kernel
theorem dX10_meet_1 : decode cX10_meet 1 = .ok (.getfield 10, 3) := by decide +kernel
theorem dX10_meet_4 : decode cX10_meet 4 = .ok (.getfield 82, 3) := by decide +kernel
theorem dX10_meet_7 : decode cX10_meet 7 = .ok (.getfield 86, 3) := by decide +kernel
theorem dX10_meet_10 : decode cX10_meet 10 = .ok (.iload_n 1, 1) := by decide +kernel
theorem dX10_meet_11 : decode cX10_meet 11 = .ok (.invokevirtual 111, 3) := by decide +kernel
theorem dX10_meet_14 : decode cX10_meet 14 = .ok (.ifCond .eq 27, 3) := by decide +kernel
theorem dX10_meet_17 : decode cX10_meet 17 = .ok (.aload_n 0, 1) := by decide +kernel
theorem dX10_meet_18 : decode cX10_meet 18 = .ok (.getfield 10, 3) := by decide +kernel
theorem dX10_meet_21 : decode cX10_meet 21 = .ok (.getfield 82, 3) := by decide +kernel
theorem dX10_meet_24 : decode cX10_meet 24 = .ok (.getfield 86, 3) := by decide +kernel
theorem dX10_meet_27 : decode cX10_meet 27 = .ok (.iload_n 2, 1) := by decide +kernel
theorem dX10_meet_28 : decode cX10_meet 28 = .ok (.invokevirtual 111, 3) := by decide +kernel
theorem dX10_meet_31 : decode cX10_meet 31 = .ok (.ifCond .eq 10, 3) := by decide +kernel
theorem dX10_meet_34 : decode cX10_meet 34 = .ok (.iload_n 3, 1) := by decide +kernel
theorem dX10_meet_35 : decode cX10_meet 35 = .ok (.invokestatic 134, 3) := by decide +kernel
theorem dX10_meet_38 : decode cX10_meet 38 = .ok (.ifCond .ne 10, 3) := by decide +kernel
theorem dX10_meet_41 : decode cX10_meet 41 = .ok (.aload_n 0, 1) := by decide +kernel
theorem dX10_meet_42 : decode cX10_meet 42 = .ok (.ldc 64, 2) := by decide +kernel
theorem dX10_meet_44 : decode cX10_meet 44 = .ok (.invokevirtual 65, 3) := by decide +kernel
theorem dX10_meet_47 : decode cX10_meet 47 = .ok (.ireturn, 1) := by decide +kernel
theorem dX10_meet_48 : decode cX10_meet 48 = .ok (.iload_n 1, 1) := by decide +kernel
theorem dX10_meet_49 : decode cX10_meet 49 = .ok (.iload_n 2, 1) := by decide +kernel
theorem dX10_meet_50 : decode cX10_meet 50 = .ok (.if_icmp .ne 10, 3) := by decide +kernel
theorem dX10_meet_53 : decode cX10_meet 53 = .ok (.aload_n 0, 1) := by decide +kernel
theorem dX10_meet_54 : decode cX10_meet 54 = .ok (.ldc 81, 2) := by decide +kernel
theorem dX10_meet_56 : decode cX10_meet 56 = .ok (.invokevirtual 65, 3) := by decide +kernel
theorem dX10_meet_59 : decode cX10_meet 59 = .ok (.ireturn, 1) := by decide +kernel
theorem dX10_meet_60 : decode cX10_meet 60 = .ok (.iload_n 3, 1) := by decide +kernel
theorem dX10_meet_61 : decode cX10_meet 61 = .ok (.istore 4, 2) := by decide +kernel
theorem dX10_meet_63 : decode cX10_meet 63 = .ok (.iload 4, 2) := by decide +kernel
theorem dX10_meet_65 : decode cX10_meet 65 = .ok (.bipush 20, 2) := by decide +kernel
theorem dX10_meet_67 : decode cX10_meet 67 = .ok (.if_icmp .ge 29, 3) := by decide +kernel
theorem dX10_meet_70 : decode cX10_meet 70 = .ok (.aload_n 0, 1) := by decide +kernel
theorem dX10_meet_71 : decode cX10_meet 71 = .ok (.getfield 10, 3) := by decide +kernel
theorem dX10_meet_74 : decode cX10_meet 74 = .ok (.getfield 82, 3) := by decide +kernel
theorem dX10_meet_77 : decode cX10_meet 77 = .ok (.iload_n 1, 1) := by decide +kernel
theorem dX10_meet_78 : decode cX10_meet 78 = .ok (.iload_n 2, 1) := by decide +kernel
theorem dX10_meet_79 : decode cX10_meet 79 = .ok (.iload 4, 2) := by decide +kernel
theorem dX10_meet_81 : decode cX10_meet 81 = .ok (.invokevirtual 169, 3) := by decide +kernel
theorem dX10_meet_84 : decode cX10_meet 84 = .ok (.ifCond .eq 6, 3) := by decide +kernel
theorem dX10_meet_87 : decode cX10_meet 87 = .ok (.iload 4, 2) := by decide +kernel
theorem dX10_meet_89 : decode cX10_meet 89 = .ok (.ireturn, 1) := by decide +kernel
theorem dX10_meet_90 : decode cX10_meet 90 = .ok (.iinc 4 1, 3) := by decide +kernel
theorem dX10_meet_93 : decode cX10_meet 93 = .ok (.goto (-30), 3) := by decide +kernel
theorem dX10_meet_96 : decode cX10_meet 96 = .ok (.aload_n 0, 1) := by decide +kernel
theorem dX10_meet_97 : decode cX10_meet 97 = .ok (.ldc 162, 2) := by decide +kernel
theorem dX10_meet_99 : decode cX10_meet 99 = .ok (.invokevirtual 65, 3) := by decide +kernel
theorem dX10_meet_102 : decode cX10_meet 102 = .ok (.ireturn, 1) := by decide +kernel
theorem dX10_meets_0 : decode cX10_meets 0 = .ok (.iload_n 1, 1) := by decide +kernel
theorem dX10_meets_1 : decode cX10_meets 1 = .ok (.invokestatic 134, 3) := by decide +kernel
theorem dX10_meets_4 : decode cX10_meets 4 = .ok (.ifCond .ne 10, 3) := by decide +kernel
theorem dX10_meets_7 : decode cX10_meets 7 = .ok (.aload_n 0, 1) := by decide +kernel
theorem dX10_meets_8 : decode cX10_meets 8 = .ok (.ldc 64, 2) := by decide +kernel
theorem dX10_meets_10 : decode cX10_meets 10 = .ok (.invokevirtual 65, 3) := by decide +kernel
theorem dX10_meets_13 : decode cX10_meets 13 = .ok (.ireturn, 1) := by decide +kernel
theorem dX10_meets_14 : decode cX10_meets 14 = .ok (.aload_n 0, 1) := by decide +kernel
theorem dX10_meets_15 : decode cX10_meets 15 = .ok (.getfield 10, 3) := by decide +kernel
theorem dX10_meets_18 : decode cX10_meets 18 = .ok (.getfield 82, 3) := by decide +kernel
theorem dX10_meets_21 : decode cX10_meets 21 = .ok (.iload_n 1, 1) := by decide +kernel
theorem dX10_meets_22 : decode cX10_meets 22 = .ok (.invokevirtual 173, 3) := by decide +kernel
theorem dX10_meets_25 : decode cX10_meets 25 = .ok (.ireturn, 1) := by decide +kernel
theorem dX10_field_0 : decode cX10_field 0 = .ok (.iload_n 1, 1) := by decide +kernel
theorem dX10_field_1 : decode cX10_field 1 = .ok (.invokestatic 134, 3) := by decide +kernel
theorem dX10_field_4 : decode cX10_field 4 = .ok (.ifCond .ne 10, 3) := by decide +kernel
theorem dX10_field_7 : decode cX10_field 7 = .ok (.aload_n 0, 1) := by decide +kernel
theorem dX10_field_8 : decode cX10_field 8 = .ok (.ldc 64, 2) := by decide +kernel
theorem dX10_field_10 : decode cX10_field 10 = .ok (.invokevirtual 65, 3) := by decide +kernel
theorem dX10_field_13 : decode cX10_field 13 = .ok (.ireturn, 1) := by decide +kernel
theorem dX10_field_14 : decode cX10_field 14 = .ok (.aload_n 0, 1) := by decide +kernel
theorem dX10_field_15 : decode cX10_field 15 = .ok (.getfield 10, 3) := by decide +kernel
theorem dX10_field_18 : decode cX10_field 18 = .ok (.getfield 82, 3) := by decide +kernel
theorem dX10_field_21 : decode cX10_field 21 = .ok (.iload_n 1, 1) := by decide +kernel
theorem dX10_field_22 : decode cX10_field 22 = .ok (.invokevirtual 176, 3) := by decide +kernel
theorem dX10_field_25 : decode cX10_field 25 = .ok (.ireturn, 1) := by decide +kernel
theorem dX10_best_0 : decode cX10_best 0 = .ok (.iload_n 1, 1) := by decide +kernel
theorem dX10_best_1 : decode cX10_best 1 = .ok (.invokestatic 134, 3) := by decide +kernel
theorem dX10_best_4 : decode cX10_best 4 = .ok (.ifCond .eq 15, 3) := by decide +kernel
theorem dX10_best_7 : decode cX10_best 7 = .ok (.iload_n 2, 1) := by decide +kernel
theorem dX10_best_8 : decode cX10_best 8 = .ok (.invokestatic 134, 3) := by decide +kernel
theorem dX10_best_11 : decode cX10_best 11 = .ok (.ifCond .eq 8, 3) := by decide +kernel
theorem dX10_best_14 : decode cX10_best 14 = .ok (.iload_n 1, 1) := by decide +kernel
theorem dX10_best_15 : decode cX10_best 15 = .ok (.iload_n 2, 1) := by decide +kernel
theorem dX10_best_16 : decode cX10_best 16 = .ok (.if_icmp .le 10, 3) := by decide +kernel
theorem dX10_best_19 : decode cX10_best 19 = .ok (.aload_n 0, 1) := by decide +kernel
theorem dX10_best_20 : decode cX10_best 20 = .ok (.ldc 64, 2) := by decide +kernel
theorem dX10_best_22 : decode cX10_best 22 = .ok (.invokevirtual 65, 3) := by decide +kernel
theorem dX10_best_25 : decode cX10_best 25 = .ok (.ireturn, 1) := by decide +kernel
theorem dX10_best_26 : decode cX10_best 26 = .ok (.iload_n 1, 1) := by decide +kernel
theorem dX10_best_27 : decode cX10_best 27 = .ok (.istore_n 3, 1) := by decide +kernel
theorem dX10_best_28 : decode cX10_best 28 = .ok (.iconst (-1), 1) := by decide +kernel
theorem dX10_best_29 : decode cX10_best 29 = .ok (.istore 4, 2) := by decide +kernel
theorem dX10_best_31 : decode cX10_best 31 = .ok (.iload_n 1, 1) := by decide +kernel
theorem dX10_best_32 : decode cX10_best 32 = .ok (.istore 5, 2) := by decide +kernel
theorem dX10_best_34 : decode cX10_best 34 = .ok (.iload 5, 2) := by decide +kernel
theorem dX10_best_36 : decode cX10_best 36 = .ok (.iload_n 2, 1) := by decide +kernel
theorem dX10_best_37 : decode cX10_best 37 = .ok (.if_icmp .gt 40, 3) := by decide +kernel
theorem dX10_best_40 : decode cX10_best 40 = .ok (.aload_n 0, 1) := by decide +kernel
theorem dX10_best_41 : decode cX10_best 41 = .ok (.getfield 10, 3) := by decide +kernel
theorem dX10_best_44 : decode cX10_best 44 = .ok (.getfield 82, 3) := by decide +kernel
theorem dX10_best_47 : decode cX10_best 47 = .ok (.iload 5, 2) := by decide +kernel
theorem dX10_best_49 : decode cX10_best 49 = .ok (.invokevirtual 176, 3) := by decide +kernel
theorem dX10_best_52 : decode cX10_best 52 = .ok (.invokestatic 179, 3) := by decide +kernel
theorem dX10_best_55 : decode cX10_best 55 = .ok (.istore 6, 2) := by decide +kernel
theorem dX10_best_57 : decode cX10_best 57 = .ok (.iload 6, 2) := by decide +kernel
theorem dX10_best_59 : decode cX10_best 59 = .ok (.iload 4, 2) := by decide +kernel
theorem dX10_best_61 : decode cX10_best 61 = .ok (.if_icmp .le 10, 3) := by decide +kernel
theorem dX10_best_64 : decode cX10_best 64 = .ok (.iload 6, 2) := by decide +kernel
theorem dX10_best_66 : decode cX10_best 66 = .ok (.istore 4, 2) := by decide +kernel
theorem dX10_best_68 : decode cX10_best 68 = .ok (.iload 5, 2) := by decide +kernel
theorem dX10_best_70 : decode cX10_best 70 = .ok (.istore_n 3, 1) := by decide +kernel
theorem dX10_best_71 : decode cX10_best 71 = .ok (.iinc 5 1, 3) := by decide +kernel
theorem dX10_best_74 : decode cX10_best 74 = .ok (.goto (-40), 3) := by decide +kernel
theorem dX10_best_77 : decode cX10_best 77 = .ok (.iload_n 3, 1) := by decide +kernel
theorem dX10_best_78 : decode cX10_best 78 = .ok (.ireturn, 1) := by decide +kernel
theorem dX10_row_0 : decode cX10_row 0 = .ok (.iload_n 1, 1) := by decide +kernel
theorem dX10_row_1 : decode cX10_row 1 = .ok (.invokestatic 184, 3) := by decide +kernel
theorem dX10_row_4 : decode cX10_row 4 = .ok (.ifCond .ne 10, 3) := by decide +kernel
theorem dX10_row_7 : decode cX10_row 7 = .ok (.aload_n 0, 1) := by decide +kernel
theorem dX10_row_8 : decode cX10_row 8 = .ok (.ldc 64, 2) := by decide +kernel
theorem dX10_row_10 : decode cX10_row 10 = .ok (.invokevirtual 65, 3) := by decide +kernel
theorem dX10_row_13 : decode cX10_row 13 = .ok (.ireturn, 1) := by decide +kernel
theorem dX10_row_14 : decode cX10_row 14 = .ok (.aload_n 0, 1) := by decide +kernel
theorem dX10_row_15 : decode cX10_row 15 = .ok (.getfield 10, 3) := by decide +kernel
theorem dX10_row_18 : decode cX10_row 18 = .ok (.getfield 187, 3) := by decide +kernel
theorem dX10_row_21 : decode cX10_row 21 = .ok (.getfield 191, 3) := by decide +kernel
theorem dX10_row_24 : decode cX10_row 24 = .ok (.istore_n 2, 1) := by decide +kernel
theorem dX10_row_25 : decode cX10_row 25 = .ok (.aload_n 0, 1) := by decide +kernel
theorem dX10_row_26 : decode cX10_row 26 = .ok (.getfield 19, 3) := by decide +kernel
theorem dX10_row_29 : decode cX10_row 29 = .ok (.aload_n 0, 1) := by decide +kernel
theorem dX10_row_30 : decode cX10_row 30 = .ok (.getfield 10, 3) := by decide +kernel
theorem dX10_row_33 : decode cX10_row 33 = .ok (.invokevirtual 99, 3) := by decide +kernel
theorem dX10_row_36 : decode cX10_row 36 = .ok (.aload_n 0, 1) := by decide +kernel
theorem dX10_row_37 : decode cX10_row 37 = .ok (.getfield 10, 3) := by decide +kernel
theorem dX10_row_40 : decode cX10_row 40 = .ok (.getfield 187, 3) := by decide +kernel
theorem dX10_row_43 : decode cX10_row 43 = .ok (.iload_n 1, 1) := by decide +kernel
theorem dX10_row_44 : decode cX10_row 44 = .ok (.invokevirtual 197, 3) := by decide +kernel
theorem dX10_row_47 : decode cX10_row 47 = .ok (.iload_n 2, 1) := by decide +kernel
theorem dX10_row_48 : decode cX10_row 48 = .ok (.ireturn, 1) := by decide +kernel
theorem dX10_walk_0 : decode cX10_walk 0 = .ok (.aload_n 0, 1) := by decide +kernel
theorem dX10_walk_1 : decode cX10_walk 1 = .ok (.getfield 10, 3) := by decide +kernel
theorem dX10_walk_4 : decode cX10_walk 4 = .ok (.getfield 187, 3) := by decide +kernel
theorem dX10_walk_7 : decode cX10_walk 7 = .ok (.astore_n 3, 1) := by decide +kernel
theorem dX10_walk_8 : decode cX10_walk 8 = .ok (.iload_n 1, 1) := by decide +kernel
theorem dX10_walk_9 : decode cX10_walk 9 = .ok (.ifCond .lt 13, 3) := by decide +kernel
theorem dX10_walk_12 : decode cX10_walk 12 = .ok (.iload_n 1, 1) := by decide +kernel
theorem dX10_walk_13 : decode cX10_walk 13 = .ok (.aload_n 3, 1) := by decide +kernel
theorem dX10_walk_14 : decode cX10_walk 14 = .ok (.getfield 201, 3) := by decide +kernel
theorem dX10_walk_17 : decode cX10_walk 17 = .ok (.iconst 1, 1) := by decide +kernel
theorem dX10_walk_18 : decode cX10_walk 18 = .ok (.isub, 1) := by decide +kernel
theorem dX10_walk_19 : decode cX10_walk 19 = .ok (.if_icmp .lt 10, 3) := by decide +kernel
theorem dX10_walk_22 : decode cX10_walk 22 = .ok (.aload_n 0, 1) := by decide +kernel
theorem dX10_walk_23 : decode cX10_walk 23 = .ok (.ldc 64, 2) := by decide +kernel
theorem dX10_walk_25 : decode cX10_walk 25 = .ok (.invokevirtual 65, 3) := by decide +kernel
theorem dX10_walk_28 : decode cX10_walk 28 = .ok (.ireturn, 1) := by decide +kernel
theorem dX10_walk_29 : decode cX10_walk 29 = .ok (.aload_n 3, 1) := by decide +kernel
theorem dX10_walk_30 : decode cX10_walk 30 = .ok (.aload_n 3, 1) := by decide +kernel
theorem dX10_walk_31 : decode cX10_walk 31 = .ok (.getfield 204, 3) := by decide +kernel
theorem dX10_walk_34 : decode cX10_walk 34 = .ok (.iload_n 1, 1) := by decide +kernel
theorem dX10_walk_35 : decode cX10_walk 35 = .ok (.iaload, 1) := by decide +kernel
theorem dX10_walk_36 : decode cX10_walk 36 = .ok (.invokevirtual 208, 3) := by decide +kernel
theorem dX10_walk_39 : decode cX10_walk 39 = .ok (.ifCond .ne 18, 3) := by decide +kernel
theorem dX10_walk_42 : decode cX10_walk 42 = .ok (.aload_n 3, 1) := by decide +kernel
theorem dX10_walk_43 : decode cX10_walk 43 = .ok (.aload_n 3, 1) := by decide +kernel
theorem dX10_walk_44 : decode cX10_walk 44 = .ok (.getfield 204, 3) := by decide +kernel
theorem dX10_walk_47 : decode cX10_walk 47 = .ok (.iload_n 1, 1) := by decide +kernel
theorem dX10_walk_48 : decode cX10_walk 48 = .ok (.iconst 1, 1) := by decide +kernel
theorem dX10_walk_49 : decode cX10_walk 49 = .ok (.iadd, 1) := by decide +kernel
theorem dX10_walk_50 : decode cX10_walk 50 = .ok (.iaload, 1) := by decide +kernel
theorem dX10_walk_51 : decode cX10_walk 51 = .ok (.invokevirtual 208, 3) := by decide +kernel
theorem dX10_walk_54 : decode cX10_walk 54 = .ok (.ifCond .eq 10, 3) := by decide +kernel
theorem dX10_walk_57 : decode cX10_walk 57 = .ok (.aload_n 0, 1) := by decide +kernel
theorem dX10_walk_58 : decode cX10_walk 58 = .ok (.ldc 211, 2) := by decide +kernel
theorem dX10_walk_60 : decode cX10_walk 60 = .ok (.invokevirtual 65, 3) := by decide +kernel
theorem dX10_walk_63 : decode cX10_walk 63 = .ok (.ireturn, 1) := by decide +kernel
theorem dX10_walk_64 : decode cX10_walk 64 = .ok (.aload_n 3, 1) := by decide +kernel
theorem dX10_walk_65 : decode cX10_walk 65 = .ok (.getfield 212, 3) := by decide +kernel
theorem dX10_walk_68 : decode cX10_walk 68 = .ok (.iload_n 1, 1) := by decide +kernel
theorem dX10_walk_69 : decode cX10_walk 69 = .ok (.iload_n 2, 1) := by decide +kernel
theorem dX10_walk_70 : decode cX10_walk 70 = .ok (.aload_n 0, 1) := by decide +kernel
theorem dX10_walk_71 : decode cX10_walk 71 = .ok (.getfield 32, 3) := by decide +kernel
theorem dX10_walk_74 : decode cX10_walk 74 = .ok (.invokevirtual 215, 3) := by decide +kernel
theorem dX10_walk_77 : decode cX10_walk 77 = .ok (.ifCond .ne 10, 3) := by decide +kernel
theorem dX10_walk_80 : decode cX10_walk 80 = .ok (.aload_n 0, 1) := by decide +kernel
theorem dX10_walk_81 : decode cX10_walk 81 = .ok (.ldc 98, 2) := by decide +kernel
theorem dX10_walk_83 : decode cX10_walk 83 = .ok (.invokevirtual 65, 3) := by decide +kernel
theorem dX10_walk_86 : decode cX10_walk 86 = .ok (.ireturn, 1) := by decide +kernel
theorem dX10_walk_87 : decode cX10_walk 87 = .ok (.aload_n 0, 1) := by decide +kernel
theorem dX10_walk_88 : decode cX10_walk 88 = .ok (.getfield 19, 3) := by decide +kernel
theorem dX10_walk_91 : decode cX10_walk 91 = .ok (.aload_n 0, 1) := by decide +kernel
theorem dX10_walk_92 : decode cX10_walk 92 = .ok (.getfield 10, 3) := by decide +kernel
theorem dX10_walk_95 : decode cX10_walk 95 = .ok (.invokevirtual 99, 3) := by decide +kernel
theorem dX10_walk_98 : decode cX10_walk 98 = .ok (.aload_n 3, 1) := by decide +kernel
theorem dX10_walk_99 : decode cX10_walk 99 = .ok (.iload_n 1, 1) := by decide +kernel
theorem dX10_walk_100 : decode cX10_walk 100 = .ok (.iload_n 2, 1) := by decide +kernel
theorem dX10_walk_101 : decode cX10_walk 101 = .ok (.aload_n 0, 1) := by decide +kernel
theorem dX10_walk_102 : decode cX10_walk 102 = .ok (.getfield 32, 3) := by decide +kernel
theorem dX10_walk_105 : decode cX10_walk 105 = .ok (.aload_n 0, 1) := by decide +kernel
theorem dX10_walk_106 : decode cX10_walk 106 = .ok (.getfield 10, 3) := by decide +kernel
theorem dX10_walk_109 : decode cX10_walk 109 = .ok (.getfield 82, 3) := by decide +kernel
theorem dX10_walk_112 : decode cX10_walk 112 = .ok (.getfield 86, 3) := by decide +kernel
theorem dX10_walk_115 : decode cX10_walk 115 = .ok (.invokevirtual 219, 3) := by decide +kernel
theorem dX10_walk_118 : decode cX10_walk 118 = .ok (.aload_n 3, 1) := by decide +kernel
theorem dX10_walk_119 : decode cX10_walk 119 = .ok (.getfield 212, 3) := by decide +kernel
theorem dX10_walk_122 : decode cX10_walk 122 = .ok (.invokevirtual 223, 3) := by decide +kernel
theorem dX10_walk_125 : decode cX10_walk 125 = .ok (.ireturn, 1) := by decide +kernel
theorem dX10_at_0 : decode cX10_at 0 = .ok (.aload_n 0, 1) := by decide +kernel
theorem dX10_at_1 : decode cX10_at 1 = .ok (.getfield 10, 3) := by decide +kernel
theorem dX10_at_4 : decode cX10_at 4 = .ok (.getfield 187, 3) := by decide +kernel
theorem dX10_at_7 : decode cX10_at 7 = .ok (.iload_n 1, 1) := by decide +kernel
theorem dX10_at_8 : decode cX10_at 8 = .ok (.invokevirtual 227, 3) := by decide +kernel
theorem dX10_at_11 : decode cX10_at 11 = .ok (.ifCond .ne 10, 3) := by decide +kernel
theorem dX10_at_14 : decode cX10_at 14 = .ok (.aload_n 0, 1) := by decide +kernel
theorem dX10_at_15 : decode cX10_at 15 = .ok (.ldc 64, 2) := by decide +kernel
theorem dX10_at_17 : decode cX10_at 17 = .ok (.invokevirtual 65, 3) := by decide +kernel
theorem dX10_at_20 : decode cX10_at 20 = .ok (.ireturn, 1) := by decide +kernel
theorem dX10_at_21 : decode cX10_at 21 = .ok (.aload_n 0, 1) := by decide +kernel
theorem dX10_at_22 : decode cX10_at 22 = .ok (.getfield 10, 3) := by decide +kernel
theorem dX10_at_25 : decode cX10_at 25 = .ok (.getfield 187, 3) := by decide +kernel
theorem dX10_at_28 : decode cX10_at 28 = .ok (.getfield 204, 3) := by decide +kernel
theorem dX10_at_31 : decode cX10_at 31 = .ok (.iload_n 1, 1) := by decide +kernel
theorem dX10_at_32 : decode cX10_at 32 = .ok (.iaload, 1) := by decide +kernel
theorem dX10_at_33 : decode cX10_at 33 = .ok (.ireturn, 1) := by decide +kernel
theorem dX10_letter_0 : decode cX10_letter 0 = .ok (.aload_n 0, 1) := by decide +kernel
theorem dX10_letter_1 : decode cX10_letter 1 = .ok (.getfield 10, 3) := by decide +kernel
theorem dX10_letter_4 : decode cX10_letter 4 = .ok (.getfield 187, 3) := by decide +kernel
theorem dX10_letter_7 : decode cX10_letter 7 = .ok (.iload_n 1, 1) := by decide +kernel
theorem dX10_letter_8 : decode cX10_letter 8 = .ok (.invokevirtual 227, 3) := by decide +kernel
theorem dX10_letter_11 : decode cX10_letter 11 = .ok (.ifCond .ne 10, 3) := by decide +kernel
theorem dX10_letter_14 : decode cX10_letter 14 = .ok (.aload_n 0, 1) := by decide +kernel
theorem dX10_letter_15 : decode cX10_letter 15 = .ok (.ldc 64, 2) := by decide +kernel
theorem dX10_letter_17 : decode cX10_letter 17 = .ok (.invokevirtual 65, 3) := by decide +kernel
theorem dX10_letter_20 : decode cX10_letter 20 = .ok (.ireturn, 1) := by decide +kernel
theorem dX10_letter_21 : decode cX10_letter 21 = .ok (.aload_n 0, 1) := by decide +kernel
theorem dX10_letter_22 : decode cX10_letter 22 = .ok (.getfield 10, 3) := by decide +kernel
theorem dX10_letter_25 : decode cX10_letter 25 = .ok (.getfield 187, 3) := by decide +kernel
theorem dX10_letter_28 : decode cX10_letter 28 = .ok (.getfield 212, 3) := by decide +kernel
theorem dX10_letter_31 : decode cX10_letter 31 = .ok (.getfield 230, 3) := by decide +kernel
theorem dX10_letter_34 : decode cX10_letter 34 = .ok (.iload_n 1, 1) := by decide +kernel
theorem dX10_letter_35 : decode cX10_letter 35 = .ok (.iaload, 1) := by decide +kernel
theorem dX10_letter_36 : decode cX10_letter 36 = .ok (.istore_n 3, 1) := by decide +kernel
theorem dX10_letter_37 : decode cX10_letter 37 = .ok (.iload_n 2, 1) := by decide +kernel
theorem dX10_letter_38 : decode cX10_letter 38 = .ok (.iconst (-1), 1) := by decide +kernel
theorem dX10_letter_39 : decode cX10_letter 39 = .ok (.if_icmp .ne 5, 3) := by decide +kernel
theorem dX10_letter_42 : decode cX10_letter 42 = .ok (.iload_n 3, 1) := by decide +kernel
theorem dX10_letter_43 : decode cX10_letter 43 = .ok (.ireturn, 1) := by decide +kernel
theorem dX10_letter_44 : decode cX10_letter 44 = .ok (.iload_n 2, 1) := by decide +kernel
theorem dX10_letter_45 : decode cX10_letter 45 = .ok (.ifCond .lt 8, 3) := by decide +kernel
theorem dX10_letter_48 : decode cX10_letter 48 = .ok (.iload_n 2, 1) := by decide +kernel
theorem dX10_letter_49 : decode cX10_letter 49 = .ok (.iload_n 3, 1) := by decide +kernel
theorem dX10_letter_50 : decode cX10_letter 50 = .ok (.if_icmp .lt 10, 3) := by decide +kernel
theorem dX10_letter_53 : decode cX10_letter 53 = .ok (.aload_n 0, 1) := by decide +kernel
theorem dX10_letter_54 : decode cX10_letter 54 = .ok (.ldc 64, 2) := by decide +kernel
theorem dX10_letter_56 : decode cX10_letter 56 = .ok (.invokevirtual 65, 3) := by decide +kernel
theorem dX10_letter_59 : decode cX10_letter 59 = .ok (.ireturn, 1) := by decide +kernel
theorem dX10_letter_60 : decode cX10_letter 60 = .ok (.aload_n 0, 1) := by decide +kernel
theorem dX10_letter_61 : decode cX10_letter 61 = .ok (.getfield 10, 3) := by decide +kernel
theorem dX10_letter_64 : decode cX10_letter 64 = .ok (.getfield 187, 3) := by decide +kernel
theorem dX10_letter_67 : decode cX10_letter 67 = .ok (.getfield 212, 3) := by decide +kernel
theorem dX10_letter_70 : decode cX10_letter 70 = .ok (.iload_n 1, 1) := by decide +kernel
theorem dX10_letter_71 : decode cX10_letter 71 = .ok (.iload_n 2, 1) := by decide +kernel
theorem dX10_letter_72 : decode cX10_letter 72 = .ok (.invokevirtual 233, 3) := by decide +kernel
theorem dX10_letter_75 : decode cX10_letter 75 = .ok (.ireturn, 1) := by decide +kernel
theorem dX10_tangle_0 : decode cX10_tangle 0 = .ok (.aload_n 0, 1) := by decide +kernel
theorem dX10_tangle_1 : decode cX10_tangle 1 = .ok (.getfield 10, 3) := by decide +kernel
theorem dX10_tangle_4 : decode cX10_tangle 4 = .ok (.getfield 187, 3) := by decide +kernel
theorem dX10_tangle_7 : decode cX10_tangle 7 = .ok (.getfield 212, 3) := by decide +kernel
theorem dX10_tangle_10 : decode cX10_tangle 10 = .ok (.invokevirtual 223, 3) := by decide +kernel
theorem dX10_tangle_13 : decode cX10_tangle 13 = .ok (.ireturn, 1) := by decide +kernel
theorem dX10_twist_0 : decode cX10_twist 0 = .ok (.aload_n 0, 1) := by decide +kernel
theorem dX10_twist_1 : decode cX10_twist 1 = .ok (.getfield 10, 3) := by decide +kernel
theorem dX10_twist_4 : decode cX10_twist 4 = .ok (.getfield 187, 3) := by decide +kernel
theorem dX10_twist_7 : decode cX10_twist 7 = .ok (.iload_n 1, 1) := by decide +kernel
theorem dX10_twist_8 : decode cX10_twist 8 = .ok (.invokevirtual 227, 3) := by decide +kernel
theorem dX10_twist_11 : decode cX10_twist 11 = .ok (.ifCond .eq 17, 3) := by decide +kernel
theorem dX10_twist_14 : decode cX10_twist 14 = .ok (.aload_n 0, 1) := by decide +kernel
theorem dX10_twist_15 : decode cX10_twist 15 = .ok (.getfield 10, 3) := by decide +kernel
theorem dX10_twist_18 : decode cX10_twist 18 = .ok (.getfield 187, 3) := by decide +kernel
theorem dX10_twist_21 : decode cX10_twist 21 = .ok (.iload_n 2, 1) := by decide +kernel
theorem dX10_twist_22 : decode cX10_twist 22 = .ok (.invokevirtual 227, 3) := by decide +kernel
theorem dX10_twist_25 : decode cX10_twist 25 = .ok (.ifCond .ne 10, 3) := by decide +kernel
theorem dX10_twist_28 : decode cX10_twist 28 = .ok (.aload_n 0, 1) := by decide +kernel
theorem dX10_twist_29 : decode cX10_twist 29 = .ok (.ldc 64, 2) := by decide +kernel
theorem dX10_twist_31 : decode cX10_twist 31 = .ok (.invokevirtual 65, 3) := by decide +kernel
theorem dX10_twist_34 : decode cX10_twist 34 = .ok (.ireturn, 1) := by decide +kernel
theorem dX10_twist_35 : decode cX10_twist 35 = .ok (.iload_n 1, 1) := by decide +kernel
theorem dX10_twist_36 : decode cX10_twist 36 = .ok (.iload_n 2, 1) := by decide +kernel
theorem dX10_twist_37 : decode cX10_twist 37 = .ok (.if_icmp .ne 10, 3) := by decide +kernel
theorem dX10_twist_40 : decode cX10_twist 40 = .ok (.aload_n 0, 1) := by decide +kernel
theorem dX10_twist_41 : decode cX10_twist 41 = .ok (.ldc 81, 2) := by decide +kernel
theorem dX10_twist_43 : decode cX10_twist 43 = .ok (.invokevirtual 65, 3) := by decide +kernel
theorem dX10_twist_46 : decode cX10_twist 46 = .ok (.ireturn, 1) := by decide +kernel
theorem dX10_twist_47 : decode cX10_twist 47 = .ok (.aload_n 0, 1) := by decide +kernel
theorem dX10_twist_48 : decode cX10_twist 48 = .ok (.getfield 10, 3) := by decide +kernel
theorem dX10_twist_51 : decode cX10_twist 51 = .ok (.getfield 187, 3) := by decide +kernel
theorem dX10_twist_54 : decode cX10_twist 54 = .ok (.iload_n 1, 1) := by decide +kernel
theorem dX10_twist_55 : decode cX10_twist 55 = .ok (.iload_n 2, 1) := by decide +kernel
theorem dX10_twist_56 : decode cX10_twist 56 = .ok (.invokevirtual 234, 3) := by decide +kernel
theorem dX10_twist_59 : decode cX10_twist 59 = .ok (.ireturn, 1) := by decide +kernel
theorem dX10_fewest_0 : decode cX10_fewest 0 = .ok (.iload_n 1, 1) := by decide +kernel
theorem dX10_fewest_1 : decode cX10_fewest 1 = .ok (.iconst (-1), 1) := by decide +kernel
theorem dX10_fewest_2 : decode cX10_fewest 2 = .ok (.if_icmp .ge 10, 3) := by decide +kernel
theorem dX10_fewest_5 : decode cX10_fewest 5 = .ok (.aload_n 0, 1) := by decide +kernel
theorem dX10_fewest_6 : decode cX10_fewest 6 = .ok (.ldc 64, 2) := by decide +kernel
theorem dX10_fewest_8 : decode cX10_fewest 8 = .ok (.invokevirtual 65, 3) := by decide +kernel
theorem dX10_fewest_11 : decode cX10_fewest 11 = .ok (.ireturn, 1) := by decide +kernel
theorem dX10_fewest_12 : decode cX10_fewest 12 = .ok (.aload_n 0, 1) := by decide +kernel
theorem dX10_fewest_13 : decode cX10_fewest 13 = .ok (.getfield 46, 3) := by decide +kernel
theorem dX10_fewest_16 : decode cX10_fewest 16 = .ok (.aload_n 0, 1) := by decide +kernel
theorem dX10_fewest_17 : decode cX10_fewest 17 = .ok (.getfield 10, 3) := by decide +kernel
theorem dX10_fewest_20 : decode cX10_fewest 20 = .ok (.getfield 187, 3) := by decide +kernel
theorem dX10_fewest_23 : decode cX10_fewest 23 = .ok (.getfield 212, 3) := by decide +kernel
theorem dX10_fewest_26 : decode cX10_fewest 26 = .ok (.invokevirtual 237, 3) := by decide +kernel
theorem dX10_fewest_29 : decode cX10_fewest 29 = .ok (.aload_n 0, 1) := by decide +kernel
theorem dX10_fewest_30 : decode cX10_fewest 30 = .ok (.getfield 39, 3) := by decide +kernel
theorem dX10_fewest_33 : decode cX10_fewest 33 = .ok (.aload_n 0, 1) := by decide +kernel
theorem dX10_fewest_34 : decode cX10_fewest 34 = .ok (.getfield 46, 3) := by decide +kernel
theorem dX10_fewest_37 : decode cX10_fewest 37 = .ok (.aload_n 0, 1) := by decide +kernel
theorem dX10_fewest_38 : decode cX10_fewest 38 = .ok (.getfield 32, 3) := by decide +kernel
theorem dX10_fewest_41 : decode cX10_fewest 41 = .ok (.invokevirtual 241, 3) := by decide +kernel
theorem dX10_fewest_44 : decode cX10_fewest 44 = .ok (.istore_n 2, 1) := by decide +kernel
theorem dX10_fewest_45 : decode cX10_fewest 45 = .ok (.iload_n 2, 1) := by decide +kernel
theorem dX10_fewest_46 : decode cX10_fewest 46 = .ok (.ifCond .lt 8, 3) := by decide +kernel
theorem dX10_fewest_49 : decode cX10_fewest 49 = .ok (.iload_n 1, 1) := by decide +kernel
theorem dX10_fewest_50 : decode cX10_fewest 50 = .ok (.iload_n 2, 1) := by decide +kernel
theorem dX10_fewest_51 : decode cX10_fewest 51 = .ok (.if_icmp .lt 10, 3) := by decide +kernel
theorem dX10_fewest_54 : decode cX10_fewest 54 = .ok (.aload_n 0, 1) := by decide +kernel
theorem dX10_fewest_55 : decode cX10_fewest 55 = .ok (.ldc 162, 2) := by decide +kernel
theorem dX10_fewest_57 : decode cX10_fewest 57 = .ok (.invokevirtual 65, 3) := by decide +kernel
theorem dX10_fewest_60 : decode cX10_fewest 60 = .ok (.ireturn, 1) := by decide +kernel
theorem dX10_fewest_61 : decode cX10_fewest 61 = .ok (.iload_n 1, 1) := by decide +kernel
theorem dX10_fewest_62 : decode cX10_fewest 62 = .ok (.ifCond .ge 7, 3) := by decide +kernel
theorem dX10_fewest_65 : decode cX10_fewest 65 = .ok (.iload_n 2, 1) := by decide +kernel
theorem dX10_fewest_66 : decode cX10_fewest 66 = .ok (.goto 12, 3) := by decide +kernel
theorem dX10_fewest_69 : decode cX10_fewest 69 = .ok (.aload_n 0, 1) := by decide +kernel
theorem dX10_fewest_70 : decode cX10_fewest 70 = .ok (.getfield 39, 3) := by decide +kernel
theorem dX10_fewest_73 : decode cX10_fewest 73 = .ok (.getfield 245, 3) := by decide +kernel
theorem dX10_fewest_76 : decode cX10_fewest 76 = .ok (.iload_n 1, 1) := by decide +kernel
theorem dX10_fewest_77 : decode cX10_fewest 77 = .ok (.iaload, 1) := by decide +kernel
theorem dX10_fewest_78 : decode cX10_fewest 78 = .ok (.ireturn, 1) := by decide +kernel
theorem dX10_same_0 : decode cX10_same 0 = .ok (.iload_n 1, 1) := by decide +kernel
theorem dX10_same_1 : decode cX10_same 1 = .ok (.invokestatic 184, 3) := by decide +kernel
theorem dX10_same_4 : decode cX10_same 4 = .ok (.ifCond .eq 17, 3) := by decide +kernel
theorem dX10_same_7 : decode cX10_same 7 = .ok (.iload_n 2, 1) := by decide +kernel
theorem dX10_same_8 : decode cX10_same 8 = .ok (.invokestatic 247, 3) := by decide +kernel
theorem dX10_same_11 : decode cX10_same 11 = .ok (.ifCond .eq 10, 3) := by decide +kernel
theorem dX10_same_14 : decode cX10_same 14 = .ok (.iload_n 3, 1) := by decide +kernel
theorem dX10_same_15 : decode cX10_same 15 = .ok (.invokestatic 247, 3) := by decide +kernel
theorem dX10_same_18 : decode cX10_same 18 = .ok (.ifCond .ne 10, 3) := by decide +kernel
theorem dX10_same_21 : decode cX10_same 21 = .ok (.aload_n 0, 1) := by decide +kernel
theorem dX10_same_22 : decode cX10_same 22 = .ok (.ldc 64, 2) := by decide +kernel
theorem dX10_same_24 : decode cX10_same 24 = .ok (.invokevirtual 65, 3) := by decide +kernel
theorem dX10_same_27 : decode cX10_same 27 = .ok (.ireturn, 1) := by decide +kernel
theorem dX10_same_28 : decode cX10_same 28 = .ok (.aload_n 0, 1) := by decide +kernel
theorem dX10_same_29 : decode cX10_same 29 = .ok (.getfield 25, 3) := by decide +kernel
theorem dX10_same_32 : decode cX10_same 32 = .ok (.iload_n 2, 1) := by decide +kernel
theorem dX10_same_33 : decode cX10_same 33 = .ok (.aaload, 1) := by decide +kernel
theorem dX10_same_34 : decode cX10_same 34 = .ok (.invokevirtual 250, 3) := by decide +kernel
theorem dX10_same_37 : decode cX10_same 37 = .ok (.ifCond .ne 15, 3) := by decide +kernel
theorem dX10_same_40 : decode cX10_same 40 = .ok (.aload_n 0, 1) := by decide +kernel
theorem dX10_same_41 : decode cX10_same 41 = .ok (.getfield 25, 3) := by decide +kernel
theorem dX10_same_44 : decode cX10_same 44 = .ok (.iload_n 3, 1) := by decide +kernel
theorem dX10_same_45 : decode cX10_same 45 = .ok (.aaload, 1) := by decide +kernel
theorem dX10_same_46 : decode cX10_same 46 = .ok (.invokevirtual 250, 3) := by decide +kernel
theorem dX10_same_49 : decode cX10_same 49 = .ok (.ifCond .eq 10, 3) := by decide +kernel
theorem dX10_same_52 : decode cX10_same 52 = .ok (.aload_n 0, 1) := by decide +kernel
theorem dX10_same_53 : decode cX10_same 53 = .ok (.ldc 253, 2) := by decide +kernel
theorem dX10_same_55 : decode cX10_same 55 = .ok (.invokevirtual 65, 3) := by decide +kernel
theorem dX10_same_58 : decode cX10_same 58 = .ok (.ireturn, 1) := by decide +kernel
theorem dX10_same_59 : decode cX10_same 59 = .ok (.iload_n 1, 1) := by decide +kernel
theorem dX10_same_60 : decode cX10_same 60 = .ok (.invokestatic 254, 3) := by decide +kernel
theorem dX10_same_63 : decode cX10_same 63 = .ok (.iconst 1, 1) := by decide +kernel
theorem dX10_same_64 : decode cX10_same 64 = .ok (.isub, 1) := by decide +kernel
theorem dX10_same_65 : decode cX10_same 65 = .ok (.istore 4, 2) := by decide +kernel
theorem dX10_same_67 : decode cX10_same 67 = .ok (.aload_n 0, 1) := by decide +kernel
theorem dX10_same_68 : decode cX10_same 68 = .ok (.getfield 25, 3) := by decide +kernel
theorem dX10_same_71 : decode cX10_same 71 = .ok (.iload_n 2, 1) := by decide +kernel
theorem dX10_same_72 : decode cX10_same 72 = .ok (.aaload, 1) := by decide +kernel
theorem dX10_same_73 : decode cX10_same 73 = .ok (.iload 4, 2) := by decide +kernel
theorem dX10_same_75 : decode cX10_same 75 = .ok (.invokevirtual 257, 3) := by decide +kernel
theorem dX10_same_78 : decode cX10_same 78 = .ok (.ifCond .eq 17, 3) := by decide +kernel
theorem dX10_same_81 : decode cX10_same 81 = .ok (.aload_n 0, 1) := by decide +kernel
theorem dX10_same_82 : decode cX10_same 82 = .ok (.getfield 25, 3) := by decide +kernel
theorem dX10_same_85 : decode cX10_same 85 = .ok (.iload_n 3, 1) := by decide +kernel
theorem dX10_same_86 : decode cX10_same 86 = .ok (.aaload, 1) := by decide +kernel
theorem dX10_same_87 : decode cX10_same 87 = .ok (.iload 4, 2) := by decide +kernel
theorem dX10_same_89 : decode cX10_same 89 = .ok (.invokevirtual 257, 3) := by decide +kernel
theorem dX10_same_92 : decode cX10_same 92 = .ok (.ifCond .ne 10, 3) := by decide +kernel
theorem dX10_same_95 : decode cX10_same 95 = .ok (.aload_n 0, 1) := by decide +kernel
theorem dX10_same_96 : decode cX10_same 96 = .ok (.ldc 64, 2) := by decide +kernel
theorem dX10_same_98 : decode cX10_same 98 = .ok (.invokevirtual 65, 3) := by decide +kernel
theorem dX10_same_101 : decode cX10_same 101 = .ok (.ireturn, 1) := by decide +kernel
theorem dX10_same_102 : decode cX10_same 102 = .ok (.aload_n 0, 1) := by decide +kernel
theorem dX10_same_103 : decode cX10_same 103 = .ok (.aload_n 0, 1) := by decide +kernel
theorem dX10_same_104 : decode cX10_same 104 = .ok (.getfield 46, 3) := by decide +kernel
theorem dX10_same_107 : decode cX10_same 107 = .ok (.iload_n 1, 1) := by decide +kernel
theorem dX10_same_108 : decode cX10_same 108 = .ok (.aload_n 0, 1) := by decide +kernel
theorem dX10_same_109 : decode cX10_same 109 = .ok (.getfield 25, 3) := by decide +kernel
theorem dX10_same_112 : decode cX10_same 112 = .ok (.iload_n 2, 1) := by decide +kernel
theorem dX10_same_113 : decode cX10_same 113 = .ok (.aaload, 1) := by decide +kernel
theorem dX10_same_114 : decode cX10_same 114 = .ok (.invokevirtual 260, 3) := by decide +kernel
theorem dX10_same_117 : decode cX10_same 117 = .ok (.ifCond .eq 21, 3) := by decide +kernel
theorem dX10_same_120 : decode cX10_same 120 = .ok (.aload_n 0, 1) := by decide +kernel
theorem dX10_same_121 : decode cX10_same 121 = .ok (.aload_n 0, 1) := by decide +kernel
theorem dX10_same_122 : decode cX10_same 122 = .ok (.getfield 50, 3) := by decide +kernel
theorem dX10_same_125 : decode cX10_same 125 = .ok (.iload_n 1, 1) := by decide +kernel
theorem dX10_same_126 : decode cX10_same 126 = .ok (.aload_n 0, 1) := by decide +kernel
theorem dX10_same_127 : decode cX10_same 127 = .ok (.getfield 25, 3) := by decide +kernel
theorem dX10_same_130 : decode cX10_same 130 = .ok (.iload_n 3, 1) := by decide +kernel
theorem dX10_same_131 : decode cX10_same 131 = .ok (.aaload, 1) := by decide +kernel
theorem dX10_same_132 : decode cX10_same 132 = .ok (.invokevirtual 260, 3) := by decide +kernel
theorem dX10_same_135 : decode cX10_same 135 = .ok (.ifCond .ne 10, 3) := by decide +kernel
theorem dX10_same_138 : decode cX10_same 138 = .ok (.aload_n 0, 1) := by decide +kernel
theorem dX10_same_139 : decode cX10_same 139 = .ok (.ldc 98, 2) := by decide +kernel
theorem dX10_same_141 : decode cX10_same 141 = .ok (.invokevirtual 65, 3) := by decide +kernel
theorem dX10_same_144 : decode cX10_same 144 = .ok (.ireturn, 1) := by decide +kernel
theorem dX10_same_145 : decode cX10_same 145 = .ok (.aload_n 0, 1) := by decide +kernel
theorem dX10_same_146 : decode cX10_same 146 = .ok (.getfield 46, 3) := by decide +kernel
theorem dX10_same_149 : decode cX10_same 149 = .ok (.aload_n 0, 1) := by decide +kernel
theorem dX10_same_150 : decode cX10_same 150 = .ok (.getfield 50, 3) := by decide +kernel
theorem dX10_same_153 : decode cX10_same 153 = .ok (.invokevirtual 264, 3) := by decide +kernel
theorem dX10_same_156 : decode cX10_same 156 = .ok (.invokestatic 158, 3) := by decide +kernel
theorem dX10_same_159 : decode cX10_same 159 = .ok (.ireturn, 1) := by decide +kernel
theorem dX10_sharp_0 : decode cX10_sharp 0 = .ok (.aload_n 0, 1) := by decide +kernel
theorem dX10_sharp_1 : decode cX10_sharp 1 = .ok (.getfield 10, 3) := by decide +kernel
theorem dX10_sharp_4 : decode cX10_sharp 4 = .ok (.getfield 187, 3) := by decide +kernel
theorem dX10_sharp_7 : decode cX10_sharp 7 = .ok (.iload_n 1, 1) := by decide +kernel
theorem dX10_sharp_8 : decode cX10_sharp 8 = .ok (.invokevirtual 227, 3) := by decide +kernel
theorem dX10_sharp_11 : decode cX10_sharp 11 = .ok (.ifCond .eq 13, 3) := by decide +kernel
theorem dX10_sharp_14 : decode cX10_sharp 14 = .ok (.iload_n 2, 1) := by decide +kernel
theorem dX10_sharp_15 : decode cX10_sharp 15 = .ok (.ifCond .lt 9, 3) := by decide +kernel
theorem dX10_sharp_18 : decode cX10_sharp 18 = .ok (.iload_n 2, 1) := by decide +kernel
theorem dX10_sharp_19 : decode cX10_sharp 19 = .ok (.bipush 9, 2) := by decide +kernel
theorem dX10_sharp_21 : decode cX10_sharp 21 = .ok (.if_icmp .le 10, 3) := by decide +kernel
theorem dX10_sharp_24 : decode cX10_sharp 24 = .ok (.aload_n 0, 1) := by decide +kernel
theorem dX10_sharp_25 : decode cX10_sharp 25 = .ok (.ldc 64, 2) := by decide +kernel
theorem dX10_sharp_27 : decode cX10_sharp 27 = .ok (.invokevirtual 65, 3) := by decide +kernel
theorem dX10_sharp_30 : decode cX10_sharp 30 = .ok (.ireturn, 1) := by decide +kernel
theorem dX10_sharp_31 : decode cX10_sharp 31 = .ok (.aload_n 0, 1) := by decide +kernel
theorem dX10_sharp_32 : decode cX10_sharp 32 = .ok (.getfield 10, 3) := by decide +kernel
theorem dX10_sharp_35 : decode cX10_sharp 35 = .ok (.getfield 187, 3) := by decide +kernel
theorem dX10_sharp_38 : decode cX10_sharp 38 = .ok (.getfield 268, 3) := by decide +kernel
theorem dX10_sharp_41 : decode cX10_sharp 41 = .ok (.iload_n 1, 1) := by decide +kernel
theorem dX10_sharp_42 : decode cX10_sharp 42 = .ok (.iaload, 1) := by decide +kernel
theorem dX10_sharp_43 : decode cX10_sharp 43 = .ok (.istore_n 3, 1) := by decide +kernel
theorem dX10_sharp_44 : decode cX10_sharp 44 = .ok (.aload_n 0, 1) := by decide +kernel
theorem dX10_sharp_45 : decode cX10_sharp 45 = .ok (.getfield 19, 3) := by decide +kernel
theorem dX10_sharp_48 : decode cX10_sharp 48 = .ok (.aload_n 0, 1) := by decide +kernel
theorem dX10_sharp_49 : decode cX10_sharp 49 = .ok (.getfield 10, 3) := by decide +kernel
theorem dX10_sharp_52 : decode cX10_sharp 52 = .ok (.invokevirtual 99, 3) := by decide +kernel
theorem dX10_sharp_55 : decode cX10_sharp 55 = .ok (.aload_n 0, 1) := by decide +kernel
theorem dX10_sharp_56 : decode cX10_sharp 56 = .ok (.getfield 10, 3) := by decide +kernel
theorem dX10_sharp_59 : decode cX10_sharp 59 = .ok (.getfield 187, 3) := by decide +kernel
theorem dX10_sharp_62 : decode cX10_sharp 62 = .ok (.getfield 268, 3) := by decide +kernel
theorem dX10_sharp_65 : decode cX10_sharp 65 = .ok (.iload_n 1, 1) := by decide +kernel
theorem dX10_sharp_66 : decode cX10_sharp 66 = .ok (.iload_n 2, 1) := by decide +kernel
theorem dX10_sharp_67 : decode cX10_sharp 67 = .ok (.iastore, 1) := by decide +kernel
theorem dX10_sharp_68 : decode cX10_sharp 68 = .ok (.iload_n 3, 1) := by decide +kernel
theorem dX10_sharp_69 : decode cX10_sharp 69 = .ok (.ireturn, 1) := by decide +kernel
theorem dX10_wear_0 : decode cX10_wear 0 = .ok (.aload_n 0, 1) := by decide +kernel
theorem dX10_wear_1 : decode cX10_wear 1 = .ok (.getfield 10, 3) := by decide +kernel
theorem dX10_wear_4 : decode cX10_wear 4 = .ok (.getfield 187, 3) := by decide +kernel
theorem dX10_wear_7 : decode cX10_wear 7 = .ok (.iload_n 1, 1) := by decide +kernel
theorem dX10_wear_8 : decode cX10_wear 8 = .ok (.invokevirtual 227, 3) := by decide +kernel
theorem dX10_wear_11 : decode cX10_wear 11 = .ok (.ifCond .ne 10, 3) := by decide +kernel
theorem dX10_wear_14 : decode cX10_wear 14 = .ok (.aload_n 0, 1) := by decide +kernel
theorem dX10_wear_15 : decode cX10_wear 15 = .ok (.ldc 64, 2) := by decide +kernel
theorem dX10_wear_17 : decode cX10_wear 17 = .ok (.invokevirtual 65, 3) := by decide +kernel
theorem dX10_wear_20 : decode cX10_wear 20 = .ok (.ireturn, 1) := by decide +kernel
theorem dX10_wear_21 : decode cX10_wear 21 = .ok (.aload_n 0, 1) := by decide +kernel
theorem dX10_wear_22 : decode cX10_wear 22 = .ok (.getfield 10, 3) := by decide +kernel
theorem dX10_wear_25 : decode cX10_wear 25 = .ok (.getfield 187, 3) := by decide +kernel
theorem dX10_wear_28 : decode cX10_wear 28 = .ok (.getfield 271, 3) := by decide +kernel
theorem dX10_wear_31 : decode cX10_wear 31 = .ok (.iload_n 1, 1) := by decide +kernel
theorem dX10_wear_32 : decode cX10_wear 32 = .ok (.iaload, 1) := by decide +kernel
theorem dX10_wear_33 : decode cX10_wear 33 = .ok (.ireturn, 1) := by decide +kernel
theorem dX10_lost_0 : decode cX10_lost 0 = .ok (.iconst 0, 1) := by decide +kernel
theorem dX10_lost_1 : decode cX10_lost 1 = .ok (.istore_n 1, 1) := by decide +kernel
theorem dX10_lost_2 : decode cX10_lost 2 = .ok (.iconst 0, 1) := by decide +kernel
theorem dX10_lost_3 : decode cX10_lost 3 = .ok (.istore_n 2, 1) := by decide +kernel
theorem dX10_lost_4 : decode cX10_lost 4 = .ok (.iload_n 2, 1) := by decide +kernel
theorem dX10_lost_5 : decode cX10_lost 5 = .ok (.aload_n 0, 1) := by decide +kernel
theorem dX10_lost_6 : decode cX10_lost 6 = .ok (.getfield 10, 3) := by decide +kernel
theorem dX10_lost_9 : decode cX10_lost 9 = .ok (.getfield 187, 3) := by decide +kernel
theorem dX10_lost_12 : decode cX10_lost 12 = .ok (.getfield 201, 3) := by decide +kernel
theorem dX10_lost_15 : decode cX10_lost 15 = .ok (.if_icmp .ge 29, 3) := by decide +kernel
theorem dX10_lost_18 : decode cX10_lost 18 = .ok (.aload_n 0, 1) := by decide +kernel
theorem dX10_lost_19 : decode cX10_lost 19 = .ok (.getfield 10, 3) := by decide +kernel
theorem dX10_lost_22 : decode cX10_lost 22 = .ok (.getfield 187, 3) := by decide +kernel
theorem dX10_lost_25 : decode cX10_lost 25 = .ok (.iload_n 2, 1) := by decide +kernel
theorem dX10_lost_26 : decode cX10_lost 26 = .ok (.invokevirtual 208, 3) := by decide +kernel
theorem dX10_lost_29 : decode cX10_lost 29 = .ok (.ifCond .eq 9, 3) := by decide +kernel
theorem dX10_lost_32 : decode cX10_lost 32 = .ok (.iload_n 1, 1) := by decide +kernel
theorem dX10_lost_33 : decode cX10_lost 33 = .ok (.iconst 1, 1) := by decide +kernel
theorem dX10_lost_34 : decode cX10_lost 34 = .ok (.iload_n 2, 1) := by decide +kernel
theorem dX10_lost_35 : decode cX10_lost 35 = .ok (.ishl, 1) := by decide +kernel
theorem dX10_lost_36 : decode cX10_lost 36 = .ok (.ior, 1) := by decide +kernel
theorem dX10_lost_37 : decode cX10_lost 37 = .ok (.istore_n 1, 1) := by decide +kernel
theorem dX10_lost_38 : decode cX10_lost 38 = .ok (.iinc 2 1, 3) := by decide +kernel
theorem dX10_lost_41 : decode cX10_lost 41 = .ok (.goto (-37), 3) := by decide +kernel
theorem dX10_lost_44 : decode cX10_lost 44 = .ok (.iload_n 1, 1) := by decide +kernel
theorem dX10_lost_45 : decode cX10_lost 45 = .ok (.ireturn, 1) := by decide +kernel
theorem dX10_sheet_0 : decode cX10_sheet 0 = .ok (.iload_n 1, 1) := by decide +kernel
theorem dX10_sheet_1 : decode cX10_sheet 1 = .ok (.invokestatic 247, 3) := by decide +kernel
theorem dX10_sheet_4 : decode cX10_sheet 4 = .ok (.ifCond .eq 25, 3) := by decide +kernel
theorem dX10_sheet_7 : decode cX10_sheet 7 = .ok (.iload_n 2, 1) := by decide +kernel
theorem dX10_sheet_8 : decode cX10_sheet 8 = .ok (.ifCond .eq 28, 3) := by decide +kernel
theorem dX10_sheet_11 : decode cX10_sheet 11 = .ok (.iload_n 2, 1) := by decide +kernel
theorem dX10_sheet_12 : decode cX10_sheet 12 = .ok (.bipush 8, 2) := by decide +kernel
theorem dX10_sheet_14 : decode cX10_sheet 14 = .ok (.if_icmp .eq 22, 3) := by decide +kernel
theorem dX10_sheet_17 : decode cX10_sheet 17 = .ok (.iload_n 2, 1) := by decide +kernel
theorem dX10_sheet_18 : decode cX10_sheet 18 = .ok (.bipush 16, 2) := by decide +kernel
theorem dX10_sheet_20 : decode cX10_sheet 20 = .ok (.if_icmp .eq 16, 3) := by decide +kernel
theorem dX10_sheet_23 : decode cX10_sheet 23 = .ok (.iload_n 2, 1) := by decide +kernel
theorem dX10_sheet_24 : decode cX10_sheet 24 = .ok (.bipush 32, 2) := by decide +kernel
theorem dX10_sheet_26 : decode cX10_sheet 26 = .ok (.if_icmp .eq 10, 3) := by decide +kernel
theorem dX10_sheet_29 : decode cX10_sheet 29 = .ok (.aload_n 0, 1) := by decide +kernel
theorem dX10_sheet_30 : decode cX10_sheet 30 = .ok (.ldc 64, 2) := by decide +kernel
theorem dX10_sheet_32 : decode cX10_sheet 32 = .ok (.invokevirtual 65, 3) := by decide +kernel
theorem dX10_sheet_35 : decode cX10_sheet 35 = .ok (.ireturn, 1) := by decide +kernel
theorem dX10_sheet_36 : decode cX10_sheet 36 = .ok (.iload_n 3, 1) := by decide +kernel
theorem dX10_sheet_37 : decode cX10_sheet 37 = .ok (.ifCond .ge 10, 3) := by decide +kernel
theorem dX10_sheet_40 : decode cX10_sheet 40 = .ok (.aload_n 0, 1) := by decide +kernel
theorem dX10_sheet_41 : decode cX10_sheet 41 = .ok (.ldc 81, 2) := by decide +kernel
theorem dX10_sheet_43 : decode cX10_sheet 43 = .ok (.invokevirtual 65, 3) := by decide +kernel
theorem dX10_sheet_46 : decode cX10_sheet 46 = .ok (.ireturn, 1) := by decide +kernel
theorem dX10_sheet_47 : decode cX10_sheet 47 = .ok (.iload_n 3, 1) := by decide +kernel
theorem dX10_sheet_48 : decode cX10_sheet 48 = .ok (.bipush 40, 2) := by decide +kernel
theorem dX10_sheet_50 : decode cX10_sheet 50 = .ok (.if_icmp .le 10, 3) := by decide +kernel
theorem dX10_sheet_53 : decode cX10_sheet 53 = .ok (.aload_n 0, 1) := by decide +kernel
theorem dX10_sheet_54 : decode cX10_sheet 54 = .ok (.ldc 64, 2) := by decide +kernel
theorem dX10_sheet_56 : decode cX10_sheet 56 = .ok (.invokevirtual 65, 3) := by decide +kernel
theorem dX10_sheet_59 : decode cX10_sheet 59 = .ok (.ireturn, 1) := by decide +kernel
theorem dX10_sheet_60 : decode cX10_sheet 60 = .ok (.aload_n 0, 1) := by decide +kernel
theorem dX10_sheet_61 : decode cX10_sheet 61 = .ok (.getfield 25, 3) := by decide +kernel
theorem dX10_sheet_64 : decode cX10_sheet 64 = .ok (.iload_n 1, 1) := by decide +kernel
theorem dX10_sheet_65 : decode cX10_sheet 65 = .ok (.aaload, 1) := by decide +kernel
theorem dX10_sheet_66 : decode cX10_sheet 66 = .ok (.iload_n 2, 1) := by decide +kernel
theorem dX10_sheet_67 : decode cX10_sheet 67 = .ok (.iload_n 3, 1) := by decide +kernel
theorem dX10_sheet_68 : decode cX10_sheet 68 = .ok (.invokevirtual 274, 3) := by decide +kernel
theorem dX10_sheet_71 : decode cX10_sheet 71 = .ok (.aload_n 0, 1) := by decide +kernel
theorem dX10_sheet_72 : decode cX10_sheet 72 = .ok (.getfield 25, 3) := by decide +kernel
theorem dX10_sheet_75 : decode cX10_sheet 75 = .ok (.iload_n 1, 1) := by decide +kernel
theorem dX10_sheet_76 : decode cX10_sheet 76 = .ok (.aaload, 1) := by decide +kernel
theorem dX10_sheet_77 : decode cX10_sheet 77 = .ok (.getfield 276, 3) := by decide +kernel
theorem dX10_sheet_80 : decode cX10_sheet 80 = .ok (.ireturn, 1) := by decide +kernel
theorem dX10_put_0 : decode cX10_put 0 = .ok (.iload_n 1, 1) := by decide +kernel
theorem dX10_put_1 : decode cX10_put 1 = .ok (.invokestatic 247, 3) := by decide +kernel
theorem dX10_put_4 : decode cX10_put 4 = .ok (.ifCond .ne 10, 3) := by decide +kernel
theorem dX10_put_7 : decode cX10_put 7 = .ok (.aload_n 0, 1) := by decide +kernel
theorem dX10_put_8 : decode cX10_put 8 = .ok (.ldc 64, 2) := by decide +kernel
theorem dX10_put_10 : decode cX10_put 10 = .ok (.invokevirtual 65, 3) := by decide +kernel
theorem dX10_put_13 : decode cX10_put 13 = .ok (.ireturn, 1) := by decide +kernel
theorem dX10_put_14 : decode cX10_put 14 = .ok (.aload_n 0, 1) := by decide +kernel
theorem dX10_put_15 : decode cX10_put 15 = .ok (.getfield 25, 3) := by decide +kernel
theorem dX10_put_18 : decode cX10_put 18 = .ok (.iload_n 1, 1) := by decide +kernel
theorem dX10_put_19 : decode cX10_put 19 = .ok (.aaload, 1) := by decide +kernel
theorem dX10_put_20 : decode cX10_put 20 = .ok (.invokevirtual 250, 3) := by decide +kernel
theorem dX10_put_23 : decode cX10_put 23 = .ok (.ifCond .eq 10, 3) := by decide +kernel
theorem dX10_put_26 : decode cX10_put 26 = .ok (.aload_n 0, 1) := by decide +kernel
theorem dX10_put_27 : decode cX10_put 27 = .ok (.ldc 253, 2) := by decide +kernel
theorem dX10_put_29 : decode cX10_put 29 = .ok (.invokevirtual 65, 3) := by decide +kernel
theorem dX10_put_32 : decode cX10_put 32 = .ok (.ireturn, 1) := by decide +kernel
theorem dX10_put_33 : decode cX10_put 33 = .ok (.iload_n 2, 1) := by decide +kernel
theorem dX10_put_34 : decode cX10_put 34 = .ok (.ifCond .lt 16, 3) := by decide +kernel
theorem dX10_put_37 : decode cX10_put 37 = .ok (.iload_n 2, 1) := by decide +kernel
theorem dX10_put_38 : decode cX10_put 38 = .ok (.aload_n 0, 1) := by decide +kernel
theorem dX10_put_39 : decode cX10_put 39 = .ok (.getfield 25, 3) := by decide +kernel
theorem dX10_put_42 : decode cX10_put 42 = .ok (.iload_n 1, 1) := by decide +kernel
theorem dX10_put_43 : decode cX10_put 43 = .ok (.aaload, 1) := by decide +kernel
theorem dX10_put_44 : decode cX10_put 44 = .ok (.getfield 276, 3) := by decide +kernel
theorem dX10_put_47 : decode cX10_put 47 = .ok (.if_icmp .lt 10, 3) := by decide +kernel
theorem dX10_put_50 : decode cX10_put 50 = .ok (.aload_n 0, 1) := by decide +kernel
theorem dX10_put_51 : decode cX10_put 51 = .ok (.ldc 64, 2) := by decide +kernel
theorem dX10_put_53 : decode cX10_put 53 = .ok (.invokevirtual 65, 3) := by decide +kernel
theorem dX10_put_56 : decode cX10_put 56 = .ok (.ireturn, 1) := by decide +kernel
theorem dX10_put_57 : decode cX10_put 57 = .ok (.aload_n 0, 1) := by decide +kernel
theorem dX10_put_58 : decode cX10_put 58 = .ok (.getfield 25, 3) := by decide +kernel
theorem dX10_put_61 : decode cX10_put 61 = .ok (.iload_n 1, 1) := by decide +kernel
theorem dX10_put_62 : decode cX10_put 62 = .ok (.aaload, 1) := by decide +kernel
theorem dX10_put_63 : decode cX10_put 63 = .ok (.iload_n 2, 1) := by decide +kernel
theorem dX10_put_64 : decode cX10_put 64 = .ok (.iload_n 3, 1) := by decide +kernel
theorem dX10_put_65 : decode cX10_put 65 = .ok (.invokevirtual 279, 3) := by decide +kernel
theorem dX10_put_68 : decode cX10_put 68 = .ok (.iconst 0, 1) := by decide +kernel
theorem dX10_put_69 : decode cX10_put 69 = .ok (.ireturn, 1) := by decide +kernel
theorem dX10_copy_0 : decode cX10_copy 0 = .ok (.iload_n 1, 1) := by decide +kernel
theorem dX10_copy_1 : decode cX10_copy 1 = .ok (.invokestatic 247, 3) := by decide +kernel
theorem dX10_copy_4 : decode cX10_copy 4 = .ok (.ifCond .eq 10, 3) := by decide +kernel
theorem dX10_copy_7 : decode cX10_copy 7 = .ok (.iload_n 3, 1) := by decide +kernel
theorem dX10_copy_8 : decode cX10_copy 8 = .ok (.invokestatic 247, 3) := by decide +kernel
theorem dX10_copy_11 : decode cX10_copy 11 = .ok (.ifCond .ne 10, 3) := by decide +kernel
theorem dX10_copy_14 : decode cX10_copy 14 = .ok (.aload_n 0, 1) := by decide +kernel
theorem dX10_copy_15 : decode cX10_copy 15 = .ok (.ldc 64, 2) := by decide +kernel
theorem dX10_copy_17 : decode cX10_copy 17 = .ok (.invokevirtual 65, 3) := by decide +kernel
theorem dX10_copy_20 : decode cX10_copy 20 = .ok (.ireturn, 1) := by decide +kernel
theorem dX10_copy_21 : decode cX10_copy 21 = .ok (.aload_n 0, 1) := by decide +kernel
theorem dX10_copy_22 : decode cX10_copy 22 = .ok (.getfield 25, 3) := by decide +kernel
theorem dX10_copy_25 : decode cX10_copy 25 = .ok (.iload_n 1, 1) := by decide +kernel
theorem dX10_copy_26 : decode cX10_copy 26 = .ok (.aaload, 1) := by decide +kernel
theorem dX10_copy_27 : decode cX10_copy 27 = .ok (.invokevirtual 250, 3) := by decide +kernel
theorem dX10_copy_30 : decode cX10_copy 30 = .ok (.ifCond .ne 15, 3) := by decide +kernel
theorem dX10_copy_33 : decode cX10_copy 33 = .ok (.aload_n 0, 1) := by decide +kernel
theorem dX10_copy_34 : decode cX10_copy 34 = .ok (.getfield 25, 3) := by decide +kernel
theorem dX10_copy_37 : decode cX10_copy 37 = .ok (.iload_n 3, 1) := by decide +kernel
theorem dX10_copy_38 : decode cX10_copy 38 = .ok (.aaload, 1) := by decide +kernel
theorem dX10_copy_39 : decode cX10_copy 39 = .ok (.invokevirtual 250, 3) := by decide +kernel
theorem dX10_copy_42 : decode cX10_copy 42 = .ok (.ifCond .eq 10, 3) := by decide +kernel
theorem dX10_copy_45 : decode cX10_copy 45 = .ok (.aload_n 0, 1) := by decide +kernel
theorem dX10_copy_46 : decode cX10_copy 46 = .ok (.ldc 253, 2) := by decide +kernel
theorem dX10_copy_48 : decode cX10_copy 48 = .ok (.invokevirtual 65, 3) := by decide +kernel
theorem dX10_copy_51 : decode cX10_copy 51 = .ok (.ireturn, 1) := by decide +kernel
theorem dX10_copy_52 : decode cX10_copy 52 = .ok (.aload_n 0, 1) := by decide +kernel
theorem dX10_copy_53 : decode cX10_copy 53 = .ok (.getfield 25, 3) := by decide +kernel
theorem dX10_copy_56 : decode cX10_copy 56 = .ok (.iload_n 1, 1) := by decide +kernel
theorem dX10_copy_57 : decode cX10_copy 57 = .ok (.aaload, 1) := by decide +kernel
theorem dX10_copy_58 : decode cX10_copy 58 = .ok (.getfield 282, 3) := by decide +kernel
theorem dX10_copy_61 : decode cX10_copy 61 = .ok (.aload_n 0, 1) := by decide +kernel
theorem dX10_copy_62 : decode cX10_copy 62 = .ok (.getfield 25, 3) := by decide +kernel
theorem dX10_copy_65 : decode cX10_copy 65 = .ok (.iload_n 3, 1) := by decide +kernel
theorem dX10_copy_66 : decode cX10_copy 66 = .ok (.aaload, 1) := by decide +kernel
theorem dX10_copy_67 : decode cX10_copy 67 = .ok (.getfield 282, 3) := by decide +kernel
theorem dX10_copy_70 : decode cX10_copy 70 = .ok (.if_icmp .eq 10, 3) := by decide +kernel
theorem dX10_copy_73 : decode cX10_copy 73 = .ok (.aload_n 0, 1) := by decide +kernel
theorem dX10_copy_74 : decode cX10_copy 74 = .ok (.ldc 122, 2) := by decide +kernel
theorem dX10_copy_76 : decode cX10_copy 76 = .ok (.invokevirtual 65, 3) := by decide +kernel
theorem dX10_copy_79 : decode cX10_copy 79 = .ok (.ireturn, 1) := by decide +kernel
theorem dX10_copy_80 : decode cX10_copy 80 = .ok (.aload_n 0, 1) := by decide +kernel
theorem dX10_copy_81 : decode cX10_copy 81 = .ok (.getfield 25, 3) := by decide +kernel
theorem dX10_copy_84 : decode cX10_copy 84 = .ok (.iload_n 1, 1) := by decide +kernel
theorem dX10_copy_85 : decode cX10_copy 85 = .ok (.aaload, 1) := by decide +kernel
theorem dX10_copy_86 : decode cX10_copy 86 = .ok (.iload_n 2, 1) := by decide +kernel
theorem dX10_copy_87 : decode cX10_copy 87 = .ok (.iload 5, 2) := by decide +kernel
theorem dX10_copy_89 : decode cX10_copy 89 = .ok (.invokevirtual 285, 3) := by decide +kernel
theorem dX10_copy_92 : decode cX10_copy 92 = .ok (.ifCond .eq 19, 3) := by decide +kernel
theorem dX10_copy_95 : decode cX10_copy 95 = .ok (.aload_n 0, 1) := by decide +kernel
theorem dX10_copy_96 : decode cX10_copy 96 = .ok (.getfield 25, 3) := by decide +kernel
theorem dX10_copy_99 : decode cX10_copy 99 = .ok (.iload_n 3, 1) := by decide +kernel
theorem dX10_copy_100 : decode cX10_copy 100 = .ok (.aaload, 1) := by decide +kernel
theorem dX10_copy_101 : decode cX10_copy 101 = .ok (.iload 4, 2) := by decide +kernel
theorem dX10_copy_103 : decode cX10_copy 103 = .ok (.iload 5, 2) := by decide +kernel
theorem dX10_copy_105 : decode cX10_copy 105 = .ok (.invokevirtual 285, 3) := by decide +kernel
theorem dX10_copy_108 : decode cX10_copy 108 = .ok (.ifCond .ne 10, 3) := by decide +kernel
theorem dX10_copy_111 : decode cX10_copy 111 = .ok (.aload_n 0, 1) := by decide +kernel
theorem dX10_copy_112 : decode cX10_copy 112 = .ok (.ldc 64, 2) := by decide +kernel
theorem dX10_copy_114 : decode cX10_copy 114 = .ok (.invokevirtual 65, 3) := by decide +kernel
theorem dX10_copy_117 : decode cX10_copy 117 = .ok (.ireturn, 1) := by decide +kernel
theorem dX10_copy_118 : decode cX10_copy 118 = .ok (.aload_n 0, 1) := by decide +kernel
theorem dX10_copy_119 : decode cX10_copy 119 = .ok (.getfield 25, 3) := by decide +kernel
theorem dX10_copy_122 : decode cX10_copy 122 = .ok (.iload_n 1, 1) := by decide +kernel
theorem dX10_copy_123 : decode cX10_copy 123 = .ok (.aaload, 1) := by decide +kernel
theorem dX10_copy_124 : decode cX10_copy 124 = .ok (.getfield 288, 3) := by decide +kernel
theorem dX10_copy_127 : decode cX10_copy 127 = .ok (.iload_n 2, 1) := by decide +kernel
theorem dX10_copy_128 : decode cX10_copy 128 = .ok (.aload_n 0, 1) := by decide +kernel
theorem dX10_copy_129 : decode cX10_copy 129 = .ok (.getfield 25, 3) := by decide +kernel
theorem dX10_copy_132 : decode cX10_copy 132 = .ok (.iload_n 3, 1) := by decide +kernel
theorem dX10_copy_133 : decode cX10_copy 133 = .ok (.aaload, 1) := by decide +kernel
theorem dX10_copy_134 : decode cX10_copy 134 = .ok (.getfield 288, 3) := by decide +kernel
theorem dX10_copy_137 : decode cX10_copy 137 = .ok (.iload 4, 2) := by decide +kernel
theorem dX10_copy_139 : decode cX10_copy 139 = .ok (.iload 5, 2) := by decide +kernel
theorem dX10_copy_141 : decode cX10_copy 141 = .ok (.invokestatic 291, 3) := by decide +kernel
theorem dX10_copy_144 : decode cX10_copy 144 = .ok (.iload 5, 2) := by decide +kernel
theorem dX10_copy_146 : decode cX10_copy 146 = .ok (.ireturn, 1) := by decide +kernel
theorem dX10_gusts_0 : decode cX10_gusts 0 = .ok (.iload_n 1, 1) := by decide +kernel
theorem dX10_gusts_1 : decode cX10_gusts 1 = .ok (.invokestatic 61, 3) := by decide +kernel
theorem dX10_gusts_4 : decode cX10_gusts 4 = .ok (.ifCond .eq 17, 3) := by decide +kernel
theorem dX10_gusts_7 : decode cX10_gusts 7 = .ok (.iload_n 2, 1) := by decide +kernel
theorem dX10_gusts_8 : decode cX10_gusts 8 = .ok (.invokestatic 134, 3) := by decide +kernel
theorem dX10_gusts_11 : decode cX10_gusts 11 = .ok (.ifCond .eq 10, 3) := by decide +kernel
theorem dX10_gusts_14 : decode cX10_gusts 14 = .ok (.iload_n 3, 1) := by decide +kernel
theorem dX10_gusts_15 : decode cX10_gusts 15 = .ok (.invokestatic 247, 3) := by decide +kernel
theorem dX10_gusts_18 : decode cX10_gusts 18 = .ok (.ifCond .ne 10, 3) := by decide +kernel
theorem dX10_gusts_21 : decode cX10_gusts 21 = .ok (.aload_n 0, 1) := by decide +kernel
theorem dX10_gusts_22 : decode cX10_gusts 22 = .ok (.ldc 64, 2) := by decide +kernel
theorem dX10_gusts_24 : decode cX10_gusts 24 = .ok (.invokevirtual 65, 3) := by decide +kernel
theorem dX10_gusts_27 : decode cX10_gusts 27 = .ok (.ireturn, 1) := by decide +kernel
theorem dX10_gusts_28 : decode cX10_gusts 28 = .ok (.aload_n 0, 1) := by decide +kernel
theorem dX10_gusts_29 : decode cX10_gusts 29 = .ok (.getfield 25, 3) := by decide +kernel
theorem dX10_gusts_32 : decode cX10_gusts 32 = .ok (.iload_n 3, 1) := by decide +kernel
theorem dX10_gusts_33 : decode cX10_gusts 33 = .ok (.aaload, 1) := by decide +kernel
theorem dX10_gusts_34 : decode cX10_gusts 34 = .ok (.invokevirtual 250, 3) := by decide +kernel
theorem dX10_gusts_37 : decode cX10_gusts 37 = .ok (.ifCond .eq 10, 3) := by decide +kernel
theorem dX10_gusts_40 : decode cX10_gusts 40 = .ok (.aload_n 0, 1) := by decide +kernel
theorem dX10_gusts_41 : decode cX10_gusts 41 = .ok (.ldc 253, 2) := by decide +kernel
theorem dX10_gusts_43 : decode cX10_gusts 43 = .ok (.invokevirtual 65, 3) := by decide +kernel
theorem dX10_gusts_46 : decode cX10_gusts 46 = .ok (.ireturn, 1) := by decide +kernel
theorem dX10_gusts_47 : decode cX10_gusts 47 = .ok (.aload_n 0, 1) := by decide +kernel
theorem dX10_gusts_48 : decode cX10_gusts 48 = .ok (.getfield 25, 3) := by decide +kernel
theorem dX10_gusts_51 : decode cX10_gusts 51 = .ok (.iload_n 3, 1) := by decide +kernel
theorem dX10_gusts_52 : decode cX10_gusts 52 = .ok (.aaload, 1) := by decide +kernel
theorem dX10_gusts_53 : decode cX10_gusts 53 = .ok (.getfield 276, 3) := by decide +kernel
theorem dX10_gusts_56 : decode cX10_gusts 56 = .ok (.istore 4, 2) := by decide +kernel
theorem dX10_gusts_58 : decode cX10_gusts 58 = .ok (.iload_n 2, 1) := by decide +kernel
theorem dX10_gusts_59 : decode cX10_gusts 59 = .ok (.iload 4, 2) := by decide +kernel
theorem dX10_gusts_61 : decode cX10_gusts 61 = .ok (.iadd, 1) := by decide +kernel
theorem dX10_gusts_62 : decode cX10_gusts 62 = .ok (.bipush 20, 2) := by decide +kernel
theorem dX10_gusts_64 : decode cX10_gusts 64 = .ok (.if_icmp .le 10, 3) := by decide +kernel
theorem dX10_gusts_67 : decode cX10_gusts 67 = .ok (.aload_n 0, 1) := by decide +kernel
theorem dX10_gusts_68 : decode cX10_gusts 68 = .ok (.ldc 81, 2) := by decide +kernel
theorem dX10_gusts_70 : decode cX10_gusts 70 = .ok (.invokevirtual 65, 3) := by decide +kernel
theorem dX10_gusts_73 : decode cX10_gusts 73 = .ok (.ireturn, 1) := by decide +kernel
theorem dX10_gusts_74 : decode cX10_gusts 74 = .ok (.aload_n 0, 1) := by decide +kernel
theorem dX10_gusts_75 : decode cX10_gusts 75 = .ok (.getfield 25, 3) := by decide +kernel
theorem dX10_gusts_78 : decode cX10_gusts 78 = .ok (.iload_n 3, 1) := by decide +kernel
theorem dX10_gusts_79 : decode cX10_gusts 79 = .ok (.aaload, 1) := by decide +kernel
theorem dX10_gusts_80 : decode cX10_gusts 80 = .ok (.bipush 12, 2) := by decide +kernel
theorem dX10_gusts_82 : decode cX10_gusts 82 = .ok (.invokevirtual 257, 3) := by decide +kernel
theorem dX10_gusts_85 : decode cX10_gusts 85 = .ok (.ifCond .ne 10, 3) := by decide +kernel
theorem dX10_gusts_88 : decode cX10_gusts 88 = .ok (.aload_n 0, 1) := by decide +kernel
theorem dX10_gusts_89 : decode cX10_gusts 89 = .ok (.ldc 64, 2) := by decide +kernel
theorem dX10_gusts_91 : decode cX10_gusts 91 = .ok (.invokevirtual 65, 3) := by decide +kernel
theorem dX10_gusts_94 : decode cX10_gusts 94 = .ok (.ireturn, 1) := by decide +kernel
theorem dX10_gusts_95 : decode cX10_gusts 95 = .ok (.aload_n 0, 1) := by decide +kernel
theorem dX10_gusts_96 : decode cX10_gusts 96 = .ok (.getfield 19, 3) := by decide +kernel
theorem dX10_gusts_99 : decode cX10_gusts 99 = .ok (.aload_n 0, 1) := by decide +kernel
theorem dX10_gusts_100 : decode cX10_gusts 100 = .ok (.getfield 10, 3) := by decide +kernel
theorem dX10_gusts_103 : decode cX10_gusts 103 = .ok (.invokevirtual 99, 3) := by decide +kernel
theorem dX10_gusts_106 : decode cX10_gusts 106 = .ok (.iconst 0, 1) := by decide +kernel
theorem dX10_gusts_107 : decode cX10_gusts 107 = .ok (.istore 5, 2) := by decide +kernel
theorem dX10_gusts_109 : decode cX10_gusts 109 = .ok (.iload 5, 2) := by decide +kernel
theorem dX10_gusts_111 : decode cX10_gusts 111 = .ok (.iload 4, 2) := by decide +kernel
theorem dX10_gusts_113 : decode cX10_gusts 113 = .ok (.if_icmp .ge 39, 3) := by decide +kernel
theorem dX10_gusts_116 : decode cX10_gusts 116 = .ok (.aload_n 0, 1) := by decide +kernel
theorem dX10_gusts_117 : decode cX10_gusts 117 = .ok (.getfield 10, 3) := by decide +kernel
theorem dX10_gusts_120 : decode cX10_gusts 120 = .ok (.getfield 82, 3) := by decide +kernel
theorem dX10_gusts_123 : decode cX10_gusts 123 = .ok (.getfield 137, 3) := by decide +kernel
theorem dX10_gusts_126 : decode cX10_gusts 126 = .ok (.iload_n 1, 1) := by decide +kernel
theorem dX10_gusts_127 : decode cX10_gusts 127 = .ok (.iload_n 2, 1) := by decide +kernel
theorem dX10_gusts_128 : decode cX10_gusts 128 = .ok (.iload 5, 2) := by decide +kernel
theorem dX10_gusts_130 : decode cX10_gusts 130 = .ok (.iadd, 1) := by decide +kernel
theorem dX10_gusts_131 : decode cX10_gusts 131 = .ok (.aload_n 0, 1) := by decide +kernel
theorem dX10_gusts_132 : decode cX10_gusts 132 = .ok (.getfield 25, 3) := by decide +kernel
theorem dX10_gusts_135 : decode cX10_gusts 135 = .ok (.iload_n 3, 1) := by decide +kernel
theorem dX10_gusts_136 : decode cX10_gusts 136 = .ok (.aaload, 1) := by decide +kernel
theorem dX10_gusts_137 : decode cX10_gusts 137 = .ok (.getfield 288, 3) := by decide +kernel
theorem dX10_gusts_140 : decode cX10_gusts 140 = .ok (.iload 5, 2) := by decide +kernel
theorem dX10_gusts_142 : decode cX10_gusts 142 = .ok (.iaload, 1) := by decide +kernel
theorem dX10_gusts_143 : decode cX10_gusts 143 = .ok (.invokevirtual 146, 3) := by decide +kernel
theorem dX10_gusts_146 : decode cX10_gusts 146 = .ok (.iinc 5 1, 3) := by decide +kernel
theorem dX10_gusts_149 : decode cX10_gusts 149 = .ok (.goto (-40), 3) := by decide +kernel
theorem dX10_gusts_152 : decode cX10_gusts 152 = .ok (.iload 4, 2) := by decide +kernel
theorem dX10_gusts_154 : decode cX10_gusts 154 = .ok (.ireturn, 1) := by decide +kernel
theorem dX10_undo_0 : decode cX10_undo 0 = .ok (.aload_n 0, 1) := by decide +kernel
theorem dX10_undo_1 : decode cX10_undo 1 = .ok (.getfield 19, 3) := by decide +kernel
theorem dX10_undo_4 : decode cX10_undo 4 = .ok (.getfield 297, 3) := by decide +kernel
theorem dX10_undo_7 : decode cX10_undo 7 = .ok (.ifCond .ne 10, 3) := by decide +kernel
theorem dX10_undo_10 : decode cX10_undo 10 = .ok (.aload_n 0, 1) := by decide +kernel
theorem dX10_undo_11 : decode cX10_undo 11 = .ok (.ldc 162, 2) := by decide +kernel
theorem dX10_undo_13 : decode cX10_undo 13 = .ok (.invokevirtual 65, 3) := by decide +kernel
theorem dX10_undo_16 : decode cX10_undo 16 = .ok (.ireturn, 1) := by decide +kernel
theorem dX10_undo_17 : decode cX10_undo 17 = .ok (.aload_n 0, 1) := by decide +kernel
theorem dX10_undo_18 : decode cX10_undo 18 = .ok (.getfield 19, 3) := by decide +kernel
theorem dX10_undo_21 : decode cX10_undo 21 = .ok (.aload_n 0, 1) := by decide +kernel
theorem dX10_undo_22 : decode cX10_undo 22 = .ok (.getfield 10, 3) := by decide +kernel
theorem dX10_undo_25 : decode cX10_undo 25 = .ok (.invokevirtual 298, 3) := by decide +kernel
theorem dX10_undo_28 : decode cX10_undo 28 = .ok (.aload_n 0, 1) := by decide +kernel
theorem dX10_undo_29 : decode cX10_undo 29 = .ok (.getfield 19, 3) := by decide +kernel
theorem dX10_undo_32 : decode cX10_undo 32 = .ok (.getfield 297, 3) := by decide +kernel
theorem dX10_undo_35 : decode cX10_undo 35 = .ok (.ireturn, 1) := by decide +kernel
theorem dX10_all_0 : decode cX10_all 0 = .ok (.iload_n 1, 1) := by decide +kernel
theorem dX10_all_1 : decode cX10_all 1 = .ok (.tableswitch 93 0 4 #[35, 49, 60, 71, 88], 35) := by decide +kernel
theorem dX10_all_36 : decode cX10_all 36 = .ok (.aload_n 0, 1) := by decide +kernel
theorem dX10_all_37 : decode cX10_all 37 = .ok (.getfield 10, 3) := by decide +kernel
theorem dX10_all_40 : decode cX10_all 40 = .ok (.getfield 82, 3) := by decide +kernel
theorem dX10_all_43 : decode cX10_all 43 = .ok (.getfield 86, 3) := by decide +kernel
theorem dX10_all_46 : decode cX10_all 46 = .ok (.getfield 301, 3) := by decide +kernel
theorem dX10_all_49 : decode cX10_all 49 = .ok (.ireturn, 1) := by decide +kernel
theorem dX10_all_50 : decode cX10_all 50 = .ok (.aload_n 0, 1) := by decide +kernel
theorem dX10_all_51 : decode cX10_all 51 = .ok (.getfield 10, 3) := by decide +kernel
theorem dX10_all_54 : decode cX10_all 54 = .ok (.getfield 187, 3) := by decide +kernel
theorem dX10_all_57 : decode cX10_all 57 = .ok (.getfield 201, 3) := by decide +kernel
theorem dX10_all_60 : decode cX10_all 60 = .ok (.ireturn, 1) := by decide +kernel
theorem dX10_all_61 : decode cX10_all 61 = .ok (.aload_n 0, 1) := by decide +kernel
theorem dX10_all_62 : decode cX10_all 62 = .ok (.getfield 10, 3) := by decide +kernel
theorem dX10_all_65 : decode cX10_all 65 = .ok (.getfield 187, 3) := by decide +kernel
theorem dX10_all_68 : decode cX10_all 68 = .ok (.getfield 191, 3) := by decide +kernel
theorem dX10_all_71 : decode cX10_all 71 = .ok (.ireturn, 1) := by decide +kernel
theorem dX10_all_72 : decode cX10_all 72 = .ok (.aload_n 0, 1) := by decide +kernel
theorem dX10_all_73 : decode cX10_all 73 = .ok (.getfield 10, 3) := by decide +kernel
theorem dX10_all_76 : decode cX10_all 76 = .ok (.getfield 187, 3) := by decide +kernel
theorem dX10_all_79 : decode cX10_all 79 = .ok (.getfield 212, 3) := by decide +kernel
theorem dX10_all_82 : decode cX10_all 82 = .ok (.invokevirtual 302, 3) := by decide +kernel
theorem dX10_all_85 : decode cX10_all 85 = .ok (.invokestatic 158, 3) := by decide +kernel
theorem dX10_all_88 : decode cX10_all 88 = .ok (.ireturn, 1) := by decide +kernel
theorem dX10_all_89 : decode cX10_all 89 = .ok (.aload_n 0, 1) := by decide +kernel
theorem dX10_all_90 : decode cX10_all 90 = .ok (.getfield 305, 3) := by decide +kernel
theorem dX10_all_93 : decode cX10_all 93 = .ok (.ireturn, 1) := by decide +kernel
theorem dX10_all_94 : decode cX10_all 94 = .ok (.aload_n 0, 1) := by decide +kernel
theorem dX10_all_95 : decode cX10_all 95 = .ok (.ldc 64, 2) := by decide +kernel
theorem dX10_all_97 : decode cX10_all 97 = .ok (.invokevirtual 65, 3) := by decide +kernel
theorem dX10_all_100 : decode cX10_all 100 = .ok (.ireturn, 1) := by decide +kernel
theorem dX10_finding_0 : decode cX10_finding 0 = .ok (.aload_n 0, 1) := by decide +kernel
theorem dX10_finding_1 : decode cX10_finding 1 = .ok (.dup, 1) := by decide +kernel
theorem dX10_finding_2 : decode cX10_finding 2 = .ok (.getfield 305, 3) := by decide +kernel
theorem dX10_finding_5 : decode cX10_finding 5 = .ok (.iconst 1, 1) := by decide +kernel
theorem dX10_finding_6 : decode cX10_finding 6 = .ok (.iadd, 1) := by decide +kernel
theorem dX10_finding_7 : decode cX10_finding 7 = .ok (.putfield 305, 3) := by decide +kernel
theorem dX10_finding_10 : decode cX10_finding 10 = .ok (.iload_n 1, 1) := by decide +kernel
theorem dX10_finding_11 : decode cX10_finding 11 = .ok (.ireturn, 1) := by decide +kernel
theorem dX10_follow_0 : decode cX10_follow 0 = .ok (.aload_n 1, 1) := by decide +kernel
theorem dX10_follow_1 : decode cX10_follow 1 = .ok (.iload_n 2, 1) := by decide +kernel
theorem dX10_follow_2 : decode cX10_follow 2 = .ok (.invokevirtual 308, 3) := by decide +kernel
theorem dX10_follow_5 : decode cX10_follow 5 = .ok (.iconst 0, 1) := by decide +kernel
theorem dX10_follow_6 : decode cX10_follow 6 = .ok (.istore 4, 2) := by decide +kernel
theorem dX10_follow_8 : decode cX10_follow 8 = .ok (.iload 4, 2) := by decide +kernel
theorem dX10_follow_10 : decode cX10_follow 10 = .ok (.aload_n 3, 1) := by decide +kernel
theorem dX10_follow_11 : decode cX10_follow 11 = .ok (.getfield 276, 3) := by decide +kernel
theorem dX10_follow_14 : decode cX10_follow 14 = .ok (.if_icmp .ge 42, 3) := by decide +kernel
theorem dX10_follow_17 : decode cX10_follow 17 = .ok (.aload_n 1, 1) := by decide +kernel
theorem dX10_follow_18 : decode cX10_follow 18 = .ok (.aload_n 3, 1) := by decide +kernel
theorem dX10_follow_19 : decode cX10_follow 19 = .ok (.getfield 288, 3) := by decide +kernel
theorem dX10_follow_22 : decode cX10_follow 22 = .ok (.iload 4, 2) := by decide +kernel
theorem dX10_follow_24 : decode cX10_follow 24 = .ok (.iaload, 1) := by decide +kernel
theorem dX10_follow_25 : decode cX10_follow 25 = .ok (.invokestatic 309, 3) := by decide +kernel
theorem dX10_follow_28 : decode cX10_follow 28 = .ok (.aload_n 3, 1) := by decide +kernel
theorem dX10_follow_29 : decode cX10_follow 29 = .ok (.getfield 288, 3) := by decide +kernel
theorem dX10_follow_32 : decode cX10_follow 32 = .ok (.iload 4, 2) := by decide +kernel
theorem dX10_follow_34 : decode cX10_follow 34 = .ok (.iaload, 1) := by decide +kernel
theorem dX10_follow_35 : decode cX10_follow 35 = .ok (.invokestatic 312, 3) := by decide +kernel
theorem dX10_follow_38 : decode cX10_follow 38 = .ok (.aload_n 0, 1) := by decide +kernel
theorem dX10_follow_39 : decode cX10_follow 39 = .ok (.getfield 32, 3) := by decide +kernel
theorem dX10_follow_42 : decode cX10_follow 42 = .ok (.invokevirtual 315, 3) := by decide +kernel
theorem dX10_follow_45 : decode cX10_follow 45 = .ok (.ifCond .ne 5, 3) := by decide +kernel
theorem dX10_follow_48 : decode cX10_follow 48 = .ok (.iconst 0, 1) := by decide +kernel
theorem dX10_follow_49 : decode cX10_follow 49 = .ok (.ireturn, 1) := by decide +kernel
theorem dX10_follow_50 : decode cX10_follow 50 = .ok (.iinc 4 1, 3) := by decide +kernel
theorem dX10_follow_53 : decode cX10_follow 53 = .ok (.goto (-45), 3) := by decide +kernel
theorem dX10_follow_56 : decode cX10_follow 56 = .ok (.iconst 1, 1) := by decide +kernel
theorem dX10_follow_57 : decode cX10_follow 57 = .ok (.ireturn, 1) := by decide +kernel
theorem dX10_oneIf_0 : decode cX10_oneIf 0 = .ok (.iload_n 0, 1) := by decide +kernel
theorem dX10_oneIf_1 : decode cX10_oneIf 1 = .ok (.ifCond .eq 7, 3) := by decide +kernel
theorem dX10_oneIf_4 : decode cX10_oneIf 4 = .ok (.iconst 1, 1) := by decide +kernel
theorem dX10_oneIf_5 : decode cX10_oneIf 5 = .ok (.goto 4, 3) := by decide +kernel
theorem dX10_oneIf_8 : decode cX10_oneIf 8 = .ok (.iconst 0, 1) := by decide +kernel
theorem dX10_oneIf_9 : decode cX10_oneIf 9 = .ok (.ireturn, 1) := by decide +kernel
theorem dX10_isKind_0 : decode cX10_isKind 0 = .ok (.iload_n 0, 1) := by decide +kernel
theorem dX10_isKind_1 : decode cX10_isKind 1 = .ok (.ifCond .lt 12, 3) := by decide +kernel
theorem dX10_isKind_4 : decode cX10_isKind 4 = .ok (.iload_n 0, 1) := by decide +kernel
theorem dX10_isKind_5 : decode cX10_isKind 5 = .ok (.iconst 4, 1) := by decide +kernel
theorem dX10_isKind_6 : decode cX10_isKind 6 = .ok (.if_icmp .ge 7, 3) := by decide +kernel
theorem dX10_isKind_9 : decode cX10_isKind 9 = .ok (.iconst 1, 1) := by decide +kernel
theorem dX10_isKind_10 : decode cX10_isKind 10 = .ok (.goto 4, 3) := by decide +kernel
theorem dX10_isKind_13 : decode cX10_isKind 13 = .ok (.iconst 0, 1) := by decide +kernel
theorem dX10_isKind_14 : decode cX10_isKind 14 = .ok (.ireturn, 1) := by decide +kernel
theorem dX10_isUnder_0 : decode cX10_isUnder 0 = .ok (.iload_n 0, 1) := by decide +kernel
theorem dX10_isUnder_1 : decode cX10_isUnder 1 = .ok (.istore_n 2, 1) := by decide +kernel
theorem dX10_isUnder_2 : decode cX10_isUnder 2 = .ok (.iconst 0, 1) := by decide +kernel
theorem dX10_isUnder_3 : decode cX10_isUnder 3 = .ok (.istore_n 3, 1) := by decide +kernel
theorem dX10_isUnder_4 : decode cX10_isUnder 4 = .ok (.iload_n 3, 1) := by decide +kernel
theorem dX10_isUnder_5 : decode cX10_isUnder 5 = .ok (.iconst 4, 1) := by decide +kernel
theorem dX10_isUnder_6 : decode cX10_isUnder 6 = .ok (.if_icmp .ge 31, 3) := by decide +kernel
theorem dX10_isUnder_9 : decode cX10_isUnder 9 = .ok (.iload_n 2, 1) := by decide +kernel
theorem dX10_isUnder_10 : decode cX10_isUnder 10 = .ok (.ifCond .lt 27, 3) := by decide +kernel
theorem dX10_isUnder_13 : decode cX10_isUnder 13 = .ok (.iload_n 2, 1) := by decide +kernel
theorem dX10_isUnder_14 : decode cX10_isUnder 14 = .ok (.iconst 4, 1) := by decide +kernel
theorem dX10_isUnder_15 : decode cX10_isUnder 15 = .ok (.if_icmp .ge 22, 3) := by decide +kernel
theorem dX10_isUnder_18 : decode cX10_isUnder 18 = .ok (.iload_n 2, 1) := by decide +kernel
theorem dX10_isUnder_19 : decode cX10_isUnder 19 = .ok (.iload_n 1, 1) := by decide +kernel
theorem dX10_isUnder_20 : decode cX10_isUnder 20 = .ok (.if_icmp .ne 5, 3) := by decide +kernel
theorem dX10_isUnder_23 : decode cX10_isUnder 23 = .ok (.iconst 1, 1) := by decide +kernel
theorem dX10_isUnder_24 : decode cX10_isUnder 24 = .ok (.ireturn, 1) := by decide +kernel
theorem dX10_isUnder_25 : decode cX10_isUnder 25 = .ok (.getstatic 318, 3) := by decide +kernel
theorem dX10_isUnder_28 : decode cX10_isUnder 28 = .ok (.iload_n 2, 1) := by decide +kernel
theorem dX10_isUnder_29 : decode cX10_isUnder 29 = .ok (.iaload, 1) := by decide +kernel
theorem dX10_isUnder_30 : decode cX10_isUnder 30 = .ok (.istore_n 2, 1) := by decide +kernel
theorem dX10_isUnder_31 : decode cX10_isUnder 31 = .ok (.iinc 3 1, 3) := by decide +kernel
theorem dX10_isUnder_34 : decode cX10_isUnder 34 = .ok (.goto (-30), 3) := by decide +kernel
theorem dX10_isUnder_37 : decode cX10_isUnder 37 = .ok (.iconst 0, 1) := by decide +kernel
theorem dX10_isUnder_38 : decode cX10_isUnder 38 = .ok (.ireturn, 1) := by decide +kernel
theorem dX10_isSpot_0 : decode cX10_isSpot 0 = .ok (.iload_n 0, 1) := by decide +kernel
theorem dX10_isSpot_1 : decode cX10_isSpot 1 = .ok (.ifCond .lt 14, 3) := by decide +kernel
theorem dX10_isSpot_4 : decode cX10_isSpot 4 = .ok (.iload_n 0, 1) := by decide +kernel
theorem dX10_isSpot_5 : decode cX10_isSpot 5 = .ok (.sipush 10000, 3) := by decide +kernel
theorem dX10_isSpot_8 : decode cX10_isSpot 8 = .ok (.if_icmp .ge 7, 3) := by decide +kernel
theorem dX10_isSpot_11 : decode cX10_isSpot 11 = .ok (.iconst 1, 1) := by decide +kernel
theorem dX10_isSpot_12 : decode cX10_isSpot 12 = .ok (.goto 4, 3) := by decide +kernel
theorem dX10_isSpot_15 : decode cX10_isSpot 15 = .ok (.iconst 0, 1) := by decide +kernel
theorem dX10_isSpot_16 : decode cX10_isSpot 16 = .ok (.ireturn, 1) := by decide +kernel
theorem dX10_isHeight_0 : decode cX10_isHeight 0 = .ok (.iload_n 0, 1) := by decide +kernel
theorem dX10_isHeight_1 : decode cX10_isHeight 1 = .ok (.ifCond .lt 12, 3) := by decide +kernel
theorem dX10_isHeight_4 : decode cX10_isHeight 4 = .ok (.iload_n 0, 1) := by decide +kernel
theorem dX10_isHeight_5 : decode cX10_isHeight 5 = .ok (.iconst 4, 1) := by decide +kernel
theorem dX10_isHeight_6 : decode cX10_isHeight 6 = .ok (.if_icmp .ge 7, 3) := by decide +kernel
theorem dX10_isHeight_9 : decode cX10_isHeight 9 = .ok (.iconst 1, 1) := by decide +kernel
theorem dX10_isHeight_10 : decode cX10_isHeight 10 = .ok (.goto 4, 3) := by decide +kernel
theorem dX10_isHeight_13 : decode cX10_isHeight 13 = .ok (.iconst 0, 1) := by decide +kernel
theorem dX10_isHeight_14 : decode cX10_isHeight 14 = .ok (.ireturn, 1) := by decide +kernel
theorem dX10_isLine_0 : decode cX10_isLine 0 = .ok (.iload_n 0, 1) := by decide +kernel
theorem dX10_isLine_1 : decode cX10_isLine 1 = .ok (.iconst 1, 1) := by decide +kernel
theorem dX10_isLine_2 : decode cX10_isLine 2 = .ok (.if_icmp .lt 13, 3) := by decide +kernel
theorem dX10_isLine_5 : decode cX10_isLine 5 = .ok (.iload_n 0, 1) := by decide +kernel
theorem dX10_isLine_6 : decode cX10_isLine 6 = .ok (.bipush 40, 2) := by decide +kernel
theorem dX10_isLine_8 : decode cX10_isLine 8 = .ok (.if_icmp .gt 7, 3) := by decide +kernel
theorem dX10_isLine_11 : decode cX10_isLine 11 = .ok (.iconst 1, 1) := by decide +kernel
theorem dX10_isLine_12 : decode cX10_isLine 12 = .ok (.goto 4, 3) := by decide +kernel
theorem dX10_isLine_15 : decode cX10_isLine 15 = .ok (.iconst 0, 1) := by decide +kernel
theorem dX10_isLine_16 : decode cX10_isLine 16 = .ok (.ireturn, 1) := by decide +kernel
theorem dX10_isForce_0 : decode cX10_isForce 0 = .ok (.iload_n 0, 1) := by decide +kernel
theorem dX10_isForce_1 : decode cX10_isForce 1 = .ok (.ifCond .lt 13, 3) := by decide +kernel
theorem dX10_isForce_4 : decode cX10_isForce 4 = .ok (.iload_n 0, 1) := by decide +kernel
theorem dX10_isForce_5 : decode cX10_isForce 5 = .ok (.bipush 12, 2) := by decide +kernel
theorem dX10_isForce_7 : decode cX10_isForce 7 = .ok (.if_icmp .gt 7, 3) := by decide +kernel
theorem dX10_isForce_10 : decode cX10_isForce 10 = .ok (.iconst 1, 1) := by decide +kernel
theorem dX10_isForce_11 : decode cX10_isForce 11 = .ok (.goto 4, 3) := by decide +kernel
theorem dX10_isForce_14 : decode cX10_isForce 14 = .ok (.iconst 0, 1) := by decide +kernel
theorem dX10_isForce_15 : decode cX10_isForce 15 = .ok (.ireturn, 1) := by decide +kernel
theorem dX10_leastOf_0 : decode cX10_leastOf 0 = .ok (.iload_n 0, 1) := by decide +kernel
theorem dX10_leastOf_1 : decode cX10_leastOf 1 = .ok (.bipush 16, 2) := by decide +kernel
theorem dX10_leastOf_3 : decode cX10_leastOf 3 = .ok (.idiv, 1) := by decide +kernel
theorem dX10_leastOf_4 : decode cX10_leastOf 4 = .ok (.ireturn, 1) := by decide +kernel
theorem dX10_mostOf_0 : decode cX10_mostOf 0 = .ok (.iload_n 0, 1) := by decide +kernel
theorem dX10_mostOf_1 : decode cX10_mostOf 1 = .ok (.bipush 16, 2) := by decide +kernel
theorem dX10_mostOf_3 : decode cX10_mostOf 3 = .ok (.irem, 1) := by decide +kernel
theorem dX10_mostOf_4 : decode cX10_mostOf 4 = .ok (.ireturn, 1) := by decide +kernel
theorem dX10_isMinute_0 : decode cX10_isMinute 0 = .ok (.iload_n 0, 1) := by decide +kernel
theorem dX10_isMinute_1 : decode cX10_isMinute 1 = .ok (.ifCond .lt 13, 3) := by decide +kernel
theorem dX10_isMinute_4 : decode cX10_isMinute 4 = .ok (.iload_n 0, 1) := by decide +kernel
theorem dX10_isMinute_5 : decode cX10_isMinute 5 = .ok (.bipush 20, 2) := by decide +kernel
theorem dX10_isMinute_7 : decode cX10_isMinute 7 = .ok (.if_icmp .ge 7, 3) := by decide +kernel
theorem dX10_isMinute_10 : decode cX10_isMinute 10 = .ok (.iconst 1, 1) := by decide +kernel
theorem dX10_isMinute_11 : decode cX10_isMinute 11 = .ok (.goto 4, 3) := by decide +kernel
theorem dX10_isMinute_14 : decode cX10_isMinute 14 = .ok (.iconst 0, 1) := by decide +kernel
theorem dX10_isMinute_15 : decode cX10_isMinute 15 = .ok (.ireturn, 1) := by decide +kernel
theorem dX10_isRowSize_0 : decode cX10_isRowSize 0 = .ok (.iload_n 0, 1) := by decide +kernel
theorem dX10_isRowSize_1 : decode cX10_isRowSize 1 = .ok (.iconst 2, 1) := by decide +kernel
theorem dX10_isRowSize_2 : decode cX10_isRowSize 2 = .ok (.if_icmp .lt 12, 3) := by decide +kernel
theorem dX10_isRowSize_5 : decode cX10_isRowSize 5 = .ok (.iload_n 0, 1) := by decide +kernel
theorem dX10_isRowSize_6 : decode cX10_isRowSize 6 = .ok (.iconst 5, 1) := by decide +kernel
theorem dX10_isRowSize_7 : decode cX10_isRowSize 7 = .ok (.if_icmp .gt 7, 3) := by decide +kernel
theorem dX10_isRowSize_10 : decode cX10_isRowSize 10 = .ok (.iconst 1, 1) := by decide +kernel
theorem dX10_isRowSize_11 : decode cX10_isRowSize 11 = .ok (.goto 4, 3) := by decide +kernel
theorem dX10_isRowSize_14 : decode cX10_isRowSize 14 = .ok (.iconst 0, 1) := by decide +kernel
theorem dX10_isRowSize_15 : decode cX10_isRowSize 15 = .ok (.ireturn, 1) := by decide +kernel
theorem dX10_isSheet_0 : decode cX10_isSheet 0 = .ok (.iload_n 0, 1) := by decide +kernel
theorem dX10_isSheet_1 : decode cX10_isSheet 1 = .ok (.ifCond .lt 12, 3) := by decide +kernel
theorem dX10_isSheet_4 : decode cX10_isSheet 4 = .ok (.iload_n 0, 1) := by decide +kernel
theorem dX10_isSheet_5 : decode cX10_isSheet 5 = .ok (.iconst 4, 1) := by decide +kernel
theorem dX10_isSheet_6 : decode cX10_isSheet 6 = .ok (.if_icmp .ge 7, 3) := by decide +kernel
theorem dX10_isSheet_9 : decode cX10_isSheet 9 = .ok (.iconst 1, 1) := by decide +kernel
theorem dX10_isSheet_10 : decode cX10_isSheet 10 = .ok (.goto 4, 3) := by decide +kernel
theorem dX10_isSheet_13 : decode cX10_isSheet 13 = .ok (.iconst 0, 1) := by decide +kernel
theorem dX10_isSheet_14 : decode cX10_isSheet 14 = .ok (.ireturn, 1) := by decide +kernel
theorem dX10_walksOf_0 : decode cX10_walksOf 0 = .ok (.iconst 2, 1) := by decide +kernel
theorem dX10_walksOf_1 : decode cX10_walksOf 1 = .ok (.iload_n 0, 1) := by decide +kernel
theorem dX10_walksOf_2 : decode cX10_walksOf 2 = .ok (.iconst 1, 1) := by decide +kernel
theorem dX10_walksOf_3 : decode cX10_walksOf 3 = .ok (.isub, 1) := by decide +kernel
theorem dX10_walksOf_4 : decode cX10_walksOf 4 = .ok (.imul, 1) := by decide +kernel
theorem dX10_walksOf_5 : decode cX10_walksOf 5 = .ok (.ireturn, 1) := by decide +kernel
theorem dX10_placeOf_0 : decode cX10_placeOf 0 = .ok (.iload_n 0, 1) := by decide +kernel
theorem dX10_placeOf_1 : decode cX10_placeOf 1 = .ok (.iconst 2, 1) := by decide +kernel
theorem dX10_placeOf_2 : decode cX10_placeOf 2 = .ok (.idiv, 1) := by decide +kernel
theorem dX10_placeOf_3 : decode cX10_placeOf 3 = .ok (.ireturn, 1) := by decide +kernel
theorem dX10_isFront_0 : decode cX10_isFront 0 = .ok (.iload_n 0, 1) := by decide +kernel
theorem dX10_isFront_1 : decode cX10_isFront 1 = .ok (.iconst 2, 1) := by decide +kernel
theorem dX10_isFront_2 : decode cX10_isFront 2 = .ok (.irem, 1) := by decide +kernel
theorem dX10_isFront_3 : decode cX10_isFront 3 = .ok (.ifCond .ne 7, 3) := by decide +kernel
theorem dX10_isFront_6 : decode cX10_isFront 6 = .ok (.iconst 1, 1) := by decide +kernel
theorem dX10_isFront_7 : decode cX10_isFront 7 = .ok (.goto 4, 3) := by decide +kernel
theorem dX10_isFront_10 : decode cX10_isFront 10 = .ok (.iconst 0, 1) := by decide +kernel
theorem dX10_isFront_11 : decode cX10_isFront 11 = .ok (.ireturn, 1) := by decide +kernel
theorem dJ6_bitCount_0f7a4_0 : decode cJ6_bitCount_0f7a4 0 = .ok (.iload_n 0, 1) := by decide +kernel
theorem dJ6_bitCount_0f7a4_1 : decode cJ6_bitCount_0f7a4 1 = .ok (.iload_n 0, 1) := by decide +kernel
theorem dJ6_bitCount_0f7a4_2 : decode cJ6_bitCount_0f7a4 2 = .ok (.iconst 1, 1) := by decide +kernel
theorem dJ6_bitCount_0f7a4_3 : decode cJ6_bitCount_0f7a4 3 = .ok (.iushr, 1) := by decide +kernel
theorem dJ6_bitCount_0f7a4_4 : decode cJ6_bitCount_0f7a4 4 = .ok (.ldc_w 265, 3) := by decide +kernel
theorem dJ6_bitCount_0f7a4_7 : decode cJ6_bitCount_0f7a4 7 = .ok (.iand, 1) := by decide +kernel
theorem dJ6_bitCount_0f7a4_8 : decode cJ6_bitCount_0f7a4 8 = .ok (.isub, 1) := by decide +kernel
theorem dJ6_bitCount_0f7a4_9 : decode cJ6_bitCount_0f7a4 9 = .ok (.istore_n 0, 1) := by decide +kernel
theorem dJ6_bitCount_0f7a4_10 : decode cJ6_bitCount_0f7a4 10 = .ok (.iload_n 0, 1) := by decide +kernel
theorem dJ6_bitCount_0f7a4_11 : decode cJ6_bitCount_0f7a4 11 = .ok (.ldc_w 266, 3) := by decide +kernel
theorem dJ6_bitCount_0f7a4_14 : decode cJ6_bitCount_0f7a4 14 = .ok (.iand, 1) := by decide +kernel
theorem dJ6_bitCount_0f7a4_15 : decode cJ6_bitCount_0f7a4 15 = .ok (.iload_n 0, 1) := by decide +kernel
theorem dJ6_bitCount_0f7a4_16 : decode cJ6_bitCount_0f7a4 16 = .ok (.iconst 2, 1) := by decide +kernel
theorem dJ6_bitCount_0f7a4_17 : decode cJ6_bitCount_0f7a4 17 = .ok (.iushr, 1) := by decide +kernel
theorem dJ6_bitCount_0f7a4_18 : decode cJ6_bitCount_0f7a4 18 = .ok (.ldc_w 266, 3) := by decide +kernel
theorem dJ6_bitCount_0f7a4_21 : decode cJ6_bitCount_0f7a4 21 = .ok (.iand, 1) := by decide +kernel
theorem dJ6_bitCount_0f7a4_22 : decode cJ6_bitCount_0f7a4 22 = .ok (.iadd, 1) := by decide +kernel
theorem dJ6_bitCount_0f7a4_23 : decode cJ6_bitCount_0f7a4 23 = .ok (.istore_n 0, 1) := by decide +kernel
theorem dJ6_bitCount_0f7a4_24 : decode cJ6_bitCount_0f7a4 24 = .ok (.iload_n 0, 1) := by decide +kernel
theorem dJ6_bitCount_0f7a4_25 : decode cJ6_bitCount_0f7a4 25 = .ok (.iload_n 0, 1) := by decide +kernel
theorem dJ6_bitCount_0f7a4_26 : decode cJ6_bitCount_0f7a4 26 = .ok (.iconst 4, 1) := by decide +kernel
theorem dJ6_bitCount_0f7a4_27 : decode cJ6_bitCount_0f7a4 27 = .ok (.iushr, 1) := by decide +kernel
theorem dJ6_bitCount_0f7a4_28 : decode cJ6_bitCount_0f7a4 28 = .ok (.iadd, 1) := by decide +kernel
theorem dJ6_bitCount_0f7a4_29 : decode cJ6_bitCount_0f7a4 29 = .ok (.ldc_w 267, 3) := by decide +kernel
theorem dJ6_bitCount_0f7a4_32 : decode cJ6_bitCount_0f7a4 32 = .ok (.iand, 1) := by decide +kernel
theorem dJ6_bitCount_0f7a4_33 : decode cJ6_bitCount_0f7a4 33 = .ok (.istore_n 0, 1) := by decide +kernel
theorem dJ6_bitCount_0f7a4_34 : decode cJ6_bitCount_0f7a4 34 = .ok (.iload_n 0, 1) := by decide +kernel
theorem dJ6_bitCount_0f7a4_35 : decode cJ6_bitCount_0f7a4 35 = .ok (.iload_n 0, 1) := by decide +kernel
theorem dJ6_bitCount_0f7a4_36 : decode cJ6_bitCount_0f7a4 36 = .ok (.bipush 8, 2) := by decide +kernel
theorem dJ6_bitCount_0f7a4_38 : decode cJ6_bitCount_0f7a4 38 = .ok (.iushr, 1) := by decide +kernel
theorem dJ6_bitCount_0f7a4_39 : decode cJ6_bitCount_0f7a4 39 = .ok (.iadd, 1) := by decide +kernel
theorem dJ6_bitCount_0f7a4_40 : decode cJ6_bitCount_0f7a4 40 = .ok (.istore_n 0, 1) := by decide +kernel
theorem dJ6_bitCount_0f7a4_41 : decode cJ6_bitCount_0f7a4 41 = .ok (.iload_n 0, 1) := by decide +kernel
theorem dJ6_bitCount_0f7a4_42 : decode cJ6_bitCount_0f7a4 42 = .ok (.iload_n 0, 1) := by decide +kernel
theorem dJ6_bitCount_0f7a4_43 : decode cJ6_bitCount_0f7a4 43 = .ok (.bipush 16, 2) := by decide +kernel
theorem dJ6_bitCount_0f7a4_45 : decode cJ6_bitCount_0f7a4 45 = .ok (.iushr, 1) := by decide +kernel
theorem dJ6_bitCount_0f7a4_46 : decode cJ6_bitCount_0f7a4 46 = .ok (.iadd, 1) := by decide +kernel
theorem dJ6_bitCount_0f7a4_47 : decode cJ6_bitCount_0f7a4 47 = .ok (.istore_n 0, 1) := by decide +kernel
theorem dJ6_bitCount_0f7a4_48 : decode cJ6_bitCount_0f7a4 48 = .ok (.iload_n 0, 1) := by decide +kernel
theorem dJ6_bitCount_0f7a4_49 : decode cJ6_bitCount_0f7a4 49 = .ok (.bipush 63, 2) := by decide +kernel
theorem dJ6_bitCount_0f7a4_51 : decode cJ6_bitCount_0f7a4 51 = .ok (.iand, 1) := by decide +kernel
theorem dJ6_bitCount_0f7a4_52 : decode cJ6_bitCount_0f7a4 52 = .ok (.ireturn, 1) := by decide +kernel
theorem dJ9_abs_0f7a4_0 : decode cJ9_abs_0f7a4 0 = .ok (.iload_n 0, 1) := by decide +kernel
theorem dJ9_abs_0f7a4_1 : decode cJ9_abs_0f7a4 1 = .ok (.ifCond .ge 8, 3) := by decide +kernel
theorem dJ9_abs_0f7a4_4 : decode cJ9_abs_0f7a4 4 = .ok (.iload_n 0, 1) := by decide +kernel
theorem dJ9_abs_0f7a4_5 : decode cJ9_abs_0f7a4 5 = .ok (.ineg, 1) := by decide +kernel
theorem dJ9_abs_0f7a4_6 : decode cJ9_abs_0f7a4 6 = .ok (.goto 4, 3) := by decide +kernel
theorem dJ9_abs_0f7a4_9 : decode cJ9_abs_0f7a4 9 = .ok (.iload_n 0, 1) := by decide +kernel
theorem dJ9_abs_0f7a4_10 : decode cJ9_abs_0f7a4 10 = .ok (.ireturn, 1) := by decide +kernel
theorem dJ9_max_7cf53_0 : decode cJ9_max_7cf53 0 = .ok (.iload_n 0, 1) := by decide +kernel
theorem dJ9_max_7cf53_1 : decode cJ9_max_7cf53 1 = .ok (.iload_n 1, 1) := by decide +kernel
theorem dJ9_max_7cf53_2 : decode cJ9_max_7cf53 2 = .ok (.if_icmp .lt 7, 3) := by decide +kernel
theorem dJ9_max_7cf53_5 : decode cJ9_max_7cf53 5 = .ok (.iload_n 0, 1) := by decide +kernel
theorem dJ9_max_7cf53_6 : decode cJ9_max_7cf53 6 = .ok (.goto 4, 3) := by decide +kernel
theorem dJ9_max_7cf53_9 : decode cJ9_max_7cf53 9 = .ok (.iload_n 1, 1) := by decide +kernel
theorem dJ9_max_7cf53_10 : decode cJ9_max_7cf53 10 = .ok (.ireturn, 1) := by decide +kernel
theorem dJ9_min_7cf53_0 : decode cJ9_min_7cf53 0 = .ok (.iload_n 0, 1) := by decide +kernel
theorem dJ9_min_7cf53_1 : decode cJ9_min_7cf53 1 = .ok (.iload_n 1, 1) := by decide +kernel
theorem dJ9_min_7cf53_2 : decode cJ9_min_7cf53 2 = .ok (.if_icmp .gt 7, 3) := by decide +kernel
theorem dJ9_min_7cf53_5 : decode cJ9_min_7cf53 5 = .ok (.iload_n 0, 1) := by decide +kernel
theorem dJ9_min_7cf53_6 : decode cJ9_min_7cf53 6 = .ok (.goto 4, 3) := by decide +kernel
theorem dJ9_min_7cf53_9 : decode cJ9_min_7cf53 9 = .ok (.iload_n 1, 1) := by decide +kernel
theorem dJ9_min_7cf53_10 : decode cJ9_min_7cf53 10 = .ok (.ireturn, 1) := by decide +kernel
