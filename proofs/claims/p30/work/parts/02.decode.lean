theorem dX0_init_0 : decode cX0_init 0 = .ok (.aload_n 0, 1) := by decide +kernel
theorem dX0_init_1 : decode cX0_init 1 = .ok (.invokespecial 3, 3) := by decide +kernel
theorem dX0_init_4 : decode cX0_init 4 = .ok (.aload_n 0, 1) := by decide +kernel
theorem dX0_init_5 : decode cX0_init 5 = .ok (.iconst 3, 1) := by decide +kernel
theorem dX0_init_6 : decode cX0_init 6 = .ok (.newarray .int, 2) := by decide +kernel
theorem dX0_init_8 : decode cX0_init 8 = .ok (.putfield 9, 3) := by decide +kernel
theorem dX0_init_11 : decode cX0_init 11 = .ok (.aload_n 0, 1) := by decide +kernel
theorem dX0_init_12 : decode cX0_init 12 = .ok (.iconst 3, 1) := by decide +kernel
theorem dX0_init_13 : decode cX0_init 13 = .ok (.newarray .int, 2) := by decide +kernel
theorem dX0_init_15 : decode cX0_init 15 = .ok (.putfield 15, 3) := by decide +kernel
theorem dX0_init_18 : decode cX0_init 18 = .ok (.return_, 1) := by decide +kernel
theorem dX0_reset_0 : decode cX0_reset 0 = .ok (.iconst 0, 1) := by decide +kernel
theorem dX0_reset_1 : decode cX0_reset 1 = .ok (.istore_n 1, 1) := by decide +kernel
theorem dX0_reset_2 : decode cX0_reset 2 = .ok (.iload_n 1, 1) := by decide +kernel
theorem dX0_reset_3 : decode cX0_reset 3 = .ok (.iconst 3, 1) := by decide +kernel
theorem dX0_reset_4 : decode cX0_reset 4 = .ok (.if_icmp .ge 25, 3) := by decide +kernel
theorem dX0_reset_7 : decode cX0_reset 7 = .ok (.aload_n 0, 1) := by decide +kernel
theorem dX0_reset_8 : decode cX0_reset 8 = .ok (.getfield 9, 3) := by decide +kernel
theorem dX0_reset_11 : decode cX0_reset 11 = .ok (.iload_n 1, 1) := by decide +kernel
theorem dX0_reset_12 : decode cX0_reset 12 = .ok (.bipush (-50), 2) := by decide +kernel
theorem dX0_reset_14 : decode cX0_reset 14 = .ok (.iastore, 1) := by decide +kernel
theorem dX0_reset_15 : decode cX0_reset 15 = .ok (.aload_n 0, 1) := by decide +kernel
theorem dX0_reset_16 : decode cX0_reset 16 = .ok (.getfield 15, 3) := by decide +kernel
theorem dX0_reset_19 : decode cX0_reset 19 = .ok (.iload_n 1, 1) := by decide +kernel
theorem dX0_reset_20 : decode cX0_reset 20 = .ok (.bipush 50, 2) := by decide +kernel
theorem dX0_reset_22 : decode cX0_reset 22 = .ok (.iastore, 1) := by decide +kernel
theorem dX0_reset_23 : decode cX0_reset 23 = .ok (.iinc 1 1, 3) := by decide +kernel
theorem dX0_reset_26 : decode cX0_reset 26 = .ok (.goto (-24), 3) := by decide +kernel
theorem dX0_reset_29 : decode cX0_reset 29 = .ok (.return_, 1) := by decide +kernel
theorem dX0_copyFrom_0 : decode cX0_copyFrom 0 = .ok (.aload_n 1, 1) := by decide +kernel
theorem dX0_copyFrom_1 : decode cX0_copyFrom 1 = .ok (.getfield 9, 3) := by decide +kernel
theorem dX0_copyFrom_4 : decode cX0_copyFrom 4 = .ok (.iconst 0, 1) := by decide +kernel
theorem dX0_copyFrom_5 : decode cX0_copyFrom 5 = .ok (.aload_n 0, 1) := by decide +kernel
theorem dX0_copyFrom_6 : decode cX0_copyFrom 6 = .ok (.getfield 9, 3) := by decide +kernel
theorem dX0_copyFrom_9 : decode cX0_copyFrom 9 = .ok (.iconst 0, 1) := by decide +kernel
theorem dX0_copyFrom_10 : decode cX0_copyFrom 10 = .ok (.iconst 3, 1) := by decide +kernel
theorem dX0_copyFrom_11 : decode cX0_copyFrom 11 = .ok (.invokestatic 18, 3) := by decide +kernel
theorem dX0_copyFrom_14 : decode cX0_copyFrom 14 = .ok (.aload_n 1, 1) := by decide +kernel
theorem dX0_copyFrom_15 : decode cX0_copyFrom 15 = .ok (.getfield 15, 3) := by decide +kernel
theorem dX0_copyFrom_18 : decode cX0_copyFrom 18 = .ok (.iconst 0, 1) := by decide +kernel
theorem dX0_copyFrom_19 : decode cX0_copyFrom 19 = .ok (.aload_n 0, 1) := by decide +kernel
theorem dX0_copyFrom_20 : decode cX0_copyFrom 20 = .ok (.getfield 15, 3) := by decide +kernel
theorem dX0_copyFrom_23 : decode cX0_copyFrom 23 = .ok (.iconst 0, 1) := by decide +kernel
theorem dX0_copyFrom_24 : decode cX0_copyFrom 24 = .ok (.iconst 3, 1) := by decide +kernel
theorem dX0_copyFrom_25 : decode cX0_copyFrom 25 = .ok (.invokestatic 18, 3) := by decide +kernel
theorem dX0_copyFrom_28 : decode cX0_copyFrom 28 = .ok (.return_, 1) := by decide +kernel
theorem dX0_allow_0 : decode cX0_allow 0 = .ok (.iload_n 1, 1) := by decide +kernel
theorem dX0_allow_1 : decode cX0_allow 1 = .ok (.aload_n 0, 1) := by decide +kernel
theorem dX0_allow_2 : decode cX0_allow 2 = .ok (.getfield 9, 3) := by decide +kernel
theorem dX0_allow_5 : decode cX0_allow 5 = .ok (.iconst 0, 1) := by decide +kernel
theorem dX0_allow_6 : decode cX0_allow 6 = .ok (.iaload, 1) := by decide +kernel
theorem dX0_allow_7 : decode cX0_allow 7 = .ok (.aload_n 0, 1) := by decide +kernel
theorem dX0_allow_8 : decode cX0_allow 8 = .ok (.getfield 15, 3) := by decide +kernel
theorem dX0_allow_11 : decode cX0_allow 11 = .ok (.iconst 0, 1) := by decide +kernel
theorem dX0_allow_12 : decode cX0_allow 12 = .ok (.iaload, 1) := by decide +kernel
theorem dX0_allow_13 : decode cX0_allow 13 = .ok (.invokestatic 24, 3) := by decide +kernel
theorem dX0_allow_16 : decode cX0_allow 16 = .ok (.ifCond .eq 45, 3) := by decide +kernel
theorem dX0_allow_19 : decode cX0_allow 19 = .ok (.iload_n 2, 1) := by decide +kernel
theorem dX0_allow_20 : decode cX0_allow 20 = .ok (.aload_n 0, 1) := by decide +kernel
theorem dX0_allow_21 : decode cX0_allow 21 = .ok (.getfield 9, 3) := by decide +kernel
theorem dX0_allow_24 : decode cX0_allow 24 = .ok (.iconst 1, 1) := by decide +kernel
theorem dX0_allow_25 : decode cX0_allow 25 = .ok (.iaload, 1) := by decide +kernel
theorem dX0_allow_26 : decode cX0_allow 26 = .ok (.aload_n 0, 1) := by decide +kernel
theorem dX0_allow_27 : decode cX0_allow 27 = .ok (.getfield 15, 3) := by decide +kernel
theorem dX0_allow_30 : decode cX0_allow 30 = .ok (.iconst 1, 1) := by decide +kernel
theorem dX0_allow_31 : decode cX0_allow 31 = .ok (.iaload, 1) := by decide +kernel
theorem dX0_allow_32 : decode cX0_allow 32 = .ok (.invokestatic 24, 3) := by decide +kernel
theorem dX0_allow_35 : decode cX0_allow 35 = .ok (.ifCond .eq 26, 3) := by decide +kernel
theorem dX0_allow_38 : decode cX0_allow 38 = .ok (.iload_n 3, 1) := by decide +kernel
theorem dX0_allow_39 : decode cX0_allow 39 = .ok (.aload_n 0, 1) := by decide +kernel
theorem dX0_allow_40 : decode cX0_allow 40 = .ok (.getfield 9, 3) := by decide +kernel
theorem dX0_allow_43 : decode cX0_allow 43 = .ok (.iconst 2, 1) := by decide +kernel
theorem dX0_allow_44 : decode cX0_allow 44 = .ok (.iaload, 1) := by decide +kernel
theorem dX0_allow_45 : decode cX0_allow 45 = .ok (.aload_n 0, 1) := by decide +kernel
theorem dX0_allow_46 : decode cX0_allow 46 = .ok (.getfield 15, 3) := by decide +kernel
theorem dX0_allow_49 : decode cX0_allow 49 = .ok (.iconst 2, 1) := by decide +kernel
theorem dX0_allow_50 : decode cX0_allow 50 = .ok (.iaload, 1) := by decide +kernel
theorem dX0_allow_51 : decode cX0_allow 51 = .ok (.invokestatic 24, 3) := by decide +kernel
theorem dX0_allow_54 : decode cX0_allow 54 = .ok (.ifCond .eq 7, 3) := by decide +kernel
theorem dX0_allow_57 : decode cX0_allow 57 = .ok (.iconst 1, 1) := by decide +kernel
theorem dX0_allow_58 : decode cX0_allow 58 = .ok (.goto 4, 3) := by decide +kernel
theorem dX0_allow_61 : decode cX0_allow 61 = .ok (.iconst 0, 1) := by decide +kernel
theorem dX0_allow_62 : decode cX0_allow 62 = .ok (.ireturn, 1) := by decide +kernel
theorem dX1_init_0 : decode cX1_init 0 = .ok (.aload_n 0, 1) := by decide +kernel
theorem dX1_init_1 : decode cX1_init 1 = .ok (.invokespecial 3, 3) := by decide +kernel
theorem dX1_init_4 : decode cX1_init 4 = .ok (.aload_n 0, 1) := by decide +kernel
theorem dX1_init_5 : decode cX1_init 5 = .ok (.bipush 24, 2) := by decide +kernel
theorem dX1_init_7 : decode cX1_init 7 = .ok (.newarray .int, 2) := by decide +kernel
theorem dX1_init_9 : decode cX1_init 9 = .ok (.putfield 9, 3) := by decide +kernel
theorem dX1_init_12 : decode cX1_init 12 = .ok (.aload_n 0, 1) := by decide +kernel
theorem dX1_init_13 : decode cX1_init 13 = .ok (.bipush 8, 2) := by decide +kernel
theorem dX1_init_15 : decode cX1_init 15 = .ok (.newarray .int, 2) := by decide +kernel
theorem dX1_init_17 : decode cX1_init 17 = .ok (.putfield 15, 3) := by decide +kernel
theorem dX1_init_20 : decode cX1_init 20 = .ok (.return_, 1) := by decide +kernel
theorem dX1_reset_0 : decode cX1_reset 0 = .ok (.aload_n 0, 1) := by decide +kernel
theorem dX1_reset_1 : decode cX1_reset 1 = .ok (.iconst 0, 1) := by decide +kernel
theorem dX1_reset_2 : decode cX1_reset 2 = .ok (.putfield 18, 3) := by decide +kernel
theorem dX1_reset_5 : decode cX1_reset 5 = .ok (.iconst 0, 1) := by decide +kernel
theorem dX1_reset_6 : decode cX1_reset 6 = .ok (.istore_n 2, 1) := by decide +kernel
theorem dX1_reset_7 : decode cX1_reset 7 = .ok (.iload_n 2, 1) := by decide +kernel
theorem dX1_reset_8 : decode cX1_reset 8 = .ok (.iload_n 1, 1) := by decide +kernel
theorem dX1_reset_9 : decode cX1_reset 9 = .ok (.if_icmp .ge 21, 3) := by decide +kernel
theorem dX1_reset_12 : decode cX1_reset 12 = .ok (.aload_n 0, 1) := by decide +kernel
theorem dX1_reset_13 : decode cX1_reset 13 = .ok (.iload_n 2, 1) := by decide +kernel
theorem dX1_reset_14 : decode cX1_reset 14 = .ok (.iconst 1, 1) := by decide +kernel
theorem dX1_reset_15 : decode cX1_reset 15 = .ok (.invokevirtual 22, 3) := by decide +kernel
theorem dX1_reset_18 : decode cX1_reset 18 = .ok (.aload_n 0, 1) := by decide +kernel
theorem dX1_reset_19 : decode cX1_reset 19 = .ok (.iload_n 2, 1) := by decide +kernel
theorem dX1_reset_20 : decode cX1_reset 20 = .ok (.iconst (-1), 1) := by decide +kernel
theorem dX1_reset_21 : decode cX1_reset 21 = .ok (.invokevirtual 22, 3) := by decide +kernel
theorem dX1_reset_24 : decode cX1_reset 24 = .ok (.iinc 2 1, 3) := by decide +kernel
theorem dX1_reset_27 : decode cX1_reset 27 = .ok (.goto (-20), 3) := by decide +kernel
theorem dX1_reset_30 : decode cX1_reset 30 = .ok (.return_, 1) := by decide +kernel
theorem dX1_addAlong_0 : decode cX1_addAlong 0 = .ok (.aload_n 0, 1) := by decide +kernel
theorem dX1_addAlong_1 : decode cX1_addAlong 1 = .ok (.iload_n 1, 1) := by decide +kernel
theorem dX1_addAlong_2 : decode cX1_addAlong 2 = .ok (.ifCond .ne 7, 3) := by decide +kernel
theorem dX1_addAlong_5 : decode cX1_addAlong 5 = .ok (.iload_n 2, 1) := by decide +kernel
theorem dX1_addAlong_6 : decode cX1_addAlong 6 = .ok (.goto 4, 3) := by decide +kernel
theorem dX1_addAlong_9 : decode cX1_addAlong 9 = .ok (.iconst 0, 1) := by decide +kernel
theorem dX1_addAlong_10 : decode cX1_addAlong 10 = .ok (.iload_n 1, 1) := by decide +kernel
theorem dX1_addAlong_11 : decode cX1_addAlong 11 = .ok (.iconst 1, 1) := by decide +kernel
theorem dX1_addAlong_12 : decode cX1_addAlong 12 = .ok (.if_icmp .ne 7, 3) := by decide +kernel
theorem dX1_addAlong_15 : decode cX1_addAlong 15 = .ok (.iload_n 2, 1) := by decide +kernel
theorem dX1_addAlong_16 : decode cX1_addAlong 16 = .ok (.goto 4, 3) := by decide +kernel
theorem dX1_addAlong_19 : decode cX1_addAlong 19 = .ok (.iconst 0, 1) := by decide +kernel
theorem dX1_addAlong_20 : decode cX1_addAlong 20 = .ok (.iload_n 1, 1) := by decide +kernel
theorem dX1_addAlong_21 : decode cX1_addAlong 21 = .ok (.iconst 2, 1) := by decide +kernel
theorem dX1_addAlong_22 : decode cX1_addAlong 22 = .ok (.if_icmp .ne 7, 3) := by decide +kernel
theorem dX1_addAlong_25 : decode cX1_addAlong 25 = .ok (.iload_n 2, 1) := by decide +kernel
theorem dX1_addAlong_26 : decode cX1_addAlong 26 = .ok (.goto 4, 3) := by decide +kernel
theorem dX1_addAlong_29 : decode cX1_addAlong 29 = .ok (.iconst 0, 1) := by decide +kernel
theorem dX1_addAlong_30 : decode cX1_addAlong 30 = .ok (.invokevirtual 26, 3) := by decide +kernel
theorem dX1_addAlong_33 : decode cX1_addAlong 33 = .ok (.return_, 1) := by decide +kernel
theorem dX1_copyFrom_0 : decode cX1_copyFrom 0 = .ok (.aload_n 0, 1) := by decide +kernel
theorem dX1_copyFrom_1 : decode cX1_copyFrom 1 = .ok (.aload_n 1, 1) := by decide +kernel
theorem dX1_copyFrom_2 : decode cX1_copyFrom 2 = .ok (.getfield 18, 3) := by decide +kernel
theorem dX1_copyFrom_5 : decode cX1_copyFrom 5 = .ok (.putfield 18, 3) := by decide +kernel
theorem dX1_copyFrom_8 : decode cX1_copyFrom 8 = .ok (.aload_n 1, 1) := by decide +kernel
theorem dX1_copyFrom_9 : decode cX1_copyFrom 9 = .ok (.getfield 9, 3) := by decide +kernel
theorem dX1_copyFrom_12 : decode cX1_copyFrom 12 = .ok (.iconst 0, 1) := by decide +kernel
theorem dX1_copyFrom_13 : decode cX1_copyFrom 13 = .ok (.aload_n 0, 1) := by decide +kernel
theorem dX1_copyFrom_14 : decode cX1_copyFrom 14 = .ok (.getfield 9, 3) := by decide +kernel
theorem dX1_copyFrom_17 : decode cX1_copyFrom 17 = .ok (.iconst 0, 1) := by decide +kernel
theorem dX1_copyFrom_18 : decode cX1_copyFrom 18 = .ok (.bipush 24, 2) := by decide +kernel
theorem dX1_copyFrom_20 : decode cX1_copyFrom 20 = .ok (.invokestatic 30, 3) := by decide +kernel
theorem dX1_copyFrom_23 : decode cX1_copyFrom 23 = .ok (.aload_n 1, 1) := by decide +kernel
theorem dX1_copyFrom_24 : decode cX1_copyFrom 24 = .ok (.getfield 15, 3) := by decide +kernel
theorem dX1_copyFrom_27 : decode cX1_copyFrom 27 = .ok (.iconst 0, 1) := by decide +kernel
theorem dX1_copyFrom_28 : decode cX1_copyFrom 28 = .ok (.aload_n 0, 1) := by decide +kernel
theorem dX1_copyFrom_29 : decode cX1_copyFrom 29 = .ok (.getfield 15, 3) := by decide +kernel
theorem dX1_copyFrom_32 : decode cX1_copyFrom 32 = .ok (.iconst 0, 1) := by decide +kernel
theorem dX1_copyFrom_33 : decode cX1_copyFrom 33 = .ok (.bipush 8, 2) := by decide +kernel
theorem dX1_copyFrom_35 : decode cX1_copyFrom 35 = .ok (.invokestatic 30, 3) := by decide +kernel
theorem dX1_copyFrom_38 : decode cX1_copyFrom 38 = .ok (.return_, 1) := by decide +kernel
theorem dX1_has_0 : decode cX1_has 0 = .ok (.iconst 0, 1) := by decide +kernel
theorem dX1_has_1 : decode cX1_has 1 = .ok (.istore 4, 2) := by decide +kernel
theorem dX1_has_3 : decode cX1_has 3 = .ok (.iload 4, 2) := by decide +kernel
theorem dX1_has_5 : decode cX1_has 5 = .ok (.aload_n 0, 1) := by decide +kernel
theorem dX1_has_6 : decode cX1_has 6 = .ok (.getfield 18, 3) := by decide +kernel
theorem dX1_has_9 : decode cX1_has 9 = .ok (.if_icmp .ge 54, 3) := by decide +kernel
theorem dX1_has_12 : decode cX1_has 12 = .ok (.iconst 3, 1) := by decide +kernel
theorem dX1_has_13 : decode cX1_has 13 = .ok (.iload 4, 2) := by decide +kernel
theorem dX1_has_15 : decode cX1_has 15 = .ok (.imul, 1) := by decide +kernel
theorem dX1_has_16 : decode cX1_has 16 = .ok (.istore 5, 2) := by decide +kernel
theorem dX1_has_18 : decode cX1_has 18 = .ok (.aload_n 0, 1) := by decide +kernel
theorem dX1_has_19 : decode cX1_has 19 = .ok (.getfield 9, 3) := by decide +kernel
theorem dX1_has_22 : decode cX1_has 22 = .ok (.iload 5, 2) := by decide +kernel
theorem dX1_has_24 : decode cX1_has 24 = .ok (.iaload, 1) := by decide +kernel
theorem dX1_has_25 : decode cX1_has 25 = .ok (.iload_n 1, 1) := by decide +kernel
theorem dX1_has_26 : decode cX1_has 26 = .ok (.if_icmp .ne 31, 3) := by decide +kernel
theorem dX1_has_29 : decode cX1_has 29 = .ok (.aload_n 0, 1) := by decide +kernel
theorem dX1_has_30 : decode cX1_has 30 = .ok (.getfield 9, 3) := by decide +kernel
theorem dX1_has_33 : decode cX1_has 33 = .ok (.iload 5, 2) := by decide +kernel
theorem dX1_has_35 : decode cX1_has 35 = .ok (.iconst 1, 1) := by decide +kernel
theorem dX1_has_36 : decode cX1_has 36 = .ok (.iadd, 1) := by decide +kernel
theorem dX1_has_37 : decode cX1_has 37 = .ok (.iaload, 1) := by decide +kernel
theorem dX1_has_38 : decode cX1_has 38 = .ok (.iload_n 2, 1) := by decide +kernel
theorem dX1_has_39 : decode cX1_has 39 = .ok (.if_icmp .ne 18, 3) := by decide +kernel
theorem dX1_has_42 : decode cX1_has 42 = .ok (.aload_n 0, 1) := by decide +kernel
theorem dX1_has_43 : decode cX1_has 43 = .ok (.getfield 9, 3) := by decide +kernel
theorem dX1_has_46 : decode cX1_has 46 = .ok (.iload 5, 2) := by decide +kernel
theorem dX1_has_48 : decode cX1_has 48 = .ok (.iconst 2, 1) := by decide +kernel
theorem dX1_has_49 : decode cX1_has 49 = .ok (.iadd, 1) := by decide +kernel
theorem dX1_has_50 : decode cX1_has 50 = .ok (.iaload, 1) := by decide +kernel
theorem dX1_has_51 : decode cX1_has 51 = .ok (.iload_n 3, 1) := by decide +kernel
theorem dX1_has_52 : decode cX1_has 52 = .ok (.if_icmp .ne 5, 3) := by decide +kernel
theorem dX1_has_55 : decode cX1_has 55 = .ok (.iconst 1, 1) := by decide +kernel
theorem dX1_has_56 : decode cX1_has 56 = .ok (.ireturn, 1) := by decide +kernel
theorem dX1_has_57 : decode cX1_has 57 = .ok (.iinc 4 1, 3) := by decide +kernel
theorem dX1_has_60 : decode cX1_has 60 = .ok (.goto (-57), 3) := by decide +kernel
theorem dX1_has_63 : decode cX1_has 63 = .ok (.iconst 0, 1) := by decide +kernel
theorem dX1_has_64 : decode cX1_has 64 = .ok (.ireturn, 1) := by decide +kernel
theorem dX1_add_0 : decode cX1_add 0 = .ok (.aload_n 0, 1) := by decide +kernel
theorem dX1_add_1 : decode cX1_add 1 = .ok (.getfield 18, 3) := by decide +kernel
theorem dX1_add_4 : decode cX1_add 4 = .ok (.bipush 8, 2) := by decide +kernel
theorem dX1_add_6 : decode cX1_add 6 = .ok (.if_icmp .lt 4, 3) := by decide +kernel
theorem dX1_add_9 : decode cX1_add 9 = .ok (.return_, 1) := by decide +kernel
theorem dX1_add_10 : decode cX1_add 10 = .ok (.aload_n 0, 1) := by decide +kernel
theorem dX1_add_11 : decode cX1_add 11 = .ok (.getfield 9, 3) := by decide +kernel
theorem dX1_add_14 : decode cX1_add 14 = .ok (.iconst 3, 1) := by decide +kernel
theorem dX1_add_15 : decode cX1_add 15 = .ok (.aload_n 0, 1) := by decide +kernel
theorem dX1_add_16 : decode cX1_add 16 = .ok (.getfield 18, 3) := by decide +kernel
theorem dX1_add_19 : decode cX1_add 19 = .ok (.imul, 1) := by decide +kernel
theorem dX1_add_20 : decode cX1_add 20 = .ok (.iload_n 1, 1) := by decide +kernel
theorem dX1_add_21 : decode cX1_add 21 = .ok (.iastore, 1) := by decide +kernel
theorem dX1_add_22 : decode cX1_add 22 = .ok (.aload_n 0, 1) := by decide +kernel
theorem dX1_add_23 : decode cX1_add 23 = .ok (.getfield 9, 3) := by decide +kernel
theorem dX1_add_26 : decode cX1_add 26 = .ok (.iconst 3, 1) := by decide +kernel
theorem dX1_add_27 : decode cX1_add 27 = .ok (.aload_n 0, 1) := by decide +kernel
theorem dX1_add_28 : decode cX1_add 28 = .ok (.getfield 18, 3) := by decide +kernel
theorem dX1_add_31 : decode cX1_add 31 = .ok (.imul, 1) := by decide +kernel
theorem dX1_add_32 : decode cX1_add 32 = .ok (.iconst 1, 1) := by decide +kernel
theorem dX1_add_33 : decode cX1_add 33 = .ok (.iadd, 1) := by decide +kernel
theorem dX1_add_34 : decode cX1_add 34 = .ok (.iload_n 2, 1) := by decide +kernel
theorem dX1_add_35 : decode cX1_add 35 = .ok (.iastore, 1) := by decide +kernel
theorem dX1_add_36 : decode cX1_add 36 = .ok (.aload_n 0, 1) := by decide +kernel
theorem dX1_add_37 : decode cX1_add 37 = .ok (.getfield 9, 3) := by decide +kernel
theorem dX1_add_40 : decode cX1_add 40 = .ok (.iconst 3, 1) := by decide +kernel
theorem dX1_add_41 : decode cX1_add 41 = .ok (.aload_n 0, 1) := by decide +kernel
theorem dX1_add_42 : decode cX1_add 42 = .ok (.getfield 18, 3) := by decide +kernel
theorem dX1_add_45 : decode cX1_add 45 = .ok (.imul, 1) := by decide +kernel
theorem dX1_add_46 : decode cX1_add 46 = .ok (.iconst 2, 1) := by decide +kernel
theorem dX1_add_47 : decode cX1_add 47 = .ok (.iadd, 1) := by decide +kernel
theorem dX1_add_48 : decode cX1_add 48 = .ok (.iload_n 3, 1) := by decide +kernel
theorem dX1_add_49 : decode cX1_add 49 = .ok (.iastore, 1) := by decide +kernel
theorem dX1_add_50 : decode cX1_add 50 = .ok (.aload_n 0, 1) := by decide +kernel
theorem dX1_add_51 : decode cX1_add 51 = .ok (.getfield 15, 3) := by decide +kernel
theorem dX1_add_54 : decode cX1_add 54 = .ok (.aload_n 0, 1) := by decide +kernel
theorem dX1_add_55 : decode cX1_add 55 = .ok (.getfield 18, 3) := by decide +kernel
theorem dX1_add_58 : decode cX1_add 58 = .ok (.iconst 0, 1) := by decide +kernel
theorem dX1_add_59 : decode cX1_add 59 = .ok (.iastore, 1) := by decide +kernel
theorem dX1_add_60 : decode cX1_add 60 = .ok (.aload_n 0, 1) := by decide +kernel
theorem dX1_add_61 : decode cX1_add 61 = .ok (.dup, 1) := by decide +kernel
theorem dX1_add_62 : decode cX1_add 62 = .ok (.getfield 18, 3) := by decide +kernel
theorem dX1_add_65 : decode cX1_add 65 = .ok (.iconst 1, 1) := by decide +kernel
theorem dX1_add_66 : decode cX1_add 66 = .ok (.iadd, 1) := by decide +kernel
theorem dX1_add_67 : decode cX1_add 67 = .ok (.putfield 18, 3) := by decide +kernel
theorem dX1_add_70 : decode cX1_add 70 = .ok (.return_, 1) := by decide +kernel
theorem dX1_remove_0 : decode cX1_remove 0 = .ok (.iload_n 1, 1) := by decide +kernel
theorem dX1_remove_1 : decode cX1_remove 1 = .ok (.ifCond .lt 11, 3) := by decide +kernel
theorem dX1_remove_4 : decode cX1_remove 4 = .ok (.iload_n 1, 1) := by decide +kernel
theorem dX1_remove_5 : decode cX1_remove 5 = .ok (.aload_n 0, 1) := by decide +kernel
theorem dX1_remove_6 : decode cX1_remove 6 = .ok (.getfield 18, 3) := by decide +kernel
theorem dX1_remove_9 : decode cX1_remove 9 = .ok (.if_icmp .lt 4, 3) := by decide +kernel
theorem dX1_remove_12 : decode cX1_remove 12 = .ok (.return_, 1) := by decide +kernel
theorem dX1_remove_13 : decode cX1_remove 13 = .ok (.aload_n 0, 1) := by decide +kernel
theorem dX1_remove_14 : decode cX1_remove 14 = .ok (.getfield 15, 3) := by decide +kernel
theorem dX1_remove_17 : decode cX1_remove 17 = .ok (.iconst 1, 1) := by decide +kernel
theorem dX1_remove_18 : decode cX1_remove 18 = .ok (.iload_n 1, 1) := by decide +kernel
theorem dX1_remove_19 : decode cX1_remove 19 = .ok (.aload_n 0, 1) := by decide +kernel
theorem dX1_remove_20 : decode cX1_remove 20 = .ok (.getfield 18, 3) := by decide +kernel
theorem dX1_remove_23 : decode cX1_remove 23 = .ok (.invokestatic 36, 3) := by decide +kernel
theorem dX1_remove_26 : decode cX1_remove 26 = .ok (.aload_n 0, 1) := by decide +kernel
theorem dX1_remove_27 : decode cX1_remove 27 = .ok (.getfield 9, 3) := by decide +kernel
theorem dX1_remove_30 : decode cX1_remove 30 = .ok (.iconst 3, 1) := by decide +kernel
theorem dX1_remove_31 : decode cX1_remove 31 = .ok (.iload_n 1, 1) := by decide +kernel
theorem dX1_remove_32 : decode cX1_remove 32 = .ok (.aload_n 0, 1) := by decide +kernel
theorem dX1_remove_33 : decode cX1_remove 33 = .ok (.getfield 18, 3) := by decide +kernel
theorem dX1_remove_36 : decode cX1_remove 36 = .ok (.invokestatic 36, 3) := by decide +kernel
theorem dX1_remove_39 : decode cX1_remove 39 = .ok (.aload_n 0, 1) := by decide +kernel
theorem dX1_remove_40 : decode cX1_remove 40 = .ok (.dup, 1) := by decide +kernel
theorem dX1_remove_41 : decode cX1_remove 41 = .ok (.getfield 18, 3) := by decide +kernel
theorem dX1_remove_44 : decode cX1_remove 44 = .ok (.iconst 1, 1) := by decide +kernel
theorem dX1_remove_45 : decode cX1_remove 45 = .ok (.isub, 1) := by decide +kernel
theorem dX1_remove_46 : decode cX1_remove 46 = .ok (.putfield 18, 3) := by decide +kernel
theorem dX1_remove_49 : decode cX1_remove 49 = .ok (.return_, 1) := by decide +kernel
theorem dX1_forgetTaken_0 : decode cX1_forgetTaken 0 = .ok (.iconst 0, 1) := by decide +kernel
theorem dX1_forgetTaken_1 : decode cX1_forgetTaken 1 = .ok (.istore_n 1, 1) := by decide +kernel
theorem dX1_forgetTaken_2 : decode cX1_forgetTaken 2 = .ok (.iload_n 1, 1) := by decide +kernel
theorem dX1_forgetTaken_3 : decode cX1_forgetTaken 3 = .ok (.bipush 8, 2) := by decide +kernel
theorem dX1_forgetTaken_5 : decode cX1_forgetTaken 5 = .ok (.if_icmp .ge 16, 3) := by decide +kernel
theorem dX1_forgetTaken_8 : decode cX1_forgetTaken 8 = .ok (.aload_n 0, 1) := by decide +kernel
theorem dX1_forgetTaken_9 : decode cX1_forgetTaken 9 = .ok (.getfield 15, 3) := by decide +kernel
theorem dX1_forgetTaken_12 : decode cX1_forgetTaken 12 = .ok (.iload_n 1, 1) := by decide +kernel
theorem dX1_forgetTaken_13 : decode cX1_forgetTaken 13 = .ok (.iconst 0, 1) := by decide +kernel
theorem dX1_forgetTaken_14 : decode cX1_forgetTaken 14 = .ok (.iastore, 1) := by decide +kernel
theorem dX1_forgetTaken_15 : decode cX1_forgetTaken 15 = .ok (.iinc 1 1, 3) := by decide +kernel
theorem dX1_forgetTaken_18 : decode cX1_forgetTaken 18 = .ok (.goto (-16), 3) := by decide +kernel
theorem dX1_forgetTaken_21 : decode cX1_forgetTaken 21 = .ok (.return_, 1) := by decide +kernel
theorem dX2_init_0 : decode cX2_init 0 = .ok (.aload_n 0, 1) := by decide +kernel
theorem dX2_init_1 : decode cX2_init 1 = .ok (.invokespecial 3, 3) := by decide +kernel
theorem dX2_init_4 : decode cX2_init 4 = .ok (.aload_n 0, 1) := by decide +kernel
theorem dX2_init_5 : decode cX2_init 5 = .ok (.new 9, 3) := by decide +kernel
theorem dX2_init_8 : decode cX2_init 8 = .ok (.dup, 1) := by decide +kernel
theorem dX2_init_9 : decode cX2_init 9 = .ok (.invokespecial 11, 3) := by decide +kernel
theorem dX2_init_12 : decode cX2_init 12 = .ok (.putfield 12, 3) := by decide +kernel
theorem dX2_init_15 : decode cX2_init 15 = .ok (.aload_n 0, 1) := by decide +kernel
theorem dX2_init_16 : decode cX2_init 16 = .ok (.new 9, 3) := by decide +kernel
theorem dX2_init_19 : decode cX2_init 19 = .ok (.dup, 1) := by decide +kernel
theorem dX2_init_20 : decode cX2_init 20 = .ok (.invokespecial 11, 3) := by decide +kernel
theorem dX2_init_23 : decode cX2_init 23 = .ok (.putfield 18, 3) := by decide +kernel
theorem dX2_init_26 : decode cX2_init 26 = .ok (.aload_n 0, 1) := by decide +kernel
theorem dX2_init_27 : decode cX2_init 27 = .ok (.new 9, 3) := by decide +kernel
theorem dX2_init_30 : decode cX2_init 30 = .ok (.dup, 1) := by decide +kernel
theorem dX2_init_31 : decode cX2_init 31 = .ok (.invokespecial 11, 3) := by decide +kernel
theorem dX2_init_34 : decode cX2_init 34 = .ok (.putfield 21, 3) := by decide +kernel
theorem dX2_init_37 : decode cX2_init 37 = .ok (.aload_n 0, 1) := by decide +kernel
theorem dX2_init_38 : decode cX2_init 38 = .ok (.new 9, 3) := by decide +kernel
theorem dX2_init_41 : decode cX2_init 41 = .ok (.dup, 1) := by decide +kernel
theorem dX2_init_42 : decode cX2_init 42 = .ok (.invokespecial 11, 3) := by decide +kernel
theorem dX2_init_45 : decode cX2_init 45 = .ok (.putfield 24, 3) := by decide +kernel
theorem dX2_init_48 : decode cX2_init 48 = .ok (.return_, 1) := by decide +kernel
theorem dX2_push_0 : decode cX2_push 0 = .ok (.aload_n 0, 1) := by decide +kernel
theorem dX2_push_1 : decode cX2_push 1 = .ok (.getfield 24, 3) := by decide +kernel
theorem dX2_push_4 : decode cX2_push 4 = .ok (.aload_n 0, 1) := by decide +kernel
theorem dX2_push_5 : decode cX2_push 5 = .ok (.getfield 21, 3) := by decide +kernel
theorem dX2_push_8 : decode cX2_push 8 = .ok (.invokevirtual 27, 3) := by decide +kernel
theorem dX2_push_11 : decode cX2_push 11 = .ok (.aload_n 0, 1) := by decide +kernel
theorem dX2_push_12 : decode cX2_push 12 = .ok (.getfield 21, 3) := by decide +kernel
theorem dX2_push_15 : decode cX2_push 15 = .ok (.aload_n 0, 1) := by decide +kernel
theorem dX2_push_16 : decode cX2_push 16 = .ok (.getfield 18, 3) := by decide +kernel
theorem dX2_push_19 : decode cX2_push 19 = .ok (.invokevirtual 27, 3) := by decide +kernel
theorem dX2_push_22 : decode cX2_push 22 = .ok (.aload_n 0, 1) := by decide +kernel
theorem dX2_push_23 : decode cX2_push 23 = .ok (.getfield 18, 3) := by decide +kernel
theorem dX2_push_26 : decode cX2_push 26 = .ok (.aload_n 0, 1) := by decide +kernel
theorem dX2_push_27 : decode cX2_push 27 = .ok (.getfield 12, 3) := by decide +kernel
theorem dX2_push_30 : decode cX2_push 30 = .ok (.invokevirtual 27, 3) := by decide +kernel
theorem dX2_push_33 : decode cX2_push 33 = .ok (.aload_n 0, 1) := by decide +kernel
theorem dX2_push_34 : decode cX2_push 34 = .ok (.getfield 12, 3) := by decide +kernel
theorem dX2_push_37 : decode cX2_push 37 = .ok (.aload_n 1, 1) := by decide +kernel
theorem dX2_push_38 : decode cX2_push 38 = .ok (.invokevirtual 27, 3) := by decide +kernel
theorem dX2_push_41 : decode cX2_push 41 = .ok (.aload_n 0, 1) := by decide +kernel
theorem dX2_push_42 : decode cX2_push 42 = .ok (.aload_n 0, 1) := by decide +kernel
theorem dX2_push_43 : decode cX2_push 43 = .ok (.getfield 31, 3) := by decide +kernel
theorem dX2_push_46 : decode cX2_push 46 = .ok (.iconst 1, 1) := by decide +kernel
theorem dX2_push_47 : decode cX2_push 47 = .ok (.iadd, 1) := by decide +kernel
theorem dX2_push_48 : decode cX2_push 48 = .ok (.iconst 4, 1) := by decide +kernel
theorem dX2_push_49 : decode cX2_push 49 = .ok (.invokestatic 35, 3) := by decide +kernel
theorem dX2_push_52 : decode cX2_push 52 = .ok (.putfield 31, 3) := by decide +kernel
theorem dX2_push_55 : decode cX2_push 55 = .ok (.return_, 1) := by decide +kernel
theorem dX3_init_0 : decode cX3_init 0 = .ok (.aload_n 0, 1) := by decide +kernel
theorem dX3_init_1 : decode cX3_init 1 = .ok (.invokespecial 3, 3) := by decide +kernel
theorem dX3_init_4 : decode cX3_init 4 = .ok (.aload_n 0, 1) := by decide +kernel
theorem dX3_init_5 : decode cX3_init 5 = .ok (.iconst 3, 1) := by decide +kernel
theorem dX3_init_6 : decode cX3_init 6 = .ok (.newarray .int, 2) := by decide +kernel
theorem dX3_init_8 : decode cX3_init 8 = .ok (.putfield 9, 3) := by decide +kernel
theorem dX3_init_11 : decode cX3_init 11 = .ok (.return_, 1) := by decide +kernel
theorem dX3_findBest_0 : decode cX3_findBest 0 = .ok (.aload_n 1, 1) := by decide +kernel
theorem dX3_findBest_1 : decode cX3_findBest 1 = .ok (.getfield 15, 3) := by decide +kernel
theorem dX3_findBest_4 : decode cX3_findBest 4 = .ok (.iconst 1, 1) := by decide +kernel
theorem dX3_findBest_5 : decode cX3_findBest 5 = .ok (.if_icmp .le 7, 3) := by decide +kernel
theorem dX3_findBest_8 : decode cX3_findBest 8 = .ok (.iload_n 2, 1) := by decide +kernel
theorem dX3_findBest_9 : decode cX3_findBest 9 = .ok (.goto 4, 3) := by decide +kernel
theorem dX3_findBest_12 : decode cX3_findBest 12 = .ok (.iconst 0, 1) := by decide +kernel
theorem dX3_findBest_13 : decode cX3_findBest 13 = .ok (.istore_n 3, 1) := by decide +kernel
theorem dX3_findBest_14 : decode cX3_findBest 14 = .ok (.aload_n 1, 1) := by decide +kernel
theorem dX3_findBest_15 : decode cX3_findBest 15 = .ok (.getfield 15, 3) := by decide +kernel
theorem dX3_findBest_18 : decode cX3_findBest 18 = .ok (.iconst 2, 1) := by decide +kernel
theorem dX3_findBest_19 : decode cX3_findBest 19 = .ok (.if_icmp .le 7, 3) := by decide +kernel
theorem dX3_findBest_22 : decode cX3_findBest 22 = .ok (.iload_n 2, 1) := by decide +kernel
theorem dX3_findBest_23 : decode cX3_findBest 23 = .ok (.goto 4, 3) := by decide +kernel
theorem dX3_findBest_26 : decode cX3_findBest 26 = .ok (.iconst 0, 1) := by decide +kernel
theorem dX3_findBest_27 : decode cX3_findBest 27 = .ok (.istore 4, 2) := by decide +kernel
theorem dX3_findBest_29 : decode cX3_findBest 29 = .ok (.aload_n 0, 1) := by decide +kernel
theorem dX3_findBest_30 : decode cX3_findBest 30 = .ok (.ldc2_w 21, 3) := by decide +kernel
theorem dX3_findBest_33 : decode cX3_findBest 33 = .ok (.putfield 23, 3) := by decide +kernel
theorem dX3_findBest_36 : decode cX3_findBest 36 = .ok (.iload_n 2, 1) := by decide +kernel
theorem dX3_findBest_37 : decode cX3_findBest 37 = .ok (.ineg, 1) := by decide +kernel
theorem dX3_findBest_38 : decode cX3_findBest 38 = .ok (.istore 5, 2) := by decide +kernel
theorem dX3_findBest_40 : decode cX3_findBest 40 = .ok (.iload 5, 2) := by decide +kernel
theorem dX3_findBest_42 : decode cX3_findBest 42 = .ok (.iload_n 2, 1) := by decide +kernel
theorem dX3_findBest_43 : decode cX3_findBest 43 = .ok (.if_icmp .gt 54, 3) := by decide +kernel
theorem dX3_findBest_46 : decode cX3_findBest 46 = .ok (.iload_n 3, 1) := by decide +kernel
theorem dX3_findBest_47 : decode cX3_findBest 47 = .ok (.ineg, 1) := by decide +kernel
theorem dX3_findBest_48 : decode cX3_findBest 48 = .ok (.istore 6, 2) := by decide +kernel
theorem dX3_findBest_50 : decode cX3_findBest 50 = .ok (.iload 6, 2) := by decide +kernel
theorem dX3_findBest_52 : decode cX3_findBest 52 = .ok (.iload_n 3, 1) := by decide +kernel
theorem dX3_findBest_53 : decode cX3_findBest 53 = .ok (.if_icmp .gt 38, 3) := by decide +kernel
theorem dX3_findBest_56 : decode cX3_findBest 56 = .ok (.iload 4, 2) := by decide +kernel
theorem dX3_findBest_58 : decode cX3_findBest 58 = .ok (.ineg, 1) := by decide +kernel
theorem dX3_findBest_59 : decode cX3_findBest 59 = .ok (.istore 7, 2) := by decide +kernel
theorem dX3_findBest_61 : decode cX3_findBest 61 = .ok (.iload 7, 2) := by decide +kernel
theorem dX3_findBest_63 : decode cX3_findBest 63 = .ok (.iload 4, 2) := by decide +kernel
theorem dX3_findBest_65 : decode cX3_findBest 65 = .ok (.if_icmp .gt 20, 3) := by decide +kernel
theorem dX3_findBest_68 : decode cX3_findBest 68 = .ok (.aload_n 0, 1) := by decide +kernel
theorem dX3_findBest_69 : decode cX3_findBest 69 = .ok (.aload_n 1, 1) := by decide +kernel
theorem dX3_findBest_70 : decode cX3_findBest 70 = .ok (.iload 5, 2) := by decide +kernel
theorem dX3_findBest_72 : decode cX3_findBest 72 = .ok (.iload 6, 2) := by decide +kernel
theorem dX3_findBest_74 : decode cX3_findBest 74 = .ok (.iload 7, 2) := by decide +kernel
theorem dX3_findBest_76 : decode cX3_findBest 76 = .ok (.invokevirtual 27, 3) := by decide +kernel
theorem dX3_findBest_79 : decode cX3_findBest 79 = .ok (.iinc 7 1, 3) := by decide +kernel
theorem dX3_findBest_82 : decode cX3_findBest 82 = .ok (.goto (-21), 3) := by decide +kernel
theorem dX3_findBest_85 : decode cX3_findBest 85 = .ok (.iinc 6 1, 3) := by decide +kernel
theorem dX3_findBest_88 : decode cX3_findBest 88 = .ok (.goto (-38), 3) := by decide +kernel
theorem dX3_findBest_91 : decode cX3_findBest 91 = .ok (.iinc 5 1, 3) := by decide +kernel
theorem dX3_findBest_94 : decode cX3_findBest 94 = .ok (.goto (-54), 3) := by decide +kernel
theorem dX3_findBest_97 : decode cX3_findBest 97 = .ok (.return_, 1) := by decide +kernel
theorem dX3_consider_0 : decode cX3_consider 0 = .ok (.aload_n 1, 1) := by decide +kernel
theorem dX3_consider_1 : decode cX3_consider 1 = .ok (.getfield 31, 3) := by decide +kernel
theorem dX3_consider_4 : decode cX3_consider 4 = .ok (.astore 5, 2) := by decide +kernel
theorem dX3_consider_6 : decode cX3_consider 6 = .ok (.aload 5, 2) := by decide +kernel
theorem dX3_consider_8 : decode cX3_consider 8 = .ok (.getfield 35, 3) := by decide +kernel
theorem dX3_consider_11 : decode cX3_consider 11 = .ok (.iconst 0, 1) := by decide +kernel
theorem dX3_consider_12 : decode cX3_consider 12 = .ok (.iaload, 1) := by decide +kernel
theorem dX3_consider_13 : decode cX3_consider 13 = .ok (.iload_n 2, 1) := by decide +kernel
theorem dX3_consider_14 : decode cX3_consider 14 = .ok (.aload 5, 2) := by decide +kernel
theorem dX3_consider_16 : decode cX3_consider 16 = .ok (.getfield 40, 3) := by decide +kernel
theorem dX3_consider_19 : decode cX3_consider 19 = .ok (.imul, 1) := by decide +kernel
theorem dX3_consider_20 : decode cX3_consider 20 = .ok (.iadd, 1) := by decide +kernel
theorem dX3_consider_21 : decode cX3_consider 21 = .ok (.istore 6, 2) := by decide +kernel
theorem dX3_consider_23 : decode cX3_consider 23 = .ok (.aload 5, 2) := by decide +kernel
theorem dX3_consider_25 : decode cX3_consider 25 = .ok (.getfield 35, 3) := by decide +kernel
theorem dX3_consider_28 : decode cX3_consider 28 = .ok (.iconst 1, 1) := by decide +kernel
theorem dX3_consider_29 : decode cX3_consider 29 = .ok (.iaload, 1) := by decide +kernel
theorem dX3_consider_30 : decode cX3_consider 30 = .ok (.iload_n 3, 1) := by decide +kernel
theorem dX3_consider_31 : decode cX3_consider 31 = .ok (.aload 5, 2) := by decide +kernel
theorem dX3_consider_33 : decode cX3_consider 33 = .ok (.getfield 40, 3) := by decide +kernel
theorem dX3_consider_36 : decode cX3_consider 36 = .ok (.imul, 1) := by decide +kernel
theorem dX3_consider_37 : decode cX3_consider 37 = .ok (.iadd, 1) := by decide +kernel
theorem dX3_consider_38 : decode cX3_consider 38 = .ok (.istore 7, 2) := by decide +kernel
theorem dX3_consider_40 : decode cX3_consider 40 = .ok (.aload 5, 2) := by decide +kernel
theorem dX3_consider_42 : decode cX3_consider 42 = .ok (.getfield 35, 3) := by decide +kernel
theorem dX3_consider_45 : decode cX3_consider 45 = .ok (.iconst 2, 1) := by decide +kernel
theorem dX3_consider_46 : decode cX3_consider 46 = .ok (.iaload, 1) := by decide +kernel
theorem dX3_consider_47 : decode cX3_consider 47 = .ok (.iload 4, 2) := by decide +kernel
theorem dX3_consider_49 : decode cX3_consider 49 = .ok (.aload 5, 2) := by decide +kernel
theorem dX3_consider_51 : decode cX3_consider 51 = .ok (.getfield 40, 3) := by decide +kernel
theorem dX3_consider_54 : decode cX3_consider 54 = .ok (.imul, 1) := by decide +kernel
theorem dX3_consider_55 : decode cX3_consider 55 = .ok (.iadd, 1) := by decide +kernel
theorem dX3_consider_56 : decode cX3_consider 56 = .ok (.istore 8, 2) := by decide +kernel
theorem dX3_consider_58 : decode cX3_consider 58 = .ok (.aload_n 1, 1) := by decide +kernel
theorem dX3_consider_59 : decode cX3_consider 59 = .ok (.getfield 43, 3) := by decide +kernel
theorem dX3_consider_62 : decode cX3_consider 62 = .ok (.iload 6, 2) := by decide +kernel
theorem dX3_consider_64 : decode cX3_consider 64 = .ok (.iload 7, 2) := by decide +kernel
theorem dX3_consider_66 : decode cX3_consider 66 = .ok (.iload 8, 2) := by decide +kernel
theorem dX3_consider_68 : decode cX3_consider 68 = .ok (.invokevirtual 47, 3) := by decide +kernel
theorem dX3_consider_71 : decode cX3_consider 71 = .ok (.ifCond .ne 4, 3) := by decide +kernel
theorem dX3_consider_74 : decode cX3_consider 74 = .ok (.return_, 1) := by decide +kernel
theorem dX3_consider_75 : decode cX3_consider 75 = .ok (.aload_n 1, 1) := by decide +kernel
theorem dX3_consider_76 : decode cX3_consider 76 = .ok (.getfield 53, 3) := by decide +kernel
theorem dX3_consider_79 : decode cX3_consider 79 = .ok (.iload 6, 2) := by decide +kernel
theorem dX3_consider_81 : decode cX3_consider 81 = .ok (.iload 7, 2) := by decide +kernel
theorem dX3_consider_83 : decode cX3_consider 83 = .ok (.iload 8, 2) := by decide +kernel
theorem dX3_consider_85 : decode cX3_consider 85 = .ok (.iconst 4, 1) := by decide +kernel
theorem dX3_consider_86 : decode cX3_consider 86 = .ok (.invokevirtual 57, 3) := by decide +kernel
theorem dX3_consider_89 : decode cX3_consider 89 = .ok (.lstore 9, 2) := by decide +kernel
theorem dX3_consider_91 : decode cX3_consider 91 = .ok (.lload 9, 2) := by decide +kernel
theorem dX3_consider_93 : decode cX3_consider 93 = .ok (.aload_n 0, 1) := by decide +kernel
theorem dX3_consider_94 : decode cX3_consider 94 = .ok (.getfield 23, 3) := by decide +kernel
theorem dX3_consider_97 : decode cX3_consider 97 = .ok (.lcmp, 1) := by decide +kernel
theorem dX3_consider_98 : decode cX3_consider 98 = .ok (.ifCond .ge 33, 3) := by decide +kernel
theorem dX3_consider_101 : decode cX3_consider 101 = .ok (.aload_n 0, 1) := by decide +kernel
theorem dX3_consider_102 : decode cX3_consider 102 = .ok (.lload 9, 2) := by decide +kernel
theorem dX3_consider_104 : decode cX3_consider 104 = .ok (.putfield 23, 3) := by decide +kernel
theorem dX3_consider_107 : decode cX3_consider 107 = .ok (.aload_n 0, 1) := by decide +kernel
theorem dX3_consider_108 : decode cX3_consider 108 = .ok (.getfield 9, 3) := by decide +kernel
theorem dX3_consider_111 : decode cX3_consider 111 = .ok (.iconst 0, 1) := by decide +kernel
theorem dX3_consider_112 : decode cX3_consider 112 = .ok (.iload 6, 2) := by decide +kernel
theorem dX3_consider_114 : decode cX3_consider 114 = .ok (.iastore, 1) := by decide +kernel
theorem dX3_consider_115 : decode cX3_consider 115 = .ok (.aload_n 0, 1) := by decide +kernel
theorem dX3_consider_116 : decode cX3_consider 116 = .ok (.getfield 9, 3) := by decide +kernel
theorem dX3_consider_119 : decode cX3_consider 119 = .ok (.iconst 1, 1) := by decide +kernel
theorem dX3_consider_120 : decode cX3_consider 120 = .ok (.iload 7, 2) := by decide +kernel
theorem dX3_consider_122 : decode cX3_consider 122 = .ok (.iastore, 1) := by decide +kernel
theorem dX3_consider_123 : decode cX3_consider 123 = .ok (.aload_n 0, 1) := by decide +kernel
theorem dX3_consider_124 : decode cX3_consider 124 = .ok (.getfield 9, 3) := by decide +kernel
theorem dX3_consider_127 : decode cX3_consider 127 = .ok (.iconst 2, 1) := by decide +kernel
theorem dX3_consider_128 : decode cX3_consider 128 = .ok (.iload 8, 2) := by decide +kernel
theorem dX3_consider_130 : decode cX3_consider 130 = .ok (.iastore, 1) := by decide +kernel
theorem dX3_consider_131 : decode cX3_consider 131 = .ok (.return_, 1) := by decide +kernel
theorem dX4_init_0 : decode cX4_init 0 = .ok (.aload_n 0, 1) := by decide +kernel
theorem dX4_init_1 : decode cX4_init 1 = .ok (.invokespecial 3, 3) := by decide +kernel
theorem dX4_init_4 : decode cX4_init 4 = .ok (.aload_n 0, 1) := by decide +kernel
theorem dX4_init_5 : decode cX4_init 5 = .ok (.iconst 3, 1) := by decide +kernel
theorem dX4_init_6 : decode cX4_init 6 = .ok (.newarray .int, 2) := by decide +kernel
theorem dX4_init_8 : decode cX4_init 8 = .ok (.putfield 9, 3) := by decide +kernel
theorem dX4_init_11 : decode cX4_init 11 = .ok (.aload_n 0, 1) := by decide +kernel
theorem dX4_init_12 : decode cX4_init 12 = .ok (.bipush 18, 2) := by decide +kernel
theorem dX4_init_14 : decode cX4_init 14 = .ok (.newarray .int, 2) := by decide +kernel
theorem dX4_init_16 : decode cX4_init 16 = .ok (.putfield 15, 3) := by decide +kernel
theorem dX4_init_19 : decode cX4_init 19 = .ok (.return_, 1) := by decide +kernel
theorem dX4_begin_0 : decode cX4_begin 0 = .ok (.aload_n 0, 1) := by decide +kernel
theorem dX4_begin_1 : decode cX4_begin 1 = .ok (.iload_n 1, 1) := by decide +kernel
theorem dX4_begin_2 : decode cX4_begin 2 = .ok (.iload_n 2, 1) := by decide +kernel
theorem dX4_begin_3 : decode cX4_begin 3 = .ok (.iload_n 3, 1) := by decide +kernel
theorem dX4_begin_4 : decode cX4_begin 4 = .ok (.invokevirtual 18, 3) := by decide +kernel
theorem dX4_begin_7 : decode cX4_begin 7 = .ok (.aload_n 0, 1) := by decide +kernel
theorem dX4_begin_8 : decode cX4_begin 8 = .ok (.iload 4, 2) := by decide +kernel
theorem dX4_begin_10 : decode cX4_begin 10 = .ok (.putfield 22, 3) := by decide +kernel
theorem dX4_begin_13 : decode cX4_begin 13 = .ok (.aload_n 0, 1) := by decide +kernel
theorem dX4_begin_14 : decode cX4_begin 14 = .ok (.iconst 0, 1) := by decide +kernel
theorem dX4_begin_15 : decode cX4_begin 15 = .ok (.putfield 26, 3) := by decide +kernel
theorem dX4_begin_18 : decode cX4_begin 18 = .ok (.aload_n 0, 1) := by decide +kernel
theorem dX4_begin_19 : decode cX4_begin 19 = .ok (.iconst 0, 1) := by decide +kernel
theorem dX4_begin_20 : decode cX4_begin 20 = .ok (.putfield 29, 3) := by decide +kernel
theorem dX4_begin_23 : decode cX4_begin 23 = .ok (.aload_n 0, 1) := by decide +kernel
theorem dX4_begin_24 : decode cX4_begin 24 = .ok (.iconst 0, 1) := by decide +kernel
theorem dX4_begin_25 : decode cX4_begin 25 = .ok (.putfield 32, 3) := by decide +kernel
theorem dX4_begin_28 : decode cX4_begin 28 = .ok (.aload_n 0, 1) := by decide +kernel
theorem dX4_begin_29 : decode cX4_begin 29 = .ok (.iconst (-1), 1) := by decide +kernel
theorem dX4_begin_30 : decode cX4_begin 30 = .ok (.putfield 35, 3) := by decide +kernel
theorem dX4_begin_33 : decode cX4_begin 33 = .ok (.aload_n 0, 1) := by decide +kernel
theorem dX4_begin_34 : decode cX4_begin 34 = .ok (.iconst 0, 1) := by decide +kernel
theorem dX4_begin_35 : decode cX4_begin 35 = .ok (.putfield 38, 3) := by decide +kernel
theorem dX4_begin_38 : decode cX4_begin 38 = .ok (.aload_n 0, 1) := by decide +kernel
theorem dX4_begin_39 : decode cX4_begin 39 = .ok (.iconst 0, 1) := by decide +kernel
theorem dX4_begin_40 : decode cX4_begin 40 = .ok (.putfield 41, 3) := by decide +kernel
theorem dX4_begin_43 : decode cX4_begin 43 = .ok (.return_, 1) := by decide +kernel
theorem dX4_copyFrom_0 : decode cX4_copyFrom 0 = .ok (.aload_n 1, 1) := by decide +kernel
theorem dX4_copyFrom_1 : decode cX4_copyFrom 1 = .ok (.getfield 9, 3) := by decide +kernel
theorem dX4_copyFrom_4 : decode cX4_copyFrom 4 = .ok (.iconst 0, 1) := by decide +kernel
theorem dX4_copyFrom_5 : decode cX4_copyFrom 5 = .ok (.aload_n 0, 1) := by decide +kernel
theorem dX4_copyFrom_6 : decode cX4_copyFrom 6 = .ok (.getfield 9, 3) := by decide +kernel
theorem dX4_copyFrom_9 : decode cX4_copyFrom 9 = .ok (.iconst 0, 1) := by decide +kernel
theorem dX4_copyFrom_10 : decode cX4_copyFrom 10 = .ok (.iconst 3, 1) := by decide +kernel
theorem dX4_copyFrom_11 : decode cX4_copyFrom 11 = .ok (.invokestatic 45, 3) := by decide +kernel
theorem dX4_copyFrom_14 : decode cX4_copyFrom 14 = .ok (.aload_n 0, 1) := by decide +kernel
theorem dX4_copyFrom_15 : decode cX4_copyFrom 15 = .ok (.aload_n 1, 1) := by decide +kernel
theorem dX4_copyFrom_16 : decode cX4_copyFrom 16 = .ok (.getfield 22, 3) := by decide +kernel
theorem dX4_copyFrom_19 : decode cX4_copyFrom 19 = .ok (.putfield 22, 3) := by decide +kernel
theorem dX4_copyFrom_22 : decode cX4_copyFrom 22 = .ok (.aload_n 0, 1) := by decide +kernel
theorem dX4_copyFrom_23 : decode cX4_copyFrom 23 = .ok (.aload_n 1, 1) := by decide +kernel
theorem dX4_copyFrom_24 : decode cX4_copyFrom 24 = .ok (.getfield 26, 3) := by decide +kernel
theorem dX4_copyFrom_27 : decode cX4_copyFrom 27 = .ok (.putfield 26, 3) := by decide +kernel
theorem dX4_copyFrom_30 : decode cX4_copyFrom 30 = .ok (.aload_n 0, 1) := by decide +kernel
theorem dX4_copyFrom_31 : decode cX4_copyFrom 31 = .ok (.aload_n 1, 1) := by decide +kernel
theorem dX4_copyFrom_32 : decode cX4_copyFrom 32 = .ok (.getfield 29, 3) := by decide +kernel
theorem dX4_copyFrom_35 : decode cX4_copyFrom 35 = .ok (.putfield 29, 3) := by decide +kernel
theorem dX4_copyFrom_38 : decode cX4_copyFrom 38 = .ok (.aload_n 0, 1) := by decide +kernel
theorem dX4_copyFrom_39 : decode cX4_copyFrom 39 = .ok (.aload_n 1, 1) := by decide +kernel
theorem dX4_copyFrom_40 : decode cX4_copyFrom 40 = .ok (.getfield 32, 3) := by decide +kernel
theorem dX4_copyFrom_43 : decode cX4_copyFrom 43 = .ok (.putfield 32, 3) := by decide +kernel
theorem dX4_copyFrom_46 : decode cX4_copyFrom 46 = .ok (.aload_n 0, 1) := by decide +kernel
theorem dX4_copyFrom_47 : decode cX4_copyFrom 47 = .ok (.aload_n 1, 1) := by decide +kernel
theorem dX4_copyFrom_48 : decode cX4_copyFrom 48 = .ok (.getfield 35, 3) := by decide +kernel
theorem dX4_copyFrom_51 : decode cX4_copyFrom 51 = .ok (.putfield 35, 3) := by decide +kernel
theorem dX4_copyFrom_54 : decode cX4_copyFrom 54 = .ok (.aload_n 0, 1) := by decide +kernel
theorem dX4_copyFrom_55 : decode cX4_copyFrom 55 = .ok (.aload_n 1, 1) := by decide +kernel
theorem dX4_copyFrom_56 : decode cX4_copyFrom 56 = .ok (.getfield 38, 3) := by decide +kernel
theorem dX4_copyFrom_59 : decode cX4_copyFrom 59 = .ok (.putfield 38, 3) := by decide +kernel
theorem dX4_copyFrom_62 : decode cX4_copyFrom 62 = .ok (.aload_n 1, 1) := by decide +kernel
theorem dX4_copyFrom_63 : decode cX4_copyFrom 63 = .ok (.getfield 15, 3) := by decide +kernel
theorem dX4_copyFrom_66 : decode cX4_copyFrom 66 = .ok (.iconst 0, 1) := by decide +kernel
theorem dX4_copyFrom_67 : decode cX4_copyFrom 67 = .ok (.aload_n 0, 1) := by decide +kernel
theorem dX4_copyFrom_68 : decode cX4_copyFrom 68 = .ok (.getfield 15, 3) := by decide +kernel
theorem dX4_copyFrom_71 : decode cX4_copyFrom 71 = .ok (.iconst 0, 1) := by decide +kernel
theorem dX4_copyFrom_72 : decode cX4_copyFrom 72 = .ok (.bipush 18, 2) := by decide +kernel
theorem dX4_copyFrom_74 : decode cX4_copyFrom 74 = .ok (.invokestatic 45, 3) := by decide +kernel
theorem dX4_copyFrom_77 : decode cX4_copyFrom 77 = .ok (.aload_n 0, 1) := by decide +kernel
theorem dX4_copyFrom_78 : decode cX4_copyFrom 78 = .ok (.aload_n 1, 1) := by decide +kernel
theorem dX4_copyFrom_79 : decode cX4_copyFrom 79 = .ok (.getfield 41, 3) := by decide +kernel
theorem dX4_copyFrom_82 : decode cX4_copyFrom 82 = .ok (.putfield 41, 3) := by decide +kernel
theorem dX4_copyFrom_85 : decode cX4_copyFrom 85 = .ok (.return_, 1) := by decide +kernel
theorem dX4_moveTo_0 : decode cX4_moveTo 0 = .ok (.aload_n 0, 1) := by decide +kernel
theorem dX4_moveTo_1 : decode cX4_moveTo 1 = .ok (.getfield 9, 3) := by decide +kernel
theorem dX4_moveTo_4 : decode cX4_moveTo 4 = .ok (.iconst 0, 1) := by decide +kernel
theorem dX4_moveTo_5 : decode cX4_moveTo 5 = .ok (.iload_n 1, 1) := by decide +kernel
theorem dX4_moveTo_6 : decode cX4_moveTo 6 = .ok (.iastore, 1) := by decide +kernel
theorem dX4_moveTo_7 : decode cX4_moveTo 7 = .ok (.aload_n 0, 1) := by decide +kernel
theorem dX4_moveTo_8 : decode cX4_moveTo 8 = .ok (.getfield 9, 3) := by decide +kernel
theorem dX4_moveTo_11 : decode cX4_moveTo 11 = .ok (.iconst 1, 1) := by decide +kernel
theorem dX4_moveTo_12 : decode cX4_moveTo 12 = .ok (.iload_n 2, 1) := by decide +kernel
theorem dX4_moveTo_13 : decode cX4_moveTo 13 = .ok (.iastore, 1) := by decide +kernel
theorem dX4_moveTo_14 : decode cX4_moveTo 14 = .ok (.aload_n 0, 1) := by decide +kernel
theorem dX4_moveTo_15 : decode cX4_moveTo 15 = .ok (.getfield 9, 3) := by decide +kernel
theorem dX4_moveTo_18 : decode cX4_moveTo 18 = .ok (.iconst 2, 1) := by decide +kernel
theorem dX4_moveTo_19 : decode cX4_moveTo 19 = .ok (.iload_n 3, 1) := by decide +kernel
theorem dX4_moveTo_20 : decode cX4_moveTo 20 = .ok (.iastore, 1) := by decide +kernel
theorem dX4_moveTo_21 : decode cX4_moveTo 21 = .ok (.return_, 1) := by decide +kernel
theorem dX4_forgetDirection_0 : decode cX4_forgetDirection 0 = .ok (.aload_n 0, 1) := by decide +kernel
theorem dX4_forgetDirection_1 : decode cX4_forgetDirection 1 = .ok (.getfield 35, 3) := by decide +kernel
theorem dX4_forgetDirection_4 : decode cX4_forgetDirection 4 = .ok (.iload_n 1, 1) := by decide +kernel
theorem dX4_forgetDirection_5 : decode cX4_forgetDirection 5 = .ok (.if_icmp .ne 11, 3) := by decide +kernel
theorem dX4_forgetDirection_8 : decode cX4_forgetDirection 8 = .ok (.aload_n 0, 1) := by decide +kernel
theorem dX4_forgetDirection_9 : decode cX4_forgetDirection 9 = .ok (.iconst (-1), 1) := by decide +kernel
theorem dX4_forgetDirection_10 : decode cX4_forgetDirection 10 = .ok (.putfield 35, 3) := by decide +kernel
theorem dX4_forgetDirection_13 : decode cX4_forgetDirection 13 = .ok (.goto 21, 3) := by decide +kernel
theorem dX4_forgetDirection_16 : decode cX4_forgetDirection 16 = .ok (.aload_n 0, 1) := by decide +kernel
theorem dX4_forgetDirection_17 : decode cX4_forgetDirection 17 = .ok (.getfield 35, 3) := by decide +kernel
theorem dX4_forgetDirection_20 : decode cX4_forgetDirection 20 = .ok (.iload_n 1, 1) := by decide +kernel
theorem dX4_forgetDirection_21 : decode cX4_forgetDirection 21 = .ok (.if_icmp .le 13, 3) := by decide +kernel
theorem dX4_forgetDirection_24 : decode cX4_forgetDirection 24 = .ok (.aload_n 0, 1) := by decide +kernel
theorem dX4_forgetDirection_25 : decode cX4_forgetDirection 25 = .ok (.dup, 1) := by decide +kernel
theorem dX4_forgetDirection_26 : decode cX4_forgetDirection 26 = .ok (.getfield 35, 3) := by decide +kernel
theorem dX4_forgetDirection_29 : decode cX4_forgetDirection 29 = .ok (.iconst 1, 1) := by decide +kernel
theorem dX4_forgetDirection_30 : decode cX4_forgetDirection 30 = .ok (.isub, 1) := by decide +kernel
theorem dX4_forgetDirection_31 : decode cX4_forgetDirection 31 = .ok (.putfield 35, 3) := by decide +kernel
theorem dX4_forgetDirection_34 : decode cX4_forgetDirection 34 = .ok (.return_, 1) := by decide +kernel
theorem dX4_succeed_0 : decode cX4_succeed 0 = .ok (.aload_n 0, 1) := by decide +kernel
theorem dX4_succeed_1 : decode cX4_succeed 1 = .ok (.getfield 15, 3) := by decide +kernel
theorem dX4_succeed_4 : decode cX4_succeed 4 = .ok (.iconst 0, 1) := by decide +kernel
theorem dX4_succeed_5 : decode cX4_succeed 5 = .ok (.aload_n 0, 1) := by decide +kernel
theorem dX4_succeed_6 : decode cX4_succeed 6 = .ok (.getfield 15, 3) := by decide +kernel
theorem dX4_succeed_9 : decode cX4_succeed 9 = .ok (.iconst 3, 1) := by decide +kernel
theorem dX4_succeed_10 : decode cX4_succeed 10 = .ok (.bipush 15, 2) := by decide +kernel
theorem dX4_succeed_12 : decode cX4_succeed 12 = .ok (.invokestatic 45, 3) := by decide +kernel
theorem dX4_succeed_15 : decode cX4_succeed 15 = .ok (.aload_n 0, 1) := by decide +kernel
theorem dX4_succeed_16 : decode cX4_succeed 16 = .ok (.getfield 9, 3) := by decide +kernel
theorem dX4_succeed_19 : decode cX4_succeed 19 = .ok (.iconst 0, 1) := by decide +kernel
theorem dX4_succeed_20 : decode cX4_succeed 20 = .ok (.aload_n 0, 1) := by decide +kernel
theorem dX4_succeed_21 : decode cX4_succeed 21 = .ok (.getfield 15, 3) := by decide +kernel
theorem dX4_succeed_24 : decode cX4_succeed 24 = .ok (.iconst 0, 1) := by decide +kernel
theorem dX4_succeed_25 : decode cX4_succeed 25 = .ok (.iconst 3, 1) := by decide +kernel
theorem dX4_succeed_26 : decode cX4_succeed 26 = .ok (.invokestatic 45, 3) := by decide +kernel
theorem dX4_succeed_29 : decode cX4_succeed 29 = .ok (.aload_n 0, 1) := by decide +kernel
theorem dX4_succeed_30 : decode cX4_succeed 30 = .ok (.aload_n 0, 1) := by decide +kernel
theorem dX4_succeed_31 : decode cX4_succeed 31 = .ok (.getfield 38, 3) := by decide +kernel
theorem dX4_succeed_34 : decode cX4_succeed 34 = .ok (.iconst 1, 1) := by decide +kernel
theorem dX4_succeed_35 : decode cX4_succeed 35 = .ok (.iadd, 1) := by decide +kernel
theorem dX4_succeed_36 : decode cX4_succeed 36 = .ok (.bipush 6, 2) := by decide +kernel
theorem dX4_succeed_38 : decode cX4_succeed 38 = .ok (.invokestatic 51, 3) := by decide +kernel
theorem dX4_succeed_41 : decode cX4_succeed 41 = .ok (.putfield 38, 3) := by decide +kernel
theorem dX4_succeed_44 : decode cX4_succeed 44 = .ok (.aload_n 0, 1) := by decide +kernel
theorem dX4_succeed_45 : decode cX4_succeed 45 = .ok (.iload_n 2, 1) := by decide +kernel
theorem dX4_succeed_46 : decode cX4_succeed 46 = .ok (.iload_n 3, 1) := by decide +kernel
theorem dX4_succeed_47 : decode cX4_succeed 47 = .ok (.iload 4, 2) := by decide +kernel
theorem dX4_succeed_49 : decode cX4_succeed 49 = .ok (.invokevirtual 18, 3) := by decide +kernel
theorem dX4_succeed_52 : decode cX4_succeed 52 = .ok (.aload_n 0, 1) := by decide +kernel
theorem dX4_succeed_53 : decode cX4_succeed 53 = .ok (.iconst 2, 1) := by decide +kernel
theorem dX4_succeed_54 : decode cX4_succeed 54 = .ok (.aload_n 0, 1) := by decide +kernel
theorem dX4_succeed_55 : decode cX4_succeed 55 = .ok (.getfield 22, 3) := by decide +kernel
theorem dX4_succeed_58 : decode cX4_succeed 58 = .ok (.imul, 1) := by decide +kernel
theorem dX4_succeed_59 : decode cX4_succeed 59 = .ok (.bipush 16, 2) := by decide +kernel
theorem dX4_succeed_61 : decode cX4_succeed 61 = .ok (.invokestatic 51, 3) := by decide +kernel
theorem dX4_succeed_64 : decode cX4_succeed 64 = .ok (.putfield 22, 3) := by decide +kernel
theorem dX4_succeed_67 : decode cX4_succeed 67 = .ok (.aload_n 0, 1) := by decide +kernel
theorem dX4_succeed_68 : decode cX4_succeed 68 = .ok (.dup, 1) := by decide +kernel
theorem dX4_succeed_69 : decode cX4_succeed 69 = .ok (.getfield 29, 3) := by decide +kernel
theorem dX4_succeed_72 : decode cX4_succeed 72 = .ok (.iconst 1, 1) := by decide +kernel
theorem dX4_succeed_73 : decode cX4_succeed 73 = .ok (.iadd, 1) := by decide +kernel
theorem dX4_succeed_74 : decode cX4_succeed 74 = .ok (.putfield 29, 3) := by decide +kernel
theorem dX4_succeed_77 : decode cX4_succeed 77 = .ok (.aload_n 0, 1) := by decide +kernel
theorem dX4_succeed_78 : decode cX4_succeed 78 = .ok (.iload_n 1, 1) := by decide +kernel
theorem dX4_succeed_79 : decode cX4_succeed 79 = .ok (.putfield 35, 3) := by decide +kernel
theorem dX4_succeed_82 : decode cX4_succeed 82 = .ok (.aload_n 0, 1) := by decide +kernel
theorem dX4_succeed_83 : decode cX4_succeed 83 = .ok (.iconst 0, 1) := by decide +kernel
theorem dX4_succeed_84 : decode cX4_succeed 84 = .ok (.putfield 41, 3) := by decide +kernel
theorem dX4_succeed_87 : decode cX4_succeed 87 = .ok (.return_, 1) := by decide +kernel
theorem dX4_fail_0 : decode cX4_fail 0 = .ok (.aload_n 0, 1) := by decide +kernel
theorem dX4_fail_1 : decode cX4_fail 1 = .ok (.aload_n 0, 1) := by decide +kernel
theorem dX4_fail_2 : decode cX4_fail 2 = .ok (.getfield 22, 3) := by decide +kernel
theorem dX4_fail_5 : decode cX4_fail 5 = .ok (.iconst 1, 1) := by decide +kernel
theorem dX4_fail_6 : decode cX4_fail 6 = .ok (.if_icmp .ne 7, 3) := by decide +kernel
theorem dX4_fail_9 : decode cX4_fail 9 = .ok (.iconst 1, 1) := by decide +kernel
theorem dX4_fail_10 : decode cX4_fail 10 = .ok (.goto 4, 3) := by decide +kernel
theorem dX4_fail_13 : decode cX4_fail 13 = .ok (.iconst 0, 1) := by decide +kernel
theorem dX4_fail_14 : decode cX4_fail 14 = .ok (.putfield 41, 3) := by decide +kernel
theorem dX4_fail_17 : decode cX4_fail 17 = .ok (.aload_n 0, 1) := by decide +kernel
theorem dX4_fail_18 : decode cX4_fail 18 = .ok (.aload_n 0, 1) := by decide +kernel
theorem dX4_fail_19 : decode cX4_fail 19 = .ok (.getfield 22, 3) := by decide +kernel
theorem dX4_fail_22 : decode cX4_fail 22 = .ok (.iconst 2, 1) := by decide +kernel
theorem dX4_fail_23 : decode cX4_fail 23 = .ok (.idiv, 1) := by decide +kernel
theorem dX4_fail_24 : decode cX4_fail 24 = .ok (.iconst 1, 1) := by decide +kernel
theorem dX4_fail_25 : decode cX4_fail 25 = .ok (.invokestatic 57, 3) := by decide +kernel
theorem dX4_fail_28 : decode cX4_fail 28 = .ok (.putfield 22, 3) := by decide +kernel
theorem dX4_fail_31 : decode cX4_fail 31 = .ok (.return_, 1) := by decide +kernel
theorem dX5_init_0 : decode cX5_init 0 = .ok (.aload_n 0, 1) := by decide +kernel
theorem dX5_init_1 : decode cX5_init 1 = .ok (.invokespecial 3, 3) := by decide +kernel
theorem dX5_init_4 : decode cX5_init 4 = .ok (.aload_n 0, 1) := by decide +kernel
theorem dX5_init_5 : decode cX5_init 5 = .ok (.bipush 42, 2) := by decide +kernel
theorem dX5_init_7 : decode cX5_init 7 = .ok (.newarray .int, 2) := by decide +kernel
theorem dX5_init_9 : decode cX5_init 9 = .ok (.putfield 9, 3) := by decide +kernel
theorem dX5_init_12 : decode cX5_init 12 = .ok (.aload_n 0, 1) := by decide +kernel
theorem dX5_init_13 : decode cX5_init 13 = .ok (.iconst 3, 1) := by decide +kernel
theorem dX5_init_14 : decode cX5_init 14 = .ok (.newarray .int, 2) := by decide +kernel
theorem dX5_init_16 : decode cX5_init 16 = .ok (.putfield 15, 3) := by decide +kernel
theorem dX5_init_19 : decode cX5_init 19 = .ok (.return_, 1) := by decide +kernel
theorem dX5_isWhole_0 : decode cX5_isWhole 0 = .ok (.aload_n 0, 1) := by decide +kernel
theorem dX5_isWhole_1 : decode cX5_isWhole 1 = .ok (.aload_n 1, 1) := by decide +kernel
theorem dX5_isWhole_2 : decode cX5_isWhole 2 = .ok (.iload_n 2, 1) := by decide +kernel
theorem dX5_isWhole_3 : decode cX5_isWhole 3 = .ok (.invokevirtual 18, 3) := by decide +kernel
theorem dX5_isWhole_6 : decode cX5_isWhole 6 = .ok (.iconst 0, 1) := by decide +kernel
theorem dX5_isWhole_7 : decode cX5_isWhole 7 = .ok (.istore_n 3, 1) := by decide +kernel
theorem dX5_isWhole_8 : decode cX5_isWhole 8 = .ok (.iconst 0, 1) := by decide +kernel
theorem dX5_isWhole_9 : decode cX5_isWhole 9 = .ok (.istore 4, 2) := by decide +kernel
theorem dX5_isWhole_11 : decode cX5_isWhole 11 = .ok (.iload 4, 2) := by decide +kernel
theorem dX5_isWhole_13 : decode cX5_isWhole 13 = .ok (.aload_n 0, 1) := by decide +kernel
theorem dX5_isWhole_14 : decode cX5_isWhole 14 = .ok (.getfield 22, 3) := by decide +kernel
theorem dX5_isWhole_17 : decode cX5_isWhole 17 = .ok (.if_icmp .ge 56, 3) := by decide +kernel
theorem dX5_isWhole_20 : decode cX5_isWhole 20 = .ok (.iload 4, 2) := by decide +kernel
theorem dX5_isWhole_22 : decode cX5_isWhole 22 = .ok (.iconst 1, 1) := by decide +kernel
theorem dX5_isWhole_23 : decode cX5_isWhole 23 = .ok (.iadd, 1) := by decide +kernel
theorem dX5_isWhole_24 : decode cX5_isWhole 24 = .ok (.istore 5, 2) := by decide +kernel
theorem dX5_isWhole_26 : decode cX5_isWhole 26 = .ok (.iload 5, 2) := by decide +kernel
theorem dX5_isWhole_28 : decode cX5_isWhole 28 = .ok (.aload_n 0, 1) := by decide +kernel
theorem dX5_isWhole_29 : decode cX5_isWhole 29 = .ok (.getfield 22, 3) := by decide +kernel
theorem dX5_isWhole_32 : decode cX5_isWhole 32 = .ok (.if_icmp .ge 35, 3) := by decide +kernel
theorem dX5_isWhole_35 : decode cX5_isWhole 35 = .ok (.aload_n 0, 1) := by decide +kernel
theorem dX5_isWhole_36 : decode cX5_isWhole 36 = .ok (.iconst 3, 1) := by decide +kernel
theorem dX5_isWhole_37 : decode cX5_isWhole 37 = .ok (.iload 4, 2) := by decide +kernel
theorem dX5_isWhole_39 : decode cX5_isWhole 39 = .ok (.imul, 1) := by decide +kernel
theorem dX5_isWhole_40 : decode cX5_isWhole 40 = .ok (.iconst 3, 1) := by decide +kernel
theorem dX5_isWhole_41 : decode cX5_isWhole 41 = .ok (.iload 5, 2) := by decide +kernel
theorem dX5_isWhole_43 : decode cX5_isWhole 43 = .ok (.imul, 1) := by decide +kernel
theorem dX5_isWhole_44 : decode cX5_isWhole 44 = .ok (.invokevirtual 26, 3) := by decide +kernel
theorem dX5_isWhole_47 : decode cX5_isWhole 47 = .ok (.ifCond .eq 14, 3) := by decide +kernel
theorem dX5_isWhole_50 : decode cX5_isWhole 50 = .ok (.iconst 1, 1) := by decide +kernel
theorem dX5_isWhole_51 : decode cX5_isWhole 51 = .ok (.istore_n 3, 1) := by decide +kernel
theorem dX5_isWhole_52 : decode cX5_isWhole 52 = .ok (.aload_n 0, 1) := by decide +kernel
theorem dX5_isWhole_53 : decode cX5_isWhole 53 = .ok (.invokevirtual 30, 3) := by decide +kernel
theorem dX5_isWhole_56 : decode cX5_isWhole 56 = .ok (.ifCond .ne 5, 3) := by decide +kernel
theorem dX5_isWhole_59 : decode cX5_isWhole 59 = .ok (.iconst 0, 1) := by decide +kernel
theorem dX5_isWhole_60 : decode cX5_isWhole 60 = .ok (.ireturn, 1) := by decide +kernel
theorem dX5_isWhole_61 : decode cX5_isWhole 61 = .ok (.iinc 5 1, 3) := by decide +kernel
theorem dX5_isWhole_64 : decode cX5_isWhole 64 = .ok (.goto (-38), 3) := by decide +kernel
theorem dX5_isWhole_67 : decode cX5_isWhole 67 = .ok (.iinc 4 1, 3) := by decide +kernel
theorem dX5_isWhole_70 : decode cX5_isWhole 70 = .ok (.goto (-59), 3) := by decide +kernel
theorem dX5_isWhole_73 : decode cX5_isWhole 73 = .ok (.iload_n 3, 1) := by decide +kernel
theorem dX5_isWhole_74 : decode cX5_isWhole 74 = .ok (.ireturn, 1) := by decide +kernel
theorem dX5_fill_0 : decode cX5_fill 0 = .ok (.aload_n 0, 1) := by decide +kernel
theorem dX5_fill_1 : decode cX5_fill 1 = .ok (.aload_n 1, 1) := by decide +kernel
theorem dX5_fill_2 : decode cX5_fill 2 = .ok (.getfield 34, 3) := by decide +kernel
theorem dX5_fill_5 : decode cX5_fill 5 = .ok (.putfield 22, 3) := by decide +kernel
theorem dX5_fill_8 : decode cX5_fill 8 = .ok (.aload_n 1, 1) := by decide +kernel
theorem dX5_fill_9 : decode cX5_fill 9 = .ok (.getfield 37, 3) := by decide +kernel
theorem dX5_fill_12 : decode cX5_fill 12 = .ok (.iconst 0, 1) := by decide +kernel
theorem dX5_fill_13 : decode cX5_fill 13 = .ok (.aload_n 0, 1) := by decide +kernel
theorem dX5_fill_14 : decode cX5_fill 14 = .ok (.getfield 9, 3) := by decide +kernel
theorem dX5_fill_17 : decode cX5_fill 17 = .ok (.iconst 0, 1) := by decide +kernel
theorem dX5_fill_18 : decode cX5_fill 18 = .ok (.iconst 3, 1) := by decide +kernel
theorem dX5_fill_19 : decode cX5_fill 19 = .ok (.aload_n 0, 1) := by decide +kernel
theorem dX5_fill_20 : decode cX5_fill 20 = .ok (.getfield 22, 3) := by decide +kernel
theorem dX5_fill_23 : decode cX5_fill 23 = .ok (.imul, 1) := by decide +kernel
theorem dX5_fill_24 : decode cX5_fill 24 = .ok (.invokestatic 40, 3) := by decide +kernel
theorem dX5_fill_27 : decode cX5_fill 27 = .ok (.iload_n 2, 1) := by decide +kernel
theorem dX5_fill_28 : decode cX5_fill 28 = .ok (.istore_n 3, 1) := by decide +kernel
theorem dX5_fill_29 : decode cX5_fill 29 = .ok (.iload_n 3, 1) := by decide +kernel
theorem dX5_fill_30 : decode cX5_fill 30 = .ok (.iconst 3, 1) := by decide +kernel
theorem dX5_fill_31 : decode cX5_fill 31 = .ok (.if_icmp .ge 21, 3) := by decide +kernel
theorem dX5_fill_34 : decode cX5_fill 34 = .ok (.aload_n 0, 1) := by decide +kernel
theorem dX5_fill_35 : decode cX5_fill 35 = .ok (.iload_n 3, 1) := by decide +kernel
theorem dX5_fill_36 : decode cX5_fill 36 = .ok (.iconst 1, 1) := by decide +kernel
theorem dX5_fill_37 : decode cX5_fill 37 = .ok (.invokevirtual 46, 3) := by decide +kernel
theorem dX5_fill_40 : decode cX5_fill 40 = .ok (.aload_n 0, 1) := by decide +kernel
theorem dX5_fill_41 : decode cX5_fill 41 = .ok (.iload_n 3, 1) := by decide +kernel
theorem dX5_fill_42 : decode cX5_fill 42 = .ok (.iconst (-1), 1) := by decide +kernel
theorem dX5_fill_43 : decode cX5_fill 43 = .ok (.invokevirtual 46, 3) := by decide +kernel
theorem dX5_fill_46 : decode cX5_fill 46 = .ok (.iinc 3 1, 3) := by decide +kernel
theorem dX5_fill_49 : decode cX5_fill 49 = .ok (.goto (-20), 3) := by decide +kernel
theorem dX5_fill_52 : decode cX5_fill 52 = .ok (.return_, 1) := by decide +kernel
theorem dX5_addAlong_0 : decode cX5_addAlong 0 = .ok (.iconst 0, 1) := by decide +kernel
theorem dX5_addAlong_1 : decode cX5_addAlong 1 = .ok (.istore_n 3, 1) := by decide +kernel
theorem dX5_addAlong_2 : decode cX5_addAlong 2 = .ok (.iload_n 3, 1) := by decide +kernel
theorem dX5_addAlong_3 : decode cX5_addAlong 3 = .ok (.iconst 3, 1) := by decide +kernel
theorem dX5_addAlong_4 : decode cX5_addAlong 4 = .ok (.if_icmp .ge 32, 3) := by decide +kernel
theorem dX5_addAlong_7 : decode cX5_addAlong 7 = .ok (.aload_n 0, 1) := by decide +kernel
theorem dX5_addAlong_8 : decode cX5_addAlong 8 = .ok (.getfield 9, 3) := by decide +kernel
theorem dX5_addAlong_11 : decode cX5_addAlong 11 = .ok (.iconst 3, 1) := by decide +kernel
theorem dX5_addAlong_12 : decode cX5_addAlong 12 = .ok (.aload_n 0, 1) := by decide +kernel
theorem dX5_addAlong_13 : decode cX5_addAlong 13 = .ok (.getfield 22, 3) := by decide +kernel
theorem dX5_addAlong_16 : decode cX5_addAlong 16 = .ok (.imul, 1) := by decide +kernel
theorem dX5_addAlong_17 : decode cX5_addAlong 17 = .ok (.iload_n 3, 1) := by decide +kernel
theorem dX5_addAlong_18 : decode cX5_addAlong 18 = .ok (.iadd, 1) := by decide +kernel
theorem dX5_addAlong_19 : decode cX5_addAlong 19 = .ok (.iload_n 3, 1) := by decide +kernel
theorem dX5_addAlong_20 : decode cX5_addAlong 20 = .ok (.iload_n 1, 1) := by decide +kernel
theorem dX5_addAlong_21 : decode cX5_addAlong 21 = .ok (.if_icmp .ne 7, 3) := by decide +kernel
theorem dX5_addAlong_24 : decode cX5_addAlong 24 = .ok (.iload_n 2, 1) := by decide +kernel
theorem dX5_addAlong_25 : decode cX5_addAlong 25 = .ok (.goto 4, 3) := by decide +kernel
theorem dX5_addAlong_28 : decode cX5_addAlong 28 = .ok (.iconst 0, 1) := by decide +kernel
theorem dX5_addAlong_29 : decode cX5_addAlong 29 = .ok (.iastore, 1) := by decide +kernel
theorem dX5_addAlong_30 : decode cX5_addAlong 30 = .ok (.iinc 3 1, 3) := by decide +kernel
theorem dX5_addAlong_33 : decode cX5_addAlong 33 = .ok (.goto (-31), 3) := by decide +kernel
theorem dX5_addAlong_36 : decode cX5_addAlong 36 = .ok (.aload_n 0, 1) := by decide +kernel
theorem dX5_addAlong_37 : decode cX5_addAlong 37 = .ok (.dup, 1) := by decide +kernel
theorem dX5_addAlong_38 : decode cX5_addAlong 38 = .ok (.getfield 22, 3) := by decide +kernel
theorem dX5_addAlong_41 : decode cX5_addAlong 41 = .ok (.iconst 1, 1) := by decide +kernel
theorem dX5_addAlong_42 : decode cX5_addAlong 42 = .ok (.iadd, 1) := by decide +kernel
theorem dX5_addAlong_43 : decode cX5_addAlong 43 = .ok (.putfield 22, 3) := by decide +kernel
theorem dX5_addAlong_46 : decode cX5_addAlong 46 = .ok (.return_, 1) := by decide +kernel
theorem dX5_findNormal_0 : decode cX5_findNormal 0 = .ok (.aload_n 0, 1) := by decide +kernel
theorem dX5_findNormal_1 : decode cX5_findNormal 1 = .ok (.getfield 15, 3) := by decide +kernel
theorem dX5_findNormal_4 : decode cX5_findNormal 4 = .ok (.iconst 0, 1) := by decide +kernel
theorem dX5_findNormal_5 : decode cX5_findNormal 5 = .ok (.aload_n 0, 1) := by decide +kernel
theorem dX5_findNormal_6 : decode cX5_findNormal 6 = .ok (.getfield 9, 3) := by decide +kernel
theorem dX5_findNormal_9 : decode cX5_findNormal 9 = .ok (.iload_n 1, 1) := by decide +kernel
theorem dX5_findNormal_10 : decode cX5_findNormal 10 = .ok (.iconst 1, 1) := by decide +kernel
theorem dX5_findNormal_11 : decode cX5_findNormal 11 = .ok (.iadd, 1) := by decide +kernel
theorem dX5_findNormal_12 : decode cX5_findNormal 12 = .ok (.iaload, 1) := by decide +kernel
theorem dX5_findNormal_13 : decode cX5_findNormal 13 = .ok (.aload_n 0, 1) := by decide +kernel
theorem dX5_findNormal_14 : decode cX5_findNormal 14 = .ok (.getfield 9, 3) := by decide +kernel
theorem dX5_findNormal_17 : decode cX5_findNormal 17 = .ok (.iload_n 2, 1) := by decide +kernel
theorem dX5_findNormal_18 : decode cX5_findNormal 18 = .ok (.iconst 2, 1) := by decide +kernel
theorem dX5_findNormal_19 : decode cX5_findNormal 19 = .ok (.iadd, 1) := by decide +kernel
theorem dX5_findNormal_20 : decode cX5_findNormal 20 = .ok (.iaload, 1) := by decide +kernel
theorem dX5_findNormal_21 : decode cX5_findNormal 21 = .ok (.imul, 1) := by decide +kernel
theorem dX5_findNormal_22 : decode cX5_findNormal 22 = .ok (.aload_n 0, 1) := by decide +kernel
theorem dX5_findNormal_23 : decode cX5_findNormal 23 = .ok (.getfield 9, 3) := by decide +kernel
theorem dX5_findNormal_26 : decode cX5_findNormal 26 = .ok (.iload_n 1, 1) := by decide +kernel
theorem dX5_findNormal_27 : decode cX5_findNormal 27 = .ok (.iconst 2, 1) := by decide +kernel
theorem dX5_findNormal_28 : decode cX5_findNormal 28 = .ok (.iadd, 1) := by decide +kernel
theorem dX5_findNormal_29 : decode cX5_findNormal 29 = .ok (.iaload, 1) := by decide +kernel
theorem dX5_findNormal_30 : decode cX5_findNormal 30 = .ok (.aload_n 0, 1) := by decide +kernel
theorem dX5_findNormal_31 : decode cX5_findNormal 31 = .ok (.getfield 9, 3) := by decide +kernel
theorem dX5_findNormal_34 : decode cX5_findNormal 34 = .ok (.iload_n 2, 1) := by decide +kernel
theorem dX5_findNormal_35 : decode cX5_findNormal 35 = .ok (.iconst 1, 1) := by decide +kernel
theorem dX5_findNormal_36 : decode cX5_findNormal 36 = .ok (.iadd, 1) := by decide +kernel
theorem dX5_findNormal_37 : decode cX5_findNormal 37 = .ok (.iaload, 1) := by decide +kernel
theorem dX5_findNormal_38 : decode cX5_findNormal 38 = .ok (.imul, 1) := by decide +kernel
theorem dX5_findNormal_39 : decode cX5_findNormal 39 = .ok (.isub, 1) := by decide +kernel
theorem dX5_findNormal_40 : decode cX5_findNormal 40 = .ok (.iastore, 1) := by decide +kernel
theorem dX5_findNormal_41 : decode cX5_findNormal 41 = .ok (.aload_n 0, 1) := by decide +kernel
theorem dX5_findNormal_42 : decode cX5_findNormal 42 = .ok (.getfield 15, 3) := by decide +kernel
theorem dX5_findNormal_45 : decode cX5_findNormal 45 = .ok (.iconst 1, 1) := by decide +kernel
theorem dX5_findNormal_46 : decode cX5_findNormal 46 = .ok (.aload_n 0, 1) := by decide +kernel
theorem dX5_findNormal_47 : decode cX5_findNormal 47 = .ok (.getfield 9, 3) := by decide +kernel
theorem dX5_findNormal_50 : decode cX5_findNormal 50 = .ok (.iload_n 1, 1) := by decide +kernel
theorem dX5_findNormal_51 : decode cX5_findNormal 51 = .ok (.iconst 2, 1) := by decide +kernel
theorem dX5_findNormal_52 : decode cX5_findNormal 52 = .ok (.iadd, 1) := by decide +kernel
theorem dX5_findNormal_53 : decode cX5_findNormal 53 = .ok (.iaload, 1) := by decide +kernel
theorem dX5_findNormal_54 : decode cX5_findNormal 54 = .ok (.aload_n 0, 1) := by decide +kernel
theorem dX5_findNormal_55 : decode cX5_findNormal 55 = .ok (.getfield 9, 3) := by decide +kernel
theorem dX5_findNormal_58 : decode cX5_findNormal 58 = .ok (.iload_n 2, 1) := by decide +kernel
theorem dX5_findNormal_59 : decode cX5_findNormal 59 = .ok (.iaload, 1) := by decide +kernel
theorem dX5_findNormal_60 : decode cX5_findNormal 60 = .ok (.imul, 1) := by decide +kernel
theorem dX5_findNormal_61 : decode cX5_findNormal 61 = .ok (.aload_n 0, 1) := by decide +kernel
theorem dX5_findNormal_62 : decode cX5_findNormal 62 = .ok (.getfield 9, 3) := by decide +kernel
theorem dX5_findNormal_65 : decode cX5_findNormal 65 = .ok (.iload_n 1, 1) := by decide +kernel
theorem dX5_findNormal_66 : decode cX5_findNormal 66 = .ok (.iaload, 1) := by decide +kernel
theorem dX5_findNormal_67 : decode cX5_findNormal 67 = .ok (.aload_n 0, 1) := by decide +kernel
theorem dX5_findNormal_68 : decode cX5_findNormal 68 = .ok (.getfield 9, 3) := by decide +kernel
theorem dX5_findNormal_71 : decode cX5_findNormal 71 = .ok (.iload_n 2, 1) := by decide +kernel
theorem dX5_findNormal_72 : decode cX5_findNormal 72 = .ok (.iconst 2, 1) := by decide +kernel
theorem dX5_findNormal_73 : decode cX5_findNormal 73 = .ok (.iadd, 1) := by decide +kernel
theorem dX5_findNormal_74 : decode cX5_findNormal 74 = .ok (.iaload, 1) := by decide +kernel
theorem dX5_findNormal_75 : decode cX5_findNormal 75 = .ok (.imul, 1) := by decide +kernel
theorem dX5_findNormal_76 : decode cX5_findNormal 76 = .ok (.isub, 1) := by decide +kernel
theorem dX5_findNormal_77 : decode cX5_findNormal 77 = .ok (.iastore, 1) := by decide +kernel
theorem dX5_findNormal_78 : decode cX5_findNormal 78 = .ok (.aload_n 0, 1) := by decide +kernel
theorem dX5_findNormal_79 : decode cX5_findNormal 79 = .ok (.getfield 15, 3) := by decide +kernel
theorem dX5_findNormal_82 : decode cX5_findNormal 82 = .ok (.iconst 2, 1) := by decide +kernel
theorem dX5_findNormal_83 : decode cX5_findNormal 83 = .ok (.aload_n 0, 1) := by decide +kernel
theorem dX5_findNormal_84 : decode cX5_findNormal 84 = .ok (.getfield 9, 3) := by decide +kernel
theorem dX5_findNormal_87 : decode cX5_findNormal 87 = .ok (.iload_n 1, 1) := by decide +kernel
theorem dX5_findNormal_88 : decode cX5_findNormal 88 = .ok (.iaload, 1) := by decide +kernel
theorem dX5_findNormal_89 : decode cX5_findNormal 89 = .ok (.aload_n 0, 1) := by decide +kernel
theorem dX5_findNormal_90 : decode cX5_findNormal 90 = .ok (.getfield 9, 3) := by decide +kernel
theorem dX5_findNormal_93 : decode cX5_findNormal 93 = .ok (.iload_n 2, 1) := by decide +kernel
theorem dX5_findNormal_94 : decode cX5_findNormal 94 = .ok (.iconst 1, 1) := by decide +kernel
theorem dX5_findNormal_95 : decode cX5_findNormal 95 = .ok (.iadd, 1) := by decide +kernel
theorem dX5_findNormal_96 : decode cX5_findNormal 96 = .ok (.iaload, 1) := by decide +kernel
theorem dX5_findNormal_97 : decode cX5_findNormal 97 = .ok (.imul, 1) := by decide +kernel
theorem dX5_findNormal_98 : decode cX5_findNormal 98 = .ok (.aload_n 0, 1) := by decide +kernel
theorem dX5_findNormal_99 : decode cX5_findNormal 99 = .ok (.getfield 9, 3) := by decide +kernel
theorem dX5_findNormal_102 : decode cX5_findNormal 102 = .ok (.iload_n 1, 1) := by decide +kernel
theorem dX5_findNormal_103 : decode cX5_findNormal 103 = .ok (.iconst 1, 1) := by decide +kernel
theorem dX5_findNormal_104 : decode cX5_findNormal 104 = .ok (.iadd, 1) := by decide +kernel
theorem dX5_findNormal_105 : decode cX5_findNormal 105 = .ok (.iaload, 1) := by decide +kernel
theorem dX5_findNormal_106 : decode cX5_findNormal 106 = .ok (.aload_n 0, 1) := by decide +kernel
theorem dX5_findNormal_107 : decode cX5_findNormal 107 = .ok (.getfield 9, 3) := by decide +kernel
theorem dX5_findNormal_110 : decode cX5_findNormal 110 = .ok (.iload_n 2, 1) := by decide +kernel
theorem dX5_findNormal_111 : decode cX5_findNormal 111 = .ok (.iaload, 1) := by decide +kernel
theorem dX5_findNormal_112 : decode cX5_findNormal 112 = .ok (.imul, 1) := by decide +kernel
theorem dX5_findNormal_113 : decode cX5_findNormal 113 = .ok (.isub, 1) := by decide +kernel
theorem dX5_findNormal_114 : decode cX5_findNormal 114 = .ok (.iastore, 1) := by decide +kernel
theorem dX5_findNormal_115 : decode cX5_findNormal 115 = .ok (.aload_n 0, 1) := by decide +kernel
theorem dX5_findNormal_116 : decode cX5_findNormal 116 = .ok (.getfield 15, 3) := by decide +kernel
theorem dX5_findNormal_119 : decode cX5_findNormal 119 = .ok (.iconst 0, 1) := by decide +kernel
theorem dX5_findNormal_120 : decode cX5_findNormal 120 = .ok (.iaload, 1) := by decide +kernel
theorem dX5_findNormal_121 : decode cX5_findNormal 121 = .ok (.ifCond .ne 21, 3) := by decide +kernel
theorem dX5_findNormal_124 : decode cX5_findNormal 124 = .ok (.aload_n 0, 1) := by decide +kernel
theorem dX5_findNormal_125 : decode cX5_findNormal 125 = .ok (.getfield 15, 3) := by decide +kernel
theorem dX5_findNormal_128 : decode cX5_findNormal 128 = .ok (.iconst 1, 1) := by decide +kernel
theorem dX5_findNormal_129 : decode cX5_findNormal 129 = .ok (.iaload, 1) := by decide +kernel
theorem dX5_findNormal_130 : decode cX5_findNormal 130 = .ok (.ifCond .ne 12, 3) := by decide +kernel
theorem dX5_findNormal_133 : decode cX5_findNormal 133 = .ok (.aload_n 0, 1) := by decide +kernel
theorem dX5_findNormal_134 : decode cX5_findNormal 134 = .ok (.getfield 15, 3) := by decide +kernel
theorem dX5_findNormal_137 : decode cX5_findNormal 137 = .ok (.iconst 2, 1) := by decide +kernel
theorem dX5_findNormal_138 : decode cX5_findNormal 138 = .ok (.iaload, 1) := by decide +kernel
theorem dX5_findNormal_139 : decode cX5_findNormal 139 = .ok (.ifCond .eq 7, 3) := by decide +kernel
theorem dX5_findNormal_142 : decode cX5_findNormal 142 = .ok (.iconst 1, 1) := by decide +kernel
theorem dX5_findNormal_143 : decode cX5_findNormal 143 = .ok (.goto 4, 3) := by decide +kernel
theorem dX5_findNormal_146 : decode cX5_findNormal 146 = .ok (.iconst 0, 1) := by decide +kernel
theorem dX5_findNormal_147 : decode cX5_findNormal 147 = .ok (.ireturn, 1) := by decide +kernel
theorem dX5_hasRowsOnBothSides_0 : decode cX5_hasRowsOnBothSides 0 = .ok (.iconst 0, 1) := by decide +kernel
theorem dX5_hasRowsOnBothSides_1 : decode cX5_hasRowsOnBothSides 1 = .ok (.istore_n 1, 1) := by decide +kernel
theorem dX5_hasRowsOnBothSides_2 : decode cX5_hasRowsOnBothSides 2 = .ok (.iconst 0, 1) := by decide +kernel
theorem dX5_hasRowsOnBothSides_3 : decode cX5_hasRowsOnBothSides 3 = .ok (.istore_n 2, 1) := by decide +kernel
theorem dX5_hasRowsOnBothSides_4 : decode cX5_hasRowsOnBothSides 4 = .ok (.iconst 0, 1) := by decide +kernel
theorem dX5_hasRowsOnBothSides_5 : decode cX5_hasRowsOnBothSides 5 = .ok (.istore_n 3, 1) := by decide +kernel
theorem dX5_hasRowsOnBothSides_6 : decode cX5_hasRowsOnBothSides 6 = .ok (.iload_n 3, 1) := by decide +kernel
theorem dX5_hasRowsOnBothSides_7 : decode cX5_hasRowsOnBothSides 7 = .ok (.aload_n 0, 1) := by decide +kernel
theorem dX5_hasRowsOnBothSides_8 : decode cX5_hasRowsOnBothSides 8 = .ok (.getfield 22, 3) := by decide +kernel
theorem dX5_hasRowsOnBothSides_11 : decode cX5_hasRowsOnBothSides 11 = .ok (.if_icmp .ge 94, 3) := by decide +kernel
theorem dX5_hasRowsOnBothSides_14 : decode cX5_hasRowsOnBothSides 14 = .ok (.iconst 3, 1) := by decide +kernel
theorem dX5_hasRowsOnBothSides_15 : decode cX5_hasRowsOnBothSides 15 = .ok (.iload_n 3, 1) := by decide +kernel
theorem dX5_hasRowsOnBothSides_16 : decode cX5_hasRowsOnBothSides 16 = .ok (.imul, 1) := by decide +kernel
theorem dX5_hasRowsOnBothSides_17 : decode cX5_hasRowsOnBothSides 17 = .ok (.istore 4, 2) := by decide +kernel
theorem dX5_hasRowsOnBothSides_19 : decode cX5_hasRowsOnBothSides 19 = .ok (.aload_n 0, 1) := by decide +kernel
theorem dX5_hasRowsOnBothSides_20 : decode cX5_hasRowsOnBothSides 20 = .ok (.getfield 15, 3) := by decide +kernel
theorem dX5_hasRowsOnBothSides_23 : decode cX5_hasRowsOnBothSides 23 = .ok (.iconst 0, 1) := by decide +kernel
theorem dX5_hasRowsOnBothSides_24 : decode cX5_hasRowsOnBothSides 24 = .ok (.iaload, 1) := by decide +kernel
theorem dX5_hasRowsOnBothSides_25 : decode cX5_hasRowsOnBothSides 25 = .ok (.aload_n 0, 1) := by decide +kernel
theorem dX5_hasRowsOnBothSides_26 : decode cX5_hasRowsOnBothSides 26 = .ok (.getfield 9, 3) := by decide +kernel
theorem dX5_hasRowsOnBothSides_29 : decode cX5_hasRowsOnBothSides 29 = .ok (.iload 4, 2) := by decide +kernel
theorem dX5_hasRowsOnBothSides_31 : decode cX5_hasRowsOnBothSides 31 = .ok (.iaload, 1) := by decide +kernel
theorem dX5_hasRowsOnBothSides_32 : decode cX5_hasRowsOnBothSides 32 = .ok (.imul, 1) := by decide +kernel
theorem dX5_hasRowsOnBothSides_33 : decode cX5_hasRowsOnBothSides 33 = .ok (.aload_n 0, 1) := by decide +kernel
theorem dX5_hasRowsOnBothSides_34 : decode cX5_hasRowsOnBothSides 34 = .ok (.getfield 15, 3) := by decide +kernel
theorem dX5_hasRowsOnBothSides_37 : decode cX5_hasRowsOnBothSides 37 = .ok (.iconst 1, 1) := by decide +kernel
theorem dX5_hasRowsOnBothSides_38 : decode cX5_hasRowsOnBothSides 38 = .ok (.iaload, 1) := by decide +kernel
theorem dX5_hasRowsOnBothSides_39 : decode cX5_hasRowsOnBothSides 39 = .ok (.aload_n 0, 1) := by decide +kernel
theorem dX5_hasRowsOnBothSides_40 : decode cX5_hasRowsOnBothSides 40 = .ok (.getfield 9, 3) := by decide +kernel
theorem dX5_hasRowsOnBothSides_43 : decode cX5_hasRowsOnBothSides 43 = .ok (.iload 4, 2) := by decide +kernel
theorem dX5_hasRowsOnBothSides_45 : decode cX5_hasRowsOnBothSides 45 = .ok (.iconst 1, 1) := by decide +kernel
theorem dX5_hasRowsOnBothSides_46 : decode cX5_hasRowsOnBothSides 46 = .ok (.iadd, 1) := by decide +kernel
theorem dX5_hasRowsOnBothSides_47 : decode cX5_hasRowsOnBothSides 47 = .ok (.iaload, 1) := by decide +kernel
theorem dX5_hasRowsOnBothSides_48 : decode cX5_hasRowsOnBothSides 48 = .ok (.imul, 1) := by decide +kernel
theorem dX5_hasRowsOnBothSides_49 : decode cX5_hasRowsOnBothSides 49 = .ok (.iadd, 1) := by decide +kernel
theorem dX5_hasRowsOnBothSides_50 : decode cX5_hasRowsOnBothSides 50 = .ok (.aload_n 0, 1) := by decide +kernel
theorem dX5_hasRowsOnBothSides_51 : decode cX5_hasRowsOnBothSides 51 = .ok (.getfield 15, 3) := by decide +kernel
theorem dX5_hasRowsOnBothSides_54 : decode cX5_hasRowsOnBothSides 54 = .ok (.iconst 2, 1) := by decide +kernel
theorem dX5_hasRowsOnBothSides_55 : decode cX5_hasRowsOnBothSides 55 = .ok (.iaload, 1) := by decide +kernel
theorem dX5_hasRowsOnBothSides_56 : decode cX5_hasRowsOnBothSides 56 = .ok (.aload_n 0, 1) := by decide +kernel
theorem dX5_hasRowsOnBothSides_57 : decode cX5_hasRowsOnBothSides 57 = .ok (.getfield 9, 3) := by decide +kernel
theorem dX5_hasRowsOnBothSides_60 : decode cX5_hasRowsOnBothSides 60 = .ok (.iload 4, 2) := by decide +kernel
theorem dX5_hasRowsOnBothSides_62 : decode cX5_hasRowsOnBothSides 62 = .ok (.iconst 2, 1) := by decide +kernel
theorem dX5_hasRowsOnBothSides_63 : decode cX5_hasRowsOnBothSides 63 = .ok (.iadd, 1) := by decide +kernel
theorem dX5_hasRowsOnBothSides_64 : decode cX5_hasRowsOnBothSides 64 = .ok (.iaload, 1) := by decide +kernel
theorem dX5_hasRowsOnBothSides_65 : decode cX5_hasRowsOnBothSides 65 = .ok (.imul, 1) := by decide +kernel
theorem dX5_hasRowsOnBothSides_66 : decode cX5_hasRowsOnBothSides 66 = .ok (.iadd, 1) := by decide +kernel
theorem dX5_hasRowsOnBothSides_67 : decode cX5_hasRowsOnBothSides 67 = .ok (.istore 5, 2) := by decide +kernel
theorem dX5_hasRowsOnBothSides_69 : decode cX5_hasRowsOnBothSides 69 = .ok (.iload_n 1, 1) := by decide +kernel
theorem dX5_hasRowsOnBothSides_70 : decode cX5_hasRowsOnBothSides 70 = .ok (.ifCond .ne 8, 3) := by decide +kernel
theorem dX5_hasRowsOnBothSides_73 : decode cX5_hasRowsOnBothSides 73 = .ok (.iload 5, 2) := by decide +kernel
theorem dX5_hasRowsOnBothSides_75 : decode cX5_hasRowsOnBothSides 75 = .ok (.ifCond .le 7, 3) := by decide +kernel
theorem dX5_hasRowsOnBothSides_78 : decode cX5_hasRowsOnBothSides 78 = .ok (.iconst 1, 1) := by decide +kernel
theorem dX5_hasRowsOnBothSides_79 : decode cX5_hasRowsOnBothSides 79 = .ok (.goto 4, 3) := by decide +kernel
theorem dX5_hasRowsOnBothSides_82 : decode cX5_hasRowsOnBothSides 82 = .ok (.iconst 0, 1) := by decide +kernel
theorem dX5_hasRowsOnBothSides_83 : decode cX5_hasRowsOnBothSides 83 = .ok (.istore_n 1, 1) := by decide +kernel
theorem dX5_hasRowsOnBothSides_84 : decode cX5_hasRowsOnBothSides 84 = .ok (.iload_n 2, 1) := by decide +kernel
theorem dX5_hasRowsOnBothSides_85 : decode cX5_hasRowsOnBothSides 85 = .ok (.ifCond .ne 8, 3) := by decide +kernel
theorem dX5_hasRowsOnBothSides_88 : decode cX5_hasRowsOnBothSides 88 = .ok (.iload 5, 2) := by decide +kernel
theorem dX5_hasRowsOnBothSides_90 : decode cX5_hasRowsOnBothSides 90 = .ok (.ifCond .ge 7, 3) := by decide +kernel
theorem dX5_hasRowsOnBothSides_93 : decode cX5_hasRowsOnBothSides 93 = .ok (.iconst 1, 1) := by decide +kernel
theorem dX5_hasRowsOnBothSides_94 : decode cX5_hasRowsOnBothSides 94 = .ok (.goto 4, 3) := by decide +kernel
theorem dX5_hasRowsOnBothSides_97 : decode cX5_hasRowsOnBothSides 97 = .ok (.iconst 0, 1) := by decide +kernel
theorem dX5_hasRowsOnBothSides_98 : decode cX5_hasRowsOnBothSides 98 = .ok (.istore_n 2, 1) := by decide +kernel
theorem dX5_hasRowsOnBothSides_99 : decode cX5_hasRowsOnBothSides 99 = .ok (.iinc 3 1, 3) := by decide +kernel
theorem dX5_hasRowsOnBothSides_102 : decode cX5_hasRowsOnBothSides 102 = .ok (.goto (-96), 3) := by decide +kernel
theorem dX5_hasRowsOnBothSides_105 : decode cX5_hasRowsOnBothSides 105 = .ok (.iload_n 1, 1) := by decide +kernel
theorem dX5_hasRowsOnBothSides_106 : decode cX5_hasRowsOnBothSides 106 = .ok (.ifCond .eq 11, 3) := by decide +kernel
theorem dX5_hasRowsOnBothSides_109 : decode cX5_hasRowsOnBothSides 109 = .ok (.iload_n 2, 1) := by decide +kernel
theorem dX5_hasRowsOnBothSides_110 : decode cX5_hasRowsOnBothSides 110 = .ok (.ifCond .eq 7, 3) := by decide +kernel
theorem dX5_hasRowsOnBothSides_113 : decode cX5_hasRowsOnBothSides 113 = .ok (.iconst 1, 1) := by decide +kernel
theorem dX5_hasRowsOnBothSides_114 : decode cX5_hasRowsOnBothSides 114 = .ok (.goto 4, 3) := by decide +kernel
theorem dX5_hasRowsOnBothSides_117 : decode cX5_hasRowsOnBothSides 117 = .ok (.iconst 0, 1) := by decide +kernel
theorem dX5_hasRowsOnBothSides_118 : decode cX5_hasRowsOnBothSides 118 = .ok (.ireturn, 1) := by decide +kernel
theorem dX6_init_0 : decode cX6_init 0 = .ok (.aload_n 0, 1) := by decide +kernel
theorem dX6_init_1 : decode cX6_init 1 = .ok (.invokespecial 3, 3) := by decide +kernel
theorem dX6_init_4 : decode cX6_init 4 = .ok (.aload_n 0, 1) := by decide +kernel
theorem dX6_init_5 : decode cX6_init 5 = .ok (.new 9, 3) := by decide +kernel
theorem dX6_init_8 : decode cX6_init 8 = .ok (.dup, 1) := by decide +kernel
theorem dX6_init_9 : decode cX6_init 9 = .ok (.invokespecial 11, 3) := by decide +kernel
theorem dX6_init_12 : decode cX6_init 12 = .ok (.putfield 12, 3) := by decide +kernel
theorem dX6_init_15 : decode cX6_init 15 = .ok (.aload_n 0, 1) := by decide +kernel
theorem dX6_init_16 : decode cX6_init 16 = .ok (.new 18, 3) := by decide +kernel
theorem dX6_init_19 : decode cX6_init 19 = .ok (.dup, 1) := by decide +kernel
theorem dX6_init_20 : decode cX6_init 20 = .ok (.invokespecial 20, 3) := by decide +kernel
theorem dX6_init_23 : decode cX6_init 23 = .ok (.putfield 21, 3) := by decide +kernel
theorem dX6_init_26 : decode cX6_init 26 = .ok (.aload_n 0, 1) := by decide +kernel
theorem dX6_init_27 : decode cX6_init 27 = .ok (.new 25, 3) := by decide +kernel
theorem dX6_init_30 : decode cX6_init 30 = .ok (.dup, 1) := by decide +kernel
theorem dX6_init_31 : decode cX6_init 31 = .ok (.invokespecial 27, 3) := by decide +kernel
theorem dX6_init_34 : decode cX6_init 34 = .ok (.putfield 28, 3) := by decide +kernel
theorem dX6_init_37 : decode cX6_init 37 = .ok (.aload_n 0, 1) := by decide +kernel
theorem dX6_init_38 : decode cX6_init 38 = .ok (.new 32, 3) := by decide +kernel
theorem dX6_init_41 : decode cX6_init 41 = .ok (.dup, 1) := by decide +kernel
theorem dX6_init_42 : decode cX6_init 42 = .ok (.invokespecial 34, 3) := by decide +kernel
theorem dX6_init_45 : decode cX6_init 45 = .ok (.putfield 35, 3) := by decide +kernel
theorem dX6_init_48 : decode cX6_init 48 = .ok (.return_, 1) := by decide +kernel
theorem dX6_reset_0 : decode cX6_reset 0 = .ok (.aload_n 0, 1) := by decide +kernel
theorem dX6_reset_1 : decode cX6_reset 1 = .ok (.iload_n 1, 1) := by decide +kernel
theorem dX6_reset_2 : decode cX6_reset 2 = .ok (.putfield 39, 3) := by decide +kernel
theorem dX6_reset_5 : decode cX6_reset 5 = .ok (.aload_n 0, 1) := by decide +kernel
theorem dX6_reset_6 : decode cX6_reset 6 = .ok (.iconst 0, 1) := by decide +kernel
theorem dX6_reset_7 : decode cX6_reset 7 = .ok (.putfield 43, 3) := by decide +kernel
theorem dX6_reset_10 : decode cX6_reset 10 = .ok (.aload_n 0, 1) := by decide +kernel
theorem dX6_reset_11 : decode cX6_reset 11 = .ok (.iconst 0, 1) := by decide +kernel
theorem dX6_reset_12 : decode cX6_reset 12 = .ok (.putfield 46, 3) := by decide +kernel
theorem dX6_reset_15 : decode cX6_reset 15 = .ok (.aload_n 0, 1) := by decide +kernel
theorem dX6_reset_16 : decode cX6_reset 16 = .ok (.getfield 12, 3) := by decide +kernel
theorem dX6_reset_19 : decode cX6_reset 19 = .ok (.iconst 0, 1) := by decide +kernel
theorem dX6_reset_20 : decode cX6_reset 20 = .ok (.putfield 49, 3) := by decide +kernel
theorem dX6_reset_23 : decode cX6_reset 23 = .ok (.aload_n 0, 1) := by decide +kernel
theorem dX6_reset_24 : decode cX6_reset 24 = .ok (.getfield 21, 3) := by decide +kernel
theorem dX6_reset_27 : decode cX6_reset 27 = .ok (.invokevirtual 52, 3) := by decide +kernel
theorem dX6_reset_30 : decode cX6_reset 30 = .ok (.aload_n 0, 1) := by decide +kernel
theorem dX6_reset_31 : decode cX6_reset 31 = .ok (.getfield 28, 3) := by decide +kernel
theorem dX6_reset_34 : decode cX6_reset 34 = .ok (.iload_n 1, 1) := by decide +kernel
theorem dX6_reset_35 : decode cX6_reset 35 = .ok (.invokevirtual 55, 3) := by decide +kernel
theorem dX6_reset_38 : decode cX6_reset 38 = .ok (.aload_n 0, 1) := by decide +kernel
theorem dX6_reset_39 : decode cX6_reset 39 = .ok (.getfield 35, 3) := by decide +kernel
theorem dX6_reset_42 : decode cX6_reset 42 = .ok (.iconst 0, 1) := by decide +kernel
theorem dX6_reset_43 : decode cX6_reset 43 = .ok (.iconst 0, 1) := by decide +kernel
theorem dX6_reset_44 : decode cX6_reset 44 = .ok (.iconst 0, 1) := by decide +kernel
theorem dX6_reset_45 : decode cX6_reset 45 = .ok (.iconst 4, 1) := by decide +kernel
theorem dX6_reset_46 : decode cX6_reset 46 = .ok (.invokevirtual 58, 3) := by decide +kernel
theorem dX6_reset_49 : decode cX6_reset 49 = .ok (.return_, 1) := by decide +kernel
theorem dX6_copyFrom_0 : decode cX6_copyFrom 0 = .ok (.aload_n 0, 1) := by decide +kernel
theorem dX6_copyFrom_1 : decode cX6_copyFrom 1 = .ok (.aload_n 1, 1) := by decide +kernel
theorem dX6_copyFrom_2 : decode cX6_copyFrom 2 = .ok (.getfield 39, 3) := by decide +kernel
theorem dX6_copyFrom_5 : decode cX6_copyFrom 5 = .ok (.putfield 39, 3) := by decide +kernel
theorem dX6_copyFrom_8 : decode cX6_copyFrom 8 = .ok (.aload_n 0, 1) := by decide +kernel
theorem dX6_copyFrom_9 : decode cX6_copyFrom 9 = .ok (.aload_n 1, 1) := by decide +kernel
theorem dX6_copyFrom_10 : decode cX6_copyFrom 10 = .ok (.getfield 43, 3) := by decide +kernel
theorem dX6_copyFrom_13 : decode cX6_copyFrom 13 = .ok (.putfield 43, 3) := by decide +kernel
theorem dX6_copyFrom_16 : decode cX6_copyFrom 16 = .ok (.aload_n 0, 1) := by decide +kernel
theorem dX6_copyFrom_17 : decode cX6_copyFrom 17 = .ok (.aload_n 1, 1) := by decide +kernel
theorem dX6_copyFrom_18 : decode cX6_copyFrom 18 = .ok (.getfield 46, 3) := by decide +kernel
theorem dX6_copyFrom_21 : decode cX6_copyFrom 21 = .ok (.putfield 46, 3) := by decide +kernel
theorem dX6_copyFrom_24 : decode cX6_copyFrom 24 = .ok (.aload_n 0, 1) := by decide +kernel
theorem dX6_copyFrom_25 : decode cX6_copyFrom 25 = .ok (.getfield 12, 3) := by decide +kernel
theorem dX6_copyFrom_28 : decode cX6_copyFrom 28 = .ok (.aload_n 1, 1) := by decide +kernel
theorem dX6_copyFrom_29 : decode cX6_copyFrom 29 = .ok (.getfield 12, 3) := by decide +kernel
theorem dX6_copyFrom_32 : decode cX6_copyFrom 32 = .ok (.invokevirtual 62, 3) := by decide +kernel
theorem dX6_copyFrom_35 : decode cX6_copyFrom 35 = .ok (.aload_n 0, 1) := by decide +kernel
theorem dX6_copyFrom_36 : decode cX6_copyFrom 36 = .ok (.getfield 21, 3) := by decide +kernel
theorem dX6_copyFrom_39 : decode cX6_copyFrom 39 = .ok (.aload_n 1, 1) := by decide +kernel
theorem dX6_copyFrom_40 : decode cX6_copyFrom 40 = .ok (.getfield 21, 3) := by decide +kernel
theorem dX6_copyFrom_43 : decode cX6_copyFrom 43 = .ok (.invokevirtual 66, 3) := by decide +kernel
theorem dX6_copyFrom_46 : decode cX6_copyFrom 46 = .ok (.aload_n 0, 1) := by decide +kernel
theorem dX6_copyFrom_47 : decode cX6_copyFrom 47 = .ok (.getfield 28, 3) := by decide +kernel
theorem dX6_copyFrom_50 : decode cX6_copyFrom 50 = .ok (.aload_n 1, 1) := by decide +kernel
theorem dX6_copyFrom_51 : decode cX6_copyFrom 51 = .ok (.getfield 28, 3) := by decide +kernel
theorem dX6_copyFrom_54 : decode cX6_copyFrom 54 = .ok (.invokevirtual 69, 3) := by decide +kernel
theorem dX6_copyFrom_57 : decode cX6_copyFrom 57 = .ok (.aload_n 0, 1) := by decide +kernel
theorem dX6_copyFrom_58 : decode cX6_copyFrom 58 = .ok (.getfield 35, 3) := by decide +kernel
theorem dX6_copyFrom_61 : decode cX6_copyFrom 61 = .ok (.aload_n 1, 1) := by decide +kernel
theorem dX6_copyFrom_62 : decode cX6_copyFrom 62 = .ok (.getfield 35, 3) := by decide +kernel
theorem dX6_copyFrom_65 : decode cX6_copyFrom 65 = .ok (.invokevirtual 72, 3) := by decide +kernel
theorem dX6_copyFrom_68 : decode cX6_copyFrom 68 = .ok (.return_, 1) := by decide +kernel
theorem dX6_hasVariable_0 : decode cX6_hasVariable 0 = .ok (.iload_n 1, 1) := by decide +kernel
theorem dX6_hasVariable_1 : decode cX6_hasVariable 1 = .ok (.iconst 0, 1) := by decide +kernel
theorem dX6_hasVariable_2 : decode cX6_hasVariable 2 = .ok (.aload_n 0, 1) := by decide +kernel
theorem dX6_hasVariable_3 : decode cX6_hasVariable 3 = .ok (.getfield 39, 3) := by decide +kernel
theorem dX6_hasVariable_6 : decode cX6_hasVariable 6 = .ok (.iconst 1, 1) := by decide +kernel
theorem dX6_hasVariable_7 : decode cX6_hasVariable 7 = .ok (.isub, 1) := by decide +kernel
theorem dX6_hasVariable_8 : decode cX6_hasVariable 8 = .ok (.invokestatic 75, 3) := by decide +kernel
theorem dX6_hasVariable_11 : decode cX6_hasVariable 11 = .ok (.ireturn, 1) := by decide +kernel
theorem dX6_fit_0 : decode cX6_fit 0 = .ok (.iload_n 1, 1) := by decide +kernel
theorem dX6_fit_1 : decode cX6_fit 1 = .ok (.iload 4, 2) := by decide +kernel
theorem dX6_fit_3 : decode cX6_fit 3 = .ok (.iload 5, 2) := by decide +kernel
theorem dX6_fit_5 : decode cX6_fit 5 = .ok (.invokestatic 75, 3) := by decide +kernel
theorem dX6_fit_8 : decode cX6_fit 8 = .ok (.ifCond .eq 53, 3) := by decide +kernel
theorem dX6_fit_11 : decode cX6_fit 11 = .ok (.iload_n 2, 1) := by decide +kernel
theorem dX6_fit_12 : decode cX6_fit 12 = .ok (.iload 4, 2) := by decide +kernel
theorem dX6_fit_14 : decode cX6_fit 14 = .ok (.iload 5, 2) := by decide +kernel
theorem dX6_fit_16 : decode cX6_fit 16 = .ok (.invokestatic 75, 3) := by decide +kernel
theorem dX6_fit_19 : decode cX6_fit 19 = .ok (.ifCond .eq 42, 3) := by decide +kernel
theorem dX6_fit_22 : decode cX6_fit 22 = .ok (.iload_n 3, 1) := by decide +kernel
theorem dX6_fit_23 : decode cX6_fit 23 = .ok (.iload 4, 2) := by decide +kernel
theorem dX6_fit_25 : decode cX6_fit 25 = .ok (.iload 5, 2) := by decide +kernel
theorem dX6_fit_27 : decode cX6_fit 27 = .ok (.invokestatic 75, 3) := by decide +kernel
theorem dX6_fit_30 : decode cX6_fit 30 = .ok (.ifCond .eq 31, 3) := by decide +kernel
theorem dX6_fit_33 : decode cX6_fit 33 = .ok (.aload_n 0, 1) := by decide +kernel
theorem dX6_fit_34 : decode cX6_fit 34 = .ok (.getfield 39, 3) := by decide +kernel
theorem dX6_fit_37 : decode cX6_fit 37 = .ok (.iconst 1, 1) := by decide +kernel
theorem dX6_fit_38 : decode cX6_fit 38 = .ok (.if_icmp .gt 7, 3) := by decide +kernel
theorem dX6_fit_41 : decode cX6_fit 41 = .ok (.iload_n 2, 1) := by decide +kernel
theorem dX6_fit_42 : decode cX6_fit 42 = .ok (.ifCond .ne 19, 3) := by decide +kernel
theorem dX6_fit_45 : decode cX6_fit 45 = .ok (.aload_n 0, 1) := by decide +kernel
theorem dX6_fit_46 : decode cX6_fit 46 = .ok (.getfield 39, 3) := by decide +kernel
theorem dX6_fit_49 : decode cX6_fit 49 = .ok (.iconst 2, 1) := by decide +kernel
theorem dX6_fit_50 : decode cX6_fit 50 = .ok (.if_icmp .gt 7, 3) := by decide +kernel
theorem dX6_fit_53 : decode cX6_fit 53 = .ok (.iload_n 3, 1) := by decide +kernel
theorem dX6_fit_54 : decode cX6_fit 54 = .ok (.ifCond .ne 7, 3) := by decide +kernel
theorem dX6_fit_57 : decode cX6_fit 57 = .ok (.iconst 1, 1) := by decide +kernel
theorem dX6_fit_58 : decode cX6_fit 58 = .ok (.goto 4, 3) := by decide +kernel
theorem dX6_fit_61 : decode cX6_fit 61 = .ok (.iconst 0, 1) := by decide +kernel
theorem dX6_fit_62 : decode cX6_fit 62 = .ok (.ireturn, 1) := by decide +kernel
theorem dX6_placeIsAllowed_0 : decode cX6_placeIsAllowed 0 = .ok (.aload_n 0, 1) := by decide +kernel
theorem dX6_placeIsAllowed_1 : decode cX6_placeIsAllowed 1 = .ok (.getfield 21, 3) := by decide +kernel
theorem dX6_placeIsAllowed_4 : decode cX6_placeIsAllowed 4 = .ok (.aload_n 0, 1) := by decide +kernel
theorem dX6_placeIsAllowed_5 : decode cX6_placeIsAllowed 5 = .ok (.getfield 35, 3) := by decide +kernel
theorem dX6_placeIsAllowed_8 : decode cX6_placeIsAllowed 8 = .ok (.getfield 79, 3) := by decide +kernel
theorem dX6_placeIsAllowed_11 : decode cX6_placeIsAllowed 11 = .ok (.iconst 0, 1) := by decide +kernel
theorem dX6_placeIsAllowed_12 : decode cX6_placeIsAllowed 12 = .ok (.iaload, 1) := by decide +kernel
theorem dX6_placeIsAllowed_13 : decode cX6_placeIsAllowed 13 = .ok (.aload_n 0, 1) := by decide +kernel
theorem dX6_placeIsAllowed_14 : decode cX6_placeIsAllowed 14 = .ok (.getfield 35, 3) := by decide +kernel
theorem dX6_placeIsAllowed_17 : decode cX6_placeIsAllowed 17 = .ok (.getfield 79, 3) := by decide +kernel
theorem dX6_placeIsAllowed_20 : decode cX6_placeIsAllowed 20 = .ok (.iconst 1, 1) := by decide +kernel
theorem dX6_placeIsAllowed_21 : decode cX6_placeIsAllowed 21 = .ok (.iaload, 1) := by decide +kernel
theorem dX6_placeIsAllowed_22 : decode cX6_placeIsAllowed 22 = .ok (.aload_n 0, 1) := by decide +kernel
theorem dX6_placeIsAllowed_23 : decode cX6_placeIsAllowed 23 = .ok (.getfield 35, 3) := by decide +kernel
theorem dX6_placeIsAllowed_26 : decode cX6_placeIsAllowed 26 = .ok (.getfield 79, 3) := by decide +kernel
theorem dX6_placeIsAllowed_29 : decode cX6_placeIsAllowed 29 = .ok (.iconst 2, 1) := by decide +kernel
theorem dX6_placeIsAllowed_30 : decode cX6_placeIsAllowed 30 = .ok (.iaload, 1) := by decide +kernel
theorem dX6_placeIsAllowed_31 : decode cX6_placeIsAllowed 31 = .ok (.invokevirtual 83, 3) := by decide +kernel
theorem dX6_placeIsAllowed_34 : decode cX6_placeIsAllowed 34 = .ok (.ireturn, 1) := by decide +kernel
theorem dX6_canPoll_0 : decode cX6_canPoll 0 = .ok (.aload_n 0, 1) := by decide +kernel
theorem dX6_canPoll_1 : decode cX6_canPoll 1 = .ok (.invokevirtual 86, 3) := by decide +kernel
theorem dX6_canPoll_4 : decode cX6_canPoll 4 = .ok (.ifCond .eq 17, 3) := by decide +kernel
theorem dX6_canPoll_7 : decode cX6_canPoll 7 = .ok (.aload_n 0, 1) := by decide +kernel
theorem dX6_canPoll_8 : decode cX6_canPoll 8 = .ok (.getfield 28, 3) := by decide +kernel
theorem dX6_canPoll_11 : decode cX6_canPoll 11 = .ok (.getfield 90, 3) := by decide +kernel
theorem dX6_canPoll_14 : decode cX6_canPoll 14 = .ok (.ifCond .le 7, 3) := by decide +kernel
theorem dX6_canPoll_17 : decode cX6_canPoll 17 = .ok (.iconst 1, 1) := by decide +kernel
theorem dX6_canPoll_18 : decode cX6_canPoll 18 = .ok (.goto 4, 3) := by decide +kernel
theorem dX6_canPoll_21 : decode cX6_canPoll 21 = .ok (.iconst 0, 1) := by decide +kernel
theorem dX6_canPoll_22 : decode cX6_canPoll 22 = .ok (.ireturn, 1) := by decide +kernel
theorem dX6_valueHere_0 : decode cX6_valueHere 0 = .ok (.aload_n 0, 1) := by decide +kernel
theorem dX6_valueHere_1 : decode cX6_valueHere 1 = .ok (.getfield 12, 3) := by decide +kernel
theorem dX6_valueHere_4 : decode cX6_valueHere 4 = .ok (.aload_n 0, 1) := by decide +kernel
theorem dX6_valueHere_5 : decode cX6_valueHere 5 = .ok (.getfield 35, 3) := by decide +kernel
theorem dX6_valueHere_8 : decode cX6_valueHere 8 = .ok (.getfield 79, 3) := by decide +kernel
theorem dX6_valueHere_11 : decode cX6_valueHere 11 = .ok (.iconst 0, 1) := by decide +kernel
theorem dX6_valueHere_12 : decode cX6_valueHere 12 = .ok (.iaload, 1) := by decide +kernel
theorem dX6_valueHere_13 : decode cX6_valueHere 13 = .ok (.aload_n 0, 1) := by decide +kernel
theorem dX6_valueHere_14 : decode cX6_valueHere 14 = .ok (.getfield 35, 3) := by decide +kernel
theorem dX6_valueHere_17 : decode cX6_valueHere 17 = .ok (.getfield 79, 3) := by decide +kernel
theorem dX6_valueHere_20 : decode cX6_valueHere 20 = .ok (.iconst 1, 1) := by decide +kernel
theorem dX6_valueHere_21 : decode cX6_valueHere 21 = .ok (.iaload, 1) := by decide +kernel
theorem dX6_valueHere_22 : decode cX6_valueHere 22 = .ok (.aload_n 0, 1) := by decide +kernel
theorem dX6_valueHere_23 : decode cX6_valueHere 23 = .ok (.getfield 35, 3) := by decide +kernel
theorem dX6_valueHere_26 : decode cX6_valueHere 26 = .ok (.getfield 79, 3) := by decide +kernel
theorem dX6_valueHere_29 : decode cX6_valueHere 29 = .ok (.iconst 2, 1) := by decide +kernel
theorem dX6_valueHere_30 : decode cX6_valueHere 30 = .ok (.iaload, 1) := by decide +kernel
theorem dX6_valueHere_31 : decode cX6_valueHere 31 = .ok (.iconst 4, 1) := by decide +kernel
theorem dX6_valueHere_32 : decode cX6_valueHere 32 = .ok (.invokevirtual 91, 3) := by decide +kernel
theorem dX6_valueHere_35 : decode cX6_valueHere 35 = .ok (.lreturn, 1) := by decide +kernel
theorem dX6_trialNumber_0 : decode cX6_trialNumber 0 = .ok (.aload_n 0, 1) := by decide +kernel
theorem dX6_trialNumber_1 : decode cX6_trialNumber 1 = .ok (.getfield 35, 3) := by decide +kernel
theorem dX6_trialNumber_4 : decode cX6_trialNumber 4 = .ok (.getfield 79, 3) := by decide +kernel
theorem dX6_trialNumber_7 : decode cX6_trialNumber 7 = .ok (.iload_n 2, 1) := by decide +kernel
theorem dX6_trialNumber_8 : decode cX6_trialNumber 8 = .ok (.iaload, 1) := by decide +kernel
theorem dX6_trialNumber_9 : decode cX6_trialNumber 9 = .ok (.iload_n 3, 1) := by decide +kernel
theorem dX6_trialNumber_10 : decode cX6_trialNumber 10 = .ok (.aload_n 0, 1) := by decide +kernel
theorem dX6_trialNumber_11 : decode cX6_trialNumber 11 = .ok (.getfield 28, 3) := by decide +kernel
theorem dX6_trialNumber_14 : decode cX6_trialNumber 14 = .ok (.getfield 95, 3) := by decide +kernel
theorem dX6_trialNumber_17 : decode cX6_trialNumber 17 = .ok (.iconst 3, 1) := by decide +kernel
theorem dX6_trialNumber_18 : decode cX6_trialNumber 18 = .ok (.iload_n 1, 1) := by decide +kernel
theorem dX6_trialNumber_19 : decode cX6_trialNumber 19 = .ok (.imul, 1) := by decide +kernel
theorem dX6_trialNumber_20 : decode cX6_trialNumber 20 = .ok (.iload_n 2, 1) := by decide +kernel
theorem dX6_trialNumber_21 : decode cX6_trialNumber 21 = .ok (.iadd, 1) := by decide +kernel
theorem dX6_trialNumber_22 : decode cX6_trialNumber 22 = .ok (.iaload, 1) := by decide +kernel
theorem dX6_trialNumber_23 : decode cX6_trialNumber 23 = .ok (.imul, 1) := by decide +kernel
theorem dX6_trialNumber_24 : decode cX6_trialNumber 24 = .ok (.iadd, 1) := by decide +kernel
theorem dX6_trialNumber_25 : decode cX6_trialNumber 25 = .ok (.ireturn, 1) := by decide +kernel
theorem dX6_rankOf_0 : decode cX6_rankOf 0 = .ok (.aload_n 0, 1) := by decide +kernel
theorem dX6_rankOf_1 : decode cX6_rankOf 1 = .ok (.getfield 43, 3) := by decide +kernel
theorem dX6_rankOf_4 : decode cX6_rankOf 4 = .ok (.lookupswitch 58 #[(1, 28), (2, 45)], 28) := by decide +kernel
theorem dX6_rankOf_32 : decode cX6_rankOf 32 = .ok (.iload_n 1, 1) := by decide +kernel
theorem dX6_rankOf_33 : decode cX6_rankOf 33 = .ok (.aload_n 0, 1) := by decide +kernel
theorem dX6_rankOf_34 : decode cX6_rankOf 34 = .ok (.getfield 35, 3) := by decide +kernel
theorem dX6_rankOf_37 : decode cX6_rankOf 37 = .ok (.getfield 98, 3) := by decide +kernel
theorem dX6_rankOf_40 : decode cX6_rankOf 40 = .ok (.if_icmp .ne 7, 3) := by decide +kernel
theorem dX6_rankOf_43 : decode cX6_rankOf 43 = .ok (.lconst 0, 1) := by decide +kernel
theorem dX6_rankOf_44 : decode cX6_rankOf 44 = .ok (.goto 4, 3) := by decide +kernel
theorem dX6_rankOf_47 : decode cX6_rankOf 47 = .ok (.lconst 1, 1) := by decide +kernel
theorem dX6_rankOf_48 : decode cX6_rankOf 48 = .ok (.lreturn, 1) := by decide +kernel
theorem dX6_rankOf_49 : decode cX6_rankOf 49 = .ok (.aload_n 0, 1) := by decide +kernel
theorem dX6_rankOf_50 : decode cX6_rankOf 50 = .ok (.getfield 12, 3) := by decide +kernel
theorem dX6_rankOf_53 : decode cX6_rankOf 53 = .ok (.iload_n 2, 1) := by decide +kernel
theorem dX6_rankOf_54 : decode cX6_rankOf 54 = .ok (.iload_n 3, 1) := by decide +kernel
theorem dX6_rankOf_55 : decode cX6_rankOf 55 = .ok (.iload 4, 2) := by decide +kernel
theorem dX6_rankOf_57 : decode cX6_rankOf 57 = .ok (.iconst 2, 1) := by decide +kernel
theorem dX6_rankOf_58 : decode cX6_rankOf 58 = .ok (.invokevirtual 91, 3) := by decide +kernel
theorem dX6_rankOf_61 : decode cX6_rankOf 61 = .ok (.lreturn, 1) := by decide +kernel
theorem dX6_rankOf_62 : decode cX6_rankOf 62 = .ok (.lconst 0, 1) := by decide +kernel
theorem dX6_rankOf_63 : decode cX6_rankOf 63 = .ok (.lreturn, 1) := by decide +kernel
theorem dX6_pollOnce_0 : decode cX6_pollOnce 0 = .ok (.aload_n 1, 1) := by decide +kernel
theorem dX6_pollOnce_1 : decode cX6_pollOnce 1 = .ok (.aload_n 0, 1) := by decide +kernel
theorem dX6_pollOnce_2 : decode cX6_pollOnce 2 = .ok (.aload_n 0, 1) := by decide +kernel
theorem dX6_pollOnce_3 : decode cX6_pollOnce 3 = .ok (.getfield 35, 3) := by decide +kernel
theorem dX6_pollOnce_6 : decode cX6_pollOnce 6 = .ok (.getfield 101, 3) := by decide +kernel
theorem dX6_pollOnce_9 : decode cX6_pollOnce 9 = .ok (.invokevirtual 104, 3) := by decide +kernel
theorem dX6_pollOnce_12 : decode cX6_pollOnce 12 = .ok (.aload_n 1, 1) := by decide +kernel
theorem dX6_pollOnce_13 : decode cX6_pollOnce 13 = .ok (.aload_n 0, 1) := by decide +kernel
theorem dX6_pollOnce_14 : decode cX6_pollOnce 14 = .ok (.getfield 46, 3) := by decide +kernel
theorem dX6_pollOnce_17 : decode cX6_pollOnce 17 = .ok (.invokevirtual 110, 3) := by decide +kernel
theorem dX6_pollOnce_20 : decode cX6_pollOnce 20 = .ok (.istore_n 2, 1) := by decide +kernel
theorem dX6_pollOnce_21 : decode cX6_pollOnce 21 = .ok (.aload_n 0, 1) := by decide +kernel
theorem dX6_pollOnce_22 : decode cX6_pollOnce 22 = .ok (.getfield 35, 3) := by decide +kernel
theorem dX6_pollOnce_25 : decode cX6_pollOnce 25 = .ok (.dup, 1) := by decide +kernel
theorem dX6_pollOnce_26 : decode cX6_pollOnce 26 = .ok (.getfield 114, 3) := by decide +kernel
theorem dX6_pollOnce_29 : decode cX6_pollOnce 29 = .ok (.iconst 1, 1) := by decide +kernel
theorem dX6_pollOnce_30 : decode cX6_pollOnce 30 = .ok (.iadd, 1) := by decide +kernel
theorem dX6_pollOnce_31 : decode cX6_pollOnce 31 = .ok (.putfield 114, 3) := by decide +kernel
theorem dX6_pollOnce_34 : decode cX6_pollOnce 34 = .ok (.aload_n 0, 1) := by decide +kernel
theorem dX6_pollOnce_35 : decode cX6_pollOnce 35 = .ok (.getfield 35, 3) := by decide +kernel
theorem dX6_pollOnce_38 : decode cX6_pollOnce 38 = .ok (.dup, 1) := by decide +kernel
theorem dX6_pollOnce_39 : decode cX6_pollOnce 39 = .ok (.getfield 117, 3) := by decide +kernel
theorem dX6_pollOnce_42 : decode cX6_pollOnce 42 = .ok (.aload_n 1, 1) := by decide +kernel
theorem dX6_pollOnce_43 : decode cX6_pollOnce 43 = .ok (.getfield 120, 3) := by decide +kernel
theorem dX6_pollOnce_46 : decode cX6_pollOnce 46 = .ok (.iadd, 1) := by decide +kernel
theorem dX6_pollOnce_47 : decode cX6_pollOnce 47 = .ok (.putfield 117, 3) := by decide +kernel
theorem dX6_pollOnce_50 : decode cX6_pollOnce 50 = .ok (.iload_n 2, 1) := by decide +kernel
theorem dX6_pollOnce_51 : decode cX6_pollOnce 51 = .ok (.iconst (-1), 1) := by decide +kernel
theorem dX6_pollOnce_52 : decode cX6_pollOnce 52 = .ok (.if_icmp .ne 12, 3) := by decide +kernel
theorem dX6_pollOnce_55 : decode cX6_pollOnce 55 = .ok (.aload_n 0, 1) := by decide +kernel
theorem dX6_pollOnce_56 : decode cX6_pollOnce 56 = .ok (.getfield 35, 3) := by decide +kernel
theorem dX6_pollOnce_59 : decode cX6_pollOnce 59 = .ok (.invokevirtual 121, 3) := by decide +kernel
theorem dX6_pollOnce_62 : decode cX6_pollOnce 62 = .ok (.iconst (-1), 1) := by decide +kernel
theorem dX6_pollOnce_63 : decode cX6_pollOnce 63 = .ok (.ireturn, 1) := by decide +kernel
theorem dX6_pollOnce_64 : decode cX6_pollOnce 64 = .ok (.aload_n 0, 1) := by decide +kernel
theorem dX6_pollOnce_65 : decode cX6_pollOnce 65 = .ok (.getfield 35, 3) := by decide +kernel
theorem dX6_pollOnce_68 : decode cX6_pollOnce 68 = .ok (.getfield 101, 3) := by decide +kernel
theorem dX6_pollOnce_71 : decode cX6_pollOnce 71 = .ok (.istore_n 3, 1) := by decide +kernel
theorem dX6_pollOnce_72 : decode cX6_pollOnce 72 = .ok (.aload_n 0, 1) := by decide +kernel
theorem dX6_pollOnce_73 : decode cX6_pollOnce 73 = .ok (.getfield 28, 3) := by decide +kernel
theorem dX6_pollOnce_76 : decode cX6_pollOnce 76 = .ok (.getfield 124, 3) := by decide +kernel
theorem dX6_pollOnce_79 : decode cX6_pollOnce 79 = .ok (.iload_n 2, 1) := by decide +kernel
theorem dX6_pollOnce_80 : decode cX6_pollOnce 80 = .ok (.dup2, 1) := by decide +kernel
theorem dX6_pollOnce_81 : decode cX6_pollOnce 81 = .ok (.iaload, 1) := by decide +kernel
theorem dX6_pollOnce_82 : decode cX6_pollOnce 82 = .ok (.iconst 1, 1) := by decide +kernel
theorem dX6_pollOnce_83 : decode cX6_pollOnce 83 = .ok (.iadd, 1) := by decide +kernel
theorem dX6_pollOnce_84 : decode cX6_pollOnce 84 = .ok (.iastore, 1) := by decide +kernel
theorem dX6_pollOnce_85 : decode cX6_pollOnce 85 = .ok (.aload_n 0, 1) := by decide +kernel
theorem dX6_pollOnce_86 : decode cX6_pollOnce 86 = .ok (.getfield 35, 3) := by decide +kernel
theorem dX6_pollOnce_89 : decode cX6_pollOnce 89 = .ok (.iload_n 2, 1) := by decide +kernel
theorem dX6_pollOnce_90 : decode cX6_pollOnce 90 = .ok (.aload_n 0, 1) := by decide +kernel
theorem dX6_pollOnce_91 : decode cX6_pollOnce 91 = .ok (.iload_n 2, 1) := by decide +kernel
theorem dX6_pollOnce_92 : decode cX6_pollOnce 92 = .ok (.iconst 0, 1) := by decide +kernel
theorem dX6_pollOnce_93 : decode cX6_pollOnce 93 = .ok (.iload_n 3, 1) := by decide +kernel
theorem dX6_pollOnce_94 : decode cX6_pollOnce 94 = .ok (.invokevirtual 127, 3) := by decide +kernel
theorem dX6_pollOnce_97 : decode cX6_pollOnce 97 = .ok (.aload_n 0, 1) := by decide +kernel
theorem dX6_pollOnce_98 : decode cX6_pollOnce 98 = .ok (.iload_n 2, 1) := by decide +kernel
theorem dX6_pollOnce_99 : decode cX6_pollOnce 99 = .ok (.iconst 1, 1) := by decide +kernel
theorem dX6_pollOnce_100 : decode cX6_pollOnce 100 = .ok (.iload_n 3, 1) := by decide +kernel
theorem dX6_pollOnce_101 : decode cX6_pollOnce 101 = .ok (.invokevirtual 127, 3) := by decide +kernel
theorem dX6_pollOnce_104 : decode cX6_pollOnce 104 = .ok (.aload_n 0, 1) := by decide +kernel
theorem dX6_pollOnce_105 : decode cX6_pollOnce 105 = .ok (.iload_n 2, 1) := by decide +kernel
theorem dX6_pollOnce_106 : decode cX6_pollOnce 106 = .ok (.iconst 2, 1) := by decide +kernel
theorem dX6_pollOnce_107 : decode cX6_pollOnce 107 = .ok (.iload_n 3, 1) := by decide +kernel
theorem dX6_pollOnce_108 : decode cX6_pollOnce 108 = .ok (.invokevirtual 127, 3) := by decide +kernel
theorem dX6_pollOnce_111 : decode cX6_pollOnce 111 = .ok (.invokevirtual 131, 3) := by decide +kernel
theorem dX6_pollOnce_114 : decode cX6_pollOnce 114 = .ok (.iload_n 2, 1) := by decide +kernel
theorem dX6_pollOnce_115 : decode cX6_pollOnce 115 = .ok (.ireturn, 1) := by decide +kernel
theorem dX7_init_0 : decode cX7_init 0 = .ok (.aload_n 0, 1) := by decide +kernel
theorem dX7_init_1 : decode cX7_init 1 = .ok (.invokespecial 3, 3) := by decide +kernel
theorem dX7_init_4 : decode cX7_init 4 = .ok (.aload_n 0, 1) := by decide +kernel
theorem dX7_init_5 : decode cX7_init 5 = .ok (.bipush 10, 2) := by decide +kernel
theorem dX7_init_7 : decode cX7_init 7 = .ok (.newarray .int, 2) := by decide +kernel
theorem dX7_init_9 : decode cX7_init 9 = .ok (.putfield 9, 3) := by decide +kernel
theorem dX7_init_12 : decode cX7_init 12 = .ok (.aload_n 0, 1) := by decide +kernel
theorem dX7_init_13 : decode cX7_init 13 = .ok (.bipush 30, 2) := by decide +kernel
theorem dX7_init_15 : decode cX7_init 15 = .ok (.newarray .int, 2) := by decide +kernel
theorem dX7_init_17 : decode cX7_init 17 = .ok (.putfield 15, 3) := by decide +kernel
theorem dX7_init_20 : decode cX7_init 20 = .ok (.return_, 1) := by decide +kernel
theorem dX7_copyFrom_0 : decode cX7_copyFrom 0 = .ok (.aload_n 0, 1) := by decide +kernel
theorem dX7_copyFrom_1 : decode cX7_copyFrom 1 = .ok (.aload_n 1, 1) := by decide +kernel
theorem dX7_copyFrom_2 : decode cX7_copyFrom 2 = .ok (.getfield 18, 3) := by decide +kernel
theorem dX7_copyFrom_5 : decode cX7_copyFrom 5 = .ok (.putfield 18, 3) := by decide +kernel
theorem dX7_copyFrom_8 : decode cX7_copyFrom 8 = .ok (.aload_n 1, 1) := by decide +kernel
theorem dX7_copyFrom_9 : decode cX7_copyFrom 9 = .ok (.getfield 9, 3) := by decide +kernel
theorem dX7_copyFrom_12 : decode cX7_copyFrom 12 = .ok (.iconst 0, 1) := by decide +kernel
theorem dX7_copyFrom_13 : decode cX7_copyFrom 13 = .ok (.aload_n 0, 1) := by decide +kernel
theorem dX7_copyFrom_14 : decode cX7_copyFrom 14 = .ok (.getfield 9, 3) := by decide +kernel
theorem dX7_copyFrom_17 : decode cX7_copyFrom 17 = .ok (.iconst 0, 1) := by decide +kernel
theorem dX7_copyFrom_18 : decode cX7_copyFrom 18 = .ok (.bipush 10, 2) := by decide +kernel
theorem dX7_copyFrom_20 : decode cX7_copyFrom 20 = .ok (.invokestatic 22, 3) := by decide +kernel
theorem dX7_copyFrom_23 : decode cX7_copyFrom 23 = .ok (.aload_n 1, 1) := by decide +kernel
theorem dX7_copyFrom_24 : decode cX7_copyFrom 24 = .ok (.getfield 15, 3) := by decide +kernel
theorem dX7_copyFrom_27 : decode cX7_copyFrom 27 = .ok (.iconst 0, 1) := by decide +kernel
theorem dX7_copyFrom_28 : decode cX7_copyFrom 28 = .ok (.aload_n 0, 1) := by decide +kernel
theorem dX7_copyFrom_29 : decode cX7_copyFrom 29 = .ok (.getfield 15, 3) := by decide +kernel
theorem dX7_copyFrom_32 : decode cX7_copyFrom 32 = .ok (.iconst 0, 1) := by decide +kernel
theorem dX7_copyFrom_33 : decode cX7_copyFrom 33 = .ok (.bipush 30, 2) := by decide +kernel
theorem dX7_copyFrom_35 : decode cX7_copyFrom 35 = .ok (.invokestatic 22, 3) := by decide +kernel
theorem dX7_copyFrom_38 : decode cX7_copyFrom 38 = .ok (.return_, 1) := by decide +kernel
theorem dX7_add_0 : decode cX7_add 0 = .ok (.aload_n 0, 1) := by decide +kernel
theorem dX7_add_1 : decode cX7_add 1 = .ok (.getfield 18, 3) := by decide +kernel
theorem dX7_add_4 : decode cX7_add 4 = .ok (.bipush 10, 2) := by decide +kernel
theorem dX7_add_6 : decode cX7_add 6 = .ok (.if_icmp .lt 4, 3) := by decide +kernel
theorem dX7_add_9 : decode cX7_add 9 = .ok (.return_, 1) := by decide +kernel
theorem dX7_add_10 : decode cX7_add 10 = .ok (.aload_n 0, 1) := by decide +kernel
theorem dX7_add_11 : decode cX7_add 11 = .ok (.getfield 9, 3) := by decide +kernel
theorem dX7_add_14 : decode cX7_add 14 = .ok (.aload_n 0, 1) := by decide +kernel
theorem dX7_add_15 : decode cX7_add 15 = .ok (.getfield 18, 3) := by decide +kernel
theorem dX7_add_18 : decode cX7_add 18 = .ok (.iload_n 1, 1) := by decide +kernel
theorem dX7_add_19 : decode cX7_add 19 = .ok (.iastore, 1) := by decide +kernel
theorem dX7_add_20 : decode cX7_add 20 = .ok (.aload_n 0, 1) := by decide +kernel
theorem dX7_add_21 : decode cX7_add 21 = .ok (.getfield 15, 3) := by decide +kernel
theorem dX7_add_24 : decode cX7_add 24 = .ok (.iconst 3, 1) := by decide +kernel
theorem dX7_add_25 : decode cX7_add 25 = .ok (.aload_n 0, 1) := by decide +kernel
theorem dX7_add_26 : decode cX7_add 26 = .ok (.getfield 18, 3) := by decide +kernel
theorem dX7_add_29 : decode cX7_add 29 = .ok (.imul, 1) := by decide +kernel
theorem dX7_add_30 : decode cX7_add 30 = .ok (.iload_n 2, 1) := by decide +kernel
theorem dX7_add_31 : decode cX7_add 31 = .ok (.iastore, 1) := by decide +kernel
theorem dX7_add_32 : decode cX7_add 32 = .ok (.aload_n 0, 1) := by decide +kernel
theorem dX7_add_33 : decode cX7_add 33 = .ok (.getfield 15, 3) := by decide +kernel
theorem dX7_add_36 : decode cX7_add 36 = .ok (.iconst 3, 1) := by decide +kernel
theorem dX7_add_37 : decode cX7_add 37 = .ok (.aload_n 0, 1) := by decide +kernel
theorem dX7_add_38 : decode cX7_add 38 = .ok (.getfield 18, 3) := by decide +kernel
theorem dX7_add_41 : decode cX7_add 41 = .ok (.imul, 1) := by decide +kernel
theorem dX7_add_42 : decode cX7_add 42 = .ok (.iconst 1, 1) := by decide +kernel
theorem dX7_add_43 : decode cX7_add 43 = .ok (.iadd, 1) := by decide +kernel
theorem dX7_add_44 : decode cX7_add 44 = .ok (.iload_n 3, 1) := by decide +kernel
theorem dX7_add_45 : decode cX7_add 45 = .ok (.iastore, 1) := by decide +kernel
theorem dX7_add_46 : decode cX7_add 46 = .ok (.aload_n 0, 1) := by decide +kernel
theorem dX7_add_47 : decode cX7_add 47 = .ok (.getfield 15, 3) := by decide +kernel
theorem dX7_add_50 : decode cX7_add 50 = .ok (.iconst 3, 1) := by decide +kernel
theorem dX7_add_51 : decode cX7_add 51 = .ok (.aload_n 0, 1) := by decide +kernel
theorem dX7_add_52 : decode cX7_add 52 = .ok (.getfield 18, 3) := by decide +kernel
theorem dX7_add_55 : decode cX7_add 55 = .ok (.imul, 1) := by decide +kernel
theorem dX7_add_56 : decode cX7_add 56 = .ok (.iconst 2, 1) := by decide +kernel
theorem dX7_add_57 : decode cX7_add 57 = .ok (.iadd, 1) := by decide +kernel
theorem dX7_add_58 : decode cX7_add 58 = .ok (.iload 4, 2) := by decide +kernel
theorem dX7_add_60 : decode cX7_add 60 = .ok (.iastore, 1) := by decide +kernel
theorem dX7_add_61 : decode cX7_add 61 = .ok (.aload_n 0, 1) := by decide +kernel
theorem dX7_add_62 : decode cX7_add 62 = .ok (.dup, 1) := by decide +kernel
theorem dX7_add_63 : decode cX7_add 63 = .ok (.getfield 18, 3) := by decide +kernel
theorem dX7_add_66 : decode cX7_add 66 = .ok (.iconst 1, 1) := by decide +kernel
theorem dX7_add_67 : decode cX7_add 67 = .ok (.iadd, 1) := by decide +kernel
theorem dX7_add_68 : decode cX7_add 68 = .ok (.putfield 18, 3) := by decide +kernel
theorem dX7_add_71 : decode cX7_add 71 = .ok (.return_, 1) := by decide +kernel
theorem dX7_sumAt_0 : decode cX7_sumAt 0 = .ok (.lconst 0, 1) := by decide +kernel
theorem dX7_sumAt_1 : decode cX7_sumAt 1 = .ok (.lstore 5, 2) := by decide +kernel
theorem dX7_sumAt_3 : decode cX7_sumAt 3 = .ok (.iconst 0, 1) := by decide +kernel
theorem dX7_sumAt_4 : decode cX7_sumAt 4 = .ok (.istore 7, 2) := by decide +kernel
theorem dX7_sumAt_6 : decode cX7_sumAt 6 = .ok (.iload 7, 2) := by decide +kernel
theorem dX7_sumAt_8 : decode cX7_sumAt 8 = .ok (.aload_n 0, 1) := by decide +kernel
theorem dX7_sumAt_9 : decode cX7_sumAt 9 = .ok (.getfield 18, 3) := by decide +kernel
theorem dX7_sumAt_12 : decode cX7_sumAt 12 = .ok (.if_icmp .ge 104, 3) := by decide +kernel
theorem dX7_sumAt_15 : decode cX7_sumAt 15 = .ok (.iconst 3, 1) := by decide +kernel
theorem dX7_sumAt_16 : decode cX7_sumAt 16 = .ok (.iload 7, 2) := by decide +kernel
theorem dX7_sumAt_18 : decode cX7_sumAt 18 = .ok (.imul, 1) := by decide +kernel
theorem dX7_sumAt_19 : decode cX7_sumAt 19 = .ok (.istore 8, 2) := by decide +kernel
theorem dX7_sumAt_21 : decode cX7_sumAt 21 = .ok (.aload_n 0, 1) := by decide +kernel
theorem dX7_sumAt_22 : decode cX7_sumAt 22 = .ok (.getfield 15, 3) := by decide +kernel
theorem dX7_sumAt_25 : decode cX7_sumAt 25 = .ok (.iload 8, 2) := by decide +kernel
theorem dX7_sumAt_27 : decode cX7_sumAt 27 = .ok (.iaload, 1) := by decide +kernel
theorem dX7_sumAt_28 : decode cX7_sumAt 28 = .ok (.aload_n 0, 1) := by decide +kernel
theorem dX7_sumAt_29 : decode cX7_sumAt 29 = .ok (.getfield 15, 3) := by decide +kernel
theorem dX7_sumAt_32 : decode cX7_sumAt 32 = .ok (.iload 8, 2) := by decide +kernel
theorem dX7_sumAt_34 : decode cX7_sumAt 34 = .ok (.iconst 1, 1) := by decide +kernel
theorem dX7_sumAt_35 : decode cX7_sumAt 35 = .ok (.iadd, 1) := by decide +kernel
theorem dX7_sumAt_36 : decode cX7_sumAt 36 = .ok (.iaload, 1) := by decide +kernel
theorem dX7_sumAt_37 : decode cX7_sumAt 37 = .ok (.iadd, 1) := by decide +kernel
theorem dX7_sumAt_38 : decode cX7_sumAt 38 = .ok (.aload_n 0, 1) := by decide +kernel
theorem dX7_sumAt_39 : decode cX7_sumAt 39 = .ok (.getfield 15, 3) := by decide +kernel
theorem dX7_sumAt_42 : decode cX7_sumAt 42 = .ok (.iload 8, 2) := by decide +kernel
theorem dX7_sumAt_44 : decode cX7_sumAt 44 = .ok (.iconst 2, 1) := by decide +kernel
theorem dX7_sumAt_45 : decode cX7_sumAt 45 = .ok (.iadd, 1) := by decide +kernel
theorem dX7_sumAt_46 : decode cX7_sumAt 46 = .ok (.iaload, 1) := by decide +kernel
theorem dX7_sumAt_47 : decode cX7_sumAt 47 = .ok (.iadd, 1) := by decide +kernel
theorem dX7_sumAt_48 : decode cX7_sumAt 48 = .ok (.istore 9, 2) := by decide +kernel
theorem dX7_sumAt_50 : decode cX7_sumAt 50 = .ok (.iload 9, 2) := by decide +kernel
theorem dX7_sumAt_52 : decode cX7_sumAt 52 = .ok (.iload 4, 2) := by decide +kernel
theorem dX7_sumAt_54 : decode cX7_sumAt 54 = .ok (.if_icmp .gt 56, 3) := by decide +kernel
theorem dX7_sumAt_57 : decode cX7_sumAt 57 = .ok (.lload 5, 2) := by decide +kernel
theorem dX7_sumAt_59 : decode cX7_sumAt 59 = .ok (.aload_n 0, 1) := by decide +kernel
theorem dX7_sumAt_60 : decode cX7_sumAt 60 = .ok (.getfield 9, 3) := by decide +kernel
theorem dX7_sumAt_63 : decode cX7_sumAt 63 = .ok (.iload 7, 2) := by decide +kernel
theorem dX7_sumAt_65 : decode cX7_sumAt 65 = .ok (.iaload, 1) := by decide +kernel
theorem dX7_sumAt_66 : decode cX7_sumAt 66 = .ok (.i2l, 1) := by decide +kernel
theorem dX7_sumAt_67 : decode cX7_sumAt 67 = .ok (.iload_n 1, 1) := by decide +kernel
theorem dX7_sumAt_68 : decode cX7_sumAt 68 = .ok (.aload_n 0, 1) := by decide +kernel
theorem dX7_sumAt_69 : decode cX7_sumAt 69 = .ok (.getfield 15, 3) := by decide +kernel
theorem dX7_sumAt_72 : decode cX7_sumAt 72 = .ok (.iload 8, 2) := by decide +kernel
theorem dX7_sumAt_74 : decode cX7_sumAt 74 = .ok (.iaload, 1) := by decide +kernel
theorem dX7_sumAt_75 : decode cX7_sumAt 75 = .ok (.invokestatic 32, 3) := by decide +kernel
theorem dX7_sumAt_78 : decode cX7_sumAt 78 = .ok (.lmul, 1) := by decide +kernel
theorem dX7_sumAt_79 : decode cX7_sumAt 79 = .ok (.iload_n 2, 1) := by decide +kernel
theorem dX7_sumAt_80 : decode cX7_sumAt 80 = .ok (.aload_n 0, 1) := by decide +kernel
theorem dX7_sumAt_81 : decode cX7_sumAt 81 = .ok (.getfield 15, 3) := by decide +kernel
theorem dX7_sumAt_84 : decode cX7_sumAt 84 = .ok (.iload 8, 2) := by decide +kernel
theorem dX7_sumAt_86 : decode cX7_sumAt 86 = .ok (.iconst 1, 1) := by decide +kernel
theorem dX7_sumAt_87 : decode cX7_sumAt 87 = .ok (.iadd, 1) := by decide +kernel
theorem dX7_sumAt_88 : decode cX7_sumAt 88 = .ok (.iaload, 1) := by decide +kernel
theorem dX7_sumAt_89 : decode cX7_sumAt 89 = .ok (.invokestatic 32, 3) := by decide +kernel
theorem dX7_sumAt_92 : decode cX7_sumAt 92 = .ok (.lmul, 1) := by decide +kernel
theorem dX7_sumAt_93 : decode cX7_sumAt 93 = .ok (.iload_n 3, 1) := by decide +kernel
theorem dX7_sumAt_94 : decode cX7_sumAt 94 = .ok (.aload_n 0, 1) := by decide +kernel
theorem dX7_sumAt_95 : decode cX7_sumAt 95 = .ok (.getfield 15, 3) := by decide +kernel
theorem dX7_sumAt_98 : decode cX7_sumAt 98 = .ok (.iload 8, 2) := by decide +kernel
theorem dX7_sumAt_100 : decode cX7_sumAt 100 = .ok (.iconst 2, 1) := by decide +kernel
theorem dX7_sumAt_101 : decode cX7_sumAt 101 = .ok (.iadd, 1) := by decide +kernel
theorem dX7_sumAt_102 : decode cX7_sumAt 102 = .ok (.iaload, 1) := by decide +kernel
theorem dX7_sumAt_103 : decode cX7_sumAt 103 = .ok (.invokestatic 32, 3) := by decide +kernel
theorem dX7_sumAt_106 : decode cX7_sumAt 106 = .ok (.lmul, 1) := by decide +kernel
theorem dX7_sumAt_107 : decode cX7_sumAt 107 = .ok (.ladd, 1) := by decide +kernel
theorem dX7_sumAt_108 : decode cX7_sumAt 108 = .ok (.lstore 5, 2) := by decide +kernel
theorem dX7_sumAt_110 : decode cX7_sumAt 110 = .ok (.iinc 7 1, 3) := by decide +kernel
theorem dX7_sumAt_113 : decode cX7_sumAt 113 = .ok (.goto (-107), 3) := by decide +kernel
theorem dX7_sumAt_116 : decode cX7_sumAt 116 = .ok (.lload 5, 2) := by decide +kernel
theorem dX7_sumAt_118 : decode cX7_sumAt 118 = .ok (.lreturn, 1) := by decide +kernel
theorem dX7_raised_0 : decode cX7_raised 0 = .ok (.lconst 1, 1) := by decide +kernel
theorem dX7_raised_1 : decode cX7_raised 1 = .ok (.lstore_n 2, 1) := by decide +kernel
theorem dX7_raised_2 : decode cX7_raised 2 = .ok (.iconst 0, 1) := by decide +kernel
theorem dX7_raised_3 : decode cX7_raised 3 = .ok (.istore 4, 2) := by decide +kernel
theorem dX7_raised_5 : decode cX7_raised 5 = .ok (.iload 4, 2) := by decide +kernel
theorem dX7_raised_7 : decode cX7_raised 7 = .ok (.iload_n 1, 1) := by decide +kernel
theorem dX7_raised_8 : decode cX7_raised 8 = .ok (.if_icmp .ge 14, 3) := by decide +kernel
theorem dX7_raised_11 : decode cX7_raised 11 = .ok (.lload_n 2, 1) := by decide +kernel
theorem dX7_raised_12 : decode cX7_raised 12 = .ok (.iload_n 0, 1) := by decide +kernel
theorem dX7_raised_13 : decode cX7_raised 13 = .ok (.i2l, 1) := by decide +kernel
theorem dX7_raised_14 : decode cX7_raised 14 = .ok (.lmul, 1) := by decide +kernel
theorem dX7_raised_15 : decode cX7_raised 15 = .ok (.lstore_n 2, 1) := by decide +kernel
theorem dX7_raised_16 : decode cX7_raised 16 = .ok (.iinc 4 1, 3) := by decide +kernel
theorem dX7_raised_19 : decode cX7_raised 19 = .ok (.goto (-14), 3) := by decide +kernel
theorem dX7_raised_22 : decode cX7_raised 22 = .ok (.lload_n 2, 1) := by decide +kernel
theorem dX7_raised_23 : decode cX7_raised 23 = .ok (.lreturn, 1) := by decide +kernel
theorem dX8_init_0 : decode cX8_init 0 = .ok (.aload_n 0, 1) := by decide +kernel
theorem dX8_init_1 : decode cX8_init 1 = .ok (.invokespecial 3, 3) := by decide +kernel
theorem dX8_init_4 : decode cX8_init 4 = .ok (.aload_n 0, 1) := by decide +kernel
theorem dX8_init_5 : decode cX8_init 5 = .ok (.bipush 60, 2) := by decide +kernel
theorem dX8_init_7 : decode cX8_init 7 = .ok (.newarray .int, 2) := by decide +kernel
theorem dX8_init_9 : decode cX8_init 9 = .ok (.putfield 9, 3) := by decide +kernel
theorem dX8_init_12 : decode cX8_init 12 = .ok (.aload_n 0, 1) := by decide +kernel
theorem dX8_init_13 : decode cX8_init 13 = .ok (.new 15, 3) := by decide +kernel
theorem dX8_init_16 : decode cX8_init 16 = .ok (.dup, 1) := by decide +kernel
theorem dX8_init_17 : decode cX8_init 17 = .ok (.invokespecial 17, 3) := by decide +kernel
theorem dX8_init_20 : decode cX8_init 20 = .ok (.putfield 18, 3) := by decide +kernel
theorem dX8_init_23 : decode cX8_init 23 = .ok (.aload_n 0, 1) := by decide +kernel
theorem dX8_init_24 : decode cX8_init 24 = .ok (.iconst 3, 1) := by decide +kernel
theorem dX8_init_25 : decode cX8_init 25 = .ok (.newarray .int, 2) := by decide +kernel
theorem dX8_init_27 : decode cX8_init 27 = .ok (.putfield 22, 3) := by decide +kernel
theorem dX8_init_30 : decode cX8_init 30 = .ok (.return_, 1) := by decide +kernel
theorem dX9_init_0 : decode cX9_init 0 = .ok (.aload_n 0, 1) := by decide +kernel
theorem dX9_init_1 : decode cX9_init 1 = .ok (.invokespecial 3, 3) := by decide +kernel
theorem dX9_init_4 : decode cX9_init 4 = .ok (.aload_n 0, 1) := by decide +kernel
theorem dX9_init_5 : decode cX9_init 5 = .ok (.bipush 8, 2) := by decide +kernel
theorem dX9_init_7 : decode cX9_init 7 = .ok (.newarray .int, 2) := by decide +kernel
theorem dX9_init_9 : decode cX9_init 9 = .ok (.putfield 9, 3) := by decide +kernel
theorem dX9_init_12 : decode cX9_init 12 = .ok (.aload_n 0, 1) := by decide +kernel
theorem dX9_init_13 : decode cX9_init 13 = .ok (.bipush 8, 2) := by decide +kernel
theorem dX9_init_15 : decode cX9_init 15 = .ok (.newarray .long, 2) := by decide +kernel
theorem dX9_init_17 : decode cX9_init 17 = .ok (.putfield 15, 3) := by decide +kernel
theorem dX9_init_20 : decode cX9_init 20 = .ok (.aload_n 0, 1) := by decide +kernel
theorem dX9_init_21 : decode cX9_init 21 = .ok (.bipush 8, 2) := by decide +kernel
theorem dX9_init_23 : decode cX9_init 23 = .ok (.newarray .long, 2) := by decide +kernel
theorem dX9_init_25 : decode cX9_init 25 = .ok (.putfield 19, 3) := by decide +kernel
theorem dX9_init_28 : decode cX9_init 28 = .ok (.return_, 1) := by decide +kernel
theorem dX9_gather_0 : decode cX9_gather 0 = .ok (.aload_n 0, 1) := by decide +kernel
theorem dX9_gather_1 : decode cX9_gather 1 = .ok (.iconst 0, 1) := by decide +kernel
theorem dX9_gather_2 : decode cX9_gather 2 = .ok (.putfield 22, 3) := by decide +kernel
theorem dX9_gather_5 : decode cX9_gather 5 = .ok (.aload_n 0, 1) := by decide +kernel
theorem dX9_gather_6 : decode cX9_gather 6 = .ok (.aload_n 1, 1) := by decide +kernel
theorem dX9_gather_7 : decode cX9_gather 7 = .ok (.invokevirtual 26, 3) := by decide +kernel
theorem dX9_gather_10 : decode cX9_gather 10 = .ok (.putfield 32, 3) := by decide +kernel
theorem dX9_gather_13 : decode cX9_gather 13 = .ok (.iconst 0, 1) := by decide +kernel
theorem dX9_gather_14 : decode cX9_gather 14 = .ok (.istore_n 3, 1) := by decide +kernel
theorem dX9_gather_15 : decode cX9_gather 15 = .ok (.iload_n 3, 1) := by decide +kernel
theorem dX9_gather_16 : decode cX9_gather 16 = .ok (.aload_n 1, 1) := by decide +kernel
theorem dX9_gather_17 : decode cX9_gather 17 = .ok (.getfield 35, 3) := by decide +kernel
theorem dX9_gather_20 : decode cX9_gather 20 = .ok (.getfield 38, 3) := by decide +kernel
theorem dX9_gather_23 : decode cX9_gather 23 = .ok (.if_icmp .ge 82, 3) := by decide +kernel
theorem dX9_gather_26 : decode cX9_gather 26 = .ok (.aload_n 1, 1) := by decide +kernel
theorem dX9_gather_27 : decode cX9_gather 27 = .ok (.iload_n 3, 1) := by decide +kernel
theorem dX9_gather_28 : decode cX9_gather 28 = .ok (.iconst 0, 1) := by decide +kernel
theorem dX9_gather_29 : decode cX9_gather 29 = .ok (.iload_n 2, 1) := by decide +kernel
theorem dX9_gather_30 : decode cX9_gather 30 = .ok (.invokevirtual 41, 3) := by decide +kernel
theorem dX9_gather_33 : decode cX9_gather 33 = .ok (.istore 4, 2) := by decide +kernel
theorem dX9_gather_35 : decode cX9_gather 35 = .ok (.aload_n 1, 1) := by decide +kernel
theorem dX9_gather_36 : decode cX9_gather 36 = .ok (.iload_n 3, 1) := by decide +kernel
theorem dX9_gather_37 : decode cX9_gather 37 = .ok (.iconst 1, 1) := by decide +kernel
theorem dX9_gather_38 : decode cX9_gather 38 = .ok (.iload_n 2, 1) := by decide +kernel
theorem dX9_gather_39 : decode cX9_gather 39 = .ok (.invokevirtual 41, 3) := by decide +kernel
theorem dX9_gather_42 : decode cX9_gather 42 = .ok (.istore 5, 2) := by decide +kernel
theorem dX9_gather_44 : decode cX9_gather 44 = .ok (.aload_n 1, 1) := by decide +kernel
theorem dX9_gather_45 : decode cX9_gather 45 = .ok (.iload_n 3, 1) := by decide +kernel
theorem dX9_gather_46 : decode cX9_gather 46 = .ok (.iconst 2, 1) := by decide +kernel
theorem dX9_gather_47 : decode cX9_gather 47 = .ok (.iload_n 2, 1) := by decide +kernel
theorem dX9_gather_48 : decode cX9_gather 48 = .ok (.invokevirtual 41, 3) := by decide +kernel
theorem dX9_gather_51 : decode cX9_gather 51 = .ok (.istore 6, 2) := by decide +kernel
theorem dX9_gather_53 : decode cX9_gather 53 = .ok (.aload_n 1, 1) := by decide +kernel
theorem dX9_gather_54 : decode cX9_gather 54 = .ok (.getfield 45, 3) := by decide +kernel
theorem dX9_gather_57 : decode cX9_gather 57 = .ok (.iload 4, 2) := by decide +kernel
theorem dX9_gather_59 : decode cX9_gather 59 = .ok (.iload 5, 2) := by decide +kernel
theorem dX9_gather_61 : decode cX9_gather 61 = .ok (.iload 6, 2) := by decide +kernel
theorem dX9_gather_63 : decode cX9_gather 63 = .ok (.invokevirtual 49, 3) := by decide +kernel
theorem dX9_gather_66 : decode cX9_gather 66 = .ok (.ifCond .eq 33, 3) := by decide +kernel
theorem dX9_gather_69 : decode cX9_gather 69 = .ok (.aload_n 0, 1) := by decide +kernel
theorem dX9_gather_70 : decode cX9_gather 70 = .ok (.iload_n 3, 1) := by decide +kernel
theorem dX9_gather_71 : decode cX9_gather 71 = .ok (.aload_n 1, 1) := by decide +kernel
theorem dX9_gather_72 : decode cX9_gather 72 = .ok (.iload_n 3, 1) := by decide +kernel
theorem dX9_gather_73 : decode cX9_gather 73 = .ok (.iload 4, 2) := by decide +kernel
theorem dX9_gather_75 : decode cX9_gather 75 = .ok (.iload 5, 2) := by decide +kernel
theorem dX9_gather_77 : decode cX9_gather 77 = .ok (.iload 6, 2) := by decide +kernel
theorem dX9_gather_79 : decode cX9_gather 79 = .ok (.invokevirtual 55, 3) := by decide +kernel
theorem dX9_gather_82 : decode cX9_gather 82 = .ok (.aload_n 1, 1) := by decide +kernel
theorem dX9_gather_83 : decode cX9_gather 83 = .ok (.getfield 59, 3) := by decide +kernel
theorem dX9_gather_86 : decode cX9_gather 86 = .ok (.iload 4, 2) := by decide +kernel
theorem dX9_gather_88 : decode cX9_gather 88 = .ok (.iload 5, 2) := by decide +kernel
theorem dX9_gather_90 : decode cX9_gather 90 = .ok (.iload 6, 2) := by decide +kernel
theorem dX9_gather_92 : decode cX9_gather 92 = .ok (.iconst 4, 1) := by decide +kernel
theorem dX9_gather_93 : decode cX9_gather 93 = .ok (.invokevirtual 63, 3) := by decide +kernel
theorem dX9_gather_96 : decode cX9_gather 96 = .ok (.invokevirtual 68, 3) := by decide +kernel
theorem dX9_gather_99 : decode cX9_gather 99 = .ok (.iinc 3 1, 3) := by decide +kernel
theorem dX9_gather_102 : decode cX9_gather 102 = .ok (.goto (-87), 3) := by decide +kernel
theorem dX9_gather_105 : decode cX9_gather 105 = .ok (.return_, 1) := by decide +kernel
theorem dX9_insert_0 : decode cX9_insert 0 = .ok (.aload_n 0, 1) := by decide +kernel
theorem dX9_insert_1 : decode cX9_insert 1 = .ok (.getfield 22, 3) := by decide +kernel
theorem dX9_insert_4 : decode cX9_insert 4 = .ok (.bipush 8, 2) := by decide +kernel
theorem dX9_insert_6 : decode cX9_insert 6 = .ok (.if_icmp .lt 4, 3) := by decide +kernel
theorem dX9_insert_9 : decode cX9_insert 9 = .ok (.return_, 1) := by decide +kernel
theorem dX9_insert_10 : decode cX9_insert 10 = .ok (.aload_n 0, 1) := by decide +kernel
theorem dX9_insert_11 : decode cX9_insert 11 = .ok (.getfield 22, 3) := by decide +kernel
theorem dX9_insert_14 : decode cX9_insert 14 = .ok (.istore 6, 2) := by decide +kernel
theorem dX9_insert_16 : decode cX9_insert 16 = .ok (.iload 6, 2) := by decide +kernel
theorem dX9_insert_18 : decode cX9_insert 18 = .ok (.ifCond .le 71, 3) := by decide +kernel
theorem dX9_insert_21 : decode cX9_insert 21 = .ok (.aload_n 0, 1) := by decide +kernel
theorem dX9_insert_22 : decode cX9_insert 22 = .ok (.getfield 15, 3) := by decide +kernel
theorem dX9_insert_25 : decode cX9_insert 25 = .ok (.iload 6, 2) := by decide +kernel
theorem dX9_insert_27 : decode cX9_insert 27 = .ok (.iconst 1, 1) := by decide +kernel
theorem dX9_insert_28 : decode cX9_insert 28 = .ok (.isub, 1) := by decide +kernel
theorem dX9_insert_29 : decode cX9_insert 29 = .ok (.laload, 1) := by decide +kernel
theorem dX9_insert_30 : decode cX9_insert 30 = .ok (.lload_n 2, 1) := by decide +kernel
theorem dX9_insert_31 : decode cX9_insert 31 = .ok (.lcmp, 1) := by decide +kernel
theorem dX9_insert_32 : decode cX9_insert 32 = .ok (.ifCond .le 57, 3) := by decide +kernel
theorem dX9_insert_35 : decode cX9_insert 35 = .ok (.aload_n 0, 1) := by decide +kernel
theorem dX9_insert_36 : decode cX9_insert 36 = .ok (.getfield 9, 3) := by decide +kernel
theorem dX9_insert_39 : decode cX9_insert 39 = .ok (.iload 6, 2) := by decide +kernel
theorem dX9_insert_41 : decode cX9_insert 41 = .ok (.aload_n 0, 1) := by decide +kernel
theorem dX9_insert_42 : decode cX9_insert 42 = .ok (.getfield 9, 3) := by decide +kernel
theorem dX9_insert_45 : decode cX9_insert 45 = .ok (.iload 6, 2) := by decide +kernel
theorem dX9_insert_47 : decode cX9_insert 47 = .ok (.iconst 1, 1) := by decide +kernel
theorem dX9_insert_48 : decode cX9_insert 48 = .ok (.isub, 1) := by decide +kernel
theorem dX9_insert_49 : decode cX9_insert 49 = .ok (.iaload, 1) := by decide +kernel
theorem dX9_insert_50 : decode cX9_insert 50 = .ok (.iastore, 1) := by decide +kernel
theorem dX9_insert_51 : decode cX9_insert 51 = .ok (.aload_n 0, 1) := by decide +kernel
theorem dX9_insert_52 : decode cX9_insert 52 = .ok (.getfield 15, 3) := by decide +kernel
theorem dX9_insert_55 : decode cX9_insert 55 = .ok (.iload 6, 2) := by decide +kernel
theorem dX9_insert_57 : decode cX9_insert 57 = .ok (.aload_n 0, 1) := by decide +kernel
theorem dX9_insert_58 : decode cX9_insert 58 = .ok (.getfield 15, 3) := by decide +kernel
theorem dX9_insert_61 : decode cX9_insert 61 = .ok (.iload 6, 2) := by decide +kernel
theorem dX9_insert_63 : decode cX9_insert 63 = .ok (.iconst 1, 1) := by decide +kernel
theorem dX9_insert_64 : decode cX9_insert 64 = .ok (.isub, 1) := by decide +kernel
theorem dX9_insert_65 : decode cX9_insert 65 = .ok (.laload, 1) := by decide +kernel
theorem dX9_insert_66 : decode cX9_insert 66 = .ok (.lastore, 1) := by decide +kernel
theorem dX9_insert_67 : decode cX9_insert 67 = .ok (.aload_n 0, 1) := by decide +kernel
theorem dX9_insert_68 : decode cX9_insert 68 = .ok (.getfield 19, 3) := by decide +kernel
theorem dX9_insert_71 : decode cX9_insert 71 = .ok (.iload 6, 2) := by decide +kernel
theorem dX9_insert_73 : decode cX9_insert 73 = .ok (.aload_n 0, 1) := by decide +kernel
theorem dX9_insert_74 : decode cX9_insert 74 = .ok (.getfield 19, 3) := by decide +kernel
theorem dX9_insert_77 : decode cX9_insert 77 = .ok (.iload 6, 2) := by decide +kernel
theorem dX9_insert_79 : decode cX9_insert 79 = .ok (.iconst 1, 1) := by decide +kernel
theorem dX9_insert_80 : decode cX9_insert 80 = .ok (.isub, 1) := by decide +kernel
theorem dX9_insert_81 : decode cX9_insert 81 = .ok (.laload, 1) := by decide +kernel
theorem dX9_insert_82 : decode cX9_insert 82 = .ok (.lastore, 1) := by decide +kernel
theorem dX9_insert_83 : decode cX9_insert 83 = .ok (.iinc 6 (-1), 3) := by decide +kernel
theorem dX9_insert_86 : decode cX9_insert 86 = .ok (.goto (-70), 3) := by decide +kernel
theorem dX9_insert_89 : decode cX9_insert 89 = .ok (.aload_n 0, 1) := by decide +kernel
theorem dX9_insert_90 : decode cX9_insert 90 = .ok (.getfield 9, 3) := by decide +kernel
theorem dX9_insert_93 : decode cX9_insert 93 = .ok (.iload 6, 2) := by decide +kernel
theorem dX9_insert_95 : decode cX9_insert 95 = .ok (.iload_n 1, 1) := by decide +kernel
theorem dX9_insert_96 : decode cX9_insert 96 = .ok (.iastore, 1) := by decide +kernel
theorem dX9_insert_97 : decode cX9_insert 97 = .ok (.aload_n 0, 1) := by decide +kernel
theorem dX9_insert_98 : decode cX9_insert 98 = .ok (.getfield 15, 3) := by decide +kernel
theorem dX9_insert_101 : decode cX9_insert 101 = .ok (.iload 6, 2) := by decide +kernel
theorem dX9_insert_103 : decode cX9_insert 103 = .ok (.lload_n 2, 1) := by decide +kernel
theorem dX9_insert_104 : decode cX9_insert 104 = .ok (.lastore, 1) := by decide +kernel
theorem dX9_insert_105 : decode cX9_insert 105 = .ok (.aload_n 0, 1) := by decide +kernel
theorem dX9_insert_106 : decode cX9_insert 106 = .ok (.getfield 19, 3) := by decide +kernel
theorem dX9_insert_109 : decode cX9_insert 109 = .ok (.iload 6, 2) := by decide +kernel
theorem dX9_insert_111 : decode cX9_insert 111 = .ok (.lload 4, 2) := by decide +kernel
theorem dX9_insert_113 : decode cX9_insert 113 = .ok (.lastore, 1) := by decide +kernel
theorem dX9_insert_114 : decode cX9_insert 114 = .ok (.aload_n 0, 1) := by decide +kernel
theorem dX9_insert_115 : decode cX9_insert 115 = .ok (.dup, 1) := by decide +kernel
theorem dX9_insert_116 : decode cX9_insert 116 = .ok (.getfield 22, 3) := by decide +kernel
theorem dX9_insert_119 : decode cX9_insert 119 = .ok (.iconst 1, 1) := by decide +kernel
theorem dX9_insert_120 : decode cX9_insert 120 = .ok (.iadd, 1) := by decide +kernel
theorem dX9_insert_121 : decode cX9_insert 121 = .ok (.putfield 22, 3) := by decide +kernel
theorem dX9_insert_124 : decode cX9_insert 124 = .ok (.return_, 1) := by decide +kernel
theorem dX9_isBetter_0 : decode cX9_isBetter 0 = .ok (.aload_n 0, 1) := by decide +kernel
theorem dX9_isBetter_1 : decode cX9_isBetter 1 = .ok (.getfield 19, 3) := by decide +kernel
theorem dX9_isBetter_4 : decode cX9_isBetter 4 = .ok (.iload_n 1, 1) := by decide +kernel
theorem dX9_isBetter_5 : decode cX9_isBetter 5 = .ok (.laload, 1) := by decide +kernel
theorem dX9_isBetter_6 : decode cX9_isBetter 6 = .ok (.aload_n 0, 1) := by decide +kernel
theorem dX9_isBetter_7 : decode cX9_isBetter 7 = .ok (.getfield 32, 3) := by decide +kernel
theorem dX9_isBetter_10 : decode cX9_isBetter 10 = .ok (.lcmp, 1) := by decide +kernel
theorem dX9_isBetter_11 : decode cX9_isBetter 11 = .ok (.ifCond .ge 7, 3) := by decide +kernel
theorem dX9_isBetter_14 : decode cX9_isBetter 14 = .ok (.iconst 1, 1) := by decide +kernel
theorem dX9_isBetter_15 : decode cX9_isBetter 15 = .ok (.goto 4, 3) := by decide +kernel
theorem dX9_isBetter_18 : decode cX9_isBetter 18 = .ok (.iconst 0, 1) := by decide +kernel
theorem dX9_isBetter_19 : decode cX9_isBetter 19 = .ok (.ireturn, 1) := by decide +kernel
theorem dX9_noneIsBetter_0 : decode cX9_noneIsBetter 0 = .ok (.iconst 0, 1) := by decide +kernel
theorem dX9_noneIsBetter_1 : decode cX9_noneIsBetter 1 = .ok (.istore_n 1, 1) := by decide +kernel
theorem dX9_noneIsBetter_2 : decode cX9_noneIsBetter 2 = .ok (.iload_n 1, 1) := by decide +kernel
theorem dX9_noneIsBetter_3 : decode cX9_noneIsBetter 3 = .ok (.aload_n 0, 1) := by decide +kernel
theorem dX9_noneIsBetter_4 : decode cX9_noneIsBetter 4 = .ok (.getfield 22, 3) := by decide +kernel
theorem dX9_noneIsBetter_7 : decode cX9_noneIsBetter 7 = .ok (.if_icmp .ge 19, 3) := by decide +kernel
theorem dX9_noneIsBetter_10 : decode cX9_noneIsBetter 10 = .ok (.aload_n 0, 1) := by decide +kernel
theorem dX9_noneIsBetter_11 : decode cX9_noneIsBetter 11 = .ok (.iload_n 1, 1) := by decide +kernel
theorem dX9_noneIsBetter_12 : decode cX9_noneIsBetter 12 = .ok (.invokevirtual 72, 3) := by decide +kernel
theorem dX9_noneIsBetter_15 : decode cX9_noneIsBetter 15 = .ok (.ifCond .eq 5, 3) := by decide +kernel
theorem dX9_noneIsBetter_18 : decode cX9_noneIsBetter 18 = .ok (.iconst 0, 1) := by decide +kernel
theorem dX9_noneIsBetter_19 : decode cX9_noneIsBetter 19 = .ok (.ireturn, 1) := by decide +kernel
theorem dX9_noneIsBetter_20 : decode cX9_noneIsBetter 20 = .ok (.iinc 1 1, 3) := by decide +kernel
theorem dX9_noneIsBetter_23 : decode cX9_noneIsBetter 23 = .ok (.goto (-21), 3) := by decide +kernel
theorem dX9_noneIsBetter_26 : decode cX9_noneIsBetter 26 = .ok (.iconst 1, 1) := by decide +kernel
theorem dX9_noneIsBetter_27 : decode cX9_noneIsBetter 27 = .ok (.ireturn, 1) := by decide +kernel
theorem dX9_chooseBetter_0 : decode cX9_chooseBetter 0 = .ok (.iconst (-1), 1) := by decide +kernel
theorem dX9_chooseBetter_1 : decode cX9_chooseBetter 1 = .ok (.istore_n 2, 1) := by decide +kernel
theorem dX9_chooseBetter_2 : decode cX9_chooseBetter 2 = .ok (.aload_n 0, 1) := by decide +kernel
theorem dX9_chooseBetter_3 : decode cX9_chooseBetter 3 = .ok (.getfield 32, 3) := by decide +kernel
theorem dX9_chooseBetter_6 : decode cX9_chooseBetter 6 = .ok (.lstore_n 3, 1) := by decide +kernel
theorem dX9_chooseBetter_7 : decode cX9_chooseBetter 7 = .ok (.aload_n 0, 1) := by decide +kernel
theorem dX9_chooseBetter_8 : decode cX9_chooseBetter 8 = .ok (.iconst 0, 1) := by decide +kernel
theorem dX9_chooseBetter_9 : decode cX9_chooseBetter 9 = .ok (.putfield 76, 3) := by decide +kernel
theorem dX9_chooseBetter_12 : decode cX9_chooseBetter 12 = .ok (.iconst 0, 1) := by decide +kernel
theorem dX9_chooseBetter_13 : decode cX9_chooseBetter 13 = .ok (.istore 5, 2) := by decide +kernel
theorem dX9_chooseBetter_15 : decode cX9_chooseBetter 15 = .ok (.iload 5, 2) := by decide +kernel
theorem dX9_chooseBetter_17 : decode cX9_chooseBetter 17 = .ok (.aload_n 0, 1) := by decide +kernel
theorem dX9_chooseBetter_18 : decode cX9_chooseBetter 18 = .ok (.getfield 22, 3) := by decide +kernel
theorem dX9_chooseBetter_21 : decode cX9_chooseBetter 21 = .ok (.if_icmp .ge 54, 3) := by decide +kernel
theorem dX9_chooseBetter_24 : decode cX9_chooseBetter 24 = .ok (.aload_n 0, 1) := by decide +kernel
theorem dX9_chooseBetter_25 : decode cX9_chooseBetter 25 = .ok (.dup, 1) := by decide +kernel
theorem dX9_chooseBetter_26 : decode cX9_chooseBetter 26 = .ok (.getfield 76, 3) := by decide +kernel
theorem dX9_chooseBetter_29 : decode cX9_chooseBetter 29 = .ok (.iconst 1, 1) := by decide +kernel
theorem dX9_chooseBetter_30 : decode cX9_chooseBetter 30 = .ok (.iadd, 1) := by decide +kernel
theorem dX9_chooseBetter_31 : decode cX9_chooseBetter 31 = .ok (.putfield 76, 3) := by decide +kernel
theorem dX9_chooseBetter_34 : decode cX9_chooseBetter 34 = .ok (.aload_n 0, 1) := by decide +kernel
theorem dX9_chooseBetter_35 : decode cX9_chooseBetter 35 = .ok (.getfield 19, 3) := by decide +kernel
theorem dX9_chooseBetter_38 : decode cX9_chooseBetter 38 = .ok (.iload 5, 2) := by decide +kernel
theorem dX9_chooseBetter_40 : decode cX9_chooseBetter 40 = .ok (.laload, 1) := by decide +kernel
theorem dX9_chooseBetter_41 : decode cX9_chooseBetter 41 = .ok (.lload_n 3, 1) := by decide +kernel
theorem dX9_chooseBetter_42 : decode cX9_chooseBetter 42 = .ok (.lcmp, 1) := by decide +kernel
theorem dX9_chooseBetter_43 : decode cX9_chooseBetter 43 = .ok (.ifCond .ge 26, 3) := by decide +kernel
theorem dX9_chooseBetter_46 : decode cX9_chooseBetter 46 = .ok (.aload_n 0, 1) := by decide +kernel
theorem dX9_chooseBetter_47 : decode cX9_chooseBetter 47 = .ok (.getfield 9, 3) := by decide +kernel
theorem dX9_chooseBetter_50 : decode cX9_chooseBetter 50 = .ok (.iload 5, 2) := by decide +kernel
theorem dX9_chooseBetter_52 : decode cX9_chooseBetter 52 = .ok (.iaload, 1) := by decide +kernel
theorem dX9_chooseBetter_53 : decode cX9_chooseBetter 53 = .ok (.istore_n 2, 1) := by decide +kernel
theorem dX9_chooseBetter_54 : decode cX9_chooseBetter 54 = .ok (.aload_n 0, 1) := by decide +kernel
theorem dX9_chooseBetter_55 : decode cX9_chooseBetter 55 = .ok (.getfield 19, 3) := by decide +kernel
theorem dX9_chooseBetter_58 : decode cX9_chooseBetter 58 = .ok (.iload 5, 2) := by decide +kernel
theorem dX9_chooseBetter_60 : decode cX9_chooseBetter 60 = .ok (.laload, 1) := by decide +kernel
theorem dX9_chooseBetter_61 : decode cX9_chooseBetter 61 = .ok (.lstore_n 3, 1) := by decide +kernel
theorem dX9_chooseBetter_62 : decode cX9_chooseBetter 62 = .ok (.iload_n 1, 1) := by decide +kernel
theorem dX9_chooseBetter_63 : decode cX9_chooseBetter 63 = .ok (.ifCond .ne 6, 3) := by decide +kernel
theorem dX9_chooseBetter_66 : decode cX9_chooseBetter 66 = .ok (.goto 9, 3) := by decide +kernel
theorem dX9_chooseBetter_69 : decode cX9_chooseBetter 69 = .ok (.iinc 5 1, 3) := by decide +kernel
theorem dX9_chooseBetter_72 : decode cX9_chooseBetter 72 = .ok (.goto (-57), 3) := by decide +kernel
theorem dX9_chooseBetter_75 : decode cX9_chooseBetter 75 = .ok (.iload_n 2, 1) := by decide +kernel
theorem dX9_chooseBetter_76 : decode cX9_chooseBetter 76 = .ok (.ireturn, 1) := by decide +kernel
theorem dX10_init_0 : decode cX10_init 0 = .ok (.aload_n 0, 1) := by decide +kernel
theorem dX10_init_1 : decode cX10_init 1 = .ok (.invokespecial 1, 3) := by decide +kernel
theorem dX10_init_4 : decode cX10_init 4 = .ok (.aload_n 0, 1) := by decide +kernel
theorem dX10_init_5 : decode cX10_init 5 = .ok (.new 7, 3) := by decide +kernel
theorem dX10_init_8 : decode cX10_init 8 = .ok (.dup, 1) := by decide +kernel
theorem dX10_init_9 : decode cX10_init 9 = .ok (.invokespecial 9, 3) := by decide +kernel
theorem dX10_init_12 : decode cX10_init 12 = .ok (.putfield 10, 3) := by decide +kernel
theorem dX10_init_15 : decode cX10_init 15 = .ok (.aload_n 0, 1) := by decide +kernel
theorem dX10_init_16 : decode cX10_init 16 = .ok (.getfield 10, 3) := by decide +kernel
theorem dX10_init_19 : decode cX10_init 19 = .ok (.iconst 2, 1) := by decide +kernel
theorem dX10_init_20 : decode cX10_init 20 = .ok (.invokevirtual 16, 3) := by decide +kernel
theorem dX10_init_23 : decode cX10_init 23 = .ok (.aload_n 0, 1) := by decide +kernel
theorem dX10_init_24 : decode cX10_init 24 = .ok (.new 20, 3) := by decide +kernel
theorem dX10_init_27 : decode cX10_init 27 = .ok (.dup, 1) := by decide +kernel
theorem dX10_init_28 : decode cX10_init 28 = .ok (.invokespecial 22, 3) := by decide +kernel
theorem dX10_init_31 : decode cX10_init 31 = .ok (.putfield 23, 3) := by decide +kernel
theorem dX10_init_34 : decode cX10_init 34 = .ok (.aload_n 0, 1) := by decide +kernel
theorem dX10_init_35 : decode cX10_init 35 = .ok (.new 7, 3) := by decide +kernel
theorem dX10_init_38 : decode cX10_init 38 = .ok (.dup, 1) := by decide +kernel
theorem dX10_init_39 : decode cX10_init 39 = .ok (.invokespecial 9, 3) := by decide +kernel
theorem dX10_init_42 : decode cX10_init 42 = .ok (.putfield 27, 3) := by decide +kernel
theorem dX10_init_45 : decode cX10_init 45 = .ok (.aload_n 0, 1) := by decide +kernel
theorem dX10_init_46 : decode cX10_init 46 = .ok (.iconst 0, 1) := by decide +kernel
theorem dX10_init_47 : decode cX10_init 47 = .ok (.putfield 30, 3) := by decide +kernel
theorem dX10_init_50 : decode cX10_init 50 = .ok (.aload_n 0, 1) := by decide +kernel
theorem dX10_init_51 : decode cX10_init 51 = .ok (.new 34, 3) := by decide +kernel
theorem dX10_init_54 : decode cX10_init 54 = .ok (.dup, 1) := by decide +kernel
theorem dX10_init_55 : decode cX10_init 55 = .ok (.invokespecial 36, 3) := by decide +kernel
theorem dX10_init_58 : decode cX10_init 58 = .ok (.putfield 37, 3) := by decide +kernel
theorem dX10_init_61 : decode cX10_init 61 = .ok (.aload_n 0, 1) := by decide +kernel
theorem dX10_init_62 : decode cX10_init 62 = .ok (.new 41, 3) := by decide +kernel
theorem dX10_init_65 : decode cX10_init 65 = .ok (.dup, 1) := by decide +kernel
theorem dX10_init_66 : decode cX10_init 66 = .ok (.invokespecial 43, 3) := by decide +kernel
theorem dX10_init_69 : decode cX10_init 69 = .ok (.putfield 44, 3) := by decide +kernel
theorem dX10_init_72 : decode cX10_init 72 = .ok (.aload_n 0, 1) := by decide +kernel
theorem dX10_init_73 : decode cX10_init 73 = .ok (.new 48, 3) := by decide +kernel
theorem dX10_init_76 : decode cX10_init 76 = .ok (.dup, 1) := by decide +kernel
theorem dX10_init_77 : decode cX10_init 77 = .ok (.invokespecial 50, 3) := by decide +kernel
theorem dX10_init_80 : decode cX10_init 80 = .ok (.putfield 51, 3) := by decide +kernel
theorem dX10_init_83 : decode cX10_init 83 = .ok (.aload_n 0, 1) := by decide +kernel
theorem dX10_init_84 : decode cX10_init 84 = .ok (.new 55, 3) := by decide +kernel
theorem dX10_init_87 : decode cX10_init 87 = .ok (.dup, 1) := by decide +kernel
theorem dX10_init_88 : decode cX10_init 88 = .ok (.invokespecial 57, 3) := by decide +kernel
theorem dX10_init_91 : decode cX10_init 91 = .ok (.putfield 58, 3) := by decide +kernel
theorem dX10_init_94 : decode cX10_init 94 = .ok (.return_, 1) := by decide +kernel
theorem dX10_variables_0 : decode cX10_variables 0 = .ok (.iload_n 1, 1) := by decide +kernel
theorem dX10_variables_1 : decode cX10_variables 1 = .ok (.iconst 1, 1) := by decide +kernel
theorem dX10_variables_2 : decode cX10_variables 2 = .ok (.iconst 3, 1) := by decide +kernel
theorem dX10_variables_3 : decode cX10_variables 3 = .ok (.invokestatic 62, 3) := by decide +kernel
theorem dX10_variables_6 : decode cX10_variables 6 = .ok (.ifCond .ne 6, 3) := by decide +kernel
theorem dX10_variables_9 : decode cX10_variables 9 = .ok (.ldc 66, 2) := by decide +kernel
theorem dX10_variables_11 : decode cX10_variables 11 = .ok (.ireturn, 1) := by decide +kernel
theorem dX10_variables_12 : decode cX10_variables 12 = .ok (.aload_n 0, 1) := by decide +kernel
theorem dX10_variables_13 : decode cX10_variables 13 = .ok (.getfield 10, 3) := by decide +kernel
theorem dX10_variables_16 : decode cX10_variables 16 = .ok (.getfield 67, 3) := by decide +kernel
theorem dX10_variables_19 : decode cX10_variables 19 = .ok (.istore_n 2, 1) := by decide +kernel
theorem dX10_variables_20 : decode cX10_variables 20 = .ok (.aload_n 0, 1) := by decide +kernel
theorem dX10_variables_21 : decode cX10_variables 21 = .ok (.getfield 23, 3) := by decide +kernel
theorem dX10_variables_24 : decode cX10_variables 24 = .ok (.aload_n 0, 1) := by decide +kernel
theorem dX10_variables_25 : decode cX10_variables 25 = .ok (.getfield 10, 3) := by decide +kernel
theorem dX10_variables_28 : decode cX10_variables 28 = .ok (.invokevirtual 71, 3) := by decide +kernel
theorem dX10_variables_31 : decode cX10_variables 31 = .ok (.aload_n 0, 1) := by decide +kernel
theorem dX10_variables_32 : decode cX10_variables 32 = .ok (.getfield 10, 3) := by decide +kernel
theorem dX10_variables_35 : decode cX10_variables 35 = .ok (.iload_n 1, 1) := by decide +kernel
theorem dX10_variables_36 : decode cX10_variables 36 = .ok (.invokevirtual 16, 3) := by decide +kernel
theorem dX10_variables_39 : decode cX10_variables 39 = .ok (.iload_n 2, 1) := by decide +kernel
theorem dX10_variables_40 : decode cX10_variables 40 = .ok (.ireturn, 1) := by decide +kernel
theorem dX10_term_0 : decode cX10_term 0 = .ok (.iload_n 1, 1) := by decide +kernel
theorem dX10_term_1 : decode cX10_term 1 = .ok (.bipush (-99), 2) := by decide +kernel
theorem dX10_term_3 : decode cX10_term 3 = .ok (.bipush 99, 2) := by decide +kernel
theorem dX10_term_5 : decode cX10_term 5 = .ok (.invokestatic 62, 3) := by decide +kernel
theorem dX10_term_8 : decode cX10_term 8 = .ok (.ifCond .eq 7, 3) := by decide +kernel
theorem dX10_term_11 : decode cX10_term 11 = .ok (.iload_n 1, 1) := by decide +kernel
theorem dX10_term_12 : decode cX10_term 12 = .ok (.ifCond .ne 6, 3) := by decide +kernel
theorem dX10_term_15 : decode cX10_term 15 = .ok (.ldc 66, 2) := by decide +kernel
theorem dX10_term_17 : decode cX10_term 17 = .ok (.ireturn, 1) := by decide +kernel
theorem dX10_term_18 : decode cX10_term 18 = .ok (.aload_n 0, 1) := by decide +kernel
theorem dX10_term_19 : decode cX10_term 19 = .ok (.getfield 10, 3) := by decide +kernel
theorem dX10_term_22 : decode cX10_term 22 = .ok (.iload_n 2, 1) := by decide +kernel
theorem dX10_term_23 : decode cX10_term 23 = .ok (.iload_n 3, 1) := by decide +kernel
theorem dX10_term_24 : decode cX10_term 24 = .ok (.iload 4, 2) := by decide +kernel
theorem dX10_term_26 : decode cX10_term 26 = .ok (.iconst 0, 1) := by decide +kernel
theorem dX10_term_27 : decode cX10_term 27 = .ok (.iconst 4, 1) := by decide +kernel
theorem dX10_term_28 : decode cX10_term 28 = .ok (.invokevirtual 75, 3) := by decide +kernel
theorem dX10_term_31 : decode cX10_term 31 = .ok (.ifCond .eq 13, 3) := by decide +kernel
theorem dX10_term_34 : decode cX10_term 34 = .ok (.iload_n 2, 1) := by decide +kernel
theorem dX10_term_35 : decode cX10_term 35 = .ok (.iload_n 3, 1) := by decide +kernel
theorem dX10_term_36 : decode cX10_term 36 = .ok (.iadd, 1) := by decide +kernel
theorem dX10_term_37 : decode cX10_term 37 = .ok (.iload 4, 2) := by decide +kernel
theorem dX10_term_39 : decode cX10_term 39 = .ok (.iadd, 1) := by decide +kernel
theorem dX10_term_40 : decode cX10_term 40 = .ok (.iconst 4, 1) := by decide +kernel
theorem dX10_term_41 : decode cX10_term 41 = .ok (.if_icmp .le 6, 3) := by decide +kernel
theorem dX10_term_44 : decode cX10_term 44 = .ok (.ldc 66, 2) := by decide +kernel
theorem dX10_term_46 : decode cX10_term 46 = .ok (.ireturn, 1) := by decide +kernel
theorem dX10_term_47 : decode cX10_term 47 = .ok (.aload_n 0, 1) := by decide +kernel
theorem dX10_term_48 : decode cX10_term 48 = .ok (.getfield 10, 3) := by decide +kernel
theorem dX10_term_51 : decode cX10_term 51 = .ok (.getfield 79, 3) := by decide +kernel
theorem dX10_term_54 : decode cX10_term 54 = .ok (.getfield 83, 3) := by decide +kernel
theorem dX10_term_57 : decode cX10_term 57 = .ok (.bipush 10, 2) := by decide +kernel
theorem dX10_term_59 : decode cX10_term 59 = .ok (.if_icmp .lt 6, 3) := by decide +kernel
theorem dX10_term_62 : decode cX10_term 62 = .ok (.ldc 88, 2) := by decide +kernel
theorem dX10_term_64 : decode cX10_term 64 = .ok (.ireturn, 1) := by decide +kernel
theorem dX10_term_65 : decode cX10_term 65 = .ok (.aload_n 0, 1) := by decide +kernel
theorem dX10_term_66 : decode cX10_term 66 = .ok (.getfield 23, 3) := by decide +kernel
theorem dX10_term_69 : decode cX10_term 69 = .ok (.aload_n 0, 1) := by decide +kernel
theorem dX10_term_70 : decode cX10_term 70 = .ok (.getfield 10, 3) := by decide +kernel
theorem dX10_term_73 : decode cX10_term 73 = .ok (.invokevirtual 71, 3) := by decide +kernel
theorem dX10_term_76 : decode cX10_term 76 = .ok (.aload_n 0, 1) := by decide +kernel
theorem dX10_term_77 : decode cX10_term 77 = .ok (.getfield 10, 3) := by decide +kernel
theorem dX10_term_80 : decode cX10_term 80 = .ok (.getfield 79, 3) := by decide +kernel
theorem dX10_term_83 : decode cX10_term 83 = .ok (.iload_n 1, 1) := by decide +kernel
theorem dX10_term_84 : decode cX10_term 84 = .ok (.iload_n 2, 1) := by decide +kernel
theorem dX10_term_85 : decode cX10_term 85 = .ok (.iload_n 3, 1) := by decide +kernel
theorem dX10_term_86 : decode cX10_term 86 = .ok (.iload 4, 2) := by decide +kernel
theorem dX10_term_88 : decode cX10_term 88 = .ok (.invokevirtual 89, 3) := by decide +kernel
theorem dX10_term_91 : decode cX10_term 91 = .ok (.aload_n 0, 1) := by decide +kernel
theorem dX10_term_92 : decode cX10_term 92 = .ok (.getfield 10, 3) := by decide +kernel
theorem dX10_term_95 : decode cX10_term 95 = .ok (.getfield 79, 3) := by decide +kernel
theorem dX10_term_98 : decode cX10_term 98 = .ok (.getfield 83, 3) := by decide +kernel
theorem dX10_term_101 : decode cX10_term 101 = .ok (.ireturn, 1) := by decide +kernel
theorem dX10_bound_0 : decode cX10_bound 0 = .ok (.aload_n 0, 1) := by decide +kernel
theorem dX10_bound_1 : decode cX10_bound 1 = .ok (.getfield 10, 3) := by decide +kernel
theorem dX10_bound_4 : decode cX10_bound 4 = .ok (.iload_n 1, 1) := by decide +kernel
theorem dX10_bound_5 : decode cX10_bound 5 = .ok (.invokevirtual 101, 3) := by decide +kernel
theorem dX10_bound_8 : decode cX10_bound 8 = .ok (.ifCond .eq 24, 3) := by decide +kernel
theorem dX10_bound_11 : decode cX10_bound 11 = .ok (.iload_n 2, 1) := by decide +kernel
theorem dX10_bound_12 : decode cX10_bound 12 = .ok (.bipush (-50), 2) := by decide +kernel
theorem dX10_bound_14 : decode cX10_bound 14 = .ok (.bipush 50, 2) := by decide +kernel
theorem dX10_bound_16 : decode cX10_bound 16 = .ok (.invokestatic 62, 3) := by decide +kernel
theorem dX10_bound_19 : decode cX10_bound 19 = .ok (.ifCond .eq 13, 3) := by decide +kernel
theorem dX10_bound_22 : decode cX10_bound 22 = .ok (.iload_n 3, 1) := by decide +kernel
theorem dX10_bound_23 : decode cX10_bound 23 = .ok (.iload_n 2, 1) := by decide +kernel
theorem dX10_bound_24 : decode cX10_bound 24 = .ok (.bipush 50, 2) := by decide +kernel
theorem dX10_bound_26 : decode cX10_bound 26 = .ok (.invokestatic 62, 3) := by decide +kernel
theorem dX10_bound_29 : decode cX10_bound 29 = .ok (.ifCond .ne 6, 3) := by decide +kernel
theorem dX10_bound_32 : decode cX10_bound 32 = .ok (.ldc 66, 2) := by decide +kernel
theorem dX10_bound_34 : decode cX10_bound 34 = .ok (.ireturn, 1) := by decide +kernel
theorem dX10_bound_35 : decode cX10_bound 35 = .ok (.aload_n 0, 1) := by decide +kernel
theorem dX10_bound_36 : decode cX10_bound 36 = .ok (.getfield 23, 3) := by decide +kernel
theorem dX10_bound_39 : decode cX10_bound 39 = .ok (.aload_n 0, 1) := by decide +kernel
theorem dX10_bound_40 : decode cX10_bound 40 = .ok (.getfield 10, 3) := by decide +kernel
theorem dX10_bound_43 : decode cX10_bound 43 = .ok (.invokevirtual 71, 3) := by decide +kernel
theorem dX10_bound_46 : decode cX10_bound 46 = .ok (.aload_n 0, 1) := by decide +kernel
theorem dX10_bound_47 : decode cX10_bound 47 = .ok (.getfield 10, 3) := by decide +kernel
theorem dX10_bound_50 : decode cX10_bound 50 = .ok (.getfield 105, 3) := by decide +kernel
theorem dX10_bound_53 : decode cX10_bound 53 = .ok (.getfield 109, 3) := by decide +kernel
theorem dX10_bound_56 : decode cX10_bound 56 = .ok (.iload_n 1, 1) := by decide +kernel
theorem dX10_bound_57 : decode cX10_bound 57 = .ok (.iload_n 2, 1) := by decide +kernel
theorem dX10_bound_58 : decode cX10_bound 58 = .ok (.iastore, 1) := by decide +kernel
theorem dX10_bound_59 : decode cX10_bound 59 = .ok (.aload_n 0, 1) := by decide +kernel
theorem dX10_bound_60 : decode cX10_bound 60 = .ok (.getfield 10, 3) := by decide +kernel
theorem dX10_bound_63 : decode cX10_bound 63 = .ok (.getfield 105, 3) := by decide +kernel
theorem dX10_bound_66 : decode cX10_bound 66 = .ok (.getfield 114, 3) := by decide +kernel
theorem dX10_bound_69 : decode cX10_bound 69 = .ok (.iload_n 1, 1) := by decide +kernel
theorem dX10_bound_70 : decode cX10_bound 70 = .ok (.iload_n 3, 1) := by decide +kernel
theorem dX10_bound_71 : decode cX10_bound 71 = .ok (.iastore, 1) := by decide +kernel
theorem dX10_bound_72 : decode cX10_bound 72 = .ok (.aload_n 0, 1) := by decide +kernel
theorem dX10_bound_73 : decode cX10_bound 73 = .ok (.getfield 10, 3) := by decide +kernel
theorem dX10_bound_76 : decode cX10_bound 76 = .ok (.invokevirtual 117, 3) := by decide +kernel
theorem dX10_bound_79 : decode cX10_bound 79 = .ok (.invokestatic 121, 3) := by decide +kernel
theorem dX10_bound_82 : decode cX10_bound 82 = .ok (.ireturn, 1) := by decide +kernel
theorem dX10_direction_0 : decode cX10_direction 0 = .ok (.aload_n 0, 1) := by decide +kernel
theorem dX10_direction_1 : decode cX10_direction 1 = .ok (.getfield 10, 3) := by decide +kernel
theorem dX10_direction_4 : decode cX10_direction 4 = .ok (.iload_n 1, 1) := by decide +kernel
theorem dX10_direction_5 : decode cX10_direction 5 = .ok (.iload_n 2, 1) := by decide +kernel
theorem dX10_direction_6 : decode cX10_direction 6 = .ok (.iload_n 3, 1) := by decide +kernel
theorem dX10_direction_7 : decode cX10_direction 7 = .ok (.bipush (-3), 2) := by decide +kernel
theorem dX10_direction_9 : decode cX10_direction 9 = .ok (.iconst 3, 1) := by decide +kernel
theorem dX10_direction_10 : decode cX10_direction 10 = .ok (.invokevirtual 75, 3) := by decide +kernel
theorem dX10_direction_13 : decode cX10_direction 13 = .ok (.ifCond .eq 15, 3) := by decide +kernel
theorem dX10_direction_16 : decode cX10_direction 16 = .ok (.iload_n 1, 1) := by decide +kernel
theorem dX10_direction_17 : decode cX10_direction 17 = .ok (.ifCond .ne 14, 3) := by decide +kernel
theorem dX10_direction_20 : decode cX10_direction 20 = .ok (.iload_n 2, 1) := by decide +kernel
theorem dX10_direction_21 : decode cX10_direction 21 = .ok (.ifCond .ne 10, 3) := by decide +kernel
theorem dX10_direction_24 : decode cX10_direction 24 = .ok (.iload_n 3, 1) := by decide +kernel
theorem dX10_direction_25 : decode cX10_direction 25 = .ok (.ifCond .ne 6, 3) := by decide +kernel
theorem dX10_direction_28 : decode cX10_direction 28 = .ok (.ldc 66, 2) := by decide +kernel
theorem dX10_direction_30 : decode cX10_direction 30 = .ok (.ireturn, 1) := by decide +kernel
theorem dX10_direction_31 : decode cX10_direction 31 = .ok (.aload_n 0, 1) := by decide +kernel
theorem dX10_direction_32 : decode cX10_direction 32 = .ok (.getfield 10, 3) := by decide +kernel
theorem dX10_direction_35 : decode cX10_direction 35 = .ok (.getfield 125, 3) := by decide +kernel
theorem dX10_direction_38 : decode cX10_direction 38 = .ok (.iload_n 1, 1) := by decide +kernel
theorem dX10_direction_39 : decode cX10_direction 39 = .ok (.iload_n 2, 1) := by decide +kernel
theorem dX10_direction_40 : decode cX10_direction 40 = .ok (.iload_n 3, 1) := by decide +kernel
theorem dX10_direction_41 : decode cX10_direction 41 = .ok (.invokevirtual 129, 3) := by decide +kernel
theorem dX10_direction_44 : decode cX10_direction 44 = .ok (.ifCond .eq 6, 3) := by decide +kernel
theorem dX10_direction_47 : decode cX10_direction 47 = .ok (.ldc 93, 2) := by decide +kernel
theorem dX10_direction_49 : decode cX10_direction 49 = .ok (.ireturn, 1) := by decide +kernel
theorem dX10_direction_50 : decode cX10_direction 50 = .ok (.aload_n 0, 1) := by decide +kernel
theorem dX10_direction_51 : decode cX10_direction 51 = .ok (.getfield 10, 3) := by decide +kernel
theorem dX10_direction_54 : decode cX10_direction 54 = .ok (.getfield 125, 3) := by decide +kernel
theorem dX10_direction_57 : decode cX10_direction 57 = .ok (.getfield 134, 3) := by decide +kernel
theorem dX10_direction_60 : decode cX10_direction 60 = .ok (.bipush 8, 2) := by decide +kernel
theorem dX10_direction_62 : decode cX10_direction 62 = .ok (.if_icmp .lt 6, 3) := by decide +kernel
theorem dX10_direction_65 : decode cX10_direction 65 = .ok (.ldc 88, 2) := by decide +kernel
theorem dX10_direction_67 : decode cX10_direction 67 = .ok (.ireturn, 1) := by decide +kernel
theorem dX10_direction_68 : decode cX10_direction 68 = .ok (.aload_n 0, 1) := by decide +kernel
theorem dX10_direction_69 : decode cX10_direction 69 = .ok (.getfield 23, 3) := by decide +kernel
theorem dX10_direction_72 : decode cX10_direction 72 = .ok (.aload_n 0, 1) := by decide +kernel
theorem dX10_direction_73 : decode cX10_direction 73 = .ok (.getfield 10, 3) := by decide +kernel
theorem dX10_direction_76 : decode cX10_direction 76 = .ok (.invokevirtual 71, 3) := by decide +kernel
theorem dX10_direction_79 : decode cX10_direction 79 = .ok (.aload_n 0, 1) := by decide +kernel
theorem dX10_direction_80 : decode cX10_direction 80 = .ok (.getfield 10, 3) := by decide +kernel
theorem dX10_direction_83 : decode cX10_direction 83 = .ok (.getfield 125, 3) := by decide +kernel
theorem dX10_direction_86 : decode cX10_direction 86 = .ok (.iload_n 1, 1) := by decide +kernel
theorem dX10_direction_87 : decode cX10_direction 87 = .ok (.iload_n 2, 1) := by decide +kernel
theorem dX10_direction_88 : decode cX10_direction 88 = .ok (.iload_n 3, 1) := by decide +kernel
theorem dX10_direction_89 : decode cX10_direction 89 = .ok (.invokevirtual 135, 3) := by decide +kernel
theorem dX10_direction_92 : decode cX10_direction 92 = .ok (.aload_n 0, 1) := by decide +kernel
theorem dX10_direction_93 : decode cX10_direction 93 = .ok (.getfield 10, 3) := by decide +kernel
theorem dX10_direction_96 : decode cX10_direction 96 = .ok (.getfield 125, 3) := by decide +kernel
theorem dX10_direction_99 : decode cX10_direction 99 = .ok (.getfield 134, 3) := by decide +kernel
theorem dX10_direction_102 : decode cX10_direction 102 = .ok (.iconst 1, 1) := by decide +kernel
theorem dX10_direction_103 : decode cX10_direction 103 = .ok (.isub, 1) := by decide +kernel
theorem dX10_direction_104 : decode cX10_direction 104 = .ok (.ireturn, 1) := by decide +kernel
theorem dX10_dropDirection_0 : decode cX10_dropDirection 0 = .ok (.iload_n 1, 1) := by decide +kernel
theorem dX10_dropDirection_1 : decode cX10_dropDirection 1 = .ok (.ifCond .ge 6, 3) := by decide +kernel
theorem dX10_dropDirection_4 : decode cX10_dropDirection 4 = .ok (.ldc 66, 2) := by decide +kernel
theorem dX10_dropDirection_6 : decode cX10_dropDirection 6 = .ok (.ireturn, 1) := by decide +kernel
theorem dX10_dropDirection_7 : decode cX10_dropDirection 7 = .ok (.iload_n 1, 1) := by decide +kernel
theorem dX10_dropDirection_8 : decode cX10_dropDirection 8 = .ok (.aload_n 0, 1) := by decide +kernel
theorem dX10_dropDirection_9 : decode cX10_dropDirection 9 = .ok (.getfield 10, 3) := by decide +kernel
theorem dX10_dropDirection_12 : decode cX10_dropDirection 12 = .ok (.getfield 125, 3) := by decide +kernel
theorem dX10_dropDirection_15 : decode cX10_dropDirection 15 = .ok (.getfield 134, 3) := by decide +kernel
theorem dX10_dropDirection_18 : decode cX10_dropDirection 18 = .ok (.if_icmp .lt 6, 3) := by decide +kernel
theorem dX10_dropDirection_21 : decode cX10_dropDirection 21 = .ok (.ldc 93, 2) := by decide +kernel
theorem dX10_dropDirection_23 : decode cX10_dropDirection 23 = .ok (.ireturn, 1) := by decide +kernel
theorem dX10_dropDirection_24 : decode cX10_dropDirection 24 = .ok (.aload_n 0, 1) := by decide +kernel
theorem dX10_dropDirection_25 : decode cX10_dropDirection 25 = .ok (.getfield 23, 3) := by decide +kernel
theorem dX10_dropDirection_28 : decode cX10_dropDirection 28 = .ok (.aload_n 0, 1) := by decide +kernel
theorem dX10_dropDirection_29 : decode cX10_dropDirection 29 = .ok (.getfield 10, 3) := by decide +kernel
theorem dX10_dropDirection_32 : decode cX10_dropDirection 32 = .ok (.invokevirtual 71, 3) := by decide +kernel
theorem dX10_dropDirection_35 : decode cX10_dropDirection 35 = .ok (.aload_n 0, 1) := by decide +kernel
theorem dX10_dropDirection_36 : decode cX10_dropDirection 36 = .ok (.getfield 10, 3) := by decide +kernel
theorem dX10_dropDirection_39 : decode cX10_dropDirection 39 = .ok (.getfield 125, 3) := by decide +kernel
theorem dX10_dropDirection_42 : decode cX10_dropDirection 42 = .ok (.iload_n 1, 1) := by decide +kernel
theorem dX10_dropDirection_43 : decode cX10_dropDirection 43 = .ok (.invokevirtual 138, 3) := by decide +kernel
theorem dX10_dropDirection_46 : decode cX10_dropDirection 46 = .ok (.aload_n 0, 1) := by decide +kernel
theorem dX10_dropDirection_47 : decode cX10_dropDirection 47 = .ok (.getfield 10, 3) := by decide +kernel
theorem dX10_dropDirection_50 : decode cX10_dropDirection 50 = .ok (.getfield 139, 3) := by decide +kernel
theorem dX10_dropDirection_53 : decode cX10_dropDirection 53 = .ok (.iload_n 1, 1) := by decide +kernel
theorem dX10_dropDirection_54 : decode cX10_dropDirection 54 = .ok (.invokevirtual 143, 3) := by decide +kernel
theorem dX10_dropDirection_57 : decode cX10_dropDirection 57 = .ok (.aload_n 0, 1) := by decide +kernel
theorem dX10_dropDirection_58 : decode cX10_dropDirection 58 = .ok (.getfield 10, 3) := by decide +kernel
theorem dX10_dropDirection_61 : decode cX10_dropDirection 61 = .ok (.getfield 125, 3) := by decide +kernel
theorem dX10_dropDirection_64 : decode cX10_dropDirection 64 = .ok (.getfield 134, 3) := by decide +kernel
theorem dX10_dropDirection_67 : decode cX10_dropDirection 67 = .ok (.ireturn, 1) := by decide +kernel
theorem dX10_start_0 : decode cX10_start 0 = .ok (.aload_n 0, 1) := by decide +kernel
theorem dX10_start_1 : decode cX10_start 1 = .ok (.getfield 10, 3) := by decide +kernel
theorem dX10_start_4 : decode cX10_start 4 = .ok (.iload_n 1, 1) := by decide +kernel
theorem dX10_start_5 : decode cX10_start 5 = .ok (.iload_n 2, 1) := by decide +kernel
theorem dX10_start_6 : decode cX10_start 6 = .ok (.iload_n 3, 1) := by decide +kernel
theorem dX10_start_7 : decode cX10_start 7 = .ok (.bipush (-50), 2) := by decide +kernel
theorem dX10_start_9 : decode cX10_start 9 = .ok (.bipush 50, 2) := by decide +kernel
theorem dX10_start_11 : decode cX10_start 11 = .ok (.invokevirtual 75, 3) := by decide +kernel
theorem dX10_start_14 : decode cX10_start 14 = .ok (.ifCond .eq 13, 3) := by decide +kernel
theorem dX10_start_17 : decode cX10_start 17 = .ok (.iload 4, 2) := by decide +kernel
theorem dX10_start_19 : decode cX10_start 19 = .ok (.iconst 0, 1) := by decide +kernel
theorem dX10_start_20 : decode cX10_start 20 = .ok (.iconst 4, 1) := by decide +kernel
theorem dX10_start_21 : decode cX10_start 21 = .ok (.invokestatic 62, 3) := by decide +kernel
theorem dX10_start_24 : decode cX10_start 24 = .ok (.ifCond .ne 6, 3) := by decide +kernel
theorem dX10_start_27 : decode cX10_start 27 = .ok (.ldc 66, 2) := by decide +kernel
theorem dX10_start_29 : decode cX10_start 29 = .ok (.ireturn, 1) := by decide +kernel
theorem dX10_start_30 : decode cX10_start 30 = .ok (.aload_n 0, 1) := by decide +kernel
theorem dX10_start_31 : decode cX10_start 31 = .ok (.getfield 23, 3) := by decide +kernel
theorem dX10_start_34 : decode cX10_start 34 = .ok (.aload_n 0, 1) := by decide +kernel
theorem dX10_start_35 : decode cX10_start 35 = .ok (.getfield 10, 3) := by decide +kernel
theorem dX10_start_38 : decode cX10_start 38 = .ok (.invokevirtual 71, 3) := by decide +kernel
theorem dX10_start_41 : decode cX10_start 41 = .ok (.aload_n 0, 1) := by decide +kernel
theorem dX10_start_42 : decode cX10_start 42 = .ok (.getfield 10, 3) := by decide +kernel
theorem dX10_start_45 : decode cX10_start 45 = .ok (.getfield 139, 3) := by decide +kernel
theorem dX10_start_48 : decode cX10_start 48 = .ok (.iload_n 1, 1) := by decide +kernel
theorem dX10_start_49 : decode cX10_start 49 = .ok (.iload_n 2, 1) := by decide +kernel
theorem dX10_start_50 : decode cX10_start 50 = .ok (.iload_n 3, 1) := by decide +kernel
theorem dX10_start_51 : decode cX10_start 51 = .ok (.iconst 1, 1) := by decide +kernel
theorem dX10_start_52 : decode cX10_start 52 = .ok (.iload 4, 2) := by decide +kernel
theorem dX10_start_54 : decode cX10_start 54 = .ok (.ishl, 1) := by decide +kernel
theorem dX10_start_55 : decode cX10_start 55 = .ok (.invokevirtual 148, 3) := by decide +kernel
theorem dX10_start_58 : decode cX10_start 58 = .ok (.aload_n 0, 1) := by decide +kernel
theorem dX10_start_59 : decode cX10_start 59 = .ok (.getfield 10, 3) := by decide +kernel
theorem dX10_start_62 : decode cX10_start 62 = .ok (.getfield 125, 3) := by decide +kernel
theorem dX10_start_65 : decode cX10_start 65 = .ok (.invokevirtual 151, 3) := by decide +kernel
theorem dX10_start_68 : decode cX10_start 68 = .ok (.aload_n 0, 1) := by decide +kernel
theorem dX10_start_69 : decode cX10_start 69 = .ok (.getfield 10, 3) := by decide +kernel
theorem dX10_start_72 : decode cX10_start 72 = .ok (.invokevirtual 117, 3) := by decide +kernel
theorem dX10_start_75 : decode cX10_start 75 = .ok (.invokestatic 121, 3) := by decide +kernel
theorem dX10_start_78 : decode cX10_start 78 = .ok (.ireturn, 1) := by decide +kernel
theorem dX10_order_0 : decode cX10_order 0 = .ok (.iload_n 1, 1) := by decide +kernel
theorem dX10_order_1 : decode cX10_order 1 = .ok (.iconst 0, 1) := by decide +kernel
theorem dX10_order_2 : decode cX10_order 2 = .ok (.iconst 2, 1) := by decide +kernel
theorem dX10_order_3 : decode cX10_order 3 = .ok (.invokestatic 62, 3) := by decide +kernel
theorem dX10_order_6 : decode cX10_order 6 = .ok (.ifCond .eq 12, 3) := by decide +kernel
theorem dX10_order_9 : decode cX10_order 9 = .ok (.iload_n 2, 1) := by decide +kernel
theorem dX10_order_10 : decode cX10_order 10 = .ok (.iconst 0, 1) := by decide +kernel
theorem dX10_order_11 : decode cX10_order 11 = .ok (.iconst 1, 1) := by decide +kernel
theorem dX10_order_12 : decode cX10_order 12 = .ok (.invokestatic 62, 3) := by decide +kernel
theorem dX10_order_15 : decode cX10_order 15 = .ok (.ifCond .ne 6, 3) := by decide +kernel
theorem dX10_order_18 : decode cX10_order 18 = .ok (.ldc 66, 2) := by decide +kernel
theorem dX10_order_20 : decode cX10_order 20 = .ok (.ireturn, 1) := by decide +kernel
theorem dX10_order_21 : decode cX10_order 21 = .ok (.bipush 10, 2) := by decide +kernel
theorem dX10_order_23 : decode cX10_order 23 = .ok (.aload_n 0, 1) := by decide +kernel
theorem dX10_order_24 : decode cX10_order 24 = .ok (.getfield 10, 3) := by decide +kernel
theorem dX10_order_27 : decode cX10_order 27 = .ok (.getfield 154, 3) := by decide +kernel
theorem dX10_order_30 : decode cX10_order 30 = .ok (.imul, 1) := by decide +kernel
theorem dX10_order_31 : decode cX10_order 31 = .ok (.aload_n 0, 1) := by decide +kernel
theorem dX10_order_32 : decode cX10_order 32 = .ok (.getfield 10, 3) := by decide +kernel
theorem dX10_order_35 : decode cX10_order 35 = .ok (.getfield 157, 3) := by decide +kernel
theorem dX10_order_38 : decode cX10_order 38 = .ok (.iadd, 1) := by decide +kernel
theorem dX10_order_39 : decode cX10_order 39 = .ok (.istore_n 3, 1) := by decide +kernel
theorem dX10_order_40 : decode cX10_order 40 = .ok (.aload_n 0, 1) := by decide +kernel
theorem dX10_order_41 : decode cX10_order 41 = .ok (.getfield 23, 3) := by decide +kernel
theorem dX10_order_44 : decode cX10_order 44 = .ok (.aload_n 0, 1) := by decide +kernel
theorem dX10_order_45 : decode cX10_order 45 = .ok (.getfield 10, 3) := by decide +kernel
theorem dX10_order_48 : decode cX10_order 48 = .ok (.invokevirtual 71, 3) := by decide +kernel
theorem dX10_order_51 : decode cX10_order 51 = .ok (.aload_n 0, 1) := by decide +kernel
theorem dX10_order_52 : decode cX10_order 52 = .ok (.getfield 10, 3) := by decide +kernel
theorem dX10_order_55 : decode cX10_order 55 = .ok (.iload_n 1, 1) := by decide +kernel
theorem dX10_order_56 : decode cX10_order 56 = .ok (.putfield 154, 3) := by decide +kernel
theorem dX10_order_59 : decode cX10_order 59 = .ok (.aload_n 0, 1) := by decide +kernel
theorem dX10_order_60 : decode cX10_order 60 = .ok (.getfield 10, 3) := by decide +kernel
theorem dX10_order_63 : decode cX10_order 63 = .ok (.iload_n 2, 1) := by decide +kernel
theorem dX10_order_64 : decode cX10_order 64 = .ok (.putfield 157, 3) := by decide +kernel
theorem dX10_order_67 : decode cX10_order 67 = .ok (.iload_n 3, 1) := by decide +kernel
theorem dX10_order_68 : decode cX10_order 68 = .ok (.ireturn, 1) := by decide +kernel
theorem dX10_poll_0 : decode cX10_poll 0 = .ok (.aload_n 0, 1) := by decide +kernel
theorem dX10_poll_1 : decode cX10_poll 1 = .ok (.getfield 10, 3) := by decide +kernel
theorem dX10_poll_4 : decode cX10_poll 4 = .ok (.invokevirtual 160, 3) := by decide +kernel
theorem dX10_poll_7 : decode cX10_poll 7 = .ok (.ifCond .ne 6, 3) := by decide +kernel
theorem dX10_poll_10 : decode cX10_poll 10 = .ok (.ldc 93, 2) := by decide +kernel
theorem dX10_poll_12 : decode cX10_poll 12 = .ok (.ireturn, 1) := by decide +kernel
theorem dX10_poll_13 : decode cX10_poll 13 = .ok (.aload_n 0, 1) := by decide +kernel
theorem dX10_poll_14 : decode cX10_poll 14 = .ok (.getfield 23, 3) := by decide +kernel
theorem dX10_poll_17 : decode cX10_poll 17 = .ok (.aload_n 0, 1) := by decide +kernel
theorem dX10_poll_18 : decode cX10_poll 18 = .ok (.getfield 10, 3) := by decide +kernel
theorem dX10_poll_21 : decode cX10_poll 21 = .ok (.invokevirtual 71, 3) := by decide +kernel
theorem dX10_poll_24 : decode cX10_poll 24 = .ok (.aload_n 0, 1) := by decide +kernel
theorem dX10_poll_25 : decode cX10_poll 25 = .ok (.getfield 10, 3) := by decide +kernel
theorem dX10_poll_28 : decode cX10_poll 28 = .ok (.aload_n 0, 1) := by decide +kernel
theorem dX10_poll_29 : decode cX10_poll 29 = .ok (.getfield 44, 3) := by decide +kernel
theorem dX10_poll_32 : decode cX10_poll 32 = .ok (.invokevirtual 163, 3) := by decide +kernel
theorem dX10_poll_35 : decode cX10_poll 35 = .ok (.ireturn, 1) := by decide +kernel
theorem dX10_run_0 : decode cX10_run 0 = .ok (.iload_n 1, 1) := by decide +kernel
theorem dX10_run_1 : decode cX10_run 1 = .ok (.iconst 1, 1) := by decide +kernel
theorem dX10_run_2 : decode cX10_run 2 = .ok (.bipush 60, 2) := by decide +kernel
theorem dX10_run_4 : decode cX10_run 4 = .ok (.invokestatic 62, 3) := by decide +kernel
theorem dX10_run_7 : decode cX10_run 7 = .ok (.ifCond .ne 6, 3) := by decide +kernel
theorem dX10_run_10 : decode cX10_run 10 = .ok (.ldc 66, 2) := by decide +kernel
theorem dX10_run_12 : decode cX10_run 12 = .ok (.ireturn, 1) := by decide +kernel
theorem dX10_run_13 : decode cX10_run 13 = .ok (.aload_n 0, 1) := by decide +kernel
theorem dX10_run_14 : decode cX10_run 14 = .ok (.getfield 10, 3) := by decide +kernel
theorem dX10_run_17 : decode cX10_run 17 = .ok (.invokevirtual 160, 3) := by decide +kernel
theorem dX10_run_20 : decode cX10_run 20 = .ok (.ifCond .ne 6, 3) := by decide +kernel
theorem dX10_run_23 : decode cX10_run 23 = .ok (.ldc 93, 2) := by decide +kernel
theorem dX10_run_25 : decode cX10_run 25 = .ok (.ireturn, 1) := by decide +kernel
theorem dX10_run_26 : decode cX10_run 26 = .ok (.aload_n 0, 1) := by decide +kernel
theorem dX10_run_27 : decode cX10_run 27 = .ok (.getfield 23, 3) := by decide +kernel
theorem dX10_run_30 : decode cX10_run 30 = .ok (.aload_n 0, 1) := by decide +kernel
theorem dX10_run_31 : decode cX10_run 31 = .ok (.getfield 10, 3) := by decide +kernel
theorem dX10_run_34 : decode cX10_run 34 = .ok (.invokevirtual 71, 3) := by decide +kernel
theorem dX10_run_37 : decode cX10_run 37 = .ok (.iconst 0, 1) := by decide +kernel
theorem dX10_run_38 : decode cX10_run 38 = .ok (.istore_n 2, 1) := by decide +kernel
theorem dX10_run_39 : decode cX10_run 39 = .ok (.aload_n 0, 1) := by decide +kernel
theorem dX10_run_40 : decode cX10_run 40 = .ok (.getfield 10, 3) := by decide +kernel
theorem dX10_run_43 : decode cX10_run 43 = .ok (.aload_n 0, 1) := by decide +kernel
theorem dX10_run_44 : decode cX10_run 44 = .ok (.getfield 44, 3) := by decide +kernel
theorem dX10_run_47 : decode cX10_run 47 = .ok (.invokevirtual 163, 3) := by decide +kernel
theorem dX10_run_50 : decode cX10_run 50 = .ok (.pop, 1) := by decide +kernel
theorem dX10_run_51 : decode cX10_run 51 = .ok (.iinc 2 1, 3) := by decide +kernel
theorem dX10_run_54 : decode cX10_run 54 = .ok (.iload_n 2, 1) := by decide +kernel
theorem dX10_run_55 : decode cX10_run 55 = .ok (.iload_n 1, 1) := by decide +kernel
theorem dX10_run_56 : decode cX10_run 56 = .ok (.if_icmp .ge 16, 3) := by decide +kernel
theorem dX10_run_59 : decode cX10_run 59 = .ok (.aload_n 0, 1) := by decide +kernel
theorem dX10_run_60 : decode cX10_run 60 = .ok (.getfield 10, 3) := by decide +kernel
theorem dX10_run_63 : decode cX10_run 63 = .ok (.getfield 139, 3) := by decide +kernel
theorem dX10_run_66 : decode cX10_run 66 = .ok (.getfield 167, 3) := by decide +kernel
theorem dX10_run_69 : decode cX10_run 69 = .ok (.ifCond .eq (-30), 3) := by decide +kernel
theorem dX10_run_72 : decode cX10_run 72 = .ok (.iload_n 2, 1) := by decide +kernel
theorem dX10_run_73 : decode cX10_run 73 = .ok (.ireturn, 1) := by decide +kernel
theorem dX10_value_0 : decode cX10_value 0 = .ok (.aload_n 0, 1) := by decide +kernel
theorem dX10_value_1 : decode cX10_value 1 = .ok (.getfield 10, 3) := by decide +kernel
theorem dX10_value_4 : decode cX10_value 4 = .ok (.iload_n 1, 1) := by decide +kernel
theorem dX10_value_5 : decode cX10_value 5 = .ok (.iload_n 2, 1) := by decide +kernel
theorem dX10_value_6 : decode cX10_value 6 = .ok (.iload_n 3, 1) := by decide +kernel
theorem dX10_value_7 : decode cX10_value 7 = .ok (.bipush (-50), 2) := by decide +kernel
theorem dX10_value_9 : decode cX10_value 9 = .ok (.bipush 50, 2) := by decide +kernel
theorem dX10_value_11 : decode cX10_value 11 = .ok (.invokevirtual 75, 3) := by decide +kernel
theorem dX10_value_14 : decode cX10_value 14 = .ok (.ifCond .eq 13, 3) := by decide +kernel
theorem dX10_value_17 : decode cX10_value 17 = .ok (.iload 4, 2) := by decide +kernel
theorem dX10_value_19 : decode cX10_value 19 = .ok (.iconst 0, 1) := by decide +kernel
theorem dX10_value_20 : decode cX10_value 20 = .ok (.iconst 1, 1) := by decide +kernel
theorem dX10_value_21 : decode cX10_value 21 = .ok (.invokestatic 62, 3) := by decide +kernel
theorem dX10_value_24 : decode cX10_value 24 = .ok (.ifCond .ne 7, 3) := by decide +kernel
theorem dX10_value_27 : decode cX10_value 27 = .ok (.ldc2_w 170, 3) := by decide +kernel
theorem dX10_value_30 : decode cX10_value 30 = .ok (.lreturn, 1) := by decide +kernel
theorem dX10_value_31 : decode cX10_value 31 = .ok (.iload 4, 2) := by decide +kernel
theorem dX10_value_33 : decode cX10_value 33 = .ok (.iconst 1, 1) := by decide +kernel
theorem dX10_value_34 : decode cX10_value 34 = .ok (.if_icmp .ne 7, 3) := by decide +kernel
theorem dX10_value_37 : decode cX10_value 37 = .ok (.iconst 2, 1) := by decide +kernel
theorem dX10_value_38 : decode cX10_value 38 = .ok (.goto 4, 3) := by decide +kernel
theorem dX10_value_41 : decode cX10_value 41 = .ok (.iconst 4, 1) := by decide +kernel
theorem dX10_value_42 : decode cX10_value 42 = .ok (.istore 5, 2) := by decide +kernel
theorem dX10_value_44 : decode cX10_value 44 = .ok (.ldc2_w 172, 3) := by decide +kernel
theorem dX10_value_47 : decode cX10_value 47 = .ok (.aload_n 0, 1) := by decide +kernel
theorem dX10_value_48 : decode cX10_value 48 = .ok (.getfield 10, 3) := by decide +kernel
theorem dX10_value_51 : decode cX10_value 51 = .ok (.getfield 79, 3) := by decide +kernel
theorem dX10_value_54 : decode cX10_value 54 = .ok (.iload_n 1, 1) := by decide +kernel
theorem dX10_value_55 : decode cX10_value 55 = .ok (.iload_n 2, 1) := by decide +kernel
theorem dX10_value_56 : decode cX10_value 56 = .ok (.iload_n 3, 1) := by decide +kernel
theorem dX10_value_57 : decode cX10_value 57 = .ok (.iload 5, 2) := by decide +kernel
theorem dX10_value_59 : decode cX10_value 59 = .ok (.invokevirtual 174, 3) := by decide +kernel
theorem dX10_value_62 : decode cX10_value 62 = .ok (.ladd, 1) := by decide +kernel
theorem dX10_value_63 : decode cX10_value 63 = .ok (.lreturn, 1) := by decide +kernel
theorem dX10_directionOf_0 : decode cX10_directionOf 0 = .ok (.iload_n 1, 1) := by decide +kernel
theorem dX10_directionOf_1 : decode cX10_directionOf 1 = .ok (.ifCond .lt 12, 3) := by decide +kernel
theorem dX10_directionOf_4 : decode cX10_directionOf 4 = .ok (.iload_n 2, 1) := by decide +kernel
theorem dX10_directionOf_5 : decode cX10_directionOf 5 = .ok (.iconst 0, 1) := by decide +kernel
theorem dX10_directionOf_6 : decode cX10_directionOf 6 = .ok (.iconst 3, 1) := by decide +kernel
theorem dX10_directionOf_7 : decode cX10_directionOf 7 = .ok (.invokestatic 62, 3) := by decide +kernel
theorem dX10_directionOf_10 : decode cX10_directionOf 10 = .ok (.ifCond .ne 6, 3) := by decide +kernel
theorem dX10_directionOf_13 : decode cX10_directionOf 13 = .ok (.ldc 66, 2) := by decide +kernel
theorem dX10_directionOf_15 : decode cX10_directionOf 15 = .ok (.ireturn, 1) := by decide +kernel
theorem dX10_directionOf_16 : decode cX10_directionOf 16 = .ok (.iload_n 1, 1) := by decide +kernel
theorem dX10_directionOf_17 : decode cX10_directionOf 17 = .ok (.aload_n 0, 1) := by decide +kernel
theorem dX10_directionOf_18 : decode cX10_directionOf 18 = .ok (.getfield 10, 3) := by decide +kernel
theorem dX10_directionOf_21 : decode cX10_directionOf 21 = .ok (.getfield 125, 3) := by decide +kernel
theorem dX10_directionOf_24 : decode cX10_directionOf 24 = .ok (.getfield 134, 3) := by decide +kernel
theorem dX10_directionOf_27 : decode cX10_directionOf 27 = .ok (.if_icmp .lt 6, 3) := by decide +kernel
theorem dX10_directionOf_30 : decode cX10_directionOf 30 = .ok (.ldc 178, 2) := by decide +kernel
theorem dX10_directionOf_32 : decode cX10_directionOf 32 = .ok (.ireturn, 1) := by decide +kernel
theorem dX10_directionOf_33 : decode cX10_directionOf 33 = .ok (.iload_n 2, 1) := by decide +kernel
theorem dX10_directionOf_34 : decode cX10_directionOf 34 = .ok (.iconst 3, 1) := by decide +kernel
theorem dX10_directionOf_35 : decode cX10_directionOf 35 = .ok (.if_icmp .ne 16, 3) := by decide +kernel
theorem dX10_directionOf_38 : decode cX10_directionOf 38 = .ok (.aload_n 0, 1) := by decide +kernel
theorem dX10_directionOf_39 : decode cX10_directionOf 39 = .ok (.getfield 10, 3) := by decide +kernel
theorem dX10_directionOf_42 : decode cX10_directionOf 42 = .ok (.getfield 125, 3) := by decide +kernel
theorem dX10_directionOf_45 : decode cX10_directionOf 45 = .ok (.getfield 182, 3) := by decide +kernel
theorem dX10_directionOf_48 : decode cX10_directionOf 48 = .ok (.iload_n 1, 1) := by decide +kernel
theorem dX10_directionOf_49 : decode cX10_directionOf 49 = .ok (.iaload, 1) := by decide +kernel
theorem dX10_directionOf_50 : decode cX10_directionOf 50 = .ok (.ireturn, 1) := by decide +kernel
theorem dX10_directionOf_51 : decode cX10_directionOf 51 = .ok (.aload_n 0, 1) := by decide +kernel
theorem dX10_directionOf_52 : decode cX10_directionOf 52 = .ok (.getfield 10, 3) := by decide +kernel
theorem dX10_directionOf_55 : decode cX10_directionOf 55 = .ok (.getfield 125, 3) := by decide +kernel
theorem dX10_directionOf_58 : decode cX10_directionOf 58 = .ok (.getfield 185, 3) := by decide +kernel
theorem dX10_directionOf_61 : decode cX10_directionOf 61 = .ok (.iconst 3, 1) := by decide +kernel
theorem dX10_directionOf_62 : decode cX10_directionOf 62 = .ok (.iload_n 1, 1) := by decide +kernel
theorem dX10_directionOf_63 : decode cX10_directionOf 63 = .ok (.imul, 1) := by decide +kernel
theorem dX10_directionOf_64 : decode cX10_directionOf 64 = .ok (.iload_n 2, 1) := by decide +kernel
theorem dX10_directionOf_65 : decode cX10_directionOf 65 = .ok (.iadd, 1) := by decide +kernel
theorem dX10_directionOf_66 : decode cX10_directionOf 66 = .ok (.iaload, 1) := by decide +kernel
theorem dX10_directionOf_67 : decode cX10_directionOf 67 = .ok (.ireturn, 1) := by decide +kernel
theorem dX10_searchOf_0 : decode cX10_searchOf 0 = .ok (.iload_n 1, 1) := by decide +kernel
theorem dX10_searchOf_1 : decode cX10_searchOf 1 = .ok (.tableswitch 167 0 9 #[55, 55, 55, 68, 79, 90, 101, 112, 142, 153], 55) := by decide +kernel
theorem dX10_searchOf_56 : decode cX10_searchOf 56 = .ok (.aload_n 0, 1) := by decide +kernel
theorem dX10_searchOf_57 : decode cX10_searchOf 57 = .ok (.getfield 10, 3) := by decide +kernel
theorem dX10_searchOf_60 : decode cX10_searchOf 60 = .ok (.getfield 139, 3) := by decide +kernel
theorem dX10_searchOf_63 : decode cX10_searchOf 63 = .ok (.getfield 188, 3) := by decide +kernel
theorem dX10_searchOf_66 : decode cX10_searchOf 66 = .ok (.iload_n 1, 1) := by decide +kernel
theorem dX10_searchOf_67 : decode cX10_searchOf 67 = .ok (.iaload, 1) := by decide +kernel
theorem dX10_searchOf_68 : decode cX10_searchOf 68 = .ok (.ireturn, 1) := by decide +kernel
theorem dX10_searchOf_69 : decode cX10_searchOf 69 = .ok (.aload_n 0, 1) := by decide +kernel
theorem dX10_searchOf_70 : decode cX10_searchOf 70 = .ok (.getfield 10, 3) := by decide +kernel
theorem dX10_searchOf_73 : decode cX10_searchOf 73 = .ok (.getfield 139, 3) := by decide +kernel
theorem dX10_searchOf_76 : decode cX10_searchOf 76 = .ok (.getfield 191, 3) := by decide +kernel
theorem dX10_searchOf_79 : decode cX10_searchOf 79 = .ok (.ireturn, 1) := by decide +kernel
theorem dX10_searchOf_80 : decode cX10_searchOf 80 = .ok (.aload_n 0, 1) := by decide +kernel
theorem dX10_searchOf_81 : decode cX10_searchOf 81 = .ok (.getfield 10, 3) := by decide +kernel
theorem dX10_searchOf_84 : decode cX10_searchOf 84 = .ok (.getfield 139, 3) := by decide +kernel
theorem dX10_searchOf_87 : decode cX10_searchOf 87 = .ok (.getfield 194, 3) := by decide +kernel
theorem dX10_searchOf_90 : decode cX10_searchOf 90 = .ok (.ireturn, 1) := by decide +kernel
theorem dX10_searchOf_91 : decode cX10_searchOf 91 = .ok (.aload_n 0, 1) := by decide +kernel
theorem dX10_searchOf_92 : decode cX10_searchOf 92 = .ok (.getfield 10, 3) := by decide +kernel
theorem dX10_searchOf_95 : decode cX10_searchOf 95 = .ok (.getfield 139, 3) := by decide +kernel
theorem dX10_searchOf_98 : decode cX10_searchOf 98 = .ok (.getfield 197, 3) := by decide +kernel
theorem dX10_searchOf_101 : decode cX10_searchOf 101 = .ok (.ireturn, 1) := by decide +kernel
theorem dX10_searchOf_102 : decode cX10_searchOf 102 = .ok (.aload_n 0, 1) := by decide +kernel
theorem dX10_searchOf_103 : decode cX10_searchOf 103 = .ok (.getfield 10, 3) := by decide +kernel
theorem dX10_searchOf_106 : decode cX10_searchOf 106 = .ok (.getfield 139, 3) := by decide +kernel
theorem dX10_searchOf_109 : decode cX10_searchOf 109 = .ok (.getfield 200, 3) := by decide +kernel
theorem dX10_searchOf_112 : decode cX10_searchOf 112 = .ok (.ireturn, 1) := by decide +kernel
theorem dX10_searchOf_113 : decode cX10_searchOf 113 = .ok (.aload_n 0, 1) := by decide +kernel
theorem dX10_searchOf_114 : decode cX10_searchOf 114 = .ok (.getfield 10, 3) := by decide +kernel
theorem dX10_searchOf_117 : decode cX10_searchOf 117 = .ok (.getfield 139, 3) := by decide +kernel
theorem dX10_searchOf_120 : decode cX10_searchOf 120 = .ok (.getfield 203, 3) := by decide +kernel
theorem dX10_searchOf_123 : decode cX10_searchOf 123 = .ok (.iconst (-1), 1) := by decide +kernel
theorem dX10_searchOf_124 : decode cX10_searchOf 124 = .ok (.if_icmp .ne 8, 3) := by decide +kernel
theorem dX10_searchOf_127 : decode cX10_searchOf 127 = .ok (.ldc 178, 2) := by decide +kernel
theorem dX10_searchOf_129 : decode cX10_searchOf 129 = .ok (.goto 13, 3) := by decide +kernel
theorem dX10_searchOf_132 : decode cX10_searchOf 132 = .ok (.aload_n 0, 1) := by decide +kernel
theorem dX10_searchOf_133 : decode cX10_searchOf 133 = .ok (.getfield 10, 3) := by decide +kernel
theorem dX10_searchOf_136 : decode cX10_searchOf 136 = .ok (.getfield 139, 3) := by decide +kernel
theorem dX10_searchOf_139 : decode cX10_searchOf 139 = .ok (.getfield 203, 3) := by decide +kernel
theorem dX10_searchOf_142 : decode cX10_searchOf 142 = .ok (.ireturn, 1) := by decide +kernel
theorem dX10_searchOf_143 : decode cX10_searchOf 143 = .ok (.aload_n 0, 1) := by decide +kernel
theorem dX10_searchOf_144 : decode cX10_searchOf 144 = .ok (.getfield 10, 3) := by decide +kernel
theorem dX10_searchOf_147 : decode cX10_searchOf 147 = .ok (.getfield 139, 3) := by decide +kernel
theorem dX10_searchOf_150 : decode cX10_searchOf 150 = .ok (.getfield 206, 3) := by decide +kernel
theorem dX10_searchOf_153 : decode cX10_searchOf 153 = .ok (.ireturn, 1) := by decide +kernel
theorem dX10_searchOf_154 : decode cX10_searchOf 154 = .ok (.aload_n 0, 1) := by decide +kernel
theorem dX10_searchOf_155 : decode cX10_searchOf 155 = .ok (.getfield 10, 3) := by decide +kernel
theorem dX10_searchOf_158 : decode cX10_searchOf 158 = .ok (.getfield 139, 3) := by decide +kernel
theorem dX10_searchOf_161 : decode cX10_searchOf 161 = .ok (.getfield 167, 3) := by decide +kernel
theorem dX10_searchOf_164 : decode cX10_searchOf 164 = .ok (.invokestatic 121, 3) := by decide +kernel
theorem dX10_searchOf_167 : decode cX10_searchOf 167 = .ok (.ireturn, 1) := by decide +kernel
theorem dX10_searchOf_168 : decode cX10_searchOf 168 = .ok (.ldc 66, 2) := by decide +kernel
theorem dX10_searchOf_170 : decode cX10_searchOf 170 = .ok (.ireturn, 1) := by decide +kernel
theorem dX10_leftAt_0 : decode cX10_leftAt 0 = .ok (.iload_n 1, 1) := by decide +kernel
theorem dX10_leftAt_1 : decode cX10_leftAt 1 = .ok (.ifCond .lt 14, 3) := by decide +kernel
theorem dX10_leftAt_4 : decode cX10_leftAt 4 = .ok (.aload_n 0, 1) := by decide +kernel
theorem dX10_leftAt_5 : decode cX10_leftAt 5 = .ok (.getfield 10, 3) := by decide +kernel
theorem dX10_leftAt_8 : decode cX10_leftAt 8 = .ok (.iload_n 2, 1) := by decide +kernel
theorem dX10_leftAt_9 : decode cX10_leftAt 9 = .ok (.invokevirtual 101, 3) := by decide +kernel
theorem dX10_leftAt_12 : decode cX10_leftAt 12 = .ok (.ifCond .ne 6, 3) := by decide +kernel
theorem dX10_leftAt_15 : decode cX10_leftAt 15 = .ok (.ldc 66, 2) := by decide +kernel
theorem dX10_leftAt_17 : decode cX10_leftAt 17 = .ok (.ireturn, 1) := by decide +kernel
theorem dX10_leftAt_18 : decode cX10_leftAt 18 = .ok (.iload_n 1, 1) := by decide +kernel
theorem dX10_leftAt_19 : decode cX10_leftAt 19 = .ok (.aload_n 0, 1) := by decide +kernel
theorem dX10_leftAt_20 : decode cX10_leftAt 20 = .ok (.getfield 10, 3) := by decide +kernel
theorem dX10_leftAt_23 : decode cX10_leftAt 23 = .ok (.getfield 139, 3) := by decide +kernel
theorem dX10_leftAt_26 : decode cX10_leftAt 26 = .ok (.getfield 206, 3) := by decide +kernel
theorem dX10_leftAt_29 : decode cX10_leftAt 29 = .ok (.if_icmp .lt 6, 3) := by decide +kernel
theorem dX10_leftAt_32 : decode cX10_leftAt 32 = .ok (.ldc 178, 2) := by decide +kernel
theorem dX10_leftAt_34 : decode cX10_leftAt 34 = .ok (.ireturn, 1) := by decide +kernel
theorem dX10_leftAt_35 : decode cX10_leftAt 35 = .ok (.aload_n 0, 1) := by decide +kernel
theorem dX10_leftAt_36 : decode cX10_leftAt 36 = .ok (.getfield 10, 3) := by decide +kernel
theorem dX10_leftAt_39 : decode cX10_leftAt 39 = .ok (.getfield 139, 3) := by decide +kernel
theorem dX10_leftAt_42 : decode cX10_leftAt 42 = .ok (.getfield 209, 3) := by decide +kernel
theorem dX10_leftAt_45 : decode cX10_leftAt 45 = .ok (.iconst 3, 1) := by decide +kernel
theorem dX10_leftAt_46 : decode cX10_leftAt 46 = .ok (.iload_n 1, 1) := by decide +kernel
theorem dX10_leftAt_47 : decode cX10_leftAt 47 = .ok (.imul, 1) := by decide +kernel
theorem dX10_leftAt_48 : decode cX10_leftAt 48 = .ok (.iload_n 2, 1) := by decide +kernel
theorem dX10_leftAt_49 : decode cX10_leftAt 49 = .ok (.iadd, 1) := by decide +kernel
theorem dX10_leftAt_50 : decode cX10_leftAt 50 = .ok (.iaload, 1) := by decide +kernel
theorem dX10_leftAt_51 : decode cX10_leftAt 51 = .ok (.ireturn, 1) := by decide +kernel
theorem dX10_count_0 : decode cX10_count 0 = .ok (.iload_n 1, 1) := by decide +kernel
theorem dX10_count_1 : decode cX10_count 1 = .ok (.tableswitch 117 0 7 #[47, 55, 66, 77, 85, 93, 101, 109], 47) := by decide +kernel
theorem dX10_count_48 : decode cX10_count 48 = .ok (.aload_n 0, 1) := by decide +kernel
theorem dX10_count_49 : decode cX10_count 49 = .ok (.getfield 10, 3) := by decide +kernel
theorem dX10_count_52 : decode cX10_count 52 = .ok (.getfield 67, 3) := by decide +kernel
theorem dX10_count_55 : decode cX10_count 55 = .ok (.ireturn, 1) := by decide +kernel
theorem dX10_count_56 : decode cX10_count 56 = .ok (.aload_n 0, 1) := by decide +kernel
theorem dX10_count_57 : decode cX10_count 57 = .ok (.getfield 10, 3) := by decide +kernel
theorem dX10_count_60 : decode cX10_count 60 = .ok (.getfield 79, 3) := by decide +kernel
theorem dX10_count_63 : decode cX10_count 63 = .ok (.getfield 83, 3) := by decide +kernel
theorem dX10_count_66 : decode cX10_count 66 = .ok (.ireturn, 1) := by decide +kernel
theorem dX10_count_67 : decode cX10_count 67 = .ok (.aload_n 0, 1) := by decide +kernel
theorem dX10_count_68 : decode cX10_count 68 = .ok (.getfield 10, 3) := by decide +kernel
theorem dX10_count_71 : decode cX10_count 71 = .ok (.getfield 125, 3) := by decide +kernel
theorem dX10_count_74 : decode cX10_count 74 = .ok (.getfield 134, 3) := by decide +kernel
theorem dX10_count_77 : decode cX10_count 77 = .ok (.ireturn, 1) := by decide +kernel
theorem dX10_count_78 : decode cX10_count 78 = .ok (.aload_n 0, 1) := by decide +kernel
theorem dX10_count_79 : decode cX10_count 79 = .ok (.getfield 10, 3) := by decide +kernel
theorem dX10_count_82 : decode cX10_count 82 = .ok (.getfield 154, 3) := by decide +kernel
theorem dX10_count_85 : decode cX10_count 85 = .ok (.ireturn, 1) := by decide +kernel
theorem dX10_count_86 : decode cX10_count 86 = .ok (.aload_n 0, 1) := by decide +kernel
theorem dX10_count_87 : decode cX10_count 87 = .ok (.getfield 10, 3) := by decide +kernel
theorem dX10_count_90 : decode cX10_count 90 = .ok (.getfield 157, 3) := by decide +kernel
theorem dX10_count_93 : decode cX10_count 93 = .ok (.ireturn, 1) := by decide +kernel
theorem dX10_count_94 : decode cX10_count 94 = .ok (.aload_n 0, 1) := by decide +kernel
theorem dX10_count_95 : decode cX10_count 95 = .ok (.getfield 23, 3) := by decide +kernel
theorem dX10_count_98 : decode cX10_count 98 = .ok (.getfield 212, 3) := by decide +kernel
theorem dX10_count_101 : decode cX10_count 101 = .ok (.ireturn, 1) := by decide +kernel
theorem dX10_count_102 : decode cX10_count 102 = .ok (.aload_n 0, 1) := by decide +kernel
theorem dX10_count_103 : decode cX10_count 103 = .ok (.getfield 37, 3) := by decide +kernel
theorem dX10_count_106 : decode cX10_count 106 = .ok (.getfield 213, 3) := by decide +kernel
theorem dX10_count_109 : decode cX10_count 109 = .ok (.ireturn, 1) := by decide +kernel
theorem dX10_count_110 : decode cX10_count 110 = .ok (.aload_n 0, 1) := by decide +kernel
theorem dX10_count_111 : decode cX10_count 111 = .ok (.getfield 30, 3) := by decide +kernel
theorem dX10_count_114 : decode cX10_count 114 = .ok (.invokestatic 121, 3) := by decide +kernel
theorem dX10_count_117 : decode cX10_count 117 = .ok (.ireturn, 1) := by decide +kernel
theorem dX10_count_118 : decode cX10_count 118 = .ok (.aload_n 0, 1) := by decide +kernel
theorem dX10_count_119 : decode cX10_count 119 = .ok (.iload_n 1, 1) := by decide +kernel
theorem dX10_count_120 : decode cX10_count 120 = .ok (.invokevirtual 216, 3) := by decide +kernel
theorem dX10_count_123 : decode cX10_count 123 = .ok (.ireturn, 1) := by decide +kernel
theorem dX10_boundOf_0 : decode cX10_boundOf 0 = .ok (.iload_n 1, 1) := by decide +kernel
theorem dX10_boundOf_1 : decode cX10_boundOf 1 = .ok (.bipush 10, 2) := by decide +kernel
theorem dX10_boundOf_3 : decode cX10_boundOf 3 = .ok (.bipush 9, 2) := by decide +kernel
theorem dX10_boundOf_5 : decode cX10_boundOf 5 = .ok (.aload_n 0, 1) := by decide +kernel
theorem dX10_boundOf_6 : decode cX10_boundOf 6 = .ok (.getfield 10, 3) := by decide +kernel
theorem dX10_boundOf_9 : decode cX10_boundOf 9 = .ok (.getfield 67, 3) := by decide +kernel
theorem dX10_boundOf_12 : decode cX10_boundOf 12 = .ok (.iadd, 1) := by decide +kernel
theorem dX10_boundOf_13 : decode cX10_boundOf 13 = .ok (.invokestatic 62, 3) := by decide +kernel
theorem dX10_boundOf_16 : decode cX10_boundOf 16 = .ok (.ifCond .eq 19, 3) := by decide +kernel
theorem dX10_boundOf_19 : decode cX10_boundOf 19 = .ok (.aload_n 0, 1) := by decide +kernel
theorem dX10_boundOf_20 : decode cX10_boundOf 20 = .ok (.getfield 10, 3) := by decide +kernel
theorem dX10_boundOf_23 : decode cX10_boundOf 23 = .ok (.getfield 105, 3) := by decide +kernel
theorem dX10_boundOf_26 : decode cX10_boundOf 26 = .ok (.getfield 109, 3) := by decide +kernel
theorem dX10_boundOf_29 : decode cX10_boundOf 29 = .ok (.iload_n 1, 1) := by decide +kernel
theorem dX10_boundOf_30 : decode cX10_boundOf 30 = .ok (.bipush 10, 2) := by decide +kernel
theorem dX10_boundOf_32 : decode cX10_boundOf 32 = .ok (.isub, 1) := by decide +kernel
theorem dX10_boundOf_33 : decode cX10_boundOf 33 = .ok (.iaload, 1) := by decide +kernel
theorem dX10_boundOf_34 : decode cX10_boundOf 34 = .ok (.ireturn, 1) := by decide +kernel
theorem dX10_boundOf_35 : decode cX10_boundOf 35 = .ok (.iload_n 1, 1) := by decide +kernel
theorem dX10_boundOf_36 : decode cX10_boundOf 36 = .ok (.bipush 20, 2) := by decide +kernel
theorem dX10_boundOf_38 : decode cX10_boundOf 38 = .ok (.bipush 19, 2) := by decide +kernel
theorem dX10_boundOf_40 : decode cX10_boundOf 40 = .ok (.aload_n 0, 1) := by decide +kernel
theorem dX10_boundOf_41 : decode cX10_boundOf 41 = .ok (.getfield 10, 3) := by decide +kernel
theorem dX10_boundOf_44 : decode cX10_boundOf 44 = .ok (.getfield 67, 3) := by decide +kernel
theorem dX10_boundOf_47 : decode cX10_boundOf 47 = .ok (.iadd, 1) := by decide +kernel
theorem dX10_boundOf_48 : decode cX10_boundOf 48 = .ok (.invokestatic 62, 3) := by decide +kernel
theorem dX10_boundOf_51 : decode cX10_boundOf 51 = .ok (.ifCond .eq 19, 3) := by decide +kernel
theorem dX10_boundOf_54 : decode cX10_boundOf 54 = .ok (.aload_n 0, 1) := by decide +kernel
theorem dX10_boundOf_55 : decode cX10_boundOf 55 = .ok (.getfield 10, 3) := by decide +kernel
theorem dX10_boundOf_58 : decode cX10_boundOf 58 = .ok (.getfield 105, 3) := by decide +kernel
theorem dX10_boundOf_61 : decode cX10_boundOf 61 = .ok (.getfield 114, 3) := by decide +kernel
theorem dX10_boundOf_64 : decode cX10_boundOf 64 = .ok (.iload_n 1, 1) := by decide +kernel
theorem dX10_boundOf_65 : decode cX10_boundOf 65 = .ok (.bipush 20, 2) := by decide +kernel
theorem dX10_boundOf_67 : decode cX10_boundOf 67 = .ok (.isub, 1) := by decide +kernel
theorem dX10_boundOf_68 : decode cX10_boundOf 68 = .ok (.iaload, 1) := by decide +kernel
theorem dX10_boundOf_69 : decode cX10_boundOf 69 = .ok (.ireturn, 1) := by decide +kernel
theorem dX10_boundOf_70 : decode cX10_boundOf 70 = .ok (.ldc 66, 2) := by decide +kernel
theorem dX10_boundOf_72 : decode cX10_boundOf 72 = .ok (.ireturn, 1) := by decide +kernel
theorem dX10_trialOf_0 : decode cX10_trialOf 0 = .ok (.iload_n 1, 1) := by decide +kernel
theorem dX10_trialOf_1 : decode cX10_trialOf 1 = .ok (.ifCond .lt 12, 3) := by decide +kernel
theorem dX10_trialOf_4 : decode cX10_trialOf 4 = .ok (.iload_n 2, 1) := by decide +kernel
theorem dX10_trialOf_5 : decode cX10_trialOf 5 = .ok (.iconst 0, 1) := by decide +kernel
theorem dX10_trialOf_6 : decode cX10_trialOf 6 = .ok (.iconst 1, 1) := by decide +kernel
theorem dX10_trialOf_7 : decode cX10_trialOf 7 = .ok (.invokestatic 62, 3) := by decide +kernel
theorem dX10_trialOf_10 : decode cX10_trialOf 10 = .ok (.ifCond .ne 6, 3) := by decide +kernel
theorem dX10_trialOf_13 : decode cX10_trialOf 13 = .ok (.ldc 66, 2) := by decide +kernel
theorem dX10_trialOf_15 : decode cX10_trialOf 15 = .ok (.ireturn, 1) := by decide +kernel
theorem dX10_trialOf_16 : decode cX10_trialOf 16 = .ok (.aload_n 0, 1) := by decide +kernel
theorem dX10_trialOf_17 : decode cX10_trialOf 17 = .ok (.getfield 44, 3) := by decide +kernel
theorem dX10_trialOf_20 : decode cX10_trialOf 20 = .ok (.aload_n 0, 1) := by decide +kernel
theorem dX10_trialOf_21 : decode cX10_trialOf 21 = .ok (.getfield 10, 3) := by decide +kernel
theorem dX10_trialOf_24 : decode cX10_trialOf 24 = .ok (.aload_n 0, 1) := by decide +kernel
theorem dX10_trialOf_25 : decode cX10_trialOf 25 = .ok (.getfield 10, 3) := by decide +kernel
theorem dX10_trialOf_28 : decode cX10_trialOf 28 = .ok (.getfield 139, 3) := by decide +kernel
theorem dX10_trialOf_31 : decode cX10_trialOf 31 = .ok (.getfield 191, 3) := by decide +kernel
theorem dX10_trialOf_34 : decode cX10_trialOf 34 = .ok (.invokevirtual 220, 3) := by decide +kernel
theorem dX10_trialOf_37 : decode cX10_trialOf 37 = .ok (.iload_n 1, 1) := by decide +kernel
theorem dX10_trialOf_38 : decode cX10_trialOf 38 = .ok (.aload_n 0, 1) := by decide +kernel
theorem dX10_trialOf_39 : decode cX10_trialOf 39 = .ok (.getfield 44, 3) := by decide +kernel
theorem dX10_trialOf_42 : decode cX10_trialOf 42 = .ok (.getfield 224, 3) := by decide +kernel
theorem dX10_trialOf_45 : decode cX10_trialOf 45 = .ok (.if_icmp .lt 6, 3) := by decide +kernel
theorem dX10_trialOf_48 : decode cX10_trialOf 48 = .ok (.ldc 178, 2) := by decide +kernel
theorem dX10_trialOf_50 : decode cX10_trialOf 50 = .ok (.ireturn, 1) := by decide +kernel
theorem dX10_trialOf_51 : decode cX10_trialOf 51 = .ok (.iload_n 2, 1) := by decide +kernel
theorem dX10_trialOf_52 : decode cX10_trialOf 52 = .ok (.ifCond .ne 15, 3) := by decide +kernel
theorem dX10_trialOf_55 : decode cX10_trialOf 55 = .ok (.aload_n 0, 1) := by decide +kernel
theorem dX10_trialOf_56 : decode cX10_trialOf 56 = .ok (.getfield 44, 3) := by decide +kernel
theorem dX10_trialOf_59 : decode cX10_trialOf 59 = .ok (.getfield 225, 3) := by decide +kernel
theorem dX10_trialOf_62 : decode cX10_trialOf 62 = .ok (.iload_n 1, 1) := by decide +kernel
theorem dX10_trialOf_63 : decode cX10_trialOf 63 = .ok (.iaload, 1) := by decide +kernel
theorem dX10_trialOf_64 : decode cX10_trialOf 64 = .ok (.goto 14, 3) := by decide +kernel
theorem dX10_trialOf_67 : decode cX10_trialOf 67 = .ok (.aload_n 0, 1) := by decide +kernel
theorem dX10_trialOf_68 : decode cX10_trialOf 68 = .ok (.getfield 44, 3) := by decide +kernel
theorem dX10_trialOf_71 : decode cX10_trialOf 71 = .ok (.iload_n 1, 1) := by decide +kernel
theorem dX10_trialOf_72 : decode cX10_trialOf 72 = .ok (.invokevirtual 227, 3) := by decide +kernel
theorem dX10_trialOf_75 : decode cX10_trialOf 75 = .ok (.invokestatic 121, 3) := by decide +kernel
theorem dX10_trialOf_78 : decode cX10_trialOf 78 = .ok (.ireturn, 1) := by decide +kernel
theorem dX10_spans_0 : decode cX10_spans 0 = .ok (.aload_n 0, 1) := by decide +kernel
theorem dX10_spans_1 : decode cX10_spans 1 = .ok (.getfield 58, 3) := by decide +kernel
theorem dX10_spans_4 : decode cX10_spans 4 = .ok (.aload_n 0, 1) := by decide +kernel
theorem dX10_spans_5 : decode cX10_spans 5 = .ok (.getfield 10, 3) := by decide +kernel
theorem dX10_spans_8 : decode cX10_spans 8 = .ok (.getfield 125, 3) := by decide +kernel
theorem dX10_spans_11 : decode cX10_spans 11 = .ok (.aload_n 0, 1) := by decide +kernel
theorem dX10_spans_12 : decode cX10_spans 12 = .ok (.getfield 10, 3) := by decide +kernel
theorem dX10_spans_15 : decode cX10_spans 15 = .ok (.getfield 67, 3) := by decide +kernel
theorem dX10_spans_18 : decode cX10_spans 18 = .ok (.invokevirtual 230, 3) := by decide +kernel
theorem dX10_spans_21 : decode cX10_spans 21 = .ok (.invokestatic 121, 3) := by decide +kernel
theorem dX10_spans_24 : decode cX10_spans 24 = .ok (.ireturn, 1) := by decide +kernel
theorem dX10_stuck_0 : decode cX10_stuck 0 = .ok (.iload_n 1, 1) := by decide +kernel
theorem dX10_stuck_1 : decode cX10_stuck 1 = .ok (.iconst 0, 1) := by decide +kernel
theorem dX10_stuck_2 : decode cX10_stuck 2 = .ok (.iconst 4, 1) := by decide +kernel
theorem dX10_stuck_3 : decode cX10_stuck 3 = .ok (.invokestatic 62, 3) := by decide +kernel
theorem dX10_stuck_6 : decode cX10_stuck 6 = .ok (.ifCond .ne 6, 3) := by decide +kernel
theorem dX10_stuck_9 : decode cX10_stuck 9 = .ok (.ldc 66, 2) := by decide +kernel
theorem dX10_stuck_11 : decode cX10_stuck 11 = .ok (.ireturn, 1) := by decide +kernel
theorem dX10_stuck_12 : decode cX10_stuck 12 = .ok (.aload_n 0, 1) := by decide +kernel
theorem dX10_stuck_13 : decode cX10_stuck 13 = .ok (.getfield 10, 3) := by decide +kernel
theorem dX10_stuck_16 : decode cX10_stuck 16 = .ok (.invokevirtual 117, 3) := by decide +kernel
theorem dX10_stuck_19 : decode cX10_stuck 19 = .ok (.ifCond .ne 6, 3) := by decide +kernel
theorem dX10_stuck_22 : decode cX10_stuck 22 = .ok (.ldc 93, 2) := by decide +kernel
theorem dX10_stuck_24 : decode cX10_stuck 24 = .ok (.ireturn, 1) := by decide +kernel
theorem dX10_stuck_25 : decode cX10_stuck 25 = .ok (.aload_n 0, 1) := by decide +kernel
theorem dX10_stuck_26 : decode cX10_stuck 26 = .ok (.getfield 44, 3) := by decide +kernel
theorem dX10_stuck_29 : decode cX10_stuck 29 = .ok (.aload_n 0, 1) := by decide +kernel
theorem dX10_stuck_30 : decode cX10_stuck 30 = .ok (.getfield 10, 3) := by decide +kernel
theorem dX10_stuck_33 : decode cX10_stuck 33 = .ok (.iconst 1, 1) := by decide +kernel
theorem dX10_stuck_34 : decode cX10_stuck 34 = .ok (.iload_n 1, 1) := by decide +kernel
theorem dX10_stuck_35 : decode cX10_stuck 35 = .ok (.ishl, 1) := by decide +kernel
theorem dX10_stuck_36 : decode cX10_stuck 36 = .ok (.invokevirtual 220, 3) := by decide +kernel
theorem dX10_stuck_39 : decode cX10_stuck 39 = .ok (.aload_n 0, 1) := by decide +kernel
theorem dX10_stuck_40 : decode cX10_stuck 40 = .ok (.getfield 44, 3) := by decide +kernel
theorem dX10_stuck_43 : decode cX10_stuck 43 = .ok (.invokevirtual 234, 3) := by decide +kernel
theorem dX10_stuck_46 : decode cX10_stuck 46 = .ok (.invokestatic 121, 3) := by decide +kernel
theorem dX10_stuck_49 : decode cX10_stuck 49 = .ok (.ireturn, 1) := by decide +kernel
theorem dX10_around_0 : decode cX10_around 0 = .ok (.iload_n 1, 1) := by decide +kernel
theorem dX10_around_1 : decode cX10_around 1 = .ok (.iconst 0, 1) := by decide +kernel
theorem dX10_around_2 : decode cX10_around 2 = .ok (.iconst 3, 1) := by decide +kernel
theorem dX10_around_3 : decode cX10_around 3 = .ok (.invokestatic 62, 3) := by decide +kernel
theorem dX10_around_6 : decode cX10_around 6 = .ok (.ifCond .eq 12, 3) := by decide +kernel
theorem dX10_around_9 : decode cX10_around 9 = .ok (.iload_n 2, 1) := by decide +kernel
theorem dX10_around_10 : decode cX10_around 10 = .ok (.iconst 0, 1) := by decide +kernel
theorem dX10_around_11 : decode cX10_around 11 = .ok (.iconst 2, 1) := by decide +kernel
theorem dX10_around_12 : decode cX10_around 12 = .ok (.invokestatic 62, 3) := by decide +kernel
theorem dX10_around_15 : decode cX10_around 15 = .ok (.ifCond .ne 6, 3) := by decide +kernel
theorem dX10_around_18 : decode cX10_around 18 = .ok (.ldc 66, 2) := by decide +kernel
theorem dX10_around_20 : decode cX10_around 20 = .ok (.ireturn, 1) := by decide +kernel
theorem dX10_around_21 : decode cX10_around 21 = .ok (.aload_n 0, 1) := by decide +kernel
theorem dX10_around_22 : decode cX10_around 22 = .ok (.getfield 10, 3) := by decide +kernel
theorem dX10_around_25 : decode cX10_around 25 = .ok (.invokevirtual 117, 3) := by decide +kernel
theorem dX10_around_28 : decode cX10_around 28 = .ok (.ifCond .ne 6, 3) := by decide +kernel
theorem dX10_around_31 : decode cX10_around 31 = .ok (.ldc 93, 2) := by decide +kernel
theorem dX10_around_33 : decode cX10_around 33 = .ok (.ireturn, 1) := by decide +kernel
theorem dX10_around_34 : decode cX10_around 34 = .ok (.aload_n 0, 1) := by decide +kernel
theorem dX10_around_35 : decode cX10_around 35 = .ok (.getfield 51, 3) := by decide +kernel
theorem dX10_around_38 : decode cX10_around 38 = .ok (.aload_n 0, 1) := by decide +kernel
theorem dX10_around_39 : decode cX10_around 39 = .ok (.getfield 10, 3) := by decide +kernel
theorem dX10_around_42 : decode cX10_around 42 = .ok (.iload_n 1, 1) := by decide +kernel
theorem dX10_around_43 : decode cX10_around 43 = .ok (.invokevirtual 237, 3) := by decide +kernel
theorem dX10_around_46 : decode cX10_around 46 = .ok (.aload_n 0, 1) := by decide +kernel
theorem dX10_around_47 : decode cX10_around 47 = .ok (.getfield 51, 3) := by decide +kernel
theorem dX10_around_50 : decode cX10_around 50 = .ok (.getfield 240, 3) := by decide +kernel
theorem dX10_around_53 : decode cX10_around 53 = .ok (.iload_n 2, 1) := by decide +kernel
theorem dX10_around_54 : decode cX10_around 54 = .ok (.iaload, 1) := by decide +kernel
theorem dX10_around_55 : decode cX10_around 55 = .ok (.ireturn, 1) := by decide +kernel
theorem dX10_within_0 : decode cX10_within 0 = .ok (.iload_n 1, 1) := by decide +kernel
theorem dX10_within_1 : decode cX10_within 1 = .ok (.iload_n 0, 1) := by decide +kernel
theorem dX10_within_2 : decode cX10_within 2 = .ok (.if_icmp .gt 12, 3) := by decide +kernel
theorem dX10_within_5 : decode cX10_within 5 = .ok (.iload_n 0, 1) := by decide +kernel
theorem dX10_within_6 : decode cX10_within 6 = .ok (.iload_n 2, 1) := by decide +kernel
theorem dX10_within_7 : decode cX10_within 7 = .ok (.if_icmp .gt 7, 3) := by decide +kernel
theorem dX10_within_10 : decode cX10_within 10 = .ok (.iconst 1, 1) := by decide +kernel
theorem dX10_within_11 : decode cX10_within 11 = .ok (.goto 4, 3) := by decide +kernel
theorem dX10_within_14 : decode cX10_within 14 = .ok (.iconst 0, 1) := by decide +kernel
theorem dX10_within_15 : decode cX10_within 15 = .ok (.ireturn, 1) := by decide +kernel
theorem dX10_oneIf_0 : decode cX10_oneIf 0 = .ok (.iload_n 0, 1) := by decide +kernel
theorem dX10_oneIf_1 : decode cX10_oneIf 1 = .ok (.ifCond .eq 7, 3) := by decide +kernel
theorem dX10_oneIf_4 : decode cX10_oneIf 4 = .ok (.iconst 1, 1) := by decide +kernel
theorem dX10_oneIf_5 : decode cX10_oneIf 5 = .ok (.goto 4, 3) := by decide +kernel
theorem dX10_oneIf_8 : decode cX10_oneIf 8 = .ok (.iconst 0, 1) := by decide +kernel
theorem dX10_oneIf_9 : decode cX10_oneIf 9 = .ok (.ireturn, 1) := by decide +kernel
theorem dX10_closeGap_0 : decode cX10_closeGap 0 = .ok (.iload_n 1, 1) := by decide +kernel
theorem dX10_closeGap_1 : decode cX10_closeGap 1 = .ok (.iload_n 2, 1) := by decide +kernel
theorem dX10_closeGap_2 : decode cX10_closeGap 2 = .ok (.imul, 1) := by decide +kernel
theorem dX10_closeGap_3 : decode cX10_closeGap 3 = .ok (.istore 4, 2) := by decide +kernel
theorem dX10_closeGap_5 : decode cX10_closeGap 5 = .ok (.iload 4, 2) := by decide +kernel
theorem dX10_closeGap_7 : decode cX10_closeGap 7 = .ok (.iload_n 1, 1) := by decide +kernel
theorem dX10_closeGap_8 : decode cX10_closeGap 8 = .ok (.iadd, 1) := by decide +kernel
theorem dX10_closeGap_9 : decode cX10_closeGap 9 = .ok (.iload_n 1, 1) := by decide +kernel
theorem dX10_closeGap_10 : decode cX10_closeGap 10 = .ok (.iload_n 3, 1) := by decide +kernel
theorem dX10_closeGap_11 : decode cX10_closeGap 11 = .ok (.imul, 1) := by decide +kernel
theorem dX10_closeGap_12 : decode cX10_closeGap 12 = .ok (.if_icmp .ge 19, 3) := by decide +kernel
theorem dX10_closeGap_15 : decode cX10_closeGap 15 = .ok (.aload_n 0, 1) := by decide +kernel
theorem dX10_closeGap_16 : decode cX10_closeGap 16 = .ok (.iload 4, 2) := by decide +kernel
theorem dX10_closeGap_18 : decode cX10_closeGap 18 = .ok (.aload_n 0, 1) := by decide +kernel
theorem dX10_closeGap_19 : decode cX10_closeGap 19 = .ok (.iload 4, 2) := by decide +kernel
theorem dX10_closeGap_21 : decode cX10_closeGap 21 = .ok (.iload_n 1, 1) := by decide +kernel
theorem dX10_closeGap_22 : decode cX10_closeGap 22 = .ok (.iadd, 1) := by decide +kernel
theorem dX10_closeGap_23 : decode cX10_closeGap 23 = .ok (.iaload, 1) := by decide +kernel
theorem dX10_closeGap_24 : decode cX10_closeGap 24 = .ok (.iastore, 1) := by decide +kernel
theorem dX10_closeGap_25 : decode cX10_closeGap 25 = .ok (.iinc 4 1, 3) := by decide +kernel
theorem dX10_closeGap_28 : decode cX10_closeGap 28 = .ok (.goto (-23), 3) := by decide +kernel
theorem dX10_closeGap_31 : decode cX10_closeGap 31 = .ok (.return_, 1) := by decide +kernel
theorem dJ9_max_7cf53_0 : decode cJ9_max_7cf53 0 = .ok (.iload_n 0, 1) := by decide +kernel
theorem dJ9_max_7cf53_1 : decode cJ9_max_7cf53 1 = .ok (.iload_n 1, 1) := by decide +kernel
theorem dJ9_max_7cf53_2 : decode cJ9_max_7cf53 2 = .ok (.if_icmp .lt 7, 3) := by decide +kernel
theorem dJ9_max_7cf53_5 : decode cJ9_max_7cf53 5 = .ok (.iload_n 0, 1) := by decide +kernel
theorem dJ9_max_7cf53_6 : decode cJ9_max_7cf53 6 = .ok (.goto 4, 3) := by decide +kernel
theorem dJ9_max_7cf53_9 : decode cJ9_max_7cf53 9 = .ok (.iload_n 1, 1) := by decide +kernel
theorem dJ9_max_7cf53_10 : decode cJ9_max_7cf53 10 = .ok (.ireturn, 1) := by decide +kernel
theorem dJ9_min_7cf53_0 : decode cJ9_min_7cf53 0 = .ok (.iload_n 0, 1) := by decide +kernel
theorem dJ9_min_7cf53_1 : decode cJ9_min_7cf53 1 = .ok (.iload_n 1, 1) := by decide +kernel
theorem dJ9_min_7cf53_2 : decode cJ9_min_7cf53 2 = .ok (.if_icmp .gt 7, 3) := by decide +kernel
theorem dJ9_min_7cf53_5 : decode cJ9_min_7cf53 5 = .ok (.iload_n 0, 1) := by decide +kernel
theorem dJ9_min_7cf53_6 : decode cJ9_min_7cf53 6 = .ok (.goto 4, 3) := by decide +kernel
theorem dJ9_min_7cf53_9 : decode cJ9_min_7cf53 9 = .ok (.iload_n 1, 1) := by decide +kernel
theorem dJ9_min_7cf53_10 : decode cJ9_min_7cf53 10 = .ok (.ireturn, 1) := by decide +kernel
theorem dL_cell_0 : decode cL_cell 0 = .ok (.iload_n 1, 1) := by decide +kernel
theorem dL_cell_1 : decode cL_cell 1 = .ok (.aload_n 0, 1) := by decide +kernel
theorem dL_cell_2 : decode cL_cell 2 = .ok (.arraylength, 1) := by decide +kernel
theorem dL_cell_3 : decode cL_cell 3 = .ok (.if_icmp .ge 9, 3) := by decide +kernel
theorem dL_cell_6 : decode cL_cell 6 = .ok (.aload_n 0, 1) := by decide +kernel
theorem dL_cell_7 : decode cL_cell 7 = .ok (.iload_n 1, 1) := by decide +kernel
theorem dL_cell_8 : decode cL_cell 8 = .ok (.iaload, 1) := by decide +kernel
theorem dL_cell_9 : decode cL_cell 9 = .ok (.goto 10, 3) := by decide +kernel
theorem dL_cell_12 : decode cL_cell 12 = .ok (.ldc 7, 2) := by decide +kernel
theorem dL_cell_14 : decode cL_cell 14 = .ok (.iload_n 1, 1) := by decide +kernel
theorem dL_cell_15 : decode cL_cell 15 = .ok (.imul, 1) := by decide +kernel
theorem dL_cell_16 : decode cL_cell 16 = .ok (.ldc 8, 2) := by decide +kernel
theorem dL_cell_18 : decode cL_cell 18 = .ok (.iadd, 1) := by decide +kernel
theorem dL_cell_19 : decode cL_cell 19 = .ok (.ireturn, 1) := by decide +kernel
theorem dL_low_0 : decode cL_low 0 = .ok (.iload_n 0, 1) := by decide +kernel
theorem dL_low_1 : decode cL_low 1 = .ok (.ldc 9, 2) := by decide +kernel
theorem dL_low_3 : decode cL_low 3 = .ok (.iand, 1) := by decide +kernel
theorem dL_low_4 : decode cL_low 4 = .ok (.iload_n 1, 1) := by decide +kernel
theorem dL_low_5 : decode cL_low 5 = .ok (.irem, 1) := by decide +kernel
theorem dL_low_6 : decode cL_low 6 = .ok (.ireturn, 1) := by decide +kernel
theorem dL_build_0 : decode cL_build 0 = .ok (.aload_n 0, 1) := by decide +kernel
theorem dL_build_1 : decode cL_build 1 = .ok (.iload_n 2, 1) := by decide +kernel
theorem dL_build_2 : decode cL_build 2 = .ok (.invokevirtual 10, 3) := by decide +kernel
theorem dL_build_5 : decode cL_build 5 = .ok (.iconst 2, 1) := by decide +kernel
theorem dL_build_6 : decode cL_build 6 = .ok (.if_icmp .ne 43, 3) := by decide +kernel
theorem dL_build_9 : decode cL_build 9 = .ok (.aload_n 0, 1) := by decide +kernel
theorem dL_build_10 : decode cL_build 10 = .ok (.iconst 0, 1) := by decide +kernel
theorem dL_build_11 : decode cL_build 11 = .ok (.invokevirtual 16, 3) := by decide +kernel
theorem dL_build_14 : decode cL_build 14 = .ok (.iload_n 2, 1) := by decide +kernel
theorem dL_build_15 : decode cL_build 15 = .ok (.if_icmp .ne 34, 3) := by decide +kernel
theorem dL_build_18 : decode cL_build 18 = .ok (.aload_n 0, 1) := by decide +kernel
theorem dL_build_19 : decode cL_build 19 = .ok (.iconst 2, 1) := by decide +kernel
theorem dL_build_20 : decode cL_build 20 = .ok (.invokevirtual 16, 3) := by decide +kernel
theorem dL_build_23 : decode cL_build 23 = .ok (.iconst 2, 1) := by decide +kernel
theorem dL_build_24 : decode cL_build 24 = .ok (.iload_n 2, 1) := by decide +kernel
theorem dL_build_25 : decode cL_build 25 = .ok (.imul, 1) := by decide +kernel
theorem dL_build_26 : decode cL_build 26 = .ok (.if_icmp .ne 23, 3) := by decide +kernel
theorem dL_build_29 : decode cL_build 29 = .ok (.aload_n 0, 1) := by decide +kernel
theorem dL_build_30 : decode cL_build 30 = .ok (.iconst 1, 1) := by decide +kernel
theorem dL_build_31 : decode cL_build 31 = .ok (.invokevirtual 16, 3) := by decide +kernel
theorem dL_build_34 : decode cL_build 34 = .ok (.ifCond .ne 15, 3) := by decide +kernel
theorem dL_build_37 : decode cL_build 37 = .ok (.aload_n 0, 1) := by decide +kernel
theorem dL_build_38 : decode cL_build 38 = .ok (.invokevirtual 19, 3) := by decide +kernel
theorem dL_build_41 : decode cL_build 41 = .ok (.iconst 1, 1) := by decide +kernel
theorem dL_build_42 : decode cL_build 42 = .ok (.if_icmp .ne 7, 3) := by decide +kernel
theorem dL_build_45 : decode cL_build 45 = .ok (.iconst 1, 1) := by decide +kernel
theorem dL_build_46 : decode cL_build 46 = .ok (.goto 4, 3) := by decide +kernel
theorem dL_build_49 : decode cL_build 49 = .ok (.iconst 0, 1) := by decide +kernel
theorem dL_build_50 : decode cL_build 50 = .ok (.istore_n 3, 1) := by decide +kernel
theorem dL_build_51 : decode cL_build 51 = .ok (.aload_n 1, 1) := by decide +kernel
theorem dL_build_52 : decode cL_build 52 = .ok (.iconst 1, 1) := by decide +kernel
theorem dL_build_53 : decode cL_build 53 = .ok (.invokestatic 23, 3) := by decide +kernel
theorem dL_build_56 : decode cL_build 56 = .ok (.bipush 7, 2) := by decide +kernel
theorem dL_build_58 : decode cL_build 58 = .ok (.invokestatic 29, 3) := by decide +kernel
theorem dL_build_61 : decode cL_build 61 = .ok (.istore 4, 2) := by decide +kernel
theorem dL_build_63 : decode cL_build 63 = .ok (.iconst 0, 1) := by decide +kernel
theorem dL_build_64 : decode cL_build 64 = .ok (.istore 5, 2) := by decide +kernel
theorem dL_build_66 : decode cL_build 66 = .ok (.iload 5, 2) := by decide +kernel
theorem dL_build_68 : decode cL_build 68 = .ok (.iload 4, 2) := by decide +kernel
theorem dL_build_70 : decode cL_build 70 = .ok (.if_icmp .ge 148, 3) := by decide +kernel
theorem dL_build_73 : decode cL_build 73 = .ok (.iload_n 3, 1) := by decide +kernel
theorem dL_build_74 : decode cL_build 74 = .ok (.ifCond .eq 144, 3) := by decide +kernel
theorem dL_build_77 : decode cL_build 77 = .ok (.aload_n 1, 1) := by decide +kernel
theorem dL_build_78 : decode cL_build 78 = .ok (.iconst 2, 1) := by decide +kernel
theorem dL_build_79 : decode cL_build 79 = .ok (.iload 5, 2) := by decide +kernel
theorem dL_build_81 : decode cL_build 81 = .ok (.iadd, 1) := by decide +kernel
theorem dL_build_82 : decode cL_build 82 = .ok (.invokestatic 23, 3) := by decide +kernel
theorem dL_build_85 : decode cL_build 85 = .ok (.istore 6, 2) := by decide +kernel
theorem dL_build_87 : decode cL_build 87 = .ok (.iload 6, 2) := by decide +kernel
theorem dL_build_89 : decode cL_build 89 = .ok (.bipush 8, 2) := by decide +kernel
theorem dL_build_91 : decode cL_build 91 = .ok (.ishr, 1) := by decide +kernel
theorem dL_build_92 : decode cL_build 92 = .ok (.iconst 3, 1) := by decide +kernel
theorem dL_build_93 : decode cL_build 93 = .ok (.invokestatic 29, 3) := by decide +kernel
theorem dL_build_96 : decode cL_build 96 = .ok (.istore 7, 2) := by decide +kernel
theorem dL_build_98 : decode cL_build 98 = .ok (.iload_n 2, 1) := by decide +kernel
theorem dL_build_99 : decode cL_build 99 = .ok (.iconst 1, 1) := by decide +kernel
theorem dL_build_100 : decode cL_build 100 = .ok (.if_icmp .le 15, 3) := by decide +kernel
theorem dL_build_103 : decode cL_build 103 = .ok (.iload 6, 2) := by decide +kernel
theorem dL_build_105 : decode cL_build 105 = .ok (.bipush 10, 2) := by decide +kernel
theorem dL_build_107 : decode cL_build 107 = .ok (.ishr, 1) := by decide +kernel
theorem dL_build_108 : decode cL_build 108 = .ok (.iconst 3, 1) := by decide +kernel
theorem dL_build_109 : decode cL_build 109 = .ok (.invokestatic 29, 3) := by decide +kernel
theorem dL_build_112 : decode cL_build 112 = .ok (.goto 4, 3) := by decide +kernel
theorem dL_build_115 : decode cL_build 115 = .ok (.iconst 0, 1) := by decide +kernel
theorem dL_build_116 : decode cL_build 116 = .ok (.istore 8, 2) := by decide +kernel
theorem dL_build_118 : decode cL_build 118 = .ok (.iload_n 2, 1) := by decide +kernel
theorem dL_build_119 : decode cL_build 119 = .ok (.iconst 2, 1) := by decide +kernel
theorem dL_build_120 : decode cL_build 120 = .ok (.if_icmp .le 15, 3) := by decide +kernel
theorem dL_build_123 : decode cL_build 123 = .ok (.iload 6, 2) := by decide +kernel
theorem dL_build_125 : decode cL_build 125 = .ok (.bipush 12, 2) := by decide +kernel
theorem dL_build_127 : decode cL_build 127 = .ok (.ishr, 1) := by decide +kernel
theorem dL_build_128 : decode cL_build 128 = .ok (.iconst 2, 1) := by decide +kernel
theorem dL_build_129 : decode cL_build 129 = .ok (.invokestatic 29, 3) := by decide +kernel
theorem dL_build_132 : decode cL_build 132 = .ok (.goto 4, 3) := by decide +kernel
theorem dL_build_135 : decode cL_build 135 = .ok (.iconst 0, 1) := by decide +kernel
theorem dL_build_136 : decode cL_build 136 = .ok (.istore 9, 2) := by decide +kernel
theorem dL_build_138 : decode cL_build 138 = .ok (.iload 6, 2) := by decide +kernel
theorem dL_build_140 : decode cL_build 140 = .ok (.iconst 2, 1) := by decide +kernel
theorem dL_build_141 : decode cL_build 141 = .ok (.invokestatic 29, 3) := by decide +kernel
theorem dL_build_144 : decode cL_build 144 = .ok (.ifCond .ne 17, 3) := by decide +kernel
theorem dL_build_147 : decode cL_build 147 = .ok (.iconst 1, 1) := by decide +kernel
theorem dL_build_148 : decode cL_build 148 = .ok (.iload 6, 2) := by decide +kernel
theorem dL_build_150 : decode cL_build 150 = .ok (.iconst 1, 1) := by decide +kernel
theorem dL_build_151 : decode cL_build 151 = .ok (.ishr, 1) := by decide +kernel
theorem dL_build_152 : decode cL_build 152 = .ok (.bipush 9, 2) := by decide +kernel
theorem dL_build_154 : decode cL_build 154 = .ok (.invokestatic 29, 3) := by decide +kernel
theorem dL_build_157 : decode cL_build 157 = .ok (.iadd, 1) := by decide +kernel
theorem dL_build_158 : decode cL_build 158 = .ok (.goto 14, 3) := by decide +kernel
theorem dL_build_161 : decode cL_build 161 = .ok (.iconst (-1), 1) := by decide +kernel
theorem dL_build_162 : decode cL_build 162 = .ok (.iload 6, 2) := by decide +kernel
theorem dL_build_164 : decode cL_build 164 = .ok (.iconst 1, 1) := by decide +kernel
theorem dL_build_165 : decode cL_build 165 = .ok (.ishr, 1) := by decide +kernel
theorem dL_build_166 : decode cL_build 166 = .ok (.bipush 9, 2) := by decide +kernel
theorem dL_build_168 : decode cL_build 168 = .ok (.invokestatic 29, 3) := by decide +kernel
theorem dL_build_171 : decode cL_build 171 = .ok (.isub, 1) := by decide +kernel
theorem dL_build_172 : decode cL_build 172 = .ok (.istore 10, 2) := by decide +kernel
theorem dL_build_174 : decode cL_build 174 = .ok (.iload 7, 2) := by decide +kernel
theorem dL_build_176 : decode cL_build 176 = .ok (.iload 8, 2) := by decide +kernel
theorem dL_build_178 : decode cL_build 178 = .ok (.iadd, 1) := by decide +kernel
theorem dL_build_179 : decode cL_build 179 = .ok (.iload 9, 2) := by decide +kernel
theorem dL_build_181 : decode cL_build 181 = .ok (.iadd, 1) := by decide +kernel
theorem dL_build_182 : decode cL_build 182 = .ok (.iconst 4, 1) := by decide +kernel
theorem dL_build_183 : decode cL_build 183 = .ok (.if_icmp .gt 23, 3) := by decide +kernel
theorem dL_build_186 : decode cL_build 186 = .ok (.aload_n 0, 1) := by decide +kernel
theorem dL_build_187 : decode cL_build 187 = .ok (.iload 10, 2) := by decide +kernel
theorem dL_build_189 : decode cL_build 189 = .ok (.iload 7, 2) := by decide +kernel
theorem dL_build_191 : decode cL_build 191 = .ok (.iload 8, 2) := by decide +kernel
theorem dL_build_193 : decode cL_build 193 = .ok (.iload 9, 2) := by decide +kernel
theorem dL_build_195 : decode cL_build 195 = .ok (.invokevirtual 33, 3) := by decide +kernel
theorem dL_build_198 : decode cL_build 198 = .ok (.aload_n 0, 1) := by decide +kernel
theorem dL_build_199 : decode cL_build 199 = .ok (.iconst 1, 1) := by decide +kernel
theorem dL_build_200 : decode cL_build 200 = .ok (.invokevirtual 16, 3) := by decide +kernel
theorem dL_build_203 : decode cL_build 203 = .ok (.if_icmp .ne 7, 3) := by decide +kernel
theorem dL_build_206 : decode cL_build 206 = .ok (.iconst 1, 1) := by decide +kernel
theorem dL_build_207 : decode cL_build 207 = .ok (.goto 4, 3) := by decide +kernel
theorem dL_build_210 : decode cL_build 210 = .ok (.iconst 0, 1) := by decide +kernel
theorem dL_build_211 : decode cL_build 211 = .ok (.istore_n 3, 1) := by decide +kernel
theorem dL_build_212 : decode cL_build 212 = .ok (.iinc 5 1, 3) := by decide +kernel
theorem dL_build_215 : decode cL_build 215 = .ok (.goto (-149), 3) := by decide +kernel
theorem dL_build_218 : decode cL_build 218 = .ok (.iconst 0, 1) := by decide +kernel
theorem dL_build_219 : decode cL_build 219 = .ok (.istore 5, 2) := by decide +kernel
theorem dL_build_221 : decode cL_build 221 = .ok (.iload 5, 2) := by decide +kernel
theorem dL_build_223 : decode cL_build 223 = .ok (.iconst 4, 1) := by decide +kernel
theorem dL_build_224 : decode cL_build 224 = .ok (.if_icmp .ge 193, 3) := by decide +kernel
theorem dL_build_227 : decode cL_build 227 = .ok (.iload_n 3, 1) := by decide +kernel
theorem dL_build_228 : decode cL_build 228 = .ok (.ifCond .eq 189, 3) := by decide +kernel
theorem dL_build_231 : decode cL_build 231 = .ok (.aload_n 1, 1) := by decide +kernel
theorem dL_build_232 : decode cL_build 232 = .ok (.bipush 10, 2) := by decide +kernel
theorem dL_build_234 : decode cL_build 234 = .ok (.iload 5, 2) := by decide +kernel
theorem dL_build_236 : decode cL_build 236 = .ok (.iadd, 1) := by decide +kernel
theorem dL_build_237 : decode cL_build 237 = .ok (.invokestatic 23, 3) := by decide +kernel
theorem dL_build_240 : decode cL_build 240 = .ok (.istore 6, 2) := by decide +kernel
theorem dL_build_242 : decode cL_build 242 = .ok (.iload 6, 2) := by decide +kernel
theorem dL_build_244 : decode cL_build 244 = .ok (.bipush 7, 2) := by decide +kernel
theorem dL_build_246 : decode cL_build 246 = .ok (.invokestatic 29, 3) := by decide +kernel
theorem dL_build_249 : decode cL_build 249 = .ok (.iconst 3, 1) := by decide +kernel
theorem dL_build_250 : decode cL_build 250 = .ok (.isub, 1) := by decide +kernel
theorem dL_build_251 : decode cL_build 251 = .ok (.istore 7, 2) := by decide +kernel
theorem dL_build_253 : decode cL_build 253 = .ok (.iload_n 2, 1) := by decide +kernel
theorem dL_build_254 : decode cL_build 254 = .ok (.iconst 1, 1) := by decide +kernel
theorem dL_build_255 : decode cL_build 255 = .ok (.if_icmp .le 17, 3) := by decide +kernel
theorem dL_build_258 : decode cL_build 258 = .ok (.iload 6, 2) := by decide +kernel
theorem dL_build_260 : decode cL_build 260 = .ok (.iconst 3, 1) := by decide +kernel
theorem dL_build_261 : decode cL_build 261 = .ok (.ishr, 1) := by decide +kernel
theorem dL_build_262 : decode cL_build 262 = .ok (.bipush 7, 2) := by decide +kernel
theorem dL_build_264 : decode cL_build 264 = .ok (.invokestatic 29, 3) := by decide +kernel
theorem dL_build_267 : decode cL_build 267 = .ok (.iconst 3, 1) := by decide +kernel
theorem dL_build_268 : decode cL_build 268 = .ok (.isub, 1) := by decide +kernel
theorem dL_build_269 : decode cL_build 269 = .ok (.goto 4, 3) := by decide +kernel
theorem dL_build_272 : decode cL_build 272 = .ok (.iconst 0, 1) := by decide +kernel
theorem dL_build_273 : decode cL_build 273 = .ok (.istore 8, 2) := by decide +kernel
theorem dL_build_275 : decode cL_build 275 = .ok (.iload_n 2, 1) := by decide +kernel
theorem dL_build_276 : decode cL_build 276 = .ok (.iconst 2, 1) := by decide +kernel
theorem dL_build_277 : decode cL_build 277 = .ok (.if_icmp .le 18, 3) := by decide +kernel
theorem dL_build_280 : decode cL_build 280 = .ok (.iload 6, 2) := by decide +kernel
theorem dL_build_282 : decode cL_build 282 = .ok (.bipush 6, 2) := by decide +kernel
theorem dL_build_284 : decode cL_build 284 = .ok (.ishr, 1) := by decide +kernel
theorem dL_build_285 : decode cL_build 285 = .ok (.bipush 7, 2) := by decide +kernel
theorem dL_build_287 : decode cL_build 287 = .ok (.invokestatic 29, 3) := by decide +kernel
theorem dL_build_290 : decode cL_build 290 = .ok (.iconst 3, 1) := by decide +kernel
theorem dL_build_291 : decode cL_build 291 = .ok (.isub, 1) := by decide +kernel
theorem dL_build_292 : decode cL_build 292 = .ok (.goto 4, 3) := by decide +kernel
theorem dL_build_295 : decode cL_build 295 = .ok (.iconst 0, 1) := by decide +kernel
theorem dL_build_296 : decode cL_build 296 = .ok (.istore 9, 2) := by decide +kernel
theorem dL_build_298 : decode cL_build 298 = .ok (.aload_n 0, 1) := by decide +kernel
theorem dL_build_299 : decode cL_build 299 = .ok (.iconst 2, 1) := by decide +kernel
theorem dL_build_300 : decode cL_build 300 = .ok (.invokevirtual 16, 3) := by decide +kernel
theorem dL_build_303 : decode cL_build 303 = .ok (.istore 10, 2) := by decide +kernel
theorem dL_build_305 : decode cL_build 305 = .ok (.iload 6, 2) := by decide +kernel
theorem dL_build_307 : decode cL_build 307 = .ok (.bipush 12, 2) := by decide +kernel
theorem dL_build_309 : decode cL_build 309 = .ok (.ishr, 1) := by decide +kernel
theorem dL_build_310 : decode cL_build 310 = .ok (.iconst 3, 1) := by decide +kernel
theorem dL_build_311 : decode cL_build 311 = .ok (.invokestatic 29, 3) := by decide +kernel
theorem dL_build_314 : decode cL_build 314 = .ok (.ifCond .ne 38, 3) := by decide +kernel
theorem dL_build_317 : decode cL_build 317 = .ok (.iload 10, 2) := by decide +kernel
theorem dL_build_319 : decode cL_build 319 = .ok (.ifCond .le 33, 3) := by decide +kernel
theorem dL_build_322 : decode cL_build 322 = .ok (.aload_n 0, 1) := by decide +kernel
theorem dL_build_323 : decode cL_build 323 = .ok (.iload 6, 2) := by decide +kernel
theorem dL_build_325 : decode cL_build 325 = .ok (.bipush 14, 2) := by decide +kernel
theorem dL_build_327 : decode cL_build 327 = .ok (.ishr, 1) := by decide +kernel
theorem dL_build_328 : decode cL_build 328 = .ok (.iload 10, 2) := by decide +kernel
theorem dL_build_330 : decode cL_build 330 = .ok (.invokestatic 29, 3) := by decide +kernel
theorem dL_build_333 : decode cL_build 333 = .ok (.invokevirtual 37, 3) := by decide +kernel
theorem dL_build_336 : decode cL_build 336 = .ok (.iload 10, 2) := by decide +kernel
theorem dL_build_338 : decode cL_build 338 = .ok (.iconst 1, 1) := by decide +kernel
theorem dL_build_339 : decode cL_build 339 = .ok (.isub, 1) := by decide +kernel
theorem dL_build_340 : decode cL_build 340 = .ok (.if_icmp .ne 7, 3) := by decide +kernel
theorem dL_build_343 : decode cL_build 343 = .ok (.iconst 1, 1) := by decide +kernel
theorem dL_build_344 : decode cL_build 344 = .ok (.goto 4, 3) := by decide +kernel
theorem dL_build_347 : decode cL_build 347 = .ok (.iconst 0, 1) := by decide +kernel
theorem dL_build_348 : decode cL_build 348 = .ok (.istore_n 3, 1) := by decide +kernel
theorem dL_build_349 : decode cL_build 349 = .ok (.goto 62, 3) := by decide +kernel
theorem dL_build_352 : decode cL_build 352 = .ok (.iload 7, 2) := by decide +kernel
theorem dL_build_354 : decode cL_build 354 = .ok (.ifCond .ne 13, 3) := by decide +kernel
theorem dL_build_357 : decode cL_build 357 = .ok (.iload 8, 2) := by decide +kernel
theorem dL_build_359 : decode cL_build 359 = .ok (.ifCond .ne 8, 3) := by decide +kernel
theorem dL_build_362 : decode cL_build 362 = .ok (.iload 9, 2) := by decide +kernel
theorem dL_build_364 : decode cL_build 364 = .ok (.ifCond .eq 47, 3) := by decide +kernel
theorem dL_build_367 : decode cL_build 367 = .ok (.aload_n 0, 1) := by decide +kernel
theorem dL_build_368 : decode cL_build 368 = .ok (.iload 7, 2) := by decide +kernel
theorem dL_build_370 : decode cL_build 370 = .ok (.iload 8, 2) := by decide +kernel
theorem dL_build_372 : decode cL_build 372 = .ok (.iload 9, 2) := by decide +kernel
theorem dL_build_374 : decode cL_build 374 = .ok (.invokevirtual 40, 3) := by decide +kernel
theorem dL_build_377 : decode cL_build 377 = .ok (.istore 11, 2) := by decide +kernel
theorem dL_build_379 : decode cL_build 379 = .ok (.iload 11, 2) := by decide +kernel
theorem dL_build_381 : decode cL_build 381 = .ok (.ldc 44, 2) := by decide +kernel
theorem dL_build_383 : decode cL_build 383 = .ok (.if_icmp .eq 22, 3) := by decide +kernel
theorem dL_build_386 : decode cL_build 386 = .ok (.iload 11, 2) := by decide +kernel
theorem dL_build_388 : decode cL_build 388 = .ok (.iload 10, 2) := by decide +kernel
theorem dL_build_390 : decode cL_build 390 = .ok (.bipush 8, 2) := by decide +kernel
theorem dL_build_392 : decode cL_build 392 = .ok (.if_icmp .ne 8, 3) := by decide +kernel
theorem dL_build_395 : decode cL_build 395 = .ok (.ldc 45, 2) := by decide +kernel
theorem dL_build_397 : decode cL_build 397 = .ok (.goto 5, 3) := by decide +kernel
theorem dL_build_400 : decode cL_build 400 = .ok (.iload 10, 2) := by decide +kernel
theorem dL_build_402 : decode cL_build 402 = .ok (.if_icmp .ne 7, 3) := by decide +kernel
theorem dL_build_405 : decode cL_build 405 = .ok (.iconst 1, 1) := by decide +kernel
theorem dL_build_406 : decode cL_build 406 = .ok (.goto 4, 3) := by decide +kernel
theorem dL_build_409 : decode cL_build 409 = .ok (.iconst 0, 1) := by decide +kernel
theorem dL_build_410 : decode cL_build 410 = .ok (.istore_n 3, 1) := by decide +kernel
theorem dL_build_411 : decode cL_build 411 = .ok (.iinc 5 1, 3) := by decide +kernel
theorem dL_build_414 : decode cL_build 414 = .ok (.goto (-193), 3) := by decide +kernel
theorem dL_build_417 : decode cL_build 417 = .ok (.iconst 0, 1) := by decide +kernel
theorem dL_build_418 : decode cL_build 418 = .ok (.istore 5, 2) := by decide +kernel
theorem dL_build_420 : decode cL_build 420 = .ok (.iload 5, 2) := by decide +kernel
theorem dL_build_422 : decode cL_build 422 = .ok (.iload_n 2, 1) := by decide +kernel
theorem dL_build_423 : decode cL_build 423 = .ok (.if_icmp .ge 85, 3) := by decide +kernel
theorem dL_build_426 : decode cL_build 426 = .ok (.iload_n 3, 1) := by decide +kernel
theorem dL_build_427 : decode cL_build 427 = .ok (.ifCond .eq 81, 3) := by decide +kernel
theorem dL_build_430 : decode cL_build 430 = .ok (.aload_n 1, 1) := by decide +kernel
theorem dL_build_431 : decode cL_build 431 = .ok (.bipush 16, 2) := by decide +kernel
theorem dL_build_433 : decode cL_build 433 = .ok (.iload 5, 2) := by decide +kernel
theorem dL_build_435 : decode cL_build 435 = .ok (.iadd, 1) := by decide +kernel
theorem dL_build_436 : decode cL_build 436 = .ok (.invokestatic 23, 3) := by decide +kernel
theorem dL_build_439 : decode cL_build 439 = .ok (.istore 6, 2) := by decide +kernel
theorem dL_build_441 : decode cL_build 441 = .ok (.iconst 5, 1) := by decide +kernel
theorem dL_build_442 : decode cL_build 442 = .ok (.iload 6, 2) := by decide +kernel
theorem dL_build_444 : decode cL_build 444 = .ok (.bipush 46, 2) := by decide +kernel
theorem dL_build_446 : decode cL_build 446 = .ok (.invokestatic 29, 3) := by decide +kernel
theorem dL_build_449 : decode cL_build 449 = .ok (.iadd, 1) := by decide +kernel
theorem dL_build_450 : decode cL_build 450 = .ok (.istore 7, 2) := by decide +kernel
theorem dL_build_452 : decode cL_build 452 = .ok (.aload_n 0, 1) := by decide +kernel
theorem dL_build_453 : decode cL_build 453 = .ok (.iload 5, 2) := by decide +kernel
theorem dL_build_455 : decode cL_build 455 = .ok (.iload 7, 2) := by decide +kernel
theorem dL_build_457 : decode cL_build 457 = .ok (.ineg, 1) := by decide +kernel
theorem dL_build_458 : decode cL_build 458 = .ok (.iload 7, 2) := by decide +kernel
theorem dL_build_460 : decode cL_build 460 = .ok (.invokevirtual 46, 3) := by decide +kernel
theorem dL_build_463 : decode cL_build 463 = .ok (.iconst 1, 1) := by decide +kernel
theorem dL_build_464 : decode cL_build 464 = .ok (.if_icmp .ne 36, 3) := by decide +kernel
theorem dL_build_467 : decode cL_build 467 = .ok (.aload_n 0, 1) := by decide +kernel
theorem dL_build_468 : decode cL_build 468 = .ok (.bipush 10, 2) := by decide +kernel
theorem dL_build_470 : decode cL_build 470 = .ok (.iload 5, 2) := by decide +kernel
theorem dL_build_472 : decode cL_build 472 = .ok (.iadd, 1) := by decide +kernel
theorem dL_build_473 : decode cL_build 473 = .ok (.invokevirtual 16, 3) := by decide +kernel
theorem dL_build_476 : decode cL_build 476 = .ok (.iload 7, 2) := by decide +kernel
theorem dL_build_478 : decode cL_build 478 = .ok (.ineg, 1) := by decide +kernel
theorem dL_build_479 : decode cL_build 479 = .ok (.if_icmp .ne 21, 3) := by decide +kernel
theorem dL_build_482 : decode cL_build 482 = .ok (.aload_n 0, 1) := by decide +kernel
theorem dL_build_483 : decode cL_build 483 = .ok (.bipush 20, 2) := by decide +kernel
theorem dL_build_485 : decode cL_build 485 = .ok (.iload 5, 2) := by decide +kernel
theorem dL_build_487 : decode cL_build 487 = .ok (.iadd, 1) := by decide +kernel
theorem dL_build_488 : decode cL_build 488 = .ok (.invokevirtual 16, 3) := by decide +kernel
theorem dL_build_491 : decode cL_build 491 = .ok (.iload 7, 2) := by decide +kernel
theorem dL_build_493 : decode cL_build 493 = .ok (.if_icmp .ne 7, 3) := by decide +kernel
theorem dL_build_496 : decode cL_build 496 = .ok (.iconst 1, 1) := by decide +kernel
theorem dL_build_497 : decode cL_build 497 = .ok (.goto 4, 3) := by decide +kernel
theorem dL_build_500 : decode cL_build 500 = .ok (.iconst 0, 1) := by decide +kernel
theorem dL_build_501 : decode cL_build 501 = .ok (.istore_n 3, 1) := by decide +kernel
theorem dL_build_502 : decode cL_build 502 = .ok (.iinc 5 1, 3) := by decide +kernel
theorem dL_build_505 : decode cL_build 505 = .ok (.goto (-85), 3) := by decide +kernel
theorem dL_build_508 : decode cL_build 508 = .ok (.aload_n 1, 1) := by decide +kernel
theorem dL_build_509 : decode cL_build 509 = .ok (.bipush 20, 2) := by decide +kernel
theorem dL_build_511 : decode cL_build 511 = .ok (.invokestatic 23, 3) := by decide +kernel
theorem dL_build_514 : decode cL_build 514 = .ok (.istore 5, 2) := by decide +kernel
theorem dL_build_516 : decode cL_build 516 = .ok (.iload_n 3, 1) := by decide +kernel
theorem dL_build_517 : decode cL_build 517 = .ok (.ifCond .eq 28, 3) := by decide +kernel
theorem dL_build_520 : decode cL_build 520 = .ok (.aload_n 0, 1) := by decide +kernel
theorem dL_build_521 : decode cL_build 521 = .ok (.iload 5, 2) := by decide +kernel
theorem dL_build_523 : decode cL_build 523 = .ok (.iconst 3, 1) := by decide +kernel
theorem dL_build_524 : decode cL_build 524 = .ok (.invokestatic 29, 3) := by decide +kernel
theorem dL_build_527 : decode cL_build 527 = .ok (.iload 5, 2) := by decide +kernel
theorem dL_build_529 : decode cL_build 529 = .ok (.iconst 2, 1) := by decide +kernel
theorem dL_build_530 : decode cL_build 530 = .ok (.ishr, 1) := by decide +kernel
theorem dL_build_531 : decode cL_build 531 = .ok (.iconst 2, 1) := by decide +kernel
theorem dL_build_532 : decode cL_build 532 = .ok (.invokestatic 29, 3) := by decide +kernel
theorem dL_build_535 : decode cL_build 535 = .ok (.invokevirtual 49, 3) := by decide +kernel
theorem dL_build_538 : decode cL_build 538 = .ok (.ifCond .ne 7, 3) := by decide +kernel
theorem dL_build_541 : decode cL_build 541 = .ok (.iconst 1, 1) := by decide +kernel
theorem dL_build_542 : decode cL_build 542 = .ok (.goto 4, 3) := by decide +kernel
theorem dL_build_545 : decode cL_build 545 = .ok (.iconst 0, 1) := by decide +kernel
theorem dL_build_546 : decode cL_build 546 = .ok (.istore_n 3, 1) := by decide +kernel
theorem dL_build_547 : decode cL_build 547 = .ok (.iload_n 3, 1) := by decide +kernel
theorem dL_build_548 : decode cL_build 548 = .ok (.ifCond .eq 77, 3) := by decide +kernel
theorem dL_build_551 : decode cL_build 551 = .ok (.aload_n 0, 1) := by decide +kernel
theorem dL_build_552 : decode cL_build 552 = .ok (.iload 5, 2) := by decide +kernel
theorem dL_build_554 : decode cL_build 554 = .ok (.iconst 4, 1) := by decide +kernel
theorem dL_build_555 : decode cL_build 555 = .ok (.ishr, 1) := by decide +kernel
theorem dL_build_556 : decode cL_build 556 = .ok (.bipush 11, 2) := by decide +kernel
theorem dL_build_558 : decode cL_build 558 = .ok (.invokestatic 29, 3) := by decide +kernel
theorem dL_build_561 : decode cL_build 561 = .ok (.iconst 5, 1) := by decide +kernel
theorem dL_build_562 : decode cL_build 562 = .ok (.isub, 1) := by decide +kernel
theorem dL_build_563 : decode cL_build 563 = .ok (.iload_n 2, 1) := by decide +kernel
theorem dL_build_564 : decode cL_build 564 = .ok (.iconst 1, 1) := by decide +kernel
theorem dL_build_565 : decode cL_build 565 = .ok (.if_icmp .le 18, 3) := by decide +kernel
theorem dL_build_568 : decode cL_build 568 = .ok (.iload 5, 2) := by decide +kernel
theorem dL_build_570 : decode cL_build 570 = .ok (.bipush 8, 2) := by decide +kernel
theorem dL_build_572 : decode cL_build 572 = .ok (.ishr, 1) := by decide +kernel
theorem dL_build_573 : decode cL_build 573 = .ok (.bipush 11, 2) := by decide +kernel
theorem dL_build_575 : decode cL_build 575 = .ok (.invokestatic 29, 3) := by decide +kernel
theorem dL_build_578 : decode cL_build 578 = .ok (.iconst 5, 1) := by decide +kernel
theorem dL_build_579 : decode cL_build 579 = .ok (.isub, 1) := by decide +kernel
theorem dL_build_580 : decode cL_build 580 = .ok (.goto 4, 3) := by decide +kernel
theorem dL_build_583 : decode cL_build 583 = .ok (.iconst 0, 1) := by decide +kernel
theorem dL_build_584 : decode cL_build 584 = .ok (.iload_n 2, 1) := by decide +kernel
theorem dL_build_585 : decode cL_build 585 = .ok (.iconst 2, 1) := by decide +kernel
theorem dL_build_586 : decode cL_build 586 = .ok (.if_icmp .le 18, 3) := by decide +kernel
theorem dL_build_589 : decode cL_build 589 = .ok (.iload 5, 2) := by decide +kernel
theorem dL_build_591 : decode cL_build 591 = .ok (.bipush 12, 2) := by decide +kernel
theorem dL_build_593 : decode cL_build 593 = .ok (.ishr, 1) := by decide +kernel
theorem dL_build_594 : decode cL_build 594 = .ok (.bipush 11, 2) := by decide +kernel
theorem dL_build_596 : decode cL_build 596 = .ok (.invokestatic 29, 3) := by decide +kernel
theorem dL_build_599 : decode cL_build 599 = .ok (.iconst 5, 1) := by decide +kernel
theorem dL_build_600 : decode cL_build 600 = .ok (.isub, 1) := by decide +kernel
theorem dL_build_601 : decode cL_build 601 = .ok (.goto 4, 3) := by decide +kernel
theorem dL_build_604 : decode cL_build 604 = .ok (.iconst 0, 1) := by decide +kernel
theorem dL_build_605 : decode cL_build 605 = .ok (.iload 5, 2) := by decide +kernel
theorem dL_build_607 : decode cL_build 607 = .ok (.bipush 16, 2) := by decide +kernel
theorem dL_build_609 : decode cL_build 609 = .ok (.ishr, 1) := by decide +kernel
theorem dL_build_610 : decode cL_build 610 = .ok (.iconst 5, 1) := by decide +kernel
theorem dL_build_611 : decode cL_build 611 = .ok (.invokestatic 29, 3) := by decide +kernel
theorem dL_build_614 : decode cL_build 614 = .ok (.invokevirtual 52, 3) := by decide +kernel
theorem dL_build_617 : decode cL_build 617 = .ok (.iconst 1, 1) := by decide +kernel
theorem dL_build_618 : decode cL_build 618 = .ok (.if_icmp .ne 7, 3) := by decide +kernel
theorem dL_build_621 : decode cL_build 621 = .ok (.iconst 1, 1) := by decide +kernel
theorem dL_build_622 : decode cL_build 622 = .ok (.goto 4, 3) := by decide +kernel
theorem dL_build_625 : decode cL_build 625 = .ok (.iconst 0, 1) := by decide +kernel
theorem dL_build_626 : decode cL_build 626 = .ok (.ireturn, 1) := by decide +kernel
theorem dL_at_0 : decode cL_at 0 = .ok (.aload_n 0, 1) := by decide +kernel
theorem dL_at_1 : decode cL_at 1 = .ok (.iload_n 2, 1) := by decide +kernel
theorem dL_at_2 : decode cL_at 2 = .ok (.invokevirtual 55, 3) := by decide +kernel
theorem dL_at_5 : decode cL_at 5 = .ok (.aload_n 0, 1) := by decide +kernel
theorem dL_at_6 : decode cL_at 6 = .ok (.iconst 3, 1) := by decide +kernel
theorem dL_at_7 : decode cL_at 7 = .ok (.invokevirtual 55, 3) := by decide +kernel
theorem dL_at_10 : decode cL_at 10 = .ok (.aload_n 0, 1) := by decide +kernel
theorem dL_at_11 : decode cL_at 11 = .ok (.iload_n 1, 1) := by decide +kernel
theorem dL_at_12 : decode cL_at 12 = .ok (.iload_n 2, 1) := by decide +kernel
theorem dL_at_13 : decode cL_at 13 = .ok (.invokevirtual 58, 3) := by decide +kernel
theorem dL_at_16 : decode cL_at 16 = .ok (.imul, 1) := by decide +kernel
theorem dL_at_17 : decode cL_at 17 = .ok (.iadd, 1) := by decide +kernel
theorem dL_at_18 : decode cL_at 18 = .ok (.ireturn, 1) := by decide +kernel
theorem dL_isAllowed_0 : decode cL_isAllowed 0 = .ok (.aload_n 0, 1) := by decide +kernel
theorem dL_isAllowed_1 : decode cL_isAllowed 1 = .ok (.iconst 0, 1) := by decide +kernel
theorem dL_isAllowed_2 : decode cL_isAllowed 2 = .ok (.invokevirtual 16, 3) := by decide +kernel
theorem dL_isAllowed_5 : decode cL_isAllowed 5 = .ok (.istore 4, 2) := by decide +kernel
theorem dL_isAllowed_7 : decode cL_isAllowed 7 = .ok (.iload_n 1, 1) := by decide +kernel
theorem dL_isAllowed_8 : decode cL_isAllowed 8 = .ok (.aload_n 0, 1) := by decide +kernel
theorem dL_isAllowed_9 : decode cL_isAllowed 9 = .ok (.bipush 10, 2) := by decide +kernel
theorem dL_isAllowed_11 : decode cL_isAllowed 11 = .ok (.invokevirtual 16, 3) := by decide +kernel
theorem dL_isAllowed_14 : decode cL_isAllowed 14 = .ok (.if_icmp .lt 17, 3) := by decide +kernel
theorem dL_isAllowed_17 : decode cL_isAllowed 17 = .ok (.iload_n 1, 1) := by decide +kernel
theorem dL_isAllowed_18 : decode cL_isAllowed 18 = .ok (.aload_n 0, 1) := by decide +kernel
theorem dL_isAllowed_19 : decode cL_isAllowed 19 = .ok (.bipush 20, 2) := by decide +kernel
theorem dL_isAllowed_21 : decode cL_isAllowed 21 = .ok (.invokevirtual 16, 3) := by decide +kernel
theorem dL_isAllowed_24 : decode cL_isAllowed 24 = .ok (.if_icmp .gt 7, 3) := by decide +kernel
theorem dL_isAllowed_27 : decode cL_isAllowed 27 = .ok (.iconst 1, 1) := by decide +kernel
theorem dL_isAllowed_28 : decode cL_isAllowed 28 = .ok (.goto 4, 3) := by decide +kernel
theorem dL_isAllowed_31 : decode cL_isAllowed 31 = .ok (.iconst 0, 1) := by decide +kernel
theorem dL_isAllowed_32 : decode cL_isAllowed 32 = .ok (.istore 5, 2) := by decide +kernel
theorem dL_isAllowed_34 : decode cL_isAllowed 34 = .ok (.iload 5, 2) := by decide +kernel
theorem dL_isAllowed_36 : decode cL_isAllowed 36 = .ok (.ifCond .eq 40, 3) := by decide +kernel
theorem dL_isAllowed_39 : decode cL_isAllowed 39 = .ok (.iload 4, 2) := by decide +kernel
theorem dL_isAllowed_41 : decode cL_isAllowed 41 = .ok (.iconst 2, 1) := by decide +kernel
theorem dL_isAllowed_42 : decode cL_isAllowed 42 = .ok (.if_icmp .ge 10, 3) := by decide +kernel
theorem dL_isAllowed_45 : decode cL_isAllowed 45 = .ok (.iload_n 2, 1) := by decide +kernel
theorem dL_isAllowed_46 : decode cL_isAllowed 46 = .ok (.ifCond .ne 30, 3) := by decide +kernel
theorem dL_isAllowed_49 : decode cL_isAllowed 49 = .ok (.goto 23, 3) := by decide +kernel
theorem dL_isAllowed_52 : decode cL_isAllowed 52 = .ok (.iload_n 2, 1) := by decide +kernel
theorem dL_isAllowed_53 : decode cL_isAllowed 53 = .ok (.aload_n 0, 1) := by decide +kernel
theorem dL_isAllowed_54 : decode cL_isAllowed 54 = .ok (.bipush 11, 2) := by decide +kernel
theorem dL_isAllowed_56 : decode cL_isAllowed 56 = .ok (.invokevirtual 16, 3) := by decide +kernel
theorem dL_isAllowed_59 : decode cL_isAllowed 59 = .ok (.if_icmp .lt 17, 3) := by decide +kernel
theorem dL_isAllowed_62 : decode cL_isAllowed 62 = .ok (.iload_n 2, 1) := by decide +kernel
theorem dL_isAllowed_63 : decode cL_isAllowed 63 = .ok (.aload_n 0, 1) := by decide +kernel
theorem dL_isAllowed_64 : decode cL_isAllowed 64 = .ok (.bipush 21, 2) := by decide +kernel
theorem dL_isAllowed_66 : decode cL_isAllowed 66 = .ok (.invokevirtual 16, 3) := by decide +kernel
theorem dL_isAllowed_69 : decode cL_isAllowed 69 = .ok (.if_icmp .gt 7, 3) := by decide +kernel
theorem dL_isAllowed_72 : decode cL_isAllowed 72 = .ok (.iconst 1, 1) := by decide +kernel
theorem dL_isAllowed_73 : decode cL_isAllowed 73 = .ok (.goto 4, 3) := by decide +kernel
theorem dL_isAllowed_76 : decode cL_isAllowed 76 = .ok (.iconst 0, 1) := by decide +kernel
theorem dL_isAllowed_77 : decode cL_isAllowed 77 = .ok (.istore 5, 2) := by decide +kernel
theorem dL_isAllowed_79 : decode cL_isAllowed 79 = .ok (.iload 5, 2) := by decide +kernel
theorem dL_isAllowed_81 : decode cL_isAllowed 81 = .ok (.ifCond .eq 40, 3) := by decide +kernel
theorem dL_isAllowed_84 : decode cL_isAllowed 84 = .ok (.iload 4, 2) := by decide +kernel
theorem dL_isAllowed_86 : decode cL_isAllowed 86 = .ok (.iconst 3, 1) := by decide +kernel
theorem dL_isAllowed_87 : decode cL_isAllowed 87 = .ok (.if_icmp .ge 10, 3) := by decide +kernel
theorem dL_isAllowed_90 : decode cL_isAllowed 90 = .ok (.iload_n 3, 1) := by decide +kernel
theorem dL_isAllowed_91 : decode cL_isAllowed 91 = .ok (.ifCond .ne 30, 3) := by decide +kernel
theorem dL_isAllowed_94 : decode cL_isAllowed 94 = .ok (.goto 23, 3) := by decide +kernel
theorem dL_isAllowed_97 : decode cL_isAllowed 97 = .ok (.iload_n 3, 1) := by decide +kernel
theorem dL_isAllowed_98 : decode cL_isAllowed 98 = .ok (.aload_n 0, 1) := by decide +kernel
theorem dL_isAllowed_99 : decode cL_isAllowed 99 = .ok (.bipush 12, 2) := by decide +kernel
theorem dL_isAllowed_101 : decode cL_isAllowed 101 = .ok (.invokevirtual 16, 3) := by decide +kernel
theorem dL_isAllowed_104 : decode cL_isAllowed 104 = .ok (.if_icmp .lt 17, 3) := by decide +kernel
theorem dL_isAllowed_107 : decode cL_isAllowed 107 = .ok (.iload_n 3, 1) := by decide +kernel
theorem dL_isAllowed_108 : decode cL_isAllowed 108 = .ok (.aload_n 0, 1) := by decide +kernel
theorem dL_isAllowed_109 : decode cL_isAllowed 109 = .ok (.bipush 22, 2) := by decide +kernel
theorem dL_isAllowed_111 : decode cL_isAllowed 111 = .ok (.invokevirtual 16, 3) := by decide +kernel
theorem dL_isAllowed_114 : decode cL_isAllowed 114 = .ok (.if_icmp .gt 7, 3) := by decide +kernel
theorem dL_isAllowed_117 : decode cL_isAllowed 117 = .ok (.iconst 1, 1) := by decide +kernel
theorem dL_isAllowed_118 : decode cL_isAllowed 118 = .ok (.goto 4, 3) := by decide +kernel
theorem dL_isAllowed_121 : decode cL_isAllowed 121 = .ok (.iconst 0, 1) := by decide +kernel
theorem dL_isAllowed_122 : decode cL_isAllowed 122 = .ok (.ireturn, 1) := by decide +kernel
theorem dL_canTry_0 : decode cL_canTry 0 = .ok (.aload_n 0, 1) := by decide +kernel
theorem dL_canTry_1 : decode cL_canTry 1 = .ok (.aload_n 0, 1) := by decide +kernel
theorem dL_canTry_2 : decode cL_canTry 2 = .ok (.iload_n 1, 1) := by decide +kernel
theorem dL_canTry_3 : decode cL_canTry 3 = .ok (.iconst 0, 1) := by decide +kernel
theorem dL_canTry_4 : decode cL_canTry 4 = .ok (.invokestatic 61, 3) := by decide +kernel
theorem dL_canTry_7 : decode cL_canTry 7 = .ok (.aload_n 0, 1) := by decide +kernel
theorem dL_canTry_8 : decode cL_canTry 8 = .ok (.iload_n 1, 1) := by decide +kernel
theorem dL_canTry_9 : decode cL_canTry 9 = .ok (.iconst 1, 1) := by decide +kernel
theorem dL_canTry_10 : decode cL_canTry 10 = .ok (.invokestatic 61, 3) := by decide +kernel
theorem dL_canTry_13 : decode cL_canTry 13 = .ok (.aload_n 0, 1) := by decide +kernel
theorem dL_canTry_14 : decode cL_canTry 14 = .ok (.iload_n 1, 1) := by decide +kernel
theorem dL_canTry_15 : decode cL_canTry 15 = .ok (.iconst 2, 1) := by decide +kernel
theorem dL_canTry_16 : decode cL_canTry 16 = .ok (.invokestatic 61, 3) := by decide +kernel
theorem dL_canTry_19 : decode cL_canTry 19 = .ok (.invokestatic 65, 3) := by decide +kernel
theorem dL_canTry_22 : decode cL_canTry 22 = .ok (.ireturn, 1) := by decide +kernel
theorem dL_here_0 : decode cL_here 0 = .ok (.aload_n 0, 1) := by decide +kernel
theorem dL_here_1 : decode cL_here 1 = .ok (.aload_n 0, 1) := by decide +kernel
theorem dL_here_2 : decode cL_here 2 = .ok (.iconst 0, 1) := by decide +kernel
theorem dL_here_3 : decode cL_here 3 = .ok (.invokevirtual 55, 3) := by decide +kernel
theorem dL_here_6 : decode cL_here 6 = .ok (.aload_n 0, 1) := by decide +kernel
theorem dL_here_7 : decode cL_here 7 = .ok (.iconst 1, 1) := by decide +kernel
theorem dL_here_8 : decode cL_here 8 = .ok (.invokevirtual 55, 3) := by decide +kernel
theorem dL_here_11 : decode cL_here 11 = .ok (.aload_n 0, 1) := by decide +kernel
theorem dL_here_12 : decode cL_here 12 = .ok (.iconst 2, 1) := by decide +kernel
theorem dL_here_13 : decode cL_here 13 = .ok (.invokevirtual 55, 3) := by decide +kernel
theorem dL_here_16 : decode cL_here 16 = .ok (.iconst 0, 1) := by decide +kernel
theorem dL_here_17 : decode cL_here 17 = .ok (.invokevirtual 69, 3) := by decide +kernel
theorem dL_here_20 : decode cL_here 20 = .ok (.lreturn, 1) := by decide +kernel
theorem dL_there_0 : decode cL_there 0 = .ok (.aload_n 0, 1) := by decide +kernel
theorem dL_there_1 : decode cL_there 1 = .ok (.aload_n 0, 1) := by decide +kernel
theorem dL_there_2 : decode cL_there 2 = .ok (.iload_n 1, 1) := by decide +kernel
theorem dL_there_3 : decode cL_there 3 = .ok (.iconst 0, 1) := by decide +kernel
theorem dL_there_4 : decode cL_there 4 = .ok (.invokestatic 61, 3) := by decide +kernel
theorem dL_there_7 : decode cL_there 7 = .ok (.aload_n 0, 1) := by decide +kernel
theorem dL_there_8 : decode cL_there 8 = .ok (.iload_n 1, 1) := by decide +kernel
theorem dL_there_9 : decode cL_there 9 = .ok (.iconst 1, 1) := by decide +kernel
theorem dL_there_10 : decode cL_there 10 = .ok (.invokestatic 61, 3) := by decide +kernel
theorem dL_there_13 : decode cL_there 13 = .ok (.aload_n 0, 1) := by decide +kernel
theorem dL_there_14 : decode cL_there 14 = .ok (.iload_n 1, 1) := by decide +kernel
theorem dL_there_15 : decode cL_there 15 = .ok (.iconst 2, 1) := by decide +kernel
theorem dL_there_16 : decode cL_there 16 = .ok (.invokestatic 61, 3) := by decide +kernel
theorem dL_there_19 : decode cL_there 19 = .ok (.iload_n 2, 1) := by decide +kernel
theorem dL_there_20 : decode cL_there 20 = .ok (.invokevirtual 69, 3) := by decide +kernel
theorem dL_there_23 : decode cL_there 23 = .ok (.lreturn, 1) := by decide +kernel
theorem dL_trials_0 : decode cL_trials 0 = .ok (.iconst 0, 1) := by decide +kernel
theorem dL_trials_1 : decode cL_trials 1 = .ok (.istore_n 2, 1) := by decide +kernel
theorem dL_trials_2 : decode cL_trials 2 = .ok (.iconst (-1), 1) := by decide +kernel
theorem dL_trials_3 : decode cL_trials 3 = .ok (.istore_n 3, 1) := by decide +kernel
theorem dL_trials_4 : decode cL_trials 4 = .ok (.iconst 0, 1) := by decide +kernel
theorem dL_trials_5 : decode cL_trials 5 = .ok (.istore 4, 2) := by decide +kernel
theorem dL_trials_7 : decode cL_trials 7 = .ok (.aload_n 0, 1) := by decide +kernel
theorem dL_trials_8 : decode cL_trials 8 = .ok (.invokestatic 73, 3) := by decide +kernel
theorem dL_trials_11 : decode cL_trials 11 = .ok (.lstore 5, 2) := by decide +kernel
theorem dL_trials_13 : decode cL_trials 13 = .ok (.iconst 0, 1) := by decide +kernel
theorem dL_trials_14 : decode cL_trials 14 = .ok (.istore 7, 2) := by decide +kernel
theorem dL_trials_16 : decode cL_trials 16 = .ok (.aload_n 0, 1) := by decide +kernel
theorem dL_trials_17 : decode cL_trials 17 = .ok (.iload_n 2, 1) := by decide +kernel
theorem dL_trials_18 : decode cL_trials 18 = .ok (.iconst 0, 1) := by decide +kernel
theorem dL_trials_19 : decode cL_trials 19 = .ok (.invokevirtual 77, 3) := by decide +kernel
theorem dL_trials_22 : decode cL_trials 22 = .ok (.ifCond .lt 313, 3) := by decide +kernel
theorem dL_trials_25 : decode cL_trials 25 = .ok (.aload_n 0, 1) := by decide +kernel
theorem dL_trials_26 : decode cL_trials 26 = .ok (.iload_n 2, 1) := by decide +kernel
theorem dL_trials_27 : decode cL_trials 27 = .ok (.iconst 0, 1) := by decide +kernel
theorem dL_trials_28 : decode cL_trials 28 = .ok (.invokevirtual 77, 3) := by decide +kernel
theorem dL_trials_31 : decode cL_trials 31 = .ok (.istore 8, 2) := by decide +kernel
theorem dL_trials_33 : decode cL_trials 33 = .ok (.aload_n 0, 1) := by decide +kernel
theorem dL_trials_34 : decode cL_trials 34 = .ok (.iload 8, 2) := by decide +kernel
theorem dL_trials_36 : decode cL_trials 36 = .ok (.iconst 0, 1) := by decide +kernel
theorem dL_trials_37 : decode cL_trials 37 = .ok (.invokestatic 80, 3) := by decide +kernel
theorem dL_trials_40 : decode cL_trials 40 = .ok (.aload_n 0, 1) := by decide +kernel
theorem dL_trials_41 : decode cL_trials 41 = .ok (.invokestatic 73, 3) := by decide +kernel
theorem dL_trials_44 : decode cL_trials 44 = .ok (.lcmp, 1) := by decide +kernel
theorem dL_trials_45 : decode cL_trials 45 = .ok (.ifCond .ge 7, 3) := by decide +kernel
theorem dL_trials_48 : decode cL_trials 48 = .ok (.iconst 1, 1) := by decide +kernel
theorem dL_trials_49 : decode cL_trials 49 = .ok (.goto 4, 3) := by decide +kernel
theorem dL_trials_52 : decode cL_trials 52 = .ok (.iconst 0, 1) := by decide +kernel
theorem dL_trials_53 : decode cL_trials 53 = .ok (.istore 9, 2) := by decide +kernel
theorem dL_trials_55 : decode cL_trials 55 = .ok (.aload_n 0, 1) := by decide +kernel
theorem dL_trials_56 : decode cL_trials 56 = .ok (.iload 8, 2) := by decide +kernel
theorem dL_trials_58 : decode cL_trials 58 = .ok (.invokestatic 84, 3) := by decide +kernel
theorem dL_trials_61 : decode cL_trials 61 = .ok (.ifCond .eq 33, 3) := by decide +kernel
theorem dL_trials_64 : decode cL_trials 64 = .ok (.iload 7, 2) := by decide +kernel
theorem dL_trials_66 : decode cL_trials 66 = .ok (.iload 8, 2) := by decide +kernel
theorem dL_trials_68 : decode cL_trials 68 = .ok (.ishr, 1) := by decide +kernel
theorem dL_trials_69 : decode cL_trials 69 = .ok (.iconst 1, 1) := by decide +kernel
theorem dL_trials_70 : decode cL_trials 70 = .ok (.iand, 1) := by decide +kernel
theorem dL_trials_71 : decode cL_trials 71 = .ok (.iconst 1, 1) := by decide +kernel
theorem dL_trials_72 : decode cL_trials 72 = .ok (.if_icmp .eq 22, 3) := by decide +kernel
theorem dL_trials_75 : decode cL_trials 75 = .ok (.aload_n 0, 1) := by decide +kernel
theorem dL_trials_76 : decode cL_trials 76 = .ok (.iload_n 2, 1) := by decide +kernel
theorem dL_trials_77 : decode cL_trials 77 = .ok (.iconst 1, 1) := by decide +kernel
theorem dL_trials_78 : decode cL_trials 78 = .ok (.invokevirtual 77, 3) := by decide +kernel
theorem dL_trials_81 : decode cL_trials 81 = .ok (.iload 9, 2) := by decide +kernel
theorem dL_trials_83 : decode cL_trials 83 = .ok (.ifCond .eq 7, 3) := by decide +kernel
theorem dL_trials_86 : decode cL_trials 86 = .ok (.iconst 1, 1) := by decide +kernel
theorem dL_trials_87 : decode cL_trials 87 = .ok (.goto 4, 3) := by decide +kernel
theorem dL_trials_90 : decode cL_trials 90 = .ok (.iconst 0, 1) := by decide +kernel
theorem dL_trials_91 : decode cL_trials 91 = .ok (.if_icmp .eq 5, 3) := by decide +kernel
theorem dL_trials_94 : decode cL_trials 94 = .ok (.iconst (-1), 1) := by decide +kernel
theorem dL_trials_95 : decode cL_trials 95 = .ok (.ireturn, 1) := by decide +kernel
theorem dL_trials_96 : decode cL_trials 96 = .ok (.aload_n 0, 1) := by decide +kernel
theorem dL_trials_97 : decode cL_trials 97 = .ok (.iconst 3, 1) := by decide +kernel
theorem dL_trials_98 : decode cL_trials 98 = .ok (.invokevirtual 16, 3) := by decide +kernel
theorem dL_trials_101 : decode cL_trials 101 = .ok (.iconst 1, 1) := by decide +kernel
theorem dL_trials_102 : decode cL_trials 102 = .ok (.if_icmp .ne 18, 3) := by decide +kernel
theorem dL_trials_105 : decode cL_trials 105 = .ok (.iload 8, 2) := by decide +kernel
theorem dL_trials_107 : decode cL_trials 107 = .ok (.aload_n 0, 1) := by decide +kernel
theorem dL_trials_108 : decode cL_trials 108 = .ok (.bipush 7, 2) := by decide +kernel
theorem dL_trials_110 : decode cL_trials 110 = .ok (.invokevirtual 55, 3) := by decide +kernel
theorem dL_trials_113 : decode cL_trials 113 = .ok (.if_icmp .ne 7, 3) := by decide +kernel
theorem dL_trials_116 : decode cL_trials 116 = .ok (.iconst 1, 1) := by decide +kernel
theorem dL_trials_117 : decode cL_trials 117 = .ok (.goto 4, 3) := by decide +kernel
theorem dL_trials_120 : decode cL_trials 120 = .ok (.iconst 0, 1) := by decide +kernel
theorem dL_trials_121 : decode cL_trials 121 = .ok (.istore 10, 2) := by decide +kernel
theorem dL_trials_123 : decode cL_trials 123 = .ok (.iload_n 2, 1) := by decide +kernel
theorem dL_trials_124 : decode cL_trials 124 = .ok (.ifCond .eq 103, 3) := by decide +kernel
theorem dL_trials_127 : decode cL_trials 127 = .ok (.aload_n 0, 1) := by decide +kernel
theorem dL_trials_128 : decode cL_trials 128 = .ok (.iconst 3, 1) := by decide +kernel
theorem dL_trials_129 : decode cL_trials 129 = .ok (.invokevirtual 16, 3) := by decide +kernel
theorem dL_trials_132 : decode cL_trials 132 = .ok (.iconst 2, 1) := by decide +kernel
theorem dL_trials_133 : decode cL_trials 133 = .ok (.if_icmp .ne 58, 3) := by decide +kernel
theorem dL_trials_136 : decode cL_trials 136 = .ok (.aload_n 0, 1) := by decide +kernel
theorem dL_trials_137 : decode cL_trials 137 = .ok (.aload_n 1, 1) := by decide +kernel
theorem dL_trials_138 : decode cL_trials 138 = .ok (.iload_n 2, 1) := by decide +kernel
theorem dL_trials_139 : decode cL_trials 139 = .ok (.iconst 1, 1) := by decide +kernel
theorem dL_trials_140 : decode cL_trials 140 = .ok (.isub, 1) := by decide +kernel
theorem dL_trials_141 : decode cL_trials 141 = .ok (.iaload, 1) := by decide +kernel
theorem dL_trials_142 : decode cL_trials 142 = .ok (.iconst 1, 1) := by decide +kernel
theorem dL_trials_143 : decode cL_trials 143 = .ok (.invokestatic 80, 3) := by decide +kernel
theorem dL_trials_146 : decode cL_trials 146 = .ok (.aload_n 0, 1) := by decide +kernel
theorem dL_trials_147 : decode cL_trials 147 = .ok (.iload 8, 2) := by decide +kernel
theorem dL_trials_149 : decode cL_trials 149 = .ok (.iconst 1, 1) := by decide +kernel
theorem dL_trials_150 : decode cL_trials 150 = .ok (.invokestatic 80, 3) := by decide +kernel
theorem dL_trials_153 : decode cL_trials 153 = .ok (.lcmp, 1) := by decide +kernel
theorem dL_trials_154 : decode cL_trials 154 = .ok (.ifCond .lt 73, 3) := by decide +kernel
theorem dL_trials_157 : decode cL_trials 157 = .ok (.aload_n 0, 1) := by decide +kernel
theorem dL_trials_158 : decode cL_trials 158 = .ok (.aload_n 1, 1) := by decide +kernel
theorem dL_trials_159 : decode cL_trials 159 = .ok (.iload_n 2, 1) := by decide +kernel
theorem dL_trials_160 : decode cL_trials 160 = .ok (.iconst 1, 1) := by decide +kernel
theorem dL_trials_161 : decode cL_trials 161 = .ok (.isub, 1) := by decide +kernel
theorem dL_trials_162 : decode cL_trials 162 = .ok (.iaload, 1) := by decide +kernel
theorem dL_trials_163 : decode cL_trials 163 = .ok (.iconst 1, 1) := by decide +kernel
theorem dL_trials_164 : decode cL_trials 164 = .ok (.invokestatic 80, 3) := by decide +kernel
theorem dL_trials_167 : decode cL_trials 167 = .ok (.aload_n 0, 1) := by decide +kernel
theorem dL_trials_168 : decode cL_trials 168 = .ok (.iload 8, 2) := by decide +kernel
theorem dL_trials_170 : decode cL_trials 170 = .ok (.iconst 1, 1) := by decide +kernel
theorem dL_trials_171 : decode cL_trials 171 = .ok (.invokestatic 80, 3) := by decide +kernel
theorem dL_trials_174 : decode cL_trials 174 = .ok (.lcmp, 1) := by decide +kernel
theorem dL_trials_175 : decode cL_trials 175 = .ok (.ifCond .ne 56, 3) := by decide +kernel
theorem dL_trials_178 : decode cL_trials 178 = .ok (.aload_n 1, 1) := by decide +kernel
theorem dL_trials_179 : decode cL_trials 179 = .ok (.iload_n 2, 1) := by decide +kernel
theorem dL_trials_180 : decode cL_trials 180 = .ok (.iconst 1, 1) := by decide +kernel
theorem dL_trials_181 : decode cL_trials 181 = .ok (.isub, 1) := by decide +kernel
theorem dL_trials_182 : decode cL_trials 182 = .ok (.iaload, 1) := by decide +kernel
theorem dL_trials_183 : decode cL_trials 183 = .ok (.iload 8, 2) := by decide +kernel
theorem dL_trials_185 : decode cL_trials 185 = .ok (.if_icmp .ge 46, 3) := by decide +kernel
theorem dL_trials_188 : decode cL_trials 188 = .ok (.goto 39, 3) := by decide +kernel
theorem dL_trials_191 : decode cL_trials 191 = .ok (.iload_n 2, 1) := by decide +kernel
theorem dL_trials_192 : decode cL_trials 192 = .ok (.iconst 1, 1) := by decide +kernel
theorem dL_trials_193 : decode cL_trials 193 = .ok (.if_icmp .ne 24, 3) := by decide +kernel
theorem dL_trials_196 : decode cL_trials 196 = .ok (.aload_n 0, 1) := by decide +kernel
theorem dL_trials_197 : decode cL_trials 197 = .ok (.iconst 3, 1) := by decide +kernel
theorem dL_trials_198 : decode cL_trials 198 = .ok (.invokevirtual 16, 3) := by decide +kernel
theorem dL_trials_201 : decode cL_trials 201 = .ok (.iconst 1, 1) := by decide +kernel
theorem dL_trials_202 : decode cL_trials 202 = .ok (.if_icmp .ne 15, 3) := by decide +kernel
theorem dL_trials_205 : decode cL_trials 205 = .ok (.aload_n 1, 1) := by decide +kernel
theorem dL_trials_206 : decode cL_trials 206 = .ok (.iconst 0, 1) := by decide +kernel
theorem dL_trials_207 : decode cL_trials 207 = .ok (.iaload, 1) := by decide +kernel
theorem dL_trials_208 : decode cL_trials 208 = .ok (.aload_n 0, 1) := by decide +kernel
theorem dL_trials_209 : decode cL_trials 209 = .ok (.bipush 7, 2) := by decide +kernel
theorem dL_trials_211 : decode cL_trials 211 = .ok (.invokevirtual 55, 3) := by decide +kernel
theorem dL_trials_214 : decode cL_trials 214 = .ok (.if_icmp .eq 13, 3) := by decide +kernel
theorem dL_trials_217 : decode cL_trials 217 = .ok (.aload_n 1, 1) := by decide +kernel
theorem dL_trials_218 : decode cL_trials 218 = .ok (.iload_n 2, 1) := by decide +kernel
theorem dL_trials_219 : decode cL_trials 219 = .ok (.iconst 1, 1) := by decide +kernel
theorem dL_trials_220 : decode cL_trials 220 = .ok (.isub, 1) := by decide +kernel
theorem dL_trials_221 : decode cL_trials 221 = .ok (.iaload, 1) := by decide +kernel
theorem dL_trials_222 : decode cL_trials 222 = .ok (.iload 8, 2) := by decide +kernel
theorem dL_trials_224 : decode cL_trials 224 = .ok (.if_icmp .ge 7, 3) := by decide +kernel
theorem dL_trials_227 : decode cL_trials 227 = .ok (.iconst 1, 1) := by decide +kernel
theorem dL_trials_228 : decode cL_trials 228 = .ok (.goto 4, 3) := by decide +kernel
theorem dL_trials_231 : decode cL_trials 231 = .ok (.iconst 0, 1) := by decide +kernel
theorem dL_trials_232 : decode cL_trials 232 = .ok (.istore 11, 2) := by decide +kernel
theorem dL_trials_234 : decode cL_trials 234 = .ok (.iload 11, 2) := by decide +kernel
theorem dL_trials_236 : decode cL_trials 236 = .ok (.ifCond .eq 12, 3) := by decide +kernel
theorem dL_trials_239 : decode cL_trials 239 = .ok (.iload 10, 2) := by decide +kernel
theorem dL_trials_241 : decode cL_trials 241 = .ok (.ifCond .eq 9, 3) := by decide +kernel
theorem dL_trials_244 : decode cL_trials 244 = .ok (.iload_n 2, 1) := by decide +kernel
theorem dL_trials_245 : decode cL_trials 245 = .ok (.ifCond .le 5, 3) := by decide +kernel
theorem dL_trials_248 : decode cL_trials 248 = .ok (.iconst (-1), 1) := by decide +kernel
theorem dL_trials_249 : decode cL_trials 249 = .ok (.ireturn, 1) := by decide +kernel
theorem dL_trials_250 : decode cL_trials 250 = .ok (.iload_n 3, 1) := by decide +kernel
theorem dL_trials_251 : decode cL_trials 251 = .ok (.ifCond .lt 12, 3) := by decide +kernel
theorem dL_trials_254 : decode cL_trials 254 = .ok (.aload_n 0, 1) := by decide +kernel
theorem dL_trials_255 : decode cL_trials 255 = .ok (.iconst 4, 1) := by decide +kernel
theorem dL_trials_256 : decode cL_trials 256 = .ok (.invokevirtual 16, 3) := by decide +kernel
theorem dL_trials_259 : decode cL_trials 259 = .ok (.iconst 1, 1) := by decide +kernel
theorem dL_trials_260 : decode cL_trials 260 = .ok (.if_icmp .ne 7, 3) := by decide +kernel
theorem dL_trials_263 : decode cL_trials 263 = .ok (.iconst 1, 1) := by decide +kernel
theorem dL_trials_264 : decode cL_trials 264 = .ok (.goto 4, 3) := by decide +kernel
theorem dL_trials_267 : decode cL_trials 267 = .ok (.iconst 0, 1) := by decide +kernel
theorem dL_trials_268 : decode cL_trials 268 = .ok (.istore 12, 2) := by decide +kernel
theorem dL_trials_270 : decode cL_trials 270 = .ok (.iload 4, 2) := by decide +kernel
theorem dL_trials_272 : decode cL_trials 272 = .ok (.iload 12, 2) := by decide +kernel
theorem dL_trials_274 : decode cL_trials 274 = .ok (.ifCond .eq 7, 3) := by decide +kernel
theorem dL_trials_277 : decode cL_trials 277 = .ok (.iconst 1, 1) := by decide +kernel
theorem dL_trials_278 : decode cL_trials 278 = .ok (.goto 4, 3) := by decide +kernel
theorem dL_trials_281 : decode cL_trials 281 = .ok (.iconst 0, 1) := by decide +kernel
theorem dL_trials_282 : decode cL_trials 282 = .ok (.iadd, 1) := by decide +kernel
theorem dL_trials_283 : decode cL_trials 283 = .ok (.istore 4, 2) := by decide +kernel
theorem dL_trials_285 : decode cL_trials 285 = .ok (.iload 12, 2) := by decide +kernel
theorem dL_trials_287 : decode cL_trials 287 = .ok (.ifCond .eq 28, 3) := by decide +kernel
theorem dL_trials_290 : decode cL_trials 290 = .ok (.aload_n 0, 1) := by decide +kernel
theorem dL_trials_291 : decode cL_trials 291 = .ok (.iload 8, 2) := by decide +kernel
theorem dL_trials_293 : decode cL_trials 293 = .ok (.iconst 0, 1) := by decide +kernel
theorem dL_trials_294 : decode cL_trials 294 = .ok (.invokestatic 80, 3) := by decide +kernel
theorem dL_trials_297 : decode cL_trials 297 = .ok (.lload 5, 2) := by decide +kernel
theorem dL_trials_299 : decode cL_trials 299 = .ok (.lcmp, 1) := by decide +kernel
theorem dL_trials_300 : decode cL_trials 300 = .ok (.ifCond .ge 15, 3) := by decide +kernel
theorem dL_trials_303 : decode cL_trials 303 = .ok (.iload 8, 2) := by decide +kernel
theorem dL_trials_305 : decode cL_trials 305 = .ok (.istore_n 3, 1) := by decide +kernel
theorem dL_trials_306 : decode cL_trials 306 = .ok (.aload_n 0, 1) := by decide +kernel
theorem dL_trials_307 : decode cL_trials 307 = .ok (.iload 8, 2) := by decide +kernel
theorem dL_trials_309 : decode cL_trials 309 = .ok (.iconst 0, 1) := by decide +kernel
theorem dL_trials_310 : decode cL_trials 310 = .ok (.invokestatic 80, 3) := by decide +kernel
theorem dL_trials_313 : decode cL_trials 313 = .ok (.lstore 5, 2) := by decide +kernel
theorem dL_trials_315 : decode cL_trials 315 = .ok (.aload_n 1, 1) := by decide +kernel
theorem dL_trials_316 : decode cL_trials 316 = .ok (.iload_n 2, 1) := by decide +kernel
theorem dL_trials_317 : decode cL_trials 317 = .ok (.iload 8, 2) := by decide +kernel
theorem dL_trials_319 : decode cL_trials 319 = .ok (.iastore, 1) := by decide +kernel
theorem dL_trials_320 : decode cL_trials 320 = .ok (.iload 7, 2) := by decide +kernel
theorem dL_trials_322 : decode cL_trials 322 = .ok (.iconst 1, 1) := by decide +kernel
theorem dL_trials_323 : decode cL_trials 323 = .ok (.iload 8, 2) := by decide +kernel
theorem dL_trials_325 : decode cL_trials 325 = .ok (.ishl, 1) := by decide +kernel
theorem dL_trials_326 : decode cL_trials 326 = .ok (.ior, 1) := by decide +kernel
theorem dL_trials_327 : decode cL_trials 327 = .ok (.istore 7, 2) := by decide +kernel
theorem dL_trials_329 : decode cL_trials 329 = .ok (.iinc 2 1, 3) := by decide +kernel
theorem dL_trials_332 : decode cL_trials 332 = .ok (.goto (-316), 3) := by decide +kernel
theorem dL_trials_335 : decode cL_trials 335 = .ok (.iconst 0, 1) := by decide +kernel
theorem dL_trials_336 : decode cL_trials 336 = .ok (.istore 8, 2) := by decide +kernel
theorem dL_trials_338 : decode cL_trials 338 = .ok (.iload 8, 2) := by decide +kernel
theorem dL_trials_340 : decode cL_trials 340 = .ok (.aload_n 0, 1) := by decide +kernel
theorem dL_trials_341 : decode cL_trials 341 = .ok (.iconst 2, 1) := by decide +kernel
theorem dL_trials_342 : decode cL_trials 342 = .ok (.invokevirtual 16, 3) := by decide +kernel
theorem dL_trials_345 : decode cL_trials 345 = .ok (.if_icmp .ge 36, 3) := by decide +kernel
theorem dL_trials_348 : decode cL_trials 348 = .ok (.aload_n 0, 1) := by decide +kernel
theorem dL_trials_349 : decode cL_trials 349 = .ok (.iload 8, 2) := by decide +kernel
theorem dL_trials_351 : decode cL_trials 351 = .ok (.invokestatic 84, 3) := by decide +kernel
theorem dL_trials_354 : decode cL_trials 354 = .ok (.iload 7, 2) := by decide +kernel
theorem dL_trials_356 : decode cL_trials 356 = .ok (.iload 8, 2) := by decide +kernel
theorem dL_trials_358 : decode cL_trials 358 = .ok (.ishr, 1) := by decide +kernel
theorem dL_trials_359 : decode cL_trials 359 = .ok (.iconst 1, 1) := by decide +kernel
theorem dL_trials_360 : decode cL_trials 360 = .ok (.iand, 1) := by decide +kernel
theorem dL_trials_361 : decode cL_trials 361 = .ok (.iconst 1, 1) := by decide +kernel
theorem dL_trials_362 : decode cL_trials 362 = .ok (.if_icmp .ne 7, 3) := by decide +kernel
theorem dL_trials_365 : decode cL_trials 365 = .ok (.iconst 1, 1) := by decide +kernel
theorem dL_trials_366 : decode cL_trials 366 = .ok (.goto 4, 3) := by decide +kernel
theorem dL_trials_369 : decode cL_trials 369 = .ok (.iconst 0, 1) := by decide +kernel
theorem dL_trials_370 : decode cL_trials 370 = .ok (.if_icmp .eq 5, 3) := by decide +kernel
theorem dL_trials_373 : decode cL_trials 373 = .ok (.iconst (-1), 1) := by decide +kernel
theorem dL_trials_374 : decode cL_trials 374 = .ok (.ireturn, 1) := by decide +kernel
theorem dL_trials_375 : decode cL_trials 375 = .ok (.iinc 8 1, 3) := by decide +kernel
theorem dL_trials_378 : decode cL_trials 378 = .ok (.goto (-40), 3) := by decide +kernel
theorem dL_trials_381 : decode cL_trials 381 = .ok (.bipush 100, 2) := by decide +kernel
theorem dL_trials_383 : decode cL_trials 383 = .ok (.iload 4, 2) := by decide +kernel
theorem dL_trials_385 : decode cL_trials 385 = .ok (.imul, 1) := by decide +kernel
theorem dL_trials_386 : decode cL_trials 386 = .ok (.iload_n 3, 1) := by decide +kernel
theorem dL_trials_387 : decode cL_trials 387 = .ok (.iadd, 1) := by decide +kernel
theorem dL_trials_388 : decode cL_trials 388 = .ok (.iconst 1, 1) := by decide +kernel
theorem dL_trials_389 : decode cL_trials 389 = .ok (.iadd, 1) := by decide +kernel
theorem dL_trials_390 : decode cL_trials 390 = .ok (.ireturn, 1) := by decide +kernel
theorem dL_poll_0 : decode cL_poll 0 = .ok (.aload_n 0, 1) := by decide +kernel
theorem dL_poll_1 : decode cL_poll 1 = .ok (.aload_n 1, 1) := by decide +kernel
theorem dL_poll_2 : decode cL_poll 2 = .ok (.invokestatic 88, 3) := by decide +kernel
theorem dL_poll_5 : decode cL_poll 5 = .ok (.istore_n 2, 1) := by decide +kernel
theorem dL_poll_6 : decode cL_poll 6 = .ok (.aload_n 0, 1) := by decide +kernel
theorem dL_poll_7 : decode cL_poll 7 = .ok (.iconst 3, 1) := by decide +kernel
theorem dL_poll_8 : decode cL_poll 8 = .ok (.invokevirtual 55, 3) := by decide +kernel
theorem dL_poll_11 : decode cL_poll 11 = .ok (.istore_n 3, 1) := by decide +kernel
theorem dL_poll_12 : decode cL_poll 12 = .ok (.iload_n 3, 1) := by decide +kernel
theorem dL_poll_13 : decode cL_poll 13 = .ok (.iconst 1, 1) := by decide +kernel
theorem dL_poll_14 : decode cL_poll 14 = .ok (.if_icmp .ne 7, 3) := by decide +kernel
theorem dL_poll_17 : decode cL_poll 17 = .ok (.iconst 0, 1) := by decide +kernel
theorem dL_poll_18 : decode cL_poll 18 = .ok (.goto 32, 3) := by decide +kernel
theorem dL_poll_21 : decode cL_poll 21 = .ok (.iload_n 3, 1) := by decide +kernel
theorem dL_poll_22 : decode cL_poll 22 = .ok (.iconst 2, 1) := by decide +kernel
theorem dL_poll_23 : decode cL_poll 23 = .ok (.if_icmp .ne 7, 3) := by decide +kernel
theorem dL_poll_26 : decode cL_poll 26 = .ok (.iconst 1, 1) := by decide +kernel
theorem dL_poll_27 : decode cL_poll 27 = .ok (.goto 23, 3) := by decide +kernel
theorem dL_poll_30 : decode cL_poll 30 = .ok (.iload_n 3, 1) := by decide +kernel
theorem dL_poll_31 : decode cL_poll 31 = .ok (.iconst 4, 1) := by decide +kernel
theorem dL_poll_32 : decode cL_poll 32 = .ok (.if_icmp .ne 7, 3) := by decide +kernel
theorem dL_poll_35 : decode cL_poll 35 = .ok (.iconst 2, 1) := by decide +kernel
theorem dL_poll_36 : decode cL_poll 36 = .ok (.goto 14, 3) := by decide +kernel
theorem dL_poll_39 : decode cL_poll 39 = .ok (.iload_n 3, 1) := by decide +kernel
theorem dL_poll_40 : decode cL_poll 40 = .ok (.bipush 8, 2) := by decide +kernel
theorem dL_poll_42 : decode cL_poll 42 = .ok (.if_icmp .ne 7, 3) := by decide +kernel
theorem dL_poll_45 : decode cL_poll 45 = .ok (.iconst 3, 1) := by decide +kernel
theorem dL_poll_46 : decode cL_poll 46 = .ok (.goto 4, 3) := by decide +kernel
theorem dL_poll_49 : decode cL_poll 49 = .ok (.iconst 4, 1) := by decide +kernel
theorem dL_poll_50 : decode cL_poll 50 = .ok (.istore 4, 2) := by decide +kernel
theorem dL_poll_52 : decode cL_poll 52 = .ok (.aload_n 0, 1) := by decide +kernel
theorem dL_poll_53 : decode cL_poll 53 = .ok (.iload 4, 2) := by decide +kernel
theorem dL_poll_55 : decode cL_poll 55 = .ok (.invokevirtual 92, 3) := by decide +kernel
theorem dL_poll_58 : decode cL_poll 58 = .ok (.istore 5, 2) := by decide +kernel
theorem dL_poll_60 : decode cL_poll 60 = .ok (.iload_n 2, 1) := by decide +kernel
theorem dL_poll_61 : decode cL_poll 61 = .ok (.ifCond .ge 5, 3) := by decide +kernel
theorem dL_poll_64 : decode cL_poll 64 = .ok (.iconst 0, 1) := by decide +kernel
theorem dL_poll_65 : decode cL_poll 65 = .ok (.ireturn, 1) := by decide +kernel
theorem dL_poll_66 : decode cL_poll 66 = .ok (.iload_n 2, 1) := by decide +kernel
theorem dL_poll_67 : decode cL_poll 67 = .ok (.bipush 100, 2) := by decide +kernel
theorem dL_poll_69 : decode cL_poll 69 = .ok (.irem, 1) := by decide +kernel
theorem dL_poll_70 : decode cL_poll 70 = .ok (.iconst 1, 1) := by decide +kernel
theorem dL_poll_71 : decode cL_poll 71 = .ok (.isub, 1) := by decide +kernel
theorem dL_poll_72 : decode cL_poll 72 = .ok (.istore 6, 2) := by decide +kernel
theorem dL_poll_74 : decode cL_poll 74 = .ok (.aload_n 0, 1) := by decide +kernel
theorem dL_poll_75 : decode cL_poll 75 = .ok (.iconst 4, 1) := by decide +kernel
theorem dL_poll_76 : decode cL_poll 76 = .ok (.invokevirtual 55, 3) := by decide +kernel
theorem dL_poll_79 : decode cL_poll 79 = .ok (.istore 7, 2) := by decide +kernel
theorem dL_poll_81 : decode cL_poll 81 = .ok (.aload_n 0, 1) := by decide +kernel
theorem dL_poll_82 : decode cL_poll 82 = .ok (.iconst 5, 1) := by decide +kernel
theorem dL_poll_83 : decode cL_poll 83 = .ok (.invokevirtual 55, 3) := by decide +kernel
theorem dL_poll_86 : decode cL_poll 86 = .ok (.istore 8, 2) := by decide +kernel
theorem dL_poll_88 : decode cL_poll 88 = .ok (.aload_n 0, 1) := by decide +kernel
theorem dL_poll_89 : decode cL_poll 89 = .ok (.bipush 6, 2) := by decide +kernel
theorem dL_poll_91 : decode cL_poll 91 = .ok (.invokevirtual 55, 3) := by decide +kernel
theorem dL_poll_94 : decode cL_poll 94 = .ok (.istore 9, 2) := by decide +kernel
theorem dL_poll_96 : decode cL_poll 96 = .ok (.aload_n 0, 1) := by decide +kernel
theorem dL_poll_97 : decode cL_poll 97 = .ok (.bipush 8, 2) := by decide +kernel
theorem dL_poll_99 : decode cL_poll 99 = .ok (.invokevirtual 55, 3) := by decide +kernel
theorem dL_poll_102 : decode cL_poll 102 = .ok (.istore 10, 2) := by decide +kernel
theorem dL_poll_104 : decode cL_poll 104 = .ok (.aload_n 0, 1) := by decide +kernel
theorem dL_poll_105 : decode cL_poll 105 = .ok (.iconst 0, 1) := by decide +kernel
theorem dL_poll_106 : decode cL_poll 106 = .ok (.invokevirtual 55, 3) := by decide +kernel
theorem dL_poll_109 : decode cL_poll 109 = .ok (.istore 11, 2) := by decide +kernel
theorem dL_poll_111 : decode cL_poll 111 = .ok (.aload_n 0, 1) := by decide +kernel
theorem dL_poll_112 : decode cL_poll 112 = .ok (.iconst 1, 1) := by decide +kernel
theorem dL_poll_113 : decode cL_poll 113 = .ok (.invokevirtual 55, 3) := by decide +kernel
theorem dL_poll_116 : decode cL_poll 116 = .ok (.istore 12, 2) := by decide +kernel
theorem dL_poll_118 : decode cL_poll 118 = .ok (.aload_n 0, 1) := by decide +kernel
theorem dL_poll_119 : decode cL_poll 119 = .ok (.iconst 2, 1) := by decide +kernel
theorem dL_poll_120 : decode cL_poll 120 = .ok (.invokevirtual 55, 3) := by decide +kernel
theorem dL_poll_123 : decode cL_poll 123 = .ok (.istore 13, 2) := by decide +kernel
theorem dL_poll_125 : decode cL_poll 125 = .ok (.iload 6, 2) := by decide +kernel
theorem dL_poll_127 : decode cL_poll 127 = .ok (.ifCond .ge 8, 3) := by decide +kernel
theorem dL_poll_130 : decode cL_poll 130 = .ok (.iload 11, 2) := by decide +kernel
theorem dL_poll_132 : decode cL_poll 132 = .ok (.goto 10, 3) := by decide +kernel
theorem dL_poll_135 : decode cL_poll 135 = .ok (.aload_n 0, 1) := by decide +kernel
theorem dL_poll_136 : decode cL_poll 136 = .ok (.iload 6, 2) := by decide +kernel
theorem dL_poll_138 : decode cL_poll 138 = .ok (.iconst 0, 1) := by decide +kernel
theorem dL_poll_139 : decode cL_poll 139 = .ok (.invokestatic 61, 3) := by decide +kernel
theorem dL_poll_142 : decode cL_poll 142 = .ok (.istore 14, 2) := by decide +kernel
theorem dL_poll_144 : decode cL_poll 144 = .ok (.iload 6, 2) := by decide +kernel
theorem dL_poll_146 : decode cL_poll 146 = .ok (.ifCond .ge 8, 3) := by decide +kernel
theorem dL_poll_149 : decode cL_poll 149 = .ok (.iload 12, 2) := by decide +kernel
theorem dL_poll_151 : decode cL_poll 151 = .ok (.goto 10, 3) := by decide +kernel
theorem dL_poll_154 : decode cL_poll 154 = .ok (.aload_n 0, 1) := by decide +kernel
theorem dL_poll_155 : decode cL_poll 155 = .ok (.iload 6, 2) := by decide +kernel
theorem dL_poll_157 : decode cL_poll 157 = .ok (.iconst 1, 1) := by decide +kernel
theorem dL_poll_158 : decode cL_poll 158 = .ok (.invokestatic 61, 3) := by decide +kernel
theorem dL_poll_161 : decode cL_poll 161 = .ok (.istore 15, 2) := by decide +kernel
theorem dL_poll_163 : decode cL_poll 163 = .ok (.iload 6, 2) := by decide +kernel
theorem dL_poll_165 : decode cL_poll 165 = .ok (.ifCond .ge 8, 3) := by decide +kernel
theorem dL_poll_168 : decode cL_poll 168 = .ok (.iload 13, 2) := by decide +kernel
theorem dL_poll_170 : decode cL_poll 170 = .ok (.goto 10, 3) := by decide +kernel
theorem dL_poll_173 : decode cL_poll 173 = .ok (.aload_n 0, 1) := by decide +kernel
theorem dL_poll_174 : decode cL_poll 174 = .ok (.iload 6, 2) := by decide +kernel
theorem dL_poll_176 : decode cL_poll 176 = .ok (.iconst 2, 1) := by decide +kernel
theorem dL_poll_177 : decode cL_poll 177 = .ok (.invokestatic 61, 3) := by decide +kernel
theorem dL_poll_180 : decode cL_poll 180 = .ok (.istore 16, 2) := by decide +kernel
theorem dL_poll_182 : decode cL_poll 182 = .ok (.iload 6, 2) := by decide +kernel
theorem dL_poll_184 : decode cL_poll 184 = .ok (.ifCond .ge 7, 3) := by decide +kernel
theorem dL_poll_187 : decode cL_poll 187 = .ok (.iconst 0, 1) := by decide +kernel
theorem dL_poll_188 : decode cL_poll 188 = .ok (.goto 10, 3) := by decide +kernel
theorem dL_poll_191 : decode cL_poll 191 = .ok (.aload_n 0, 1) := by decide +kernel
theorem dL_poll_192 : decode cL_poll 192 = .ok (.iload 6, 2) := by decide +kernel
theorem dL_poll_194 : decode cL_poll 194 = .ok (.iconst 3, 1) := by decide +kernel
theorem dL_poll_195 : decode cL_poll 195 = .ok (.invokevirtual 58, 3) := by decide +kernel
theorem dL_poll_198 : decode cL_poll 198 = .ok (.istore 17, 2) := by decide +kernel
theorem dL_poll_200 : decode cL_poll 200 = .ok (.aload_n 0, 1) := by decide +kernel
theorem dL_poll_201 : decode cL_poll 201 = .ok (.invokestatic 73, 3) := by decide +kernel
theorem dL_poll_204 : decode cL_poll 204 = .ok (.lstore 18, 2) := by decide +kernel
theorem dL_poll_206 : decode cL_poll 206 = .ok (.iload 5, 2) := by decide +kernel
theorem dL_poll_208 : decode cL_poll 208 = .ok (.iload 6, 2) := by decide +kernel
theorem dL_poll_210 : decode cL_poll 210 = .ok (.ifCond .ge 7, 3) := by decide +kernel
theorem dL_poll_213 : decode cL_poll 213 = .ok (.iconst 1, 1) := by decide +kernel
theorem dL_poll_214 : decode cL_poll 214 = .ok (.goto 4, 3) := by decide +kernel
theorem dL_poll_217 : decode cL_poll 217 = .ok (.iconst 0, 1) := by decide +kernel
theorem dL_poll_218 : decode cL_poll 218 = .ok (.if_icmp .ne 70, 3) := by decide +kernel
theorem dL_poll_221 : decode cL_poll 221 = .ok (.aload_n 0, 1) := by decide +kernel
theorem dL_poll_222 : decode cL_poll 222 = .ok (.invokevirtual 95, 3) := by decide +kernel
theorem dL_poll_225 : decode cL_poll 225 = .ok (.iload 6, 2) := by decide +kernel
theorem dL_poll_227 : decode cL_poll 227 = .ok (.if_icmp .ne 61, 3) := by decide +kernel
theorem dL_poll_230 : decode cL_poll 230 = .ok (.aload_n 0, 1) := by decide +kernel
theorem dL_poll_231 : decode cL_poll 231 = .ok (.iconst 4, 1) := by decide +kernel
theorem dL_poll_232 : decode cL_poll 232 = .ok (.invokevirtual 55, 3) := by decide +kernel
theorem dL_poll_235 : decode cL_poll 235 = .ok (.iload 7, 2) := by decide +kernel
theorem dL_poll_237 : decode cL_poll 237 = .ok (.iconst 1, 1) := by decide +kernel
theorem dL_poll_238 : decode cL_poll 238 = .ok (.iadd, 1) := by decide +kernel
theorem dL_poll_239 : decode cL_poll 239 = .ok (.if_icmp .ne 49, 3) := by decide +kernel
theorem dL_poll_242 : decode cL_poll 242 = .ok (.aload_n 0, 1) := by decide +kernel
theorem dL_poll_243 : decode cL_poll 243 = .ok (.bipush 6, 2) := by decide +kernel
theorem dL_poll_245 : decode cL_poll 245 = .ok (.invokevirtual 55, 3) := by decide +kernel
theorem dL_poll_248 : decode cL_poll 248 = .ok (.iload 9, 2) := by decide +kernel
theorem dL_poll_250 : decode cL_poll 250 = .ok (.iload_n 2, 1) := by decide +kernel
theorem dL_poll_251 : decode cL_poll 251 = .ok (.bipush 100, 2) := by decide +kernel
theorem dL_poll_253 : decode cL_poll 253 = .ok (.idiv, 1) := by decide +kernel
theorem dL_poll_254 : decode cL_poll 254 = .ok (.iadd, 1) := by decide +kernel
theorem dL_poll_255 : decode cL_poll 255 = .ok (.if_icmp .ne 33, 3) := by decide +kernel
theorem dL_poll_258 : decode cL_poll 258 = .ok (.aload_n 0, 1) := by decide +kernel
theorem dL_poll_259 : decode cL_poll 259 = .ok (.iconst 0, 1) := by decide +kernel
theorem dL_poll_260 : decode cL_poll 260 = .ok (.invokevirtual 55, 3) := by decide +kernel
theorem dL_poll_263 : decode cL_poll 263 = .ok (.iload 14, 2) := by decide +kernel
theorem dL_poll_265 : decode cL_poll 265 = .ok (.if_icmp .ne 23, 3) := by decide +kernel
theorem dL_poll_268 : decode cL_poll 268 = .ok (.aload_n 0, 1) := by decide +kernel
theorem dL_poll_269 : decode cL_poll 269 = .ok (.iconst 1, 1) := by decide +kernel
theorem dL_poll_270 : decode cL_poll 270 = .ok (.invokevirtual 55, 3) := by decide +kernel
theorem dL_poll_273 : decode cL_poll 273 = .ok (.iload 15, 2) := by decide +kernel
theorem dL_poll_275 : decode cL_poll 275 = .ok (.if_icmp .ne 13, 3) := by decide +kernel
theorem dL_poll_278 : decode cL_poll 278 = .ok (.aload_n 0, 1) := by decide +kernel
theorem dL_poll_279 : decode cL_poll 279 = .ok (.iconst 2, 1) := by decide +kernel
theorem dL_poll_280 : decode cL_poll 280 = .ok (.invokevirtual 55, 3) := by decide +kernel
theorem dL_poll_283 : decode cL_poll 283 = .ok (.iload 16, 2) := by decide +kernel
theorem dL_poll_285 : decode cL_poll 285 = .ok (.if_icmp .eq 5, 3) := by decide +kernel
theorem dL_poll_288 : decode cL_poll 288 = .ok (.iconst 0, 1) := by decide +kernel
theorem dL_poll_289 : decode cL_poll 289 = .ok (.ireturn, 1) := by decide +kernel
theorem dL_poll_290 : decode cL_poll 290 = .ok (.iload 6, 2) := by decide +kernel
theorem dL_poll_292 : decode cL_poll 292 = .ok (.ifCond .ge 79, 3) := by decide +kernel
theorem dL_poll_295 : decode cL_poll 295 = .ok (.aload_n 0, 1) := by decide +kernel
theorem dL_poll_296 : decode cL_poll 296 = .ok (.iconst 3, 1) := by decide +kernel
theorem dL_poll_297 : decode cL_poll 297 = .ok (.invokevirtual 55, 3) := by decide +kernel
theorem dL_poll_300 : decode cL_poll 300 = .ok (.iload_n 3, 1) := by decide +kernel
theorem dL_poll_301 : decode cL_poll 301 = .ok (.iconst 1, 1) := by decide +kernel
theorem dL_poll_302 : decode cL_poll 302 = .ok (.if_icmp .ne 7, 3) := by decide +kernel
theorem dL_poll_305 : decode cL_poll 305 = .ok (.iconst 1, 1) := by decide +kernel
theorem dL_poll_306 : decode cL_poll 306 = .ok (.goto 6, 3) := by decide +kernel
theorem dL_poll_309 : decode cL_poll 309 = .ok (.iload_n 3, 1) := by decide +kernel
theorem dL_poll_310 : decode cL_poll 310 = .ok (.iconst 2, 1) := by decide +kernel
theorem dL_poll_311 : decode cL_poll 311 = .ok (.idiv, 1) := by decide +kernel
theorem dL_poll_312 : decode cL_poll 312 = .ok (.if_icmp .ne 57, 3) := by decide +kernel
theorem dL_poll_315 : decode cL_poll 315 = .ok (.aload_n 0, 1) := by decide +kernel
theorem dL_poll_316 : decode cL_poll 316 = .ok (.iconst 5, 1) := by decide +kernel
theorem dL_poll_317 : decode cL_poll 317 = .ok (.invokevirtual 55, 3) := by decide +kernel
theorem dL_poll_320 : decode cL_poll 320 = .ok (.iload 8, 2) := by decide +kernel
theorem dL_poll_322 : decode cL_poll 322 = .ok (.if_icmp .ne 47, 3) := by decide +kernel
theorem dL_poll_325 : decode cL_poll 325 = .ok (.aload_n 0, 1) := by decide +kernel
theorem dL_poll_326 : decode cL_poll 326 = .ok (.bipush 8, 2) := by decide +kernel
theorem dL_poll_328 : decode cL_poll 328 = .ok (.invokevirtual 55, 3) := by decide +kernel
theorem dL_poll_331 : decode cL_poll 331 = .ok (.iload 10, 2) := by decide +kernel
theorem dL_poll_333 : decode cL_poll 333 = .ok (.if_icmp .ne 36, 3) := by decide +kernel
theorem dL_poll_336 : decode cL_poll 336 = .ok (.aload_n 0, 1) := by decide +kernel
theorem dL_poll_337 : decode cL_poll 337 = .ok (.bipush 9, 2) := by decide +kernel
theorem dL_poll_339 : decode cL_poll 339 = .ok (.invokevirtual 55, 3) := by decide +kernel
theorem dL_poll_342 : decode cL_poll 342 = .ok (.iload_n 3, 1) := by decide +kernel
theorem dL_poll_343 : decode cL_poll 343 = .ok (.iconst 1, 1) := by decide +kernel
theorem dL_poll_344 : decode cL_poll 344 = .ok (.if_icmp .ne 7, 3) := by decide +kernel
theorem dL_poll_347 : decode cL_poll 347 = .ok (.iconst 1, 1) := by decide +kernel
theorem dL_poll_348 : decode cL_poll 348 = .ok (.goto 4, 3) := by decide +kernel
theorem dL_poll_351 : decode cL_poll 351 = .ok (.iconst 0, 1) := by decide +kernel
theorem dL_poll_352 : decode cL_poll 352 = .ok (.if_icmp .ne 17, 3) := by decide +kernel
theorem dL_poll_355 : decode cL_poll 355 = .ok (.aload_n 0, 1) := by decide +kernel
theorem dL_poll_356 : decode cL_poll 356 = .ok (.invokestatic 73, 3) := by decide +kernel
theorem dL_poll_359 : decode cL_poll 359 = .ok (.lload 18, 2) := by decide +kernel
theorem dL_poll_361 : decode cL_poll 361 = .ok (.lcmp, 1) := by decide +kernel
theorem dL_poll_362 : decode cL_poll 362 = .ok (.ifCond .ne 7, 3) := by decide +kernel
theorem dL_poll_365 : decode cL_poll 365 = .ok (.iconst 1, 1) := by decide +kernel
theorem dL_poll_366 : decode cL_poll 366 = .ok (.goto 4, 3) := by decide +kernel
theorem dL_poll_369 : decode cL_poll 369 = .ok (.iconst 0, 1) := by decide +kernel
theorem dL_poll_370 : decode cL_poll 370 = .ok (.ireturn, 1) := by decide +kernel
theorem dL_poll_371 : decode cL_poll 371 = .ok (.aload_n 0, 1) := by decide +kernel
theorem dL_poll_372 : decode cL_poll 372 = .ok (.iconst 3, 1) := by decide +kernel
theorem dL_poll_373 : decode cL_poll 373 = .ok (.invokevirtual 55, 3) := by decide +kernel
theorem dL_poll_376 : decode cL_poll 376 = .ok (.iload_n 3, 1) := by decide +kernel
theorem dL_poll_377 : decode cL_poll 377 = .ok (.bipush 16, 2) := by decide +kernel
theorem dL_poll_379 : decode cL_poll 379 = .ok (.if_icmp .ne 8, 3) := by decide +kernel
theorem dL_poll_382 : decode cL_poll 382 = .ok (.bipush 16, 2) := by decide +kernel
theorem dL_poll_384 : decode cL_poll 384 = .ok (.goto 6, 3) := by decide +kernel
theorem dL_poll_387 : decode cL_poll 387 = .ok (.iconst 2, 1) := by decide +kernel
theorem dL_poll_388 : decode cL_poll 388 = .ok (.iload_n 3, 1) := by decide +kernel
theorem dL_poll_389 : decode cL_poll 389 = .ok (.imul, 1) := by decide +kernel
theorem dL_poll_390 : decode cL_poll 390 = .ok (.if_icmp .ne 74, 3) := by decide +kernel
theorem dL_poll_393 : decode cL_poll 393 = .ok (.aload_n 0, 1) := by decide +kernel
theorem dL_poll_394 : decode cL_poll 394 = .ok (.iconst 5, 1) := by decide +kernel
theorem dL_poll_395 : decode cL_poll 395 = .ok (.invokevirtual 55, 3) := by decide +kernel
theorem dL_poll_398 : decode cL_poll 398 = .ok (.iload 8, 2) := by decide +kernel
theorem dL_poll_400 : decode cL_poll 400 = .ok (.iconst 1, 1) := by decide +kernel
theorem dL_poll_401 : decode cL_poll 401 = .ok (.iadd, 1) := by decide +kernel
theorem dL_poll_402 : decode cL_poll 402 = .ok (.if_icmp .ne 62, 3) := by decide +kernel
theorem dL_poll_405 : decode cL_poll 405 = .ok (.aload_n 0, 1) := by decide +kernel
theorem dL_poll_406 : decode cL_poll 406 = .ok (.bipush 7, 2) := by decide +kernel
theorem dL_poll_408 : decode cL_poll 408 = .ok (.invokevirtual 55, 3) := by decide +kernel
theorem dL_poll_411 : decode cL_poll 411 = .ok (.iload 6, 2) := by decide +kernel
theorem dL_poll_413 : decode cL_poll 413 = .ok (.if_icmp .ne 51, 3) := by decide +kernel
theorem dL_poll_416 : decode cL_poll 416 = .ok (.aload_n 0, 1) := by decide +kernel
theorem dL_poll_417 : decode cL_poll 417 = .ok (.bipush 8, 2) := by decide +kernel
theorem dL_poll_419 : decode cL_poll 419 = .ok (.invokevirtual 55, 3) := by decide +kernel
theorem dL_poll_422 : decode cL_poll 422 = .ok (.iload 10, 2) := by decide +kernel
theorem dL_poll_424 : decode cL_poll 424 = .ok (.bipush 6, 2) := by decide +kernel
theorem dL_poll_426 : decode cL_poll 426 = .ok (.if_icmp .ge 10, 3) := by decide +kernel
theorem dL_poll_429 : decode cL_poll 429 = .ok (.iload 10, 2) := by decide +kernel
theorem dL_poll_431 : decode cL_poll 431 = .ok (.iconst 1, 1) := by decide +kernel
theorem dL_poll_432 : decode cL_poll 432 = .ok (.iadd, 1) := by decide +kernel
theorem dL_poll_433 : decode cL_poll 433 = .ok (.goto 5, 3) := by decide +kernel
theorem dL_poll_436 : decode cL_poll 436 = .ok (.bipush 6, 2) := by decide +kernel
theorem dL_poll_438 : decode cL_poll 438 = .ok (.if_icmp .ne 26, 3) := by decide +kernel
theorem dL_poll_441 : decode cL_poll 441 = .ok (.aload_n 0, 1) := by decide +kernel
theorem dL_poll_442 : decode cL_poll 442 = .ok (.bipush 9, 2) := by decide +kernel
theorem dL_poll_444 : decode cL_poll 444 = .ok (.invokevirtual 55, 3) := by decide +kernel
theorem dL_poll_447 : decode cL_poll 447 = .ok (.ifCond .ne 17, 3) := by decide +kernel
theorem dL_poll_450 : decode cL_poll 450 = .ok (.aload_n 0, 1) := by decide +kernel
theorem dL_poll_451 : decode cL_poll 451 = .ok (.invokestatic 73, 3) := by decide +kernel
theorem dL_poll_454 : decode cL_poll 454 = .ok (.lload 18, 2) := by decide +kernel
theorem dL_poll_456 : decode cL_poll 456 = .ok (.lcmp, 1) := by decide +kernel
theorem dL_poll_457 : decode cL_poll 457 = .ok (.ifCond .ge 7, 3) := by decide +kernel
theorem dL_poll_460 : decode cL_poll 460 = .ok (.iconst 1, 1) := by decide +kernel
theorem dL_poll_461 : decode cL_poll 461 = .ok (.goto 4, 3) := by decide +kernel
theorem dL_poll_464 : decode cL_poll 464 = .ok (.iconst 0, 1) := by decide +kernel
theorem dL_poll_465 : decode cL_poll 465 = .ok (.istore 20, 2) := by decide +kernel
theorem dL_poll_467 : decode cL_poll 467 = .ok (.iload 20, 2) := by decide +kernel
theorem dL_poll_469 : decode cL_poll 469 = .ok (.ifCond .eq 72, 3) := by decide +kernel
theorem dL_poll_472 : decode cL_poll 472 = .ok (.aload_n 0, 1) := by decide +kernel
theorem dL_poll_473 : decode cL_poll 473 = .ok (.iload 6, 2) := by decide +kernel
theorem dL_poll_475 : decode cL_poll 475 = .ok (.iconst 3, 1) := by decide +kernel
theorem dL_poll_476 : decode cL_poll 476 = .ok (.invokevirtual 58, 3) := by decide +kernel
theorem dL_poll_479 : decode cL_poll 479 = .ok (.iload 17, 2) := by decide +kernel
theorem dL_poll_481 : decode cL_poll 481 = .ok (.iconst 1, 1) := by decide +kernel
theorem dL_poll_482 : decode cL_poll 482 = .ok (.iadd, 1) := by decide +kernel
theorem dL_poll_483 : decode cL_poll 483 = .ok (.if_icmp .ne 58, 3) := by decide +kernel
theorem dL_poll_486 : decode cL_poll 486 = .ok (.aload_n 0, 1) := by decide +kernel
theorem dL_poll_487 : decode cL_poll 487 = .ok (.iconst 0, 1) := by decide +kernel
theorem dL_poll_488 : decode cL_poll 488 = .ok (.iconst 0, 1) := by decide +kernel
theorem dL_poll_489 : decode cL_poll 489 = .ok (.invokevirtual 98, 3) := by decide +kernel
theorem dL_poll_492 : decode cL_poll 492 = .ok (.iload 11, 2) := by decide +kernel
theorem dL_poll_494 : decode cL_poll 494 = .ok (.if_icmp .ne 47, 3) := by decide +kernel
theorem dL_poll_497 : decode cL_poll 497 = .ok (.aload_n 0, 1) := by decide +kernel
theorem dL_poll_498 : decode cL_poll 498 = .ok (.iconst 0, 1) := by decide +kernel
theorem dL_poll_499 : decode cL_poll 499 = .ok (.invokevirtual 16, 3) := by decide +kernel
theorem dL_poll_502 : decode cL_poll 502 = .ok (.iconst 2, 1) := by decide +kernel
theorem dL_poll_503 : decode cL_poll 503 = .ok (.if_icmp .lt 14, 3) := by decide +kernel
theorem dL_poll_506 : decode cL_poll 506 = .ok (.aload_n 0, 1) := by decide +kernel
theorem dL_poll_507 : decode cL_poll 507 = .ok (.iconst 0, 1) := by decide +kernel
theorem dL_poll_508 : decode cL_poll 508 = .ok (.iconst 1, 1) := by decide +kernel
theorem dL_poll_509 : decode cL_poll 509 = .ok (.invokevirtual 98, 3) := by decide +kernel
theorem dL_poll_512 : decode cL_poll 512 = .ok (.iload 12, 2) := by decide +kernel
theorem dL_poll_514 : decode cL_poll 514 = .ok (.if_icmp .ne 27, 3) := by decide +kernel
theorem dL_poll_517 : decode cL_poll 517 = .ok (.aload_n 0, 1) := by decide +kernel
theorem dL_poll_518 : decode cL_poll 518 = .ok (.iconst 0, 1) := by decide +kernel
theorem dL_poll_519 : decode cL_poll 519 = .ok (.invokevirtual 16, 3) := by decide +kernel
theorem dL_poll_522 : decode cL_poll 522 = .ok (.iconst 3, 1) := by decide +kernel
theorem dL_poll_523 : decode cL_poll 523 = .ok (.if_icmp .lt 14, 3) := by decide +kernel
theorem dL_poll_526 : decode cL_poll 526 = .ok (.aload_n 0, 1) := by decide +kernel
theorem dL_poll_527 : decode cL_poll 527 = .ok (.iconst 0, 1) := by decide +kernel
theorem dL_poll_528 : decode cL_poll 528 = .ok (.iconst 2, 1) := by decide +kernel
theorem dL_poll_529 : decode cL_poll 529 = .ok (.invokevirtual 98, 3) := by decide +kernel
theorem dL_poll_532 : decode cL_poll 532 = .ok (.iload 13, 2) := by decide +kernel
theorem dL_poll_534 : decode cL_poll 534 = .ok (.if_icmp .ne 7, 3) := by decide +kernel
theorem dL_poll_537 : decode cL_poll 537 = .ok (.iconst 1, 1) := by decide +kernel
theorem dL_poll_538 : decode cL_poll 538 = .ok (.goto 4, 3) := by decide +kernel
theorem dL_poll_541 : decode cL_poll 541 = .ok (.iconst 0, 1) := by decide +kernel
theorem dL_poll_542 : decode cL_poll 542 = .ok (.ireturn, 1) := by decide +kernel
theorem dL_around_0 : decode cL_around 0 = .ok (.aload_n 0, 1) := by decide +kernel
theorem dL_around_1 : decode cL_around 1 = .ok (.iconst 3, 1) := by decide +kernel
theorem dL_around_2 : decode cL_around 2 = .ok (.invokevirtual 55, 3) := by decide +kernel
theorem dL_around_5 : decode cL_around 5 = .ok (.istore_n 2, 1) := by decide +kernel
theorem dL_around_6 : decode cL_around 6 = .ok (.aload_n 0, 1) := by decide +kernel
theorem dL_around_7 : decode cL_around 7 = .ok (.iconst 0, 1) := by decide +kernel
theorem dL_around_8 : decode cL_around 8 = .ok (.invokevirtual 16, 3) := by decide +kernel
theorem dL_around_11 : decode cL_around 11 = .ok (.iconst 1, 1) := by decide +kernel
theorem dL_around_12 : decode cL_around 12 = .ok (.if_icmp .le 7, 3) := by decide +kernel
theorem dL_around_15 : decode cL_around 15 = .ok (.iload_n 1, 1) := by decide +kernel
theorem dL_around_16 : decode cL_around 16 = .ok (.goto 4, 3) := by decide +kernel
theorem dL_around_19 : decode cL_around 19 = .ok (.iconst 0, 1) := by decide +kernel
theorem dL_around_20 : decode cL_around 20 = .ok (.istore_n 3, 1) := by decide +kernel
theorem dL_around_21 : decode cL_around 21 = .ok (.aload_n 0, 1) := by decide +kernel
theorem dL_around_22 : decode cL_around 22 = .ok (.iconst 0, 1) := by decide +kernel
theorem dL_around_23 : decode cL_around 23 = .ok (.invokevirtual 16, 3) := by decide +kernel
theorem dL_around_26 : decode cL_around 26 = .ok (.iconst 2, 1) := by decide +kernel
theorem dL_around_27 : decode cL_around 27 = .ok (.if_icmp .le 7, 3) := by decide +kernel
theorem dL_around_30 : decode cL_around 30 = .ok (.iload_n 1, 1) := by decide +kernel
theorem dL_around_31 : decode cL_around 31 = .ok (.goto 4, 3) := by decide +kernel
theorem dL_around_34 : decode cL_around 34 = .ok (.iconst 0, 1) := by decide +kernel
theorem dL_around_35 : decode cL_around 35 = .ok (.istore 4, 2) := by decide +kernel
theorem dL_around_37 : decode cL_around 37 = .ok (.ldc2_w 101, 3) := by decide +kernel
theorem dL_around_40 : decode cL_around 40 = .ok (.lstore 5, 2) := by decide +kernel
theorem dL_around_42 : decode cL_around 42 = .ok (.iconst 0, 1) := by decide +kernel
theorem dL_around_43 : decode cL_around 43 = .ok (.istore 7, 2) := by decide +kernel
theorem dL_around_45 : decode cL_around 45 = .ok (.iconst 0, 1) := by decide +kernel
theorem dL_around_46 : decode cL_around 46 = .ok (.istore 8, 2) := by decide +kernel
theorem dL_around_48 : decode cL_around 48 = .ok (.iconst 0, 1) := by decide +kernel
theorem dL_around_49 : decode cL_around 49 = .ok (.istore 9, 2) := by decide +kernel
theorem dL_around_51 : decode cL_around 51 = .ok (.iload_n 1, 1) := by decide +kernel
theorem dL_around_52 : decode cL_around 52 = .ok (.ineg, 1) := by decide +kernel
theorem dL_around_53 : decode cL_around 53 = .ok (.istore 10, 2) := by decide +kernel
theorem dL_around_55 : decode cL_around 55 = .ok (.iload 10, 2) := by decide +kernel
theorem dL_around_57 : decode cL_around 57 = .ok (.iload_n 1, 1) := by decide +kernel
theorem dL_around_58 : decode cL_around 58 = .ok (.if_icmp .gt 134, 3) := by decide +kernel
theorem dL_around_61 : decode cL_around 61 = .ok (.iload_n 3, 1) := by decide +kernel
theorem dL_around_62 : decode cL_around 62 = .ok (.ineg, 1) := by decide +kernel
theorem dL_around_63 : decode cL_around 63 = .ok (.istore 11, 2) := by decide +kernel
theorem dL_around_65 : decode cL_around 65 = .ok (.iload 11, 2) := by decide +kernel
theorem dL_around_67 : decode cL_around 67 = .ok (.iload_n 3, 1) := by decide +kernel
theorem dL_around_68 : decode cL_around 68 = .ok (.if_icmp .gt 118, 3) := by decide +kernel
theorem dL_around_71 : decode cL_around 71 = .ok (.iload 4, 2) := by decide +kernel
theorem dL_around_73 : decode cL_around 73 = .ok (.ineg, 1) := by decide +kernel
theorem dL_around_74 : decode cL_around 74 = .ok (.istore 12, 2) := by decide +kernel
theorem dL_around_76 : decode cL_around 76 = .ok (.iload 12, 2) := by decide +kernel
theorem dL_around_78 : decode cL_around 78 = .ok (.iload 4, 2) := by decide +kernel
theorem dL_around_80 : decode cL_around 80 = .ok (.if_icmp .gt 100, 3) := by decide +kernel
theorem dL_around_83 : decode cL_around 83 = .ok (.aload_n 0, 1) := by decide +kernel
theorem dL_around_84 : decode cL_around 84 = .ok (.iconst 0, 1) := by decide +kernel
theorem dL_around_85 : decode cL_around 85 = .ok (.invokevirtual 55, 3) := by decide +kernel
theorem dL_around_88 : decode cL_around 88 = .ok (.iload_n 2, 1) := by decide +kernel
theorem dL_around_89 : decode cL_around 89 = .ok (.iload 10, 2) := by decide +kernel
theorem dL_around_91 : decode cL_around 91 = .ok (.imul, 1) := by decide +kernel
theorem dL_around_92 : decode cL_around 92 = .ok (.iadd, 1) := by decide +kernel
theorem dL_around_93 : decode cL_around 93 = .ok (.istore 13, 2) := by decide +kernel
theorem dL_around_95 : decode cL_around 95 = .ok (.aload_n 0, 1) := by decide +kernel
theorem dL_around_96 : decode cL_around 96 = .ok (.iconst 1, 1) := by decide +kernel
theorem dL_around_97 : decode cL_around 97 = .ok (.invokevirtual 55, 3) := by decide +kernel
theorem dL_around_100 : decode cL_around 100 = .ok (.iload_n 2, 1) := by decide +kernel
theorem dL_around_101 : decode cL_around 101 = .ok (.iload 11, 2) := by decide +kernel
theorem dL_around_103 : decode cL_around 103 = .ok (.imul, 1) := by decide +kernel
theorem dL_around_104 : decode cL_around 104 = .ok (.iadd, 1) := by decide +kernel
theorem dL_around_105 : decode cL_around 105 = .ok (.istore 14, 2) := by decide +kernel
theorem dL_around_107 : decode cL_around 107 = .ok (.aload_n 0, 1) := by decide +kernel
theorem dL_around_108 : decode cL_around 108 = .ok (.iconst 2, 1) := by decide +kernel
theorem dL_around_109 : decode cL_around 109 = .ok (.invokevirtual 55, 3) := by decide +kernel
theorem dL_around_112 : decode cL_around 112 = .ok (.iload_n 2, 1) := by decide +kernel
theorem dL_around_113 : decode cL_around 113 = .ok (.iload 12, 2) := by decide +kernel
theorem dL_around_115 : decode cL_around 115 = .ok (.imul, 1) := by decide +kernel
theorem dL_around_116 : decode cL_around 116 = .ok (.iadd, 1) := by decide +kernel
theorem dL_around_117 : decode cL_around 117 = .ok (.istore 15, 2) := by decide +kernel
theorem dL_around_119 : decode cL_around 119 = .ok (.aload_n 0, 1) := by decide +kernel
theorem dL_around_120 : decode cL_around 120 = .ok (.iload 13, 2) := by decide +kernel
theorem dL_around_122 : decode cL_around 122 = .ok (.iload 14, 2) := by decide +kernel
theorem dL_around_124 : decode cL_around 124 = .ok (.iload 15, 2) := by decide +kernel
theorem dL_around_126 : decode cL_around 126 = .ok (.invokestatic 65, 3) := by decide +kernel
theorem dL_around_129 : decode cL_around 129 = .ok (.ifCond .eq 45, 3) := by decide +kernel
theorem dL_around_132 : decode cL_around 132 = .ok (.aload_n 0, 1) := by decide +kernel
theorem dL_around_133 : decode cL_around 133 = .ok (.iload 13, 2) := by decide +kernel
theorem dL_around_135 : decode cL_around 135 = .ok (.iload 14, 2) := by decide +kernel
theorem dL_around_137 : decode cL_around 137 = .ok (.iload 15, 2) := by decide +kernel
theorem dL_around_139 : decode cL_around 139 = .ok (.iconst 0, 1) := by decide +kernel
theorem dL_around_140 : decode cL_around 140 = .ok (.invokevirtual 69, 3) := by decide +kernel
theorem dL_around_143 : decode cL_around 143 = .ok (.lload 5, 2) := by decide +kernel
theorem dL_around_145 : decode cL_around 145 = .ok (.lcmp, 1) := by decide +kernel
theorem dL_around_146 : decode cL_around 146 = .ok (.ifCond .ge 28, 3) := by decide +kernel
theorem dL_around_149 : decode cL_around 149 = .ok (.aload_n 0, 1) := by decide +kernel
theorem dL_around_150 : decode cL_around 150 = .ok (.iload 13, 2) := by decide +kernel
theorem dL_around_152 : decode cL_around 152 = .ok (.iload 14, 2) := by decide +kernel
theorem dL_around_154 : decode cL_around 154 = .ok (.iload 15, 2) := by decide +kernel
theorem dL_around_156 : decode cL_around 156 = .ok (.iconst 0, 1) := by decide +kernel
theorem dL_around_157 : decode cL_around 157 = .ok (.invokevirtual 69, 3) := by decide +kernel
theorem dL_around_160 : decode cL_around 160 = .ok (.lstore 5, 2) := by decide +kernel
theorem dL_around_162 : decode cL_around 162 = .ok (.iload 13, 2) := by decide +kernel
theorem dL_around_164 : decode cL_around 164 = .ok (.istore 7, 2) := by decide +kernel
theorem dL_around_166 : decode cL_around 166 = .ok (.iload 14, 2) := by decide +kernel
theorem dL_around_168 : decode cL_around 168 = .ok (.istore 8, 2) := by decide +kernel
theorem dL_around_170 : decode cL_around 170 = .ok (.iload 15, 2) := by decide +kernel
theorem dL_around_172 : decode cL_around 172 = .ok (.istore 9, 2) := by decide +kernel
theorem dL_around_174 : decode cL_around 174 = .ok (.iinc 12 1, 3) := by decide +kernel
theorem dL_around_177 : decode cL_around 177 = .ok (.goto (-101), 3) := by decide +kernel
theorem dL_around_180 : decode cL_around 180 = .ok (.iinc 11 1, 3) := by decide +kernel
theorem dL_around_183 : decode cL_around 183 = .ok (.goto (-118), 3) := by decide +kernel
theorem dL_around_186 : decode cL_around 186 = .ok (.iinc 10 1, 3) := by decide +kernel
theorem dL_around_189 : decode cL_around 189 = .ok (.goto (-134), 3) := by decide +kernel
theorem dL_around_192 : decode cL_around 192 = .ok (.aload_n 0, 1) := by decide +kernel
theorem dL_around_193 : decode cL_around 193 = .ok (.iload_n 1, 1) := by decide +kernel
theorem dL_around_194 : decode cL_around 194 = .ok (.iconst 0, 1) := by decide +kernel
theorem dL_around_195 : decode cL_around 195 = .ok (.invokevirtual 103, 3) := by decide +kernel
theorem dL_around_198 : decode cL_around 198 = .ok (.iload 7, 2) := by decide +kernel
theorem dL_around_200 : decode cL_around 200 = .ok (.if_icmp .ne 29, 3) := by decide +kernel
theorem dL_around_203 : decode cL_around 203 = .ok (.aload_n 0, 1) := by decide +kernel
theorem dL_around_204 : decode cL_around 204 = .ok (.iload_n 1, 1) := by decide +kernel
theorem dL_around_205 : decode cL_around 205 = .ok (.iconst 1, 1) := by decide +kernel
theorem dL_around_206 : decode cL_around 206 = .ok (.invokevirtual 103, 3) := by decide +kernel
theorem dL_around_209 : decode cL_around 209 = .ok (.iload 8, 2) := by decide +kernel
theorem dL_around_211 : decode cL_around 211 = .ok (.if_icmp .ne 18, 3) := by decide +kernel
theorem dL_around_214 : decode cL_around 214 = .ok (.aload_n 0, 1) := by decide +kernel
theorem dL_around_215 : decode cL_around 215 = .ok (.iload_n 1, 1) := by decide +kernel
theorem dL_around_216 : decode cL_around 216 = .ok (.iconst 2, 1) := by decide +kernel
theorem dL_around_217 : decode cL_around 217 = .ok (.invokevirtual 103, 3) := by decide +kernel
theorem dL_around_220 : decode cL_around 220 = .ok (.iload 9, 2) := by decide +kernel
theorem dL_around_222 : decode cL_around 222 = .ok (.if_icmp .ne 7, 3) := by decide +kernel
theorem dL_around_225 : decode cL_around 225 = .ok (.iconst 1, 1) := by decide +kernel
theorem dL_around_226 : decode cL_around 226 = .ok (.goto 4, 3) := by decide +kernel
theorem dL_around_229 : decode cL_around 229 = .ok (.iconst 0, 1) := by decide +kernel
theorem dL_around_230 : decode cL_around 230 = .ok (.ireturn, 1) := by decide +kernel
theorem dL_spans_0 : decode cL_spans 0 = .ok (.iconst 0, 1) := by decide +kernel
theorem dL_spans_1 : decode cL_spans 1 = .ok (.istore_n 1, 1) := by decide +kernel
theorem dL_spans_2 : decode cL_spans 2 = .ok (.aload_n 0, 1) := by decide +kernel
theorem dL_spans_3 : decode cL_spans 3 = .ok (.iconst 0, 1) := by decide +kernel
theorem dL_spans_4 : decode cL_spans 4 = .ok (.invokevirtual 16, 3) := by decide +kernel
theorem dL_spans_7 : decode cL_spans 7 = .ok (.istore_n 2, 1) := by decide +kernel
theorem dL_spans_8 : decode cL_spans 8 = .ok (.bipush (-3), 2) := by decide +kernel
theorem dL_spans_10 : decode cL_spans 10 = .ok (.istore_n 3, 1) := by decide +kernel
theorem dL_spans_11 : decode cL_spans 11 = .ok (.iload_n 3, 1) := by decide +kernel
theorem dL_spans_12 : decode cL_spans 12 = .ok (.iconst 3, 1) := by decide +kernel
theorem dL_spans_13 : decode cL_spans 13 = .ok (.if_icmp .gt 178, 3) := by decide +kernel
theorem dL_spans_16 : decode cL_spans 16 = .ok (.iload_n 2, 1) := by decide +kernel
theorem dL_spans_17 : decode cL_spans 17 = .ok (.iconst 1, 1) := by decide +kernel
theorem dL_spans_18 : decode cL_spans 18 = .ok (.if_icmp .le 8, 3) := by decide +kernel
theorem dL_spans_21 : decode cL_spans 21 = .ok (.bipush (-3), 2) := by decide +kernel
theorem dL_spans_23 : decode cL_spans 23 = .ok (.goto 4, 3) := by decide +kernel
theorem dL_spans_26 : decode cL_spans 26 = .ok (.iconst 0, 1) := by decide +kernel
theorem dL_spans_27 : decode cL_spans 27 = .ok (.istore 4, 2) := by decide +kernel
theorem dL_spans_29 : decode cL_spans 29 = .ok (.iload 4, 2) := by decide +kernel
theorem dL_spans_31 : decode cL_spans 31 = .ok (.iload_n 2, 1) := by decide +kernel
theorem dL_spans_32 : decode cL_spans 32 = .ok (.iconst 1, 1) := by decide +kernel
theorem dL_spans_33 : decode cL_spans 33 = .ok (.if_icmp .le 7, 3) := by decide +kernel
theorem dL_spans_36 : decode cL_spans 36 = .ok (.iconst 3, 1) := by decide +kernel
theorem dL_spans_37 : decode cL_spans 37 = .ok (.goto 4, 3) := by decide +kernel
theorem dL_spans_40 : decode cL_spans 40 = .ok (.iconst 0, 1) := by decide +kernel
theorem dL_spans_41 : decode cL_spans 41 = .ok (.if_icmp .gt 144, 3) := by decide +kernel
theorem dL_spans_44 : decode cL_spans 44 = .ok (.iload_n 2, 1) := by decide +kernel
theorem dL_spans_45 : decode cL_spans 45 = .ok (.iconst 2, 1) := by decide +kernel
theorem dL_spans_46 : decode cL_spans 46 = .ok (.if_icmp .le 8, 3) := by decide +kernel
theorem dL_spans_49 : decode cL_spans 49 = .ok (.bipush (-3), 2) := by decide +kernel
theorem dL_spans_51 : decode cL_spans 51 = .ok (.goto 4, 3) := by decide +kernel
theorem dL_spans_54 : decode cL_spans 54 = .ok (.iconst 0, 1) := by decide +kernel
theorem dL_spans_55 : decode cL_spans 55 = .ok (.istore 5, 2) := by decide +kernel
theorem dL_spans_57 : decode cL_spans 57 = .ok (.iload 5, 2) := by decide +kernel
theorem dL_spans_59 : decode cL_spans 59 = .ok (.iload_n 2, 1) := by decide +kernel
theorem dL_spans_60 : decode cL_spans 60 = .ok (.iconst 2, 1) := by decide +kernel
theorem dL_spans_61 : decode cL_spans 61 = .ok (.if_icmp .le 7, 3) := by decide +kernel
theorem dL_spans_64 : decode cL_spans 64 = .ok (.iconst 3, 1) := by decide +kernel
theorem dL_spans_65 : decode cL_spans 65 = .ok (.goto 4, 3) := by decide +kernel
theorem dL_spans_68 : decode cL_spans 68 = .ok (.iconst 0, 1) := by decide +kernel
theorem dL_spans_69 : decode cL_spans 69 = .ok (.if_icmp .gt 110, 3) := by decide +kernel
theorem dL_spans_72 : decode cL_spans 72 = .ok (.iload_n 3, 1) := by decide +kernel
theorem dL_spans_73 : decode cL_spans 73 = .ok (.ifCond .ne 17, 3) := by decide +kernel
theorem dL_spans_76 : decode cL_spans 76 = .ok (.iload 4, 2) := by decide +kernel
theorem dL_spans_78 : decode cL_spans 78 = .ok (.ifCond .ne 12, 3) := by decide +kernel
theorem dL_spans_81 : decode cL_spans 81 = .ok (.iload 5, 2) := by decide +kernel
theorem dL_spans_83 : decode cL_spans 83 = .ok (.ifCond .ne 7, 3) := by decide +kernel
theorem dL_spans_86 : decode cL_spans 86 = .ok (.iconst 1, 1) := by decide +kernel
theorem dL_spans_87 : decode cL_spans 87 = .ok (.goto 4, 3) := by decide +kernel
theorem dL_spans_90 : decode cL_spans 90 = .ok (.iconst 0, 1) := by decide +kernel
theorem dL_spans_91 : decode cL_spans 91 = .ok (.istore 6, 2) := by decide +kernel
theorem dL_spans_93 : decode cL_spans 93 = .ok (.iconst 0, 1) := by decide +kernel
theorem dL_spans_94 : decode cL_spans 94 = .ok (.istore 7, 2) := by decide +kernel
theorem dL_spans_96 : decode cL_spans 96 = .ok (.iload 7, 2) := by decide +kernel
theorem dL_spans_98 : decode cL_spans 98 = .ok (.aload_n 0, 1) := by decide +kernel
theorem dL_spans_99 : decode cL_spans 99 = .ok (.iconst 2, 1) := by decide +kernel
theorem dL_spans_100 : decode cL_spans 100 = .ok (.invokevirtual 16, 3) := by decide +kernel
theorem dL_spans_103 : decode cL_spans 103 = .ok (.if_icmp .ge 55, 3) := by decide +kernel
theorem dL_spans_106 : decode cL_spans 106 = .ok (.iload 6, 2) := by decide +kernel
theorem dL_spans_108 : decode cL_spans 108 = .ok (.ifCond .ne 50, 3) := by decide +kernel
theorem dL_spans_111 : decode cL_spans 111 = .ok (.iload_n 3, 1) := by decide +kernel
theorem dL_spans_112 : decode cL_spans 112 = .ok (.aload_n 0, 1) := by decide +kernel
theorem dL_spans_113 : decode cL_spans 113 = .ok (.iload 7, 2) := by decide +kernel
theorem dL_spans_115 : decode cL_spans 115 = .ok (.iconst 0, 1) := by decide +kernel
theorem dL_spans_116 : decode cL_spans 116 = .ok (.invokevirtual 58, 3) := by decide +kernel
theorem dL_spans_119 : decode cL_spans 119 = .ok (.imul, 1) := by decide +kernel
theorem dL_spans_120 : decode cL_spans 120 = .ok (.iload 4, 2) := by decide +kernel
theorem dL_spans_122 : decode cL_spans 122 = .ok (.aload_n 0, 1) := by decide +kernel
theorem dL_spans_123 : decode cL_spans 123 = .ok (.iload 7, 2) := by decide +kernel
theorem dL_spans_125 : decode cL_spans 125 = .ok (.iconst 1, 1) := by decide +kernel
theorem dL_spans_126 : decode cL_spans 126 = .ok (.invokevirtual 58, 3) := by decide +kernel
theorem dL_spans_129 : decode cL_spans 129 = .ok (.imul, 1) := by decide +kernel
theorem dL_spans_130 : decode cL_spans 130 = .ok (.iadd, 1) := by decide +kernel
theorem dL_spans_131 : decode cL_spans 131 = .ok (.iload 5, 2) := by decide +kernel
theorem dL_spans_133 : decode cL_spans 133 = .ok (.aload_n 0, 1) := by decide +kernel
theorem dL_spans_134 : decode cL_spans 134 = .ok (.iload 7, 2) := by decide +kernel
theorem dL_spans_136 : decode cL_spans 136 = .ok (.iconst 2, 1) := by decide +kernel
theorem dL_spans_137 : decode cL_spans 137 = .ok (.invokevirtual 58, 3) := by decide +kernel
theorem dL_spans_140 : decode cL_spans 140 = .ok (.imul, 1) := by decide +kernel
theorem dL_spans_141 : decode cL_spans 141 = .ok (.iadd, 1) := by decide +kernel
theorem dL_spans_142 : decode cL_spans 142 = .ok (.ifCond .le 7, 3) := by decide +kernel
theorem dL_spans_145 : decode cL_spans 145 = .ok (.iconst 1, 1) := by decide +kernel
theorem dL_spans_146 : decode cL_spans 146 = .ok (.goto 4, 3) := by decide +kernel
theorem dL_spans_149 : decode cL_spans 149 = .ok (.iconst 0, 1) := by decide +kernel
theorem dL_spans_150 : decode cL_spans 150 = .ok (.istore 6, 2) := by decide +kernel
theorem dL_spans_152 : decode cL_spans 152 = .ok (.iinc 7 1, 3) := by decide +kernel
theorem dL_spans_155 : decode cL_spans 155 = .ok (.goto (-59), 3) := by decide +kernel
theorem dL_spans_158 : decode cL_spans 158 = .ok (.iload_n 1, 1) := by decide +kernel
theorem dL_spans_159 : decode cL_spans 159 = .ok (.ifCond .ne 8, 3) := by decide +kernel
theorem dL_spans_162 : decode cL_spans 162 = .ok (.iload 6, 2) := by decide +kernel
theorem dL_spans_164 : decode cL_spans 164 = .ok (.ifCond .ne 7, 3) := by decide +kernel
theorem dL_spans_167 : decode cL_spans 167 = .ok (.iconst 1, 1) := by decide +kernel
theorem dL_spans_168 : decode cL_spans 168 = .ok (.goto 4, 3) := by decide +kernel
theorem dL_spans_171 : decode cL_spans 171 = .ok (.iconst 0, 1) := by decide +kernel
theorem dL_spans_172 : decode cL_spans 172 = .ok (.istore_n 1, 1) := by decide +kernel
theorem dL_spans_173 : decode cL_spans 173 = .ok (.iinc 5 1, 3) := by decide +kernel
theorem dL_spans_176 : decode cL_spans 176 = .ok (.goto (-119), 3) := by decide +kernel
theorem dL_spans_179 : decode cL_spans 179 = .ok (.iinc 4 1, 3) := by decide +kernel
theorem dL_spans_182 : decode cL_spans 182 = .ok (.goto (-153), 3) := by decide +kernel
theorem dL_spans_185 : decode cL_spans 185 = .ok (.iinc 3 1, 3) := by decide +kernel
theorem dL_spans_188 : decode cL_spans 188 = .ok (.goto (-177), 3) := by decide +kernel
theorem dL_spans_191 : decode cL_spans 191 = .ok (.iload_n 1, 1) := by decide +kernel
theorem dL_spans_192 : decode cL_spans 192 = .ok (.ifCond .eq 18, 3) := by decide +kernel
theorem dL_spans_195 : decode cL_spans 195 = .ok (.aload_n 0, 1) := by decide +kernel
theorem dL_spans_196 : decode cL_spans 196 = .ok (.invokevirtual 19, 3) := by decide +kernel
theorem dL_spans_199 : decode cL_spans 199 = .ok (.ifCond .ne 7, 3) := by decide +kernel
theorem dL_spans_202 : decode cL_spans 202 = .ok (.iconst 1, 1) := by decide +kernel
theorem dL_spans_203 : decode cL_spans 203 = .ok (.goto 25, 3) := by decide +kernel
theorem dL_spans_206 : decode cL_spans 206 = .ok (.iconst 0, 1) := by decide +kernel
theorem dL_spans_207 : decode cL_spans 207 = .ok (.goto 21, 3) := by decide +kernel
theorem dL_spans_210 : decode cL_spans 210 = .ok (.iload_n 2, 1) := by decide +kernel
theorem dL_spans_211 : decode cL_spans 211 = .ok (.iconst 3, 1) := by decide +kernel
theorem dL_spans_212 : decode cL_spans 212 = .ok (.if_icmp .eq 11, 3) := by decide +kernel
theorem dL_spans_215 : decode cL_spans 215 = .ok (.aload_n 0, 1) := by decide +kernel
theorem dL_spans_216 : decode cL_spans 216 = .ok (.invokevirtual 19, 3) := by decide +kernel
theorem dL_spans_219 : decode cL_spans 219 = .ok (.iconst 1, 1) := by decide +kernel
theorem dL_spans_220 : decode cL_spans 220 = .ok (.if_icmp .ne 7, 3) := by decide +kernel
theorem dL_spans_223 : decode cL_spans 223 = .ok (.iconst 1, 1) := by decide +kernel
theorem dL_spans_224 : decode cL_spans 224 = .ok (.goto 4, 3) := by decide +kernel
theorem dL_spans_227 : decode cL_spans 227 = .ok (.iconst 0, 1) := by decide +kernel
theorem dL_spans_228 : decode cL_spans 228 = .ok (.ireturn, 1) := by decide +kernel
theorem dL_law_0 : decode cL_law 0 = .ok (.new 11, 3) := by decide +kernel
theorem dL_law_3 : decode cL_law 3 = .ok (.dup, 1) := by decide +kernel
theorem dL_law_4 : decode cL_law 4 = .ok (.invokespecial 106, 3) := by decide +kernel
theorem dL_law_7 : decode cL_law 7 = .ok (.astore_n 1, 1) := by decide +kernel
theorem dL_law_8 : decode cL_law 8 = .ok (.bipush 8, 2) := by decide +kernel
theorem dL_law_10 : decode cL_law 10 = .ok (.newarray .int, 2) := by decide +kernel
theorem dL_law_12 : decode cL_law 12 = .ok (.astore_n 2, 1) := by decide +kernel
theorem dL_law_13 : decode cL_law 13 = .ok (.iconst 1, 1) := by decide +kernel
theorem dL_law_14 : decode cL_law 14 = .ok (.aload_n 0, 1) := by decide +kernel
theorem dL_law_15 : decode cL_law 15 = .ok (.iconst 0, 1) := by decide +kernel
theorem dL_law_16 : decode cL_law 16 = .ok (.invokestatic 23, 3) := by decide +kernel
theorem dL_law_19 : decode cL_law 19 = .ok (.iconst 3, 1) := by decide +kernel
theorem dL_law_20 : decode cL_law 20 = .ok (.invokestatic 29, 3) := by decide +kernel
theorem dL_law_23 : decode cL_law 23 = .ok (.iadd, 1) := by decide +kernel
theorem dL_law_24 : decode cL_law 24 = .ok (.istore_n 3, 1) := by decide +kernel
theorem dL_law_25 : decode cL_law 25 = .ok (.aload_n 1, 1) := by decide +kernel
theorem dL_law_26 : decode cL_law 26 = .ok (.aload_n 0, 1) := by decide +kernel
theorem dL_law_27 : decode cL_law 27 = .ok (.iload_n 3, 1) := by decide +kernel
theorem dL_law_28 : decode cL_law 28 = .ok (.invokestatic 107, 3) := by decide +kernel
theorem dL_law_31 : decode cL_law 31 = .ok (.ifCond .eq 27, 3) := by decide +kernel
theorem dL_law_34 : decode cL_law 34 = .ok (.aload_n 1, 1) := by decide +kernel
theorem dL_law_35 : decode cL_law 35 = .ok (.invokestatic 111, 3) := by decide +kernel
theorem dL_law_38 : decode cL_law 38 = .ok (.ifCond .eq 20, 3) := by decide +kernel
theorem dL_law_41 : decode cL_law 41 = .ok (.aload_n 1, 1) := by decide +kernel
theorem dL_law_42 : decode cL_law 42 = .ok (.aload_n 0, 1) := by decide +kernel
theorem dL_law_43 : decode cL_law 43 = .ok (.bipush 21, 2) := by decide +kernel
theorem dL_law_45 : decode cL_law 45 = .ok (.invokestatic 23, 3) := by decide +kernel
theorem dL_law_48 : decode cL_law 48 = .ok (.iconst 3, 1) := by decide +kernel
theorem dL_law_49 : decode cL_law 49 = .ok (.invokestatic 29, 3) := by decide +kernel
theorem dL_law_52 : decode cL_law 52 = .ok (.invokestatic 114, 3) := by decide +kernel
theorem dL_law_55 : decode cL_law 55 = .ok (.ifCond .ne 5, 3) := by decide +kernel
theorem dL_law_58 : decode cL_law 58 = .ok (.iconst 0, 1) := by decide +kernel
theorem dL_law_59 : decode cL_law 59 = .ok (.ireturn, 1) := by decide +kernel
theorem dL_law_60 : decode cL_law 60 = .ok (.aload_n 1, 1) := by decide +kernel
theorem dL_law_61 : decode cL_law 61 = .ok (.iconst 2, 1) := by decide +kernel
theorem dL_law_62 : decode cL_law 62 = .ok (.invokevirtual 16, 3) := by decide +kernel
theorem dL_law_65 : decode cL_law 65 = .ok (.ifCond .ne 44, 3) := by decide +kernel
theorem dL_law_68 : decode cL_law 68 = .ok (.aload_n 1, 1) := by decide +kernel
theorem dL_law_69 : decode cL_law 69 = .ok (.invokevirtual 95, 3) := by decide +kernel
theorem dL_law_72 : decode cL_law 72 = .ok (.ldc 44, 2) := by decide +kernel
theorem dL_law_74 : decode cL_law 74 = .ok (.if_icmp .ne 33, 3) := by decide +kernel
theorem dL_law_77 : decode cL_law 77 = .ok (.aload_n 1, 1) := by decide +kernel
theorem dL_law_78 : decode cL_law 78 = .ok (.iconst 5, 1) := by decide +kernel
theorem dL_law_79 : decode cL_law 79 = .ok (.invokevirtual 116, 3) := by decide +kernel
theorem dL_law_82 : decode cL_law 82 = .ok (.ldc 44, 2) := by decide +kernel
theorem dL_law_84 : decode cL_law 84 = .ok (.if_icmp .ne 23, 3) := by decide +kernel
theorem dL_law_87 : decode cL_law 87 = .ok (.aload_n 1, 1) := by decide +kernel
theorem dL_law_88 : decode cL_law 88 = .ok (.iconst 0, 1) := by decide +kernel
theorem dL_law_89 : decode cL_law 89 = .ok (.invokevirtual 92, 3) := by decide +kernel
theorem dL_law_92 : decode cL_law 92 = .ok (.iconst 1, 1) := by decide +kernel
theorem dL_law_93 : decode cL_law 93 = .ok (.if_icmp .ne 14, 3) := by decide +kernel
theorem dL_law_96 : decode cL_law 96 = .ok (.aload_n 1, 1) := by decide +kernel
theorem dL_law_97 : decode cL_law 97 = .ok (.invokevirtual 19, 3) := by decide +kernel
theorem dL_law_100 : decode cL_law 100 = .ok (.ifCond .ne 7, 3) := by decide +kernel
theorem dL_law_103 : decode cL_law 103 = .ok (.iconst 1, 1) := by decide +kernel
theorem dL_law_104 : decode cL_law 104 = .ok (.goto 4, 3) := by decide +kernel
theorem dL_law_107 : decode cL_law 107 = .ok (.iconst 0, 1) := by decide +kernel
theorem dL_law_108 : decode cL_law 108 = .ok (.ireturn, 1) := by decide +kernel
theorem dL_law_109 : decode cL_law 109 = .ok (.aload_n 1, 1) := by decide +kernel
theorem dL_law_110 : decode cL_law 110 = .ok (.iconst 0, 1) := by decide +kernel
theorem dL_law_111 : decode cL_law 111 = .ok (.iconst 0, 1) := by decide +kernel
theorem dL_law_112 : decode cL_law 112 = .ok (.iconst 0, 1) := by decide +kernel
theorem dL_law_113 : decode cL_law 113 = .ok (.iconst 1, 1) := by decide +kernel
theorem dL_law_114 : decode cL_law 114 = .ok (.invokevirtual 69, 3) := by decide +kernel
theorem dL_law_117 : decode cL_law 117 = .ok (.ldc2_w 119, 3) := by decide +kernel
theorem dL_law_120 : decode cL_law 120 = .ok (.lcmp, 1) := by decide +kernel
theorem dL_law_121 : decode cL_law 121 = .ok (.ifCond .lt 14, 3) := by decide +kernel
theorem dL_law_124 : decode cL_law 124 = .ok (.aload_n 1, 1) := by decide +kernel
theorem dL_law_125 : decode cL_law 125 = .ok (.bipush 7, 2) := by decide +kernel
theorem dL_law_127 : decode cL_law 127 = .ok (.invokevirtual 55, 3) := by decide +kernel
theorem dL_law_130 : decode cL_law 130 = .ok (.ldc 121, 2) := by decide +kernel
theorem dL_law_132 : decode cL_law 132 = .ok (.if_icmp .eq 5, 3) := by decide +kernel
theorem dL_law_135 : decode cL_law 135 = .ok (.iconst 0, 1) := by decide +kernel
theorem dL_law_136 : decode cL_law 136 = .ok (.ireturn, 1) := by decide +kernel
theorem dL_law_137 : decode cL_law 137 = .ok (.iconst 0, 1) := by decide +kernel
theorem dL_law_138 : decode cL_law 138 = .ok (.istore 4, 2) := by decide +kernel
theorem dL_law_140 : decode cL_law 140 = .ok (.iload 4, 2) := by decide +kernel
theorem dL_law_142 : decode cL_law 142 = .ok (.bipush 10, 2) := by decide +kernel
theorem dL_law_144 : decode cL_law 144 = .ok (.if_icmp .ge 19, 3) := by decide +kernel
theorem dL_law_147 : decode cL_law 147 = .ok (.aload_n 1, 1) := by decide +kernel
theorem dL_law_148 : decode cL_law 148 = .ok (.aload_n 2, 1) := by decide +kernel
theorem dL_law_149 : decode cL_law 149 = .ok (.invokestatic 122, 3) := by decide +kernel
theorem dL_law_152 : decode cL_law 152 = .ok (.ifCond .ne 5, 3) := by decide +kernel
theorem dL_law_155 : decode cL_law 155 = .ok (.iconst 0, 1) := by decide +kernel
theorem dL_law_156 : decode cL_law 156 = .ok (.ireturn, 1) := by decide +kernel
theorem dL_law_157 : decode cL_law 157 = .ok (.iinc 4 1, 3) := by decide +kernel
theorem dL_law_160 : decode cL_law 160 = .ok (.goto (-20), 3) := by decide +kernel
theorem dL_law_163 : decode cL_law 163 = .ok (.aload_n 1, 1) := by decide +kernel
theorem dL_law_164 : decode cL_law 164 = .ok (.iconst 4, 1) := by decide +kernel
theorem dL_law_165 : decode cL_law 165 = .ok (.invokevirtual 55, 3) := by decide +kernel
theorem dL_law_168 : decode cL_law 168 = .ok (.istore 4, 2) := by decide +kernel
theorem dL_law_170 : decode cL_law 170 = .ok (.iconst 1, 1) := by decide +kernel
theorem dL_law_171 : decode cL_law 171 = .ok (.aload_n 0, 1) := by decide +kernel
theorem dL_law_172 : decode cL_law 172 = .ok (.bipush 22, 2) := by decide +kernel
theorem dL_law_174 : decode cL_law 174 = .ok (.invokestatic 23, 3) := by decide +kernel
theorem dL_law_177 : decode cL_law 177 = .ok (.bipush 60, 2) := by decide +kernel
theorem dL_law_179 : decode cL_law 179 = .ok (.invokestatic 29, 3) := by decide +kernel
theorem dL_law_182 : decode cL_law 182 = .ok (.iadd, 1) := by decide +kernel
theorem dL_law_183 : decode cL_law 183 = .ok (.istore 5, 2) := by decide +kernel
theorem dL_law_185 : decode cL_law 185 = .ok (.aload_n 1, 1) := by decide +kernel
theorem dL_law_186 : decode cL_law 186 = .ok (.iload 5, 2) := by decide +kernel
theorem dL_law_188 : decode cL_law 188 = .ok (.invokevirtual 116, 3) := by decide +kernel
theorem dL_law_191 : decode cL_law 191 = .ok (.istore 6, 2) := by decide +kernel
theorem dL_law_193 : decode cL_law 193 = .ok (.iload 6, 2) := by decide +kernel
theorem dL_law_195 : decode cL_law 195 = .ok (.iconst 1, 1) := by decide +kernel
theorem dL_law_196 : decode cL_law 196 = .ok (.if_icmp .lt 40, 3) := by decide +kernel
theorem dL_law_199 : decode cL_law 199 = .ok (.iload 6, 2) := by decide +kernel
theorem dL_law_201 : decode cL_law 201 = .ok (.iload 5, 2) := by decide +kernel
theorem dL_law_203 : decode cL_law 203 = .ok (.if_icmp .gt 33, 3) := by decide +kernel
theorem dL_law_206 : decode cL_law 206 = .ok (.aload_n 1, 1) := by decide +kernel
theorem dL_law_207 : decode cL_law 207 = .ok (.iconst 4, 1) := by decide +kernel
theorem dL_law_208 : decode cL_law 208 = .ok (.invokevirtual 55, 3) := by decide +kernel
theorem dL_law_211 : decode cL_law 211 = .ok (.iload 4, 2) := by decide +kernel
theorem dL_law_213 : decode cL_law 213 = .ok (.iload 6, 2) := by decide +kernel
theorem dL_law_215 : decode cL_law 215 = .ok (.iadd, 1) := by decide +kernel
theorem dL_law_216 : decode cL_law 216 = .ok (.if_icmp .ne 20, 3) := by decide +kernel
theorem dL_law_219 : decode cL_law 219 = .ok (.iload 6, 2) := by decide +kernel
theorem dL_law_221 : decode cL_law 221 = .ok (.iload 5, 2) := by decide +kernel
theorem dL_law_223 : decode cL_law 223 = .ok (.if_icmp .ge 15, 3) := by decide +kernel
theorem dL_law_226 : decode cL_law 226 = .ok (.aload_n 1, 1) := by decide +kernel
theorem dL_law_227 : decode cL_law 227 = .ok (.bipush 9, 2) := by decide +kernel
theorem dL_law_229 : decode cL_law 229 = .ok (.invokevirtual 55, 3) := by decide +kernel
theorem dL_law_232 : decode cL_law 232 = .ok (.iconst 1, 1) := by decide +kernel
theorem dL_law_233 : decode cL_law 233 = .ok (.if_icmp .eq 5, 3) := by decide +kernel
theorem dL_law_236 : decode cL_law 236 = .ok (.iconst 0, 1) := by decide +kernel
theorem dL_law_237 : decode cL_law 237 = .ok (.ireturn, 1) := by decide +kernel
theorem dL_law_238 : decode cL_law 238 = .ok (.aload_n 1, 1) := by decide +kernel
theorem dL_law_239 : decode cL_law 239 = .ok (.bipush 9, 2) := by decide +kernel
theorem dL_law_241 : decode cL_law 241 = .ok (.invokevirtual 55, 3) := by decide +kernel
theorem dL_law_244 : decode cL_law 244 = .ok (.ifCond .eq 31, 3) := by decide +kernel
theorem dL_law_247 : decode cL_law 247 = .ok (.aload_n 1, 1) := by decide +kernel
theorem dL_law_248 : decode cL_law 248 = .ok (.iconst 3, 1) := by decide +kernel
theorem dL_law_249 : decode cL_law 249 = .ok (.invokevirtual 55, 3) := by decide +kernel
theorem dL_law_252 : decode cL_law 252 = .ok (.iconst 1, 1) := by decide +kernel
theorem dL_law_253 : decode cL_law 253 = .ok (.if_icmp .ne 26, 3) := by decide +kernel
theorem dL_law_256 : decode cL_law 256 = .ok (.aload_n 1, 1) := by decide +kernel
theorem dL_law_257 : decode cL_law 257 = .ok (.iconst 0, 1) := by decide +kernel
theorem dL_law_258 : decode cL_law 258 = .ok (.invokevirtual 92, 3) := by decide +kernel
theorem dL_law_261 : decode cL_law 261 = .ok (.iconst 1, 1) := by decide +kernel
theorem dL_law_262 : decode cL_law 262 = .ok (.if_icmp .ne 17, 3) := by decide +kernel
theorem dL_law_265 : decode cL_law 265 = .ok (.aload_n 1, 1) := by decide +kernel
theorem dL_law_266 : decode cL_law 266 = .ok (.bipush 7, 2) := by decide +kernel
theorem dL_law_268 : decode cL_law 268 = .ok (.invokevirtual 116, 3) := by decide +kernel
theorem dL_law_271 : decode cL_law 271 = .ok (.iconst 1, 1) := by decide +kernel
theorem dL_law_272 : decode cL_law 272 = .ok (.if_icmp .ne 7, 3) := by decide +kernel
theorem dL_law_275 : decode cL_law 275 = .ok (.iconst 1, 1) := by decide +kernel
theorem dL_law_276 : decode cL_law 276 = .ok (.goto 4, 3) := by decide +kernel
theorem dL_law_279 : decode cL_law 279 = .ok (.iconst 0, 1) := by decide +kernel
theorem dL_law_280 : decode cL_law 280 = .ok (.istore 7, 2) := by decide +kernel
theorem dL_law_282 : decode cL_law 282 = .ok (.iload 7, 2) := by decide +kernel
theorem dL_law_284 : decode cL_law 284 = .ok (.ifCond .eq 24, 3) := by decide +kernel
theorem dL_law_287 : decode cL_law 287 = .ok (.aload_n 1, 1) := by decide +kernel
theorem dL_law_288 : decode cL_law 288 = .ok (.aload_n 0, 1) := by decide +kernel
theorem dL_law_289 : decode cL_law 289 = .ok (.bipush 23, 2) := by decide +kernel
theorem dL_law_291 : decode cL_law 291 = .ok (.invokestatic 23, 3) := by decide +kernel
theorem dL_law_294 : decode cL_law 294 = .ok (.iconst 3, 1) := by decide +kernel
theorem dL_law_295 : decode cL_law 295 = .ok (.invokestatic 29, 3) := by decide +kernel
theorem dL_law_298 : decode cL_law 298 = .ok (.invokestatic 114, 3) := by decide +kernel
theorem dL_law_301 : decode cL_law 301 = .ok (.ifCond .eq 7, 3) := by decide +kernel
theorem dL_law_304 : decode cL_law 304 = .ok (.iconst 1, 1) := by decide +kernel
theorem dL_law_305 : decode cL_law 305 = .ok (.goto 4, 3) := by decide +kernel
theorem dL_law_308 : decode cL_law 308 = .ok (.iconst 0, 1) := by decide +kernel
theorem dL_law_309 : decode cL_law 309 = .ok (.ireturn, 1) := by decide +kernel
