theorem dX0_init_0 : decode cX0_init 0 = .ok (.aload_n 0, 1) := by decide +kernel
theorem dX0_init_1 : decode cX0_init 1 = .ok (.invokespecial 1, 3) := by decide +kernel
theorem dX0_init_4 : decode cX0_init 4 = .ok (.aload_n 0, 1) := by decide +kernel
theorem dX0_init_5 : decode cX0_init 5 = .ok (.new 7, 3) := by decide +kernel
theorem dX0_init_8 : decode cX0_init 8 = .ok (.dup, 1) := by decide +kernel
theorem dX0_init_9 : decode cX0_init 9 = .ok (.invokespecial 9, 3) := by decide +kernel
theorem dX0_init_12 : decode cX0_init 12 = .ok (.putfield 10, 3) := by decide +kernel
theorem dX0_init_15 : decode cX0_init 15 = .ok (.aload_n 0, 1) := by decide +kernel
theorem dX0_init_16 : decode cX0_init 16 = .ok (.iload_n 1, 1) := by decide +kernel
theorem dX0_init_17 : decode cX0_init 17 = .ok (.putfield 16, 3) := by decide +kernel
theorem dX0_init_20 : decode cX0_init 20 = .ok (.aload_n 0, 1) := by decide +kernel
theorem dX0_init_21 : decode cX0_init 21 = .ok (.iload_n 2, 1) := by decide +kernel
theorem dX0_init_22 : decode cX0_init 22 = .ok (.putfield 20, 3) := by decide +kernel
theorem dX0_init_25 : decode cX0_init 25 = .ok (.aload_n 0, 1) := by decide +kernel
theorem dX0_init_26 : decode cX0_init 26 = .ok (.iload_n 3, 1) := by decide +kernel
theorem dX0_init_27 : decode cX0_init 27 = .ok (.putfield 23, 3) := by decide +kernel
theorem dX0_init_30 : decode cX0_init 30 = .ok (.aload_n 0, 1) := by decide +kernel
theorem dX0_init_31 : decode cX0_init 31 = .ok (.iload 4, 2) := by decide +kernel
theorem dX0_init_33 : decode cX0_init 33 = .ok (.putfield 26, 3) := by decide +kernel
theorem dX0_init_36 : decode cX0_init 36 = .ok (.aload_n 0, 1) := by decide +kernel
theorem dX0_init_37 : decode cX0_init 37 = .ok (.iload 5, 2) := by decide +kernel
theorem dX0_init_39 : decode cX0_init 39 = .ok (.putfield 29, 3) := by decide +kernel
theorem dX0_init_42 : decode cX0_init 42 = .ok (.return_, 1) := by decide +kernel
theorem dX0_isAnsweredBy_0 : decode cX0_isAnsweredBy 0 = .ok (.aload_n 0, 1) := by decide +kernel
theorem dX0_isAnsweredBy_1 : decode cX0_isAnsweredBy 1 = .ok (.getfield 26, 3) := by decide +kernel
theorem dX0_isAnsweredBy_4 : decode cX0_isAnsweredBy 4 = .ok (.ifCond .le 30, 3) := by decide +kernel
theorem dX0_isAnsweredBy_7 : decode cX0_isAnsweredBy 7 = .ok (.aload_n 1, 1) := by decide +kernel
theorem dX0_isAnsweredBy_8 : decode cX0_isAnsweredBy 8 = .ok (.getfield 26, 3) := by decide +kernel
theorem dX0_isAnsweredBy_11 : decode cX0_isAnsweredBy 11 = .ok (.aload_n 0, 1) := by decide +kernel
theorem dX0_isAnsweredBy_12 : decode cX0_isAnsweredBy 12 = .ok (.getfield 26, 3) := by decide +kernel
theorem dX0_isAnsweredBy_15 : decode cX0_isAnsweredBy 15 = .ok (.ineg, 1) := by decide +kernel
theorem dX0_isAnsweredBy_16 : decode cX0_isAnsweredBy 16 = .ok (.if_icmp .ne 18, 3) := by decide +kernel
theorem dX0_isAnsweredBy_19 : decode cX0_isAnsweredBy 19 = .ok (.aload_n 1, 1) := by decide +kernel
theorem dX0_isAnsweredBy_20 : decode cX0_isAnsweredBy 20 = .ok (.getfield 16, 3) := by decide +kernel
theorem dX0_isAnsweredBy_23 : decode cX0_isAnsweredBy 23 = .ok (.aload_n 0, 1) := by decide +kernel
theorem dX0_isAnsweredBy_24 : decode cX0_isAnsweredBy 24 = .ok (.getfield 16, 3) := by decide +kernel
theorem dX0_isAnsweredBy_27 : decode cX0_isAnsweredBy 27 = .ok (.if_icmp .eq 7, 3) := by decide +kernel
theorem dX0_isAnsweredBy_30 : decode cX0_isAnsweredBy 30 = .ok (.iconst 1, 1) := by decide +kernel
theorem dX0_isAnsweredBy_31 : decode cX0_isAnsweredBy 31 = .ok (.goto 4, 3) := by decide +kernel
theorem dX0_isAnsweredBy_34 : decode cX0_isAnsweredBy 34 = .ok (.iconst 0, 1) := by decide +kernel
theorem dX0_isAnsweredBy_35 : decode cX0_isAnsweredBy 35 = .ok (.ireturn, 1) := by decide +kernel
theorem dX1_init_0 : decode cX1_init 0 = .ok (.aload_n 0, 1) := by decide +kernel
theorem dX1_init_1 : decode cX1_init 1 = .ok (.invokespecial 1, 3) := by decide +kernel
theorem dX1_init_4 : decode cX1_init 4 = .ok (.aload_n 0, 1) := by decide +kernel
theorem dX1_init_5 : decode cX1_init 5 = .ok (.iload_n 1, 1) := by decide +kernel
theorem dX1_init_6 : decode cX1_init 6 = .ok (.putfield 7, 3) := by decide +kernel
theorem dX1_init_9 : decode cX1_init 9 = .ok (.aload_n 0, 1) := by decide +kernel
theorem dX1_init_10 : decode cX1_init 10 = .ok (.iload_n 2, 1) := by decide +kernel
theorem dX1_init_11 : decode cX1_init 11 = .ok (.putfield 13, 3) := by decide +kernel
theorem dX1_init_14 : decode cX1_init 14 = .ok (.aload_n 0, 1) := by decide +kernel
theorem dX1_init_15 : decode cX1_init 15 = .ok (.aload_n 3, 1) := by decide +kernel
theorem dX1_init_16 : decode cX1_init 16 = .ok (.putfield 16, 3) := by decide +kernel
theorem dX1_init_19 : decode cX1_init 19 = .ok (.aload_n 0, 1) := by decide +kernel
theorem dX1_init_20 : decode cX1_init 20 = .ok (.aload 4, 2) := by decide +kernel
theorem dX1_init_22 : decode cX1_init 22 = .ok (.putfield 20, 3) := by decide +kernel
theorem dX1_init_25 : decode cX1_init 25 = .ok (.aload_n 0, 1) := by decide +kernel
theorem dX1_init_26 : decode cX1_init 26 = .ok (.aload 4, 2) := by decide +kernel
theorem dX1_init_28 : decode cX1_init 28 = .ok (.ifnonnull 10, 3) := by decide +kernel
theorem dX1_init_31 : decode cX1_init 31 = .ok (.aload_n 3, 1) := by decide +kernel
theorem dX1_init_32 : decode cX1_init 32 = .ok (.getfield 23, 3) := by decide +kernel
theorem dX1_init_35 : decode cX1_init 35 = .ok (.goto 13, 3) := by decide +kernel
theorem dX1_init_38 : decode cX1_init 38 = .ok (.aload_n 3, 1) := by decide +kernel
theorem dX1_init_39 : decode cX1_init 39 = .ok (.getfield 23, 3) := by decide +kernel
theorem dX1_init_42 : decode cX1_init 42 = .ok (.aload 4, 2) := by decide +kernel
theorem dX1_init_44 : decode cX1_init 44 = .ok (.getfield 23, 3) := by decide +kernel
theorem dX1_init_47 : decode cX1_init 47 = .ok (.ior, 1) := by decide +kernel
theorem dX1_init_48 : decode cX1_init 48 = .ok (.putfield 28, 3) := by decide +kernel
theorem dX1_init_51 : decode cX1_init 51 = .ok (.return_, 1) := by decide +kernel
theorem dX1_comesAfter_0 : decode cX1_comesAfter 0 = .ok (.aload_n 0, 1) := by decide +kernel
theorem dX1_comesAfter_1 : decode cX1_comesAfter 1 = .ok (.getfield 7, 3) := by decide +kernel
theorem dX1_comesAfter_4 : decode cX1_comesAfter 4 = .ok (.aload_n 1, 1) := by decide +kernel
theorem dX1_comesAfter_5 : decode cX1_comesAfter 5 = .ok (.getfield 7, 3) := by decide +kernel
theorem dX1_comesAfter_8 : decode cX1_comesAfter 8 = .ok (.if_icmp .eq 22, 3) := by decide +kernel
theorem dX1_comesAfter_11 : decode cX1_comesAfter 11 = .ok (.aload_n 0, 1) := by decide +kernel
theorem dX1_comesAfter_12 : decode cX1_comesAfter 12 = .ok (.getfield 7, 3) := by decide +kernel
theorem dX1_comesAfter_15 : decode cX1_comesAfter 15 = .ok (.aload_n 1, 1) := by decide +kernel
theorem dX1_comesAfter_16 : decode cX1_comesAfter 16 = .ok (.getfield 7, 3) := by decide +kernel
theorem dX1_comesAfter_19 : decode cX1_comesAfter 19 = .ok (.if_icmp .le 7, 3) := by decide +kernel
theorem dX1_comesAfter_22 : decode cX1_comesAfter 22 = .ok (.iconst 1, 1) := by decide +kernel
theorem dX1_comesAfter_23 : decode cX1_comesAfter 23 = .ok (.goto 23, 3) := by decide +kernel
theorem dX1_comesAfter_26 : decode cX1_comesAfter 26 = .ok (.iconst 0, 1) := by decide +kernel
theorem dX1_comesAfter_27 : decode cX1_comesAfter 27 = .ok (.goto 19, 3) := by decide +kernel
theorem dX1_comesAfter_30 : decode cX1_comesAfter 30 = .ok (.aload_n 0, 1) := by decide +kernel
theorem dX1_comesAfter_31 : decode cX1_comesAfter 31 = .ok (.getfield 13, 3) := by decide +kernel
theorem dX1_comesAfter_34 : decode cX1_comesAfter 34 = .ok (.aload_n 1, 1) := by decide +kernel
theorem dX1_comesAfter_35 : decode cX1_comesAfter 35 = .ok (.getfield 13, 3) := by decide +kernel
theorem dX1_comesAfter_38 : decode cX1_comesAfter 38 = .ok (.if_icmp .le 7, 3) := by decide +kernel
theorem dX1_comesAfter_41 : decode cX1_comesAfter 41 = .ok (.iconst 1, 1) := by decide +kernel
theorem dX1_comesAfter_42 : decode cX1_comesAfter 42 = .ok (.goto 4, 3) := by decide +kernel
theorem dX1_comesAfter_45 : decode cX1_comesAfter 45 = .ok (.iconst 0, 1) := by decide +kernel
theorem dX1_comesAfter_46 : decode cX1_comesAfter 46 = .ok (.ireturn, 1) := by decide +kernel
theorem dX1_startsAt_0 : decode cX1_startsAt 0 = .ok (.aload_n 1, 1) := by decide +kernel
theorem dX1_startsAt_1 : decode cX1_startsAt 1 = .ok (.aload_n 0, 1) := by decide +kernel
theorem dX1_startsAt_2 : decode cX1_startsAt 2 = .ok (.getfield 16, 3) := by decide +kernel
theorem dX1_startsAt_5 : decode cX1_startsAt 5 = .ok (.getfield 29, 3) := by decide +kernel
theorem dX1_startsAt_8 : decode cX1_startsAt 8 = .ok (.iaload, 1) := by decide +kernel
theorem dX1_startsAt_9 : decode cX1_startsAt 9 = .ok (.aload_n 0, 1) := by decide +kernel
theorem dX1_startsAt_10 : decode cX1_startsAt 10 = .ok (.getfield 16, 3) := by decide +kernel
theorem dX1_startsAt_13 : decode cX1_startsAt 13 = .ok (.getfield 32, 3) := by decide +kernel
theorem dX1_startsAt_16 : decode cX1_startsAt 16 = .ok (.if_icmp .ne 33, 3) := by decide +kernel
theorem dX1_startsAt_19 : decode cX1_startsAt 19 = .ok (.aload_n 0, 1) := by decide +kernel
theorem dX1_startsAt_20 : decode cX1_startsAt 20 = .ok (.getfield 20, 3) := by decide +kernel
theorem dX1_startsAt_23 : decode cX1_startsAt 23 = .ok (.ifnull 22, 3) := by decide +kernel
theorem dX1_startsAt_26 : decode cX1_startsAt 26 = .ok (.aload_n 1, 1) := by decide +kernel
theorem dX1_startsAt_27 : decode cX1_startsAt 27 = .ok (.aload_n 0, 1) := by decide +kernel
theorem dX1_startsAt_28 : decode cX1_startsAt 28 = .ok (.getfield 20, 3) := by decide +kernel
theorem dX1_startsAt_31 : decode cX1_startsAt 31 = .ok (.getfield 29, 3) := by decide +kernel
theorem dX1_startsAt_34 : decode cX1_startsAt 34 = .ok (.iaload, 1) := by decide +kernel
theorem dX1_startsAt_35 : decode cX1_startsAt 35 = .ok (.aload_n 0, 1) := by decide +kernel
theorem dX1_startsAt_36 : decode cX1_startsAt 36 = .ok (.getfield 20, 3) := by decide +kernel
theorem dX1_startsAt_39 : decode cX1_startsAt 39 = .ok (.getfield 32, 3) := by decide +kernel
theorem dX1_startsAt_42 : decode cX1_startsAt 42 = .ok (.if_icmp .ne 7, 3) := by decide +kernel
theorem dX1_startsAt_45 : decode cX1_startsAt 45 = .ok (.iconst 1, 1) := by decide +kernel
theorem dX1_startsAt_46 : decode cX1_startsAt 46 = .ok (.goto 4, 3) := by decide +kernel
theorem dX1_startsAt_49 : decode cX1_startsAt 49 = .ok (.iconst 0, 1) := by decide +kernel
theorem dX1_startsAt_50 : decode cX1_startsAt 50 = .ok (.ireturn, 1) := by decide +kernel
theorem dX1_carry_0 : decode cX1_carry 0 = .ok (.aload_n 1, 1) := by decide +kernel
theorem dX1_carry_1 : decode cX1_carry 1 = .ok (.aload_n 0, 1) := by decide +kernel
theorem dX1_carry_2 : decode cX1_carry 2 = .ok (.getfield 16, 3) := by decide +kernel
theorem dX1_carry_5 : decode cX1_carry 5 = .ok (.getfield 29, 3) := by decide +kernel
theorem dX1_carry_8 : decode cX1_carry 8 = .ok (.aload_n 0, 1) := by decide +kernel
theorem dX1_carry_9 : decode cX1_carry 9 = .ok (.getfield 16, 3) := by decide +kernel
theorem dX1_carry_12 : decode cX1_carry 12 = .ok (.getfield 35, 3) := by decide +kernel
theorem dX1_carry_15 : decode cX1_carry 15 = .ok (.iastore, 1) := by decide +kernel
theorem dX1_carry_16 : decode cX1_carry 16 = .ok (.aload_n 0, 1) := by decide +kernel
theorem dX1_carry_17 : decode cX1_carry 17 = .ok (.getfield 20, 3) := by decide +kernel
theorem dX1_carry_20 : decode cX1_carry 20 = .ok (.ifnull 19, 3) := by decide +kernel
theorem dX1_carry_23 : decode cX1_carry 23 = .ok (.aload_n 1, 1) := by decide +kernel
theorem dX1_carry_24 : decode cX1_carry 24 = .ok (.aload_n 0, 1) := by decide +kernel
theorem dX1_carry_25 : decode cX1_carry 25 = .ok (.getfield 20, 3) := by decide +kernel
theorem dX1_carry_28 : decode cX1_carry 28 = .ok (.getfield 29, 3) := by decide +kernel
theorem dX1_carry_31 : decode cX1_carry 31 = .ok (.aload_n 0, 1) := by decide +kernel
theorem dX1_carry_32 : decode cX1_carry 32 = .ok (.getfield 20, 3) := by decide +kernel
theorem dX1_carry_35 : decode cX1_carry 35 = .ok (.getfield 35, 3) := by decide +kernel
theorem dX1_carry_38 : decode cX1_carry 38 = .ok (.iastore, 1) := by decide +kernel
theorem dX1_carry_39 : decode cX1_carry 39 = .ok (.return_, 1) := by decide +kernel
theorem dX1_sets_0 : decode cX1_sets 0 = .ok (.aload_n 0, 1) := by decide +kernel
theorem dX1_sets_1 : decode cX1_sets 1 = .ok (.getfield 28, 3) := by decide +kernel
theorem dX1_sets_4 : decode cX1_sets 4 = .ok (.iload_n 1, 1) := by decide +kernel
theorem dX1_sets_5 : decode cX1_sets 5 = .ok (.ishr, 1) := by decide +kernel
theorem dX1_sets_6 : decode cX1_sets 6 = .ok (.iconst 1, 1) := by decide +kernel
theorem dX1_sets_7 : decode cX1_sets 7 = .ok (.iand, 1) := by decide +kernel
theorem dX1_sets_8 : decode cX1_sets 8 = .ok (.ifCond .eq 7, 3) := by decide +kernel
theorem dX1_sets_11 : decode cX1_sets 11 = .ok (.iconst 1, 1) := by decide +kernel
theorem dX1_sets_12 : decode cX1_sets 12 = .ok (.goto 4, 3) := by decide +kernel
theorem dX1_sets_15 : decode cX1_sets 15 = .ok (.iconst 0, 1) := by decide +kernel
theorem dX1_sets_16 : decode cX1_sets 16 = .ok (.ireturn, 1) := by decide +kernel
theorem dX1_guardsAllow_0 : decode cX1_guardsAllow 0 = .ok (.aload_n 0, 1) := by decide +kernel
theorem dX1_guardsAllow_1 : decode cX1_guardsAllow 1 = .ok (.getfield 16, 3) := by decide +kernel
theorem dX1_guardsAllow_4 : decode cX1_guardsAllow 4 = .ok (.getfield 38, 3) := by decide +kernel
theorem dX1_guardsAllow_7 : decode cX1_guardsAllow 7 = .ok (.aload_n 1, 1) := by decide +kernel
theorem dX1_guardsAllow_8 : decode cX1_guardsAllow 8 = .ok (.invokevirtual 42, 3) := by decide +kernel
theorem dX1_guardsAllow_11 : decode cX1_guardsAllow 11 = .ok (.ifCond .eq 28, 3) := by decide +kernel
theorem dX1_guardsAllow_14 : decode cX1_guardsAllow 14 = .ok (.aload_n 0, 1) := by decide +kernel
theorem dX1_guardsAllow_15 : decode cX1_guardsAllow 15 = .ok (.getfield 20, 3) := by decide +kernel
theorem dX1_guardsAllow_18 : decode cX1_guardsAllow 18 = .ok (.ifnull 17, 3) := by decide +kernel
theorem dX1_guardsAllow_21 : decode cX1_guardsAllow 21 = .ok (.aload_n 0, 1) := by decide +kernel
theorem dX1_guardsAllow_22 : decode cX1_guardsAllow 22 = .ok (.getfield 20, 3) := by decide +kernel
theorem dX1_guardsAllow_25 : decode cX1_guardsAllow 25 = .ok (.getfield 38, 3) := by decide +kernel
theorem dX1_guardsAllow_28 : decode cX1_guardsAllow 28 = .ok (.aload_n 1, 1) := by decide +kernel
theorem dX1_guardsAllow_29 : decode cX1_guardsAllow 29 = .ok (.invokevirtual 42, 3) := by decide +kernel
theorem dX1_guardsAllow_32 : decode cX1_guardsAllow 32 = .ok (.ifCond .eq 7, 3) := by decide +kernel
theorem dX1_guardsAllow_35 : decode cX1_guardsAllow 35 = .ok (.iconst 1, 1) := by decide +kernel
theorem dX1_guardsAllow_36 : decode cX1_guardsAllow 36 = .ok (.goto 4, 3) := by decide +kernel
theorem dX1_guardsAllow_39 : decode cX1_guardsAllow 39 = .ok (.iconst 0, 1) := by decide +kernel
theorem dX1_guardsAllow_40 : decode cX1_guardsAllow 40 = .ok (.ireturn, 1) := by decide +kernel
theorem dX1_guardsNarrow_0 : decode cX1_guardsNarrow 0 = .ok (.aload_n 0, 1) := by decide +kernel
theorem dX1_guardsNarrow_1 : decode cX1_guardsNarrow 1 = .ok (.getfield 16, 3) := by decide +kernel
theorem dX1_guardsNarrow_4 : decode cX1_guardsNarrow 4 = .ok (.getfield 38, 3) := by decide +kernel
theorem dX1_guardsNarrow_7 : decode cX1_guardsNarrow 7 = .ok (.aload_n 1, 1) := by decide +kernel
theorem dX1_guardsNarrow_8 : decode cX1_guardsNarrow 8 = .ok (.invokevirtual 48, 3) := by decide +kernel
theorem dX1_guardsNarrow_11 : decode cX1_guardsNarrow 11 = .ok (.ifCond .eq 28, 3) := by decide +kernel
theorem dX1_guardsNarrow_14 : decode cX1_guardsNarrow 14 = .ok (.aload_n 0, 1) := by decide +kernel
theorem dX1_guardsNarrow_15 : decode cX1_guardsNarrow 15 = .ok (.getfield 20, 3) := by decide +kernel
theorem dX1_guardsNarrow_18 : decode cX1_guardsNarrow 18 = .ok (.ifnull 17, 3) := by decide +kernel
theorem dX1_guardsNarrow_21 : decode cX1_guardsNarrow 21 = .ok (.aload_n 0, 1) := by decide +kernel
theorem dX1_guardsNarrow_22 : decode cX1_guardsNarrow 22 = .ok (.getfield 20, 3) := by decide +kernel
theorem dX1_guardsNarrow_25 : decode cX1_guardsNarrow 25 = .ok (.getfield 38, 3) := by decide +kernel
theorem dX1_guardsNarrow_28 : decode cX1_guardsNarrow 28 = .ok (.aload_n 1, 1) := by decide +kernel
theorem dX1_guardsNarrow_29 : decode cX1_guardsNarrow 29 = .ok (.invokevirtual 48, 3) := by decide +kernel
theorem dX1_guardsNarrow_32 : decode cX1_guardsNarrow 32 = .ok (.ifCond .eq 7, 3) := by decide +kernel
theorem dX1_guardsNarrow_35 : decode cX1_guardsNarrow 35 = .ok (.iconst 1, 1) := by decide +kernel
theorem dX1_guardsNarrow_36 : decode cX1_guardsNarrow 36 = .ok (.goto 4, 3) := by decide +kernel
theorem dX1_guardsNarrow_39 : decode cX1_guardsNarrow 39 = .ok (.iconst 0, 1) := by decide +kernel
theorem dX1_guardsNarrow_40 : decode cX1_guardsNarrow 40 = .ok (.ireturn, 1) := by decide +kernel
theorem dX2_init_0 : decode cX2_init 0 = .ok (.aload_n 0, 1) := by decide +kernel
theorem dX2_init_1 : decode cX2_init 1 = .ok (.invokespecial 3, 3) := by decide +kernel
theorem dX2_init_4 : decode cX2_init 4 = .ok (.aload_n 0, 1) := by decide +kernel
theorem dX2_init_5 : decode cX2_init 5 = .ok (.bipush 20, 2) := by decide +kernel
theorem dX2_init_7 : decode cX2_init 7 = .ok (.anewarray 9, 3) := by decide +kernel
theorem dX2_init_10 : decode cX2_init 10 = .ok (.putfield 11, 3) := by decide +kernel
theorem dX2_init_13 : decode cX2_init 13 = .ok (.aload_n 0, 1) := by decide +kernel
theorem dX2_init_14 : decode cX2_init 14 = .ok (.sipush 400, 3) := by decide +kernel
theorem dX2_init_17 : decode cX2_init 17 = .ok (.anewarray 17, 3) := by decide +kernel
theorem dX2_init_20 : decode cX2_init 20 = .ok (.putfield 19, 3) := by decide +kernel
theorem dX2_init_23 : decode cX2_init 23 = .ok (.aload_n 0, 1) := by decide +kernel
theorem dX2_init_24 : decode cX2_init 24 = .ok (.bipush 18, 2) := by decide +kernel
theorem dX2_init_26 : decode cX2_init 26 = .ok (.anewarray 23, 3) := by decide +kernel
theorem dX2_init_29 : decode cX2_init 29 = .ok (.putfield 25, 3) := by decide +kernel
theorem dX2_init_32 : decode cX2_init 32 = .ok (.iconst 0, 1) := by decide +kernel
theorem dX2_init_33 : decode cX2_init 33 = .ok (.istore_n 1, 1) := by decide +kernel
theorem dX2_init_34 : decode cX2_init 34 = .ok (.iload_n 1, 1) := by decide +kernel
theorem dX2_init_35 : decode cX2_init 35 = .ok (.bipush 18, 2) := by decide +kernel
theorem dX2_init_37 : decode cX2_init 37 = .ok (.if_icmp .ge 22, 3) := by decide +kernel
theorem dX2_init_40 : decode cX2_init 40 = .ok (.aload_n 0, 1) := by decide +kernel
theorem dX2_init_41 : decode cX2_init 41 = .ok (.getfield 25, 3) := by decide +kernel
theorem dX2_init_44 : decode cX2_init 44 = .ok (.iload_n 1, 1) := by decide +kernel
theorem dX2_init_45 : decode cX2_init 45 = .ok (.new 23, 3) := by decide +kernel
theorem dX2_init_48 : decode cX2_init 48 = .ok (.dup, 1) := by decide +kernel
theorem dX2_init_49 : decode cX2_init 49 = .ok (.invokespecial 29, 3) := by decide +kernel
theorem dX2_init_52 : decode cX2_init 52 = .ok (.aastore, 1) := by decide +kernel
theorem dX2_init_53 : decode cX2_init 53 = .ok (.iinc 1 1, 3) := by decide +kernel
theorem dX2_init_56 : decode cX2_init 56 = .ok (.goto (-22), 3) := by decide +kernel
theorem dX2_init_59 : decode cX2_init 59 = .ok (.return_, 1) := by decide +kernel
theorem dX2_isEdge_0 : decode cX2_isEdge 0 = .ok (.iload_n 1, 1) := by decide +kernel
theorem dX2_isEdge_1 : decode cX2_isEdge 1 = .ok (.ifCond .lt 15, 3) := by decide +kernel
theorem dX2_isEdge_4 : decode cX2_isEdge 4 = .ok (.iload_n 1, 1) := by decide +kernel
theorem dX2_isEdge_5 : decode cX2_isEdge 5 = .ok (.aload_n 0, 1) := by decide +kernel
theorem dX2_isEdge_6 : decode cX2_isEdge 6 = .ok (.getfield 30, 3) := by decide +kernel
theorem dX2_isEdge_9 : decode cX2_isEdge 9 = .ok (.if_icmp .ge 7, 3) := by decide +kernel
theorem dX2_isEdge_12 : decode cX2_isEdge 12 = .ok (.iconst 1, 1) := by decide +kernel
theorem dX2_isEdge_13 : decode cX2_isEdge 13 = .ok (.goto 4, 3) := by decide +kernel
theorem dX2_isEdge_16 : decode cX2_isEdge 16 = .ok (.iconst 0, 1) := by decide +kernel
theorem dX2_isEdge_17 : decode cX2_isEdge 17 = .ok (.ireturn, 1) := by decide +kernel
theorem dX2_limitsOf_0 : decode cX2_limitsOf 0 = .ok (.aload_n 0, 1) := by decide +kernel
theorem dX2_limitsOf_1 : decode cX2_limitsOf 1 = .ok (.getfield 25, 3) := by decide +kernel
theorem dX2_limitsOf_4 : decode cX2_limitsOf 4 = .ok (.iload_n 1, 1) := by decide +kernel
theorem dX2_limitsOf_5 : decode cX2_limitsOf 5 = .ok (.bipush 6, 2) := by decide +kernel
theorem dX2_limitsOf_7 : decode cX2_limitsOf 7 = .ok (.imul, 1) := by decide +kernel
theorem dX2_limitsOf_8 : decode cX2_limitsOf 8 = .ok (.iload_n 2, 1) := by decide +kernel
theorem dX2_limitsOf_9 : decode cX2_limitsOf 9 = .ok (.iadd, 1) := by decide +kernel
theorem dX2_limitsOf_10 : decode cX2_limitsOf 10 = .ok (.aaload, 1) := by decide +kernel
theorem dX2_limitsOf_11 : decode cX2_limitsOf 11 = .ok (.areturn, 1) := by decide +kernel
theorem dX2_addEdge_0 : decode cX2_addEdge 0 = .ok (.aload_n 0, 1) := by decide +kernel
theorem dX2_addEdge_1 : decode cX2_addEdge 1 = .ok (.getfield 30, 3) := by decide +kernel
theorem dX2_addEdge_4 : decode cX2_addEdge 4 = .ok (.istore_n 2, 1) := by decide +kernel
theorem dX2_addEdge_5 : decode cX2_addEdge 5 = .ok (.iload_n 2, 1) := by decide +kernel
theorem dX2_addEdge_6 : decode cX2_addEdge 6 = .ok (.bipush 20, 2) := by decide +kernel
theorem dX2_addEdge_8 : decode cX2_addEdge 8 = .ok (.if_icmp .lt 6, 3) := by decide +kernel
theorem dX2_addEdge_11 : decode cX2_addEdge 11 = .ok (.bipush (-104), 2) := by decide +kernel
theorem dX2_addEdge_13 : decode cX2_addEdge 13 = .ok (.ireturn, 1) := by decide +kernel
theorem dX2_addEdge_14 : decode cX2_addEdge 14 = .ok (.aload_n 0, 1) := by decide +kernel
theorem dX2_addEdge_15 : decode cX2_addEdge 15 = .ok (.getfield 11, 3) := by decide +kernel
theorem dX2_addEdge_18 : decode cX2_addEdge 18 = .ok (.iload_n 2, 1) := by decide +kernel
theorem dX2_addEdge_19 : decode cX2_addEdge 19 = .ok (.aload_n 1, 1) := by decide +kernel
theorem dX2_addEdge_20 : decode cX2_addEdge 20 = .ok (.aastore, 1) := by decide +kernel
theorem dX2_addEdge_21 : decode cX2_addEdge 21 = .ok (.aload_n 0, 1) := by decide +kernel
theorem dX2_addEdge_22 : decode cX2_addEdge 22 = .ok (.dup, 1) := by decide +kernel
theorem dX2_addEdge_23 : decode cX2_addEdge 23 = .ok (.getfield 30, 3) := by decide +kernel
theorem dX2_addEdge_26 : decode cX2_addEdge 26 = .ok (.iconst 1, 1) := by decide +kernel
theorem dX2_addEdge_27 : decode cX2_addEdge 27 = .ok (.iadd, 1) := by decide +kernel
theorem dX2_addEdge_28 : decode cX2_addEdge 28 = .ok (.putfield 30, 3) := by decide +kernel
theorem dX2_addEdge_31 : decode cX2_addEdge 31 = .ok (.aload_n 1, 1) := by decide +kernel
theorem dX2_addEdge_32 : decode cX2_addEdge 32 = .ok (.getfield 34, 3) := by decide +kernel
theorem dX2_addEdge_35 : decode cX2_addEdge 35 = .ok (.ifCond .ne 18, 3) := by decide +kernel
theorem dX2_addEdge_38 : decode cX2_addEdge 38 = .ok (.aload_n 0, 1) := by decide +kernel
theorem dX2_addEdge_39 : decode cX2_addEdge 39 = .ok (.new 17, 3) := by decide +kernel
theorem dX2_addEdge_42 : decode cX2_addEdge 42 = .ok (.dup, 1) := by decide +kernel
theorem dX2_addEdge_43 : decode cX2_addEdge 43 = .ok (.iload_n 2, 1) := by decide +kernel
theorem dX2_addEdge_44 : decode cX2_addEdge 44 = .ok (.iconst (-1), 1) := by decide +kernel
theorem dX2_addEdge_45 : decode cX2_addEdge 45 = .ok (.aload_n 1, 1) := by decide +kernel
theorem dX2_addEdge_46 : decode cX2_addEdge 46 = .ok (.aconst_null, 1) := by decide +kernel
theorem dX2_addEdge_47 : decode cX2_addEdge 47 = .ok (.invokespecial 37, 3) := by decide +kernel
theorem dX2_addEdge_50 : decode cX2_addEdge 50 = .ok (.invokevirtual 40, 3) := by decide +kernel
theorem dX2_addEdge_53 : decode cX2_addEdge 53 = .ok (.iconst 0, 1) := by decide +kernel
theorem dX2_addEdge_54 : decode cX2_addEdge 54 = .ok (.istore_n 3, 1) := by decide +kernel
theorem dX2_addEdge_55 : decode cX2_addEdge 55 = .ok (.iload_n 3, 1) := by decide +kernel
theorem dX2_addEdge_56 : decode cX2_addEdge 56 = .ok (.iload_n 2, 1) := by decide +kernel
theorem dX2_addEdge_57 : decode cX2_addEdge 57 = .ok (.if_icmp .ge 78, 3) := by decide +kernel
theorem dX2_addEdge_60 : decode cX2_addEdge 60 = .ok (.aload_n 1, 1) := by decide +kernel
theorem dX2_addEdge_61 : decode cX2_addEdge 61 = .ok (.aload_n 0, 1) := by decide +kernel
theorem dX2_addEdge_62 : decode cX2_addEdge 62 = .ok (.getfield 11, 3) := by decide +kernel
theorem dX2_addEdge_65 : decode cX2_addEdge 65 = .ok (.iload_n 3, 1) := by decide +kernel
theorem dX2_addEdge_66 : decode cX2_addEdge 66 = .ok (.aaload, 1) := by decide +kernel
theorem dX2_addEdge_67 : decode cX2_addEdge 67 = .ok (.invokevirtual 44, 3) := by decide +kernel
theorem dX2_addEdge_70 : decode cX2_addEdge 70 = .ok (.ifCond .eq 26, 3) := by decide +kernel
theorem dX2_addEdge_73 : decode cX2_addEdge 73 = .ok (.aload_n 0, 1) := by decide +kernel
theorem dX2_addEdge_74 : decode cX2_addEdge 74 = .ok (.new 17, 3) := by decide +kernel
theorem dX2_addEdge_77 : decode cX2_addEdge 77 = .ok (.dup, 1) := by decide +kernel
theorem dX2_addEdge_78 : decode cX2_addEdge 78 = .ok (.iload_n 2, 1) := by decide +kernel
theorem dX2_addEdge_79 : decode cX2_addEdge 79 = .ok (.iload_n 3, 1) := by decide +kernel
theorem dX2_addEdge_80 : decode cX2_addEdge 80 = .ok (.aload_n 1, 1) := by decide +kernel
theorem dX2_addEdge_81 : decode cX2_addEdge 81 = .ok (.aload_n 0, 1) := by decide +kernel
theorem dX2_addEdge_82 : decode cX2_addEdge 82 = .ok (.getfield 11, 3) := by decide +kernel
theorem dX2_addEdge_85 : decode cX2_addEdge 85 = .ok (.iload_n 3, 1) := by decide +kernel
theorem dX2_addEdge_86 : decode cX2_addEdge 86 = .ok (.aaload, 1) := by decide +kernel
theorem dX2_addEdge_87 : decode cX2_addEdge 87 = .ok (.invokespecial 37, 3) := by decide +kernel
theorem dX2_addEdge_90 : decode cX2_addEdge 90 = .ok (.invokevirtual 40, 3) := by decide +kernel
theorem dX2_addEdge_93 : decode cX2_addEdge 93 = .ok (.goto 36, 3) := by decide +kernel
theorem dX2_addEdge_96 : decode cX2_addEdge 96 = .ok (.aload_n 0, 1) := by decide +kernel
theorem dX2_addEdge_97 : decode cX2_addEdge 97 = .ok (.getfield 11, 3) := by decide +kernel
theorem dX2_addEdge_100 : decode cX2_addEdge 100 = .ok (.iload_n 3, 1) := by decide +kernel
theorem dX2_addEdge_101 : decode cX2_addEdge 101 = .ok (.aaload, 1) := by decide +kernel
theorem dX2_addEdge_102 : decode cX2_addEdge 102 = .ok (.aload_n 1, 1) := by decide +kernel
theorem dX2_addEdge_103 : decode cX2_addEdge 103 = .ok (.invokevirtual 44, 3) := by decide +kernel
theorem dX2_addEdge_106 : decode cX2_addEdge 106 = .ok (.ifCond .eq 23, 3) := by decide +kernel
theorem dX2_addEdge_109 : decode cX2_addEdge 109 = .ok (.aload_n 0, 1) := by decide +kernel
theorem dX2_addEdge_110 : decode cX2_addEdge 110 = .ok (.new 17, 3) := by decide +kernel
theorem dX2_addEdge_113 : decode cX2_addEdge 113 = .ok (.dup, 1) := by decide +kernel
theorem dX2_addEdge_114 : decode cX2_addEdge 114 = .ok (.iload_n 3, 1) := by decide +kernel
theorem dX2_addEdge_115 : decode cX2_addEdge 115 = .ok (.iload_n 2, 1) := by decide +kernel
theorem dX2_addEdge_116 : decode cX2_addEdge 116 = .ok (.aload_n 0, 1) := by decide +kernel
theorem dX2_addEdge_117 : decode cX2_addEdge 117 = .ok (.getfield 11, 3) := by decide +kernel
theorem dX2_addEdge_120 : decode cX2_addEdge 120 = .ok (.iload_n 3, 1) := by decide +kernel
theorem dX2_addEdge_121 : decode cX2_addEdge 121 = .ok (.aaload, 1) := by decide +kernel
theorem dX2_addEdge_122 : decode cX2_addEdge 122 = .ok (.aload_n 1, 1) := by decide +kernel
theorem dX2_addEdge_123 : decode cX2_addEdge 123 = .ok (.invokespecial 37, 3) := by decide +kernel
theorem dX2_addEdge_126 : decode cX2_addEdge 126 = .ok (.invokevirtual 40, 3) := by decide +kernel
theorem dX2_addEdge_129 : decode cX2_addEdge 129 = .ok (.iinc 3 1, 3) := by decide +kernel
theorem dX2_addEdge_132 : decode cX2_addEdge 132 = .ok (.goto (-77), 3) := by decide +kernel
theorem dX2_addEdge_135 : decode cX2_addEdge 135 = .ok (.iload_n 2, 1) := by decide +kernel
theorem dX2_addEdge_136 : decode cX2_addEdge 136 = .ok (.ireturn, 1) := by decide +kernel
theorem dX2_insert_0 : decode cX2_insert 0 = .ok (.aload_n 0, 1) := by decide +kernel
theorem dX2_insert_1 : decode cX2_insert 1 = .ok (.getfield 48, 3) := by decide +kernel
theorem dX2_insert_4 : decode cX2_insert 4 = .ok (.aload_n 0, 1) := by decide +kernel
theorem dX2_insert_5 : decode cX2_insert 5 = .ok (.getfield 19, 3) := by decide +kernel
theorem dX2_insert_8 : decode cX2_insert 8 = .ok (.arraylength, 1) := by decide +kernel
theorem dX2_insert_9 : decode cX2_insert 9 = .ok (.if_icmp .lt 4, 3) := by decide +kernel
theorem dX2_insert_12 : decode cX2_insert 12 = .ok (.return_, 1) := by decide +kernel
theorem dX2_insert_13 : decode cX2_insert 13 = .ok (.aload_n 0, 1) := by decide +kernel
theorem dX2_insert_14 : decode cX2_insert 14 = .ok (.getfield 48, 3) := by decide +kernel
theorem dX2_insert_17 : decode cX2_insert 17 = .ok (.istore_n 2, 1) := by decide +kernel
theorem dX2_insert_18 : decode cX2_insert 18 = .ok (.iload_n 2, 1) := by decide +kernel
theorem dX2_insert_19 : decode cX2_insert 19 = .ok (.ifCond .le 38, 3) := by decide +kernel
theorem dX2_insert_22 : decode cX2_insert 22 = .ok (.aload_n 0, 1) := by decide +kernel
theorem dX2_insert_23 : decode cX2_insert 23 = .ok (.getfield 19, 3) := by decide +kernel
theorem dX2_insert_26 : decode cX2_insert 26 = .ok (.iload_n 2, 1) := by decide +kernel
theorem dX2_insert_27 : decode cX2_insert 27 = .ok (.iconst 1, 1) := by decide +kernel
theorem dX2_insert_28 : decode cX2_insert 28 = .ok (.isub, 1) := by decide +kernel
theorem dX2_insert_29 : decode cX2_insert 29 = .ok (.aaload, 1) := by decide +kernel
theorem dX2_insert_30 : decode cX2_insert 30 = .ok (.aload_n 1, 1) := by decide +kernel
theorem dX2_insert_31 : decode cX2_insert 31 = .ok (.invokevirtual 51, 3) := by decide +kernel
theorem dX2_insert_34 : decode cX2_insert 34 = .ok (.ifCond .eq 23, 3) := by decide +kernel
theorem dX2_insert_37 : decode cX2_insert 37 = .ok (.aload_n 0, 1) := by decide +kernel
theorem dX2_insert_38 : decode cX2_insert 38 = .ok (.getfield 19, 3) := by decide +kernel
theorem dX2_insert_41 : decode cX2_insert 41 = .ok (.iload_n 2, 1) := by decide +kernel
theorem dX2_insert_42 : decode cX2_insert 42 = .ok (.aload_n 0, 1) := by decide +kernel
theorem dX2_insert_43 : decode cX2_insert 43 = .ok (.getfield 19, 3) := by decide +kernel
theorem dX2_insert_46 : decode cX2_insert 46 = .ok (.iload_n 2, 1) := by decide +kernel
theorem dX2_insert_47 : decode cX2_insert 47 = .ok (.iconst 1, 1) := by decide +kernel
theorem dX2_insert_48 : decode cX2_insert 48 = .ok (.isub, 1) := by decide +kernel
theorem dX2_insert_49 : decode cX2_insert 49 = .ok (.aaload, 1) := by decide +kernel
theorem dX2_insert_50 : decode cX2_insert 50 = .ok (.aastore, 1) := by decide +kernel
theorem dX2_insert_51 : decode cX2_insert 51 = .ok (.iinc 2 (-1), 3) := by decide +kernel
theorem dX2_insert_54 : decode cX2_insert 54 = .ok (.goto (-36), 3) := by decide +kernel
theorem dX2_insert_57 : decode cX2_insert 57 = .ok (.aload_n 0, 1) := by decide +kernel
theorem dX2_insert_58 : decode cX2_insert 58 = .ok (.getfield 19, 3) := by decide +kernel
theorem dX2_insert_61 : decode cX2_insert 61 = .ok (.iload_n 2, 1) := by decide +kernel
theorem dX2_insert_62 : decode cX2_insert 62 = .ok (.aload_n 1, 1) := by decide +kernel
theorem dX2_insert_63 : decode cX2_insert 63 = .ok (.aastore, 1) := by decide +kernel
theorem dX2_insert_64 : decode cX2_insert 64 = .ok (.aload_n 0, 1) := by decide +kernel
theorem dX2_insert_65 : decode cX2_insert 65 = .ok (.dup, 1) := by decide +kernel
theorem dX2_insert_66 : decode cX2_insert 66 = .ok (.getfield 48, 3) := by decide +kernel
theorem dX2_insert_69 : decode cX2_insert 69 = .ok (.iconst 1, 1) := by decide +kernel
theorem dX2_insert_70 : decode cX2_insert 70 = .ok (.iadd, 1) := by decide +kernel
theorem dX2_insert_71 : decode cX2_insert 71 = .ok (.putfield 48, 3) := by decide +kernel
theorem dX2_insert_74 : decode cX2_insert 74 = .ok (.return_, 1) := by decide +kernel
theorem dX2_find_0 : decode cX2_find 0 = .ok (.iconst 0, 1) := by decide +kernel
theorem dX2_find_1 : decode cX2_find 1 = .ok (.istore_n 3, 1) := by decide +kernel
theorem dX2_find_2 : decode cX2_find 2 = .ok (.iload_n 3, 1) := by decide +kernel
theorem dX2_find_3 : decode cX2_find 3 = .ok (.aload_n 0, 1) := by decide +kernel
theorem dX2_find_4 : decode cX2_find 4 = .ok (.getfield 48, 3) := by decide +kernel
theorem dX2_find_7 : decode cX2_find 7 = .ok (.if_icmp .ge 42, 3) := by decide +kernel
theorem dX2_find_10 : decode cX2_find 10 = .ok (.aload_n 0, 1) := by decide +kernel
theorem dX2_find_11 : decode cX2_find 11 = .ok (.getfield 19, 3) := by decide +kernel
theorem dX2_find_14 : decode cX2_find 14 = .ok (.iload_n 3, 1) := by decide +kernel
theorem dX2_find_15 : decode cX2_find 15 = .ok (.aaload, 1) := by decide +kernel
theorem dX2_find_16 : decode cX2_find 16 = .ok (.getfield 55, 3) := by decide +kernel
theorem dX2_find_19 : decode cX2_find 19 = .ok (.iload_n 1, 1) := by decide +kernel
theorem dX2_find_20 : decode cX2_find 20 = .ok (.if_icmp .ne 23, 3) := by decide +kernel
theorem dX2_find_23 : decode cX2_find 23 = .ok (.aload_n 0, 1) := by decide +kernel
theorem dX2_find_24 : decode cX2_find 24 = .ok (.getfield 19, 3) := by decide +kernel
theorem dX2_find_27 : decode cX2_find 27 = .ok (.iload_n 3, 1) := by decide +kernel
theorem dX2_find_28 : decode cX2_find 28 = .ok (.aaload, 1) := by decide +kernel
theorem dX2_find_29 : decode cX2_find 29 = .ok (.getfield 58, 3) := by decide +kernel
theorem dX2_find_32 : decode cX2_find 32 = .ok (.iload_n 2, 1) := by decide +kernel
theorem dX2_find_33 : decode cX2_find 33 = .ok (.if_icmp .ne 10, 3) := by decide +kernel
theorem dX2_find_36 : decode cX2_find 36 = .ok (.aload_n 0, 1) := by decide +kernel
theorem dX2_find_37 : decode cX2_find 37 = .ok (.getfield 19, 3) := by decide +kernel
theorem dX2_find_40 : decode cX2_find 40 = .ok (.iload_n 3, 1) := by decide +kernel
theorem dX2_find_41 : decode cX2_find 41 = .ok (.aaload, 1) := by decide +kernel
theorem dX2_find_42 : decode cX2_find 42 = .ok (.areturn, 1) := by decide +kernel
theorem dX2_find_43 : decode cX2_find 43 = .ok (.iinc 3 1, 3) := by decide +kernel
theorem dX2_find_46 : decode cX2_find 46 = .ok (.goto (-44), 3) := by decide +kernel
theorem dX2_find_49 : decode cX2_find 49 = .ok (.aconst_null, 1) := by decide +kernel
theorem dX2_find_50 : decode cX2_find 50 = .ok (.areturn, 1) := by decide +kernel
theorem dX2_clear_0 : decode cX2_clear 0 = .ok (.aload_n 0, 1) := by decide +kernel
theorem dX2_clear_1 : decode cX2_clear 1 = .ok (.iconst 0, 1) := by decide +kernel
theorem dX2_clear_2 : decode cX2_clear 2 = .ok (.putfield 30, 3) := by decide +kernel
theorem dX2_clear_5 : decode cX2_clear 5 = .ok (.aload_n 0, 1) := by decide +kernel
theorem dX2_clear_6 : decode cX2_clear 6 = .ok (.iconst 0, 1) := by decide +kernel
theorem dX2_clear_7 : decode cX2_clear 7 = .ok (.putfield 48, 3) := by decide +kernel
theorem dX2_clear_10 : decode cX2_clear 10 = .ok (.iconst 0, 1) := by decide +kernel
theorem dX2_clear_11 : decode cX2_clear 11 = .ok (.istore_n 1, 1) := by decide +kernel
theorem dX2_clear_12 : decode cX2_clear 12 = .ok (.iload_n 1, 1) := by decide +kernel
theorem dX2_clear_13 : decode cX2_clear 13 = .ok (.bipush 18, 2) := by decide +kernel
theorem dX2_clear_15 : decode cX2_clear 15 = .ok (.if_icmp .ge 19, 3) := by decide +kernel
theorem dX2_clear_18 : decode cX2_clear 18 = .ok (.aload_n 0, 1) := by decide +kernel
theorem dX2_clear_19 : decode cX2_clear 19 = .ok (.getfield 25, 3) := by decide +kernel
theorem dX2_clear_22 : decode cX2_clear 22 = .ok (.iload_n 1, 1) := by decide +kernel
theorem dX2_clear_23 : decode cX2_clear 23 = .ok (.aaload, 1) := by decide +kernel
theorem dX2_clear_24 : decode cX2_clear 24 = .ok (.iconst 0, 1) := by decide +kernel
theorem dX2_clear_25 : decode cX2_clear 25 = .ok (.putfield 61, 3) := by decide +kernel
theorem dX2_clear_28 : decode cX2_clear 28 = .ok (.iinc 1 1, 3) := by decide +kernel
theorem dX2_clear_31 : decode cX2_clear 31 = .ok (.goto (-19), 3) := by decide +kernel
theorem dX2_clear_34 : decode cX2_clear 34 = .ok (.return_, 1) := by decide +kernel
theorem dX2_limitsAllow_0 : decode cX2_limitsAllow 0 = .ok (.iconst 0, 1) := by decide +kernel
theorem dX2_limitsAllow_1 : decode cX2_limitsAllow 1 = .ok (.istore_n 3, 1) := by decide +kernel
theorem dX2_limitsAllow_2 : decode cX2_limitsAllow 2 = .ok (.iload_n 3, 1) := by decide +kernel
theorem dX2_limitsAllow_3 : decode cX2_limitsAllow 3 = .ok (.iconst 3, 1) := by decide +kernel
theorem dX2_limitsAllow_4 : decode cX2_limitsAllow 4 = .ok (.if_icmp .ge 26, 3) := by decide +kernel
theorem dX2_limitsAllow_7 : decode cX2_limitsAllow 7 = .ok (.aload_n 0, 1) := by decide +kernel
theorem dX2_limitsAllow_8 : decode cX2_limitsAllow 8 = .ok (.iload_n 3, 1) := by decide +kernel
theorem dX2_limitsAllow_9 : decode cX2_limitsAllow 9 = .ok (.aload_n 1, 1) := by decide +kernel
theorem dX2_limitsAllow_10 : decode cX2_limitsAllow 10 = .ok (.iload_n 3, 1) := by decide +kernel
theorem dX2_limitsAllow_11 : decode cX2_limitsAllow 11 = .ok (.iaload, 1) := by decide +kernel
theorem dX2_limitsAllow_12 : decode cX2_limitsAllow 12 = .ok (.invokevirtual 64, 3) := by decide +kernel
theorem dX2_limitsAllow_15 : decode cX2_limitsAllow 15 = .ok (.aload_n 2, 1) := by decide +kernel
theorem dX2_limitsAllow_16 : decode cX2_limitsAllow 16 = .ok (.invokevirtual 68, 3) := by decide +kernel
theorem dX2_limitsAllow_19 : decode cX2_limitsAllow 19 = .ok (.ifCond .ne 5, 3) := by decide +kernel
theorem dX2_limitsAllow_22 : decode cX2_limitsAllow 22 = .ok (.iconst 0, 1) := by decide +kernel
theorem dX2_limitsAllow_23 : decode cX2_limitsAllow 23 = .ok (.ireturn, 1) := by decide +kernel
theorem dX2_limitsAllow_24 : decode cX2_limitsAllow 24 = .ok (.iinc 3 1, 3) := by decide +kernel
theorem dX2_limitsAllow_27 : decode cX2_limitsAllow 27 = .ok (.goto (-25), 3) := by decide +kernel
theorem dX2_limitsAllow_30 : decode cX2_limitsAllow 30 = .ok (.iconst 1, 1) := by decide +kernel
theorem dX2_limitsAllow_31 : decode cX2_limitsAllow 31 = .ok (.ireturn, 1) := by decide +kernel
theorem dX2_limitsNarrow_0 : decode cX2_limitsNarrow 0 = .ok (.iconst 0, 1) := by decide +kernel
theorem dX2_limitsNarrow_1 : decode cX2_limitsNarrow 1 = .ok (.istore_n 3, 1) := by decide +kernel
theorem dX2_limitsNarrow_2 : decode cX2_limitsNarrow 2 = .ok (.iload_n 3, 1) := by decide +kernel
theorem dX2_limitsNarrow_3 : decode cX2_limitsNarrow 3 = .ok (.iconst 3, 1) := by decide +kernel
theorem dX2_limitsNarrow_4 : decode cX2_limitsNarrow 4 = .ok (.if_icmp .ge 26, 3) := by decide +kernel
theorem dX2_limitsNarrow_7 : decode cX2_limitsNarrow 7 = .ok (.aload_n 0, 1) := by decide +kernel
theorem dX2_limitsNarrow_8 : decode cX2_limitsNarrow 8 = .ok (.iload_n 3, 1) := by decide +kernel
theorem dX2_limitsNarrow_9 : decode cX2_limitsNarrow 9 = .ok (.aload_n 1, 1) := by decide +kernel
theorem dX2_limitsNarrow_10 : decode cX2_limitsNarrow 10 = .ok (.iload_n 3, 1) := by decide +kernel
theorem dX2_limitsNarrow_11 : decode cX2_limitsNarrow 11 = .ok (.iaload, 1) := by decide +kernel
theorem dX2_limitsNarrow_12 : decode cX2_limitsNarrow 12 = .ok (.invokevirtual 64, 3) := by decide +kernel
theorem dX2_limitsNarrow_15 : decode cX2_limitsNarrow 15 = .ok (.aload_n 2, 1) := by decide +kernel
theorem dX2_limitsNarrow_16 : decode cX2_limitsNarrow 16 = .ok (.invokevirtual 72, 3) := by decide +kernel
theorem dX2_limitsNarrow_19 : decode cX2_limitsNarrow 19 = .ok (.ifCond .ne 5, 3) := by decide +kernel
theorem dX2_limitsNarrow_22 : decode cX2_limitsNarrow 22 = .ok (.iconst 0, 1) := by decide +kernel
theorem dX2_limitsNarrow_23 : decode cX2_limitsNarrow 23 = .ok (.ireturn, 1) := by decide +kernel
theorem dX2_limitsNarrow_24 : decode cX2_limitsNarrow 24 = .ok (.iinc 3 1, 3) := by decide +kernel
theorem dX2_limitsNarrow_27 : decode cX2_limitsNarrow 27 = .ok (.goto (-25), 3) := by decide +kernel
theorem dX2_limitsNarrow_30 : decode cX2_limitsNarrow 30 = .ok (.iconst 1, 1) := by decide +kernel
theorem dX2_limitsNarrow_31 : decode cX2_limitsNarrow 31 = .ok (.ireturn, 1) := by decide +kernel
theorem dX2_greatestOf_0 : decode cX2_greatestOf 0 = .ok (.iconst 0, 1) := by decide +kernel
theorem dX2_greatestOf_1 : decode cX2_greatestOf 1 = .ok (.istore_n 2, 1) := by decide +kernel
theorem dX2_greatestOf_2 : decode cX2_greatestOf 2 = .ok (.iconst 0, 1) := by decide +kernel
theorem dX2_greatestOf_3 : decode cX2_greatestOf 3 = .ok (.istore_n 3, 1) := by decide +kernel
theorem dX2_greatestOf_4 : decode cX2_greatestOf 4 = .ok (.iload_n 3, 1) := by decide +kernel
theorem dX2_greatestOf_5 : decode cX2_greatestOf 5 = .ok (.aload_n 0, 1) := by decide +kernel
theorem dX2_greatestOf_6 : decode cX2_greatestOf 6 = .ok (.getfield 30, 3) := by decide +kernel
theorem dX2_greatestOf_9 : decode cX2_greatestOf 9 = .ok (.if_icmp .ge 27, 3) := by decide +kernel
theorem dX2_greatestOf_12 : decode cX2_greatestOf 12 = .ok (.iload_n 2, 1) := by decide +kernel
theorem dX2_greatestOf_13 : decode cX2_greatestOf 13 = .ok (.aload_n 0, 1) := by decide +kernel
theorem dX2_greatestOf_14 : decode cX2_greatestOf 14 = .ok (.getfield 11, 3) := by decide +kernel
theorem dX2_greatestOf_17 : decode cX2_greatestOf 17 = .ok (.iload_n 3, 1) := by decide +kernel
theorem dX2_greatestOf_18 : decode cX2_greatestOf 18 = .ok (.aaload, 1) := by decide +kernel
theorem dX2_greatestOf_19 : decode cX2_greatestOf 19 = .ok (.getfield 76, 3) := by decide +kernel
theorem dX2_greatestOf_22 : decode cX2_greatestOf 22 = .ok (.iload_n 1, 1) := by decide +kernel
theorem dX2_greatestOf_23 : decode cX2_greatestOf 23 = .ok (.invokevirtual 80, 3) := by decide +kernel
theorem dX2_greatestOf_26 : decode cX2_greatestOf 26 = .ok (.invokestatic 84, 3) := by decide +kernel
theorem dX2_greatestOf_29 : decode cX2_greatestOf 29 = .ok (.istore_n 2, 1) := by decide +kernel
theorem dX2_greatestOf_30 : decode cX2_greatestOf 30 = .ok (.iinc 3 1, 3) := by decide +kernel
theorem dX2_greatestOf_33 : decode cX2_greatestOf 33 = .ok (.goto (-29), 3) := by decide +kernel
theorem dX2_greatestOf_36 : decode cX2_greatestOf 36 = .ok (.iconst 0, 1) := by decide +kernel
theorem dX2_greatestOf_37 : decode cX2_greatestOf 37 = .ok (.istore_n 3, 1) := by decide +kernel
theorem dX2_greatestOf_38 : decode cX2_greatestOf 38 = .ok (.iload_n 3, 1) := by decide +kernel
theorem dX2_greatestOf_39 : decode cX2_greatestOf 39 = .ok (.bipush 18, 2) := by decide +kernel
theorem dX2_greatestOf_41 : decode cX2_greatestOf 41 = .ok (.if_icmp .ge 24, 3) := by decide +kernel
theorem dX2_greatestOf_44 : decode cX2_greatestOf 44 = .ok (.iload_n 2, 1) := by decide +kernel
theorem dX2_greatestOf_45 : decode cX2_greatestOf 45 = .ok (.aload_n 0, 1) := by decide +kernel
theorem dX2_greatestOf_46 : decode cX2_greatestOf 46 = .ok (.getfield 25, 3) := by decide +kernel
theorem dX2_greatestOf_49 : decode cX2_greatestOf 49 = .ok (.iload_n 3, 1) := by decide +kernel
theorem dX2_greatestOf_50 : decode cX2_greatestOf 50 = .ok (.aaload, 1) := by decide +kernel
theorem dX2_greatestOf_51 : decode cX2_greatestOf 51 = .ok (.iload_n 1, 1) := by decide +kernel
theorem dX2_greatestOf_52 : decode cX2_greatestOf 52 = .ok (.invokevirtual 80, 3) := by decide +kernel
theorem dX2_greatestOf_55 : decode cX2_greatestOf 55 = .ok (.invokestatic 84, 3) := by decide +kernel
theorem dX2_greatestOf_58 : decode cX2_greatestOf 58 = .ok (.istore_n 2, 1) := by decide +kernel
theorem dX2_greatestOf_59 : decode cX2_greatestOf 59 = .ok (.iinc 3 1, 3) := by decide +kernel
theorem dX2_greatestOf_62 : decode cX2_greatestOf 62 = .ok (.goto (-24), 3) := by decide +kernel
theorem dX2_greatestOf_65 : decode cX2_greatestOf 65 = .ok (.iload_n 2, 1) := by decide +kernel
theorem dX2_greatestOf_66 : decode cX2_greatestOf 66 = .ok (.ireturn, 1) := by decide +kernel
theorem dX2_guardCount_0 : decode cX2_guardCount 0 = .ok (.iconst 0, 1) := by decide +kernel
theorem dX2_guardCount_1 : decode cX2_guardCount 1 = .ok (.istore_n 1, 1) := by decide +kernel
theorem dX2_guardCount_2 : decode cX2_guardCount 2 = .ok (.iconst 0, 1) := by decide +kernel
theorem dX2_guardCount_3 : decode cX2_guardCount 3 = .ok (.istore_n 2, 1) := by decide +kernel
theorem dX2_guardCount_4 : decode cX2_guardCount 4 = .ok (.iload_n 2, 1) := by decide +kernel
theorem dX2_guardCount_5 : decode cX2_guardCount 5 = .ok (.aload_n 0, 1) := by decide +kernel
theorem dX2_guardCount_6 : decode cX2_guardCount 6 = .ok (.getfield 30, 3) := by decide +kernel
theorem dX2_guardCount_9 : decode cX2_guardCount 9 = .ok (.if_icmp .ge 24, 3) := by decide +kernel
theorem dX2_guardCount_12 : decode cX2_guardCount 12 = .ok (.iload_n 1, 1) := by decide +kernel
theorem dX2_guardCount_13 : decode cX2_guardCount 13 = .ok (.aload_n 0, 1) := by decide +kernel
theorem dX2_guardCount_14 : decode cX2_guardCount 14 = .ok (.getfield 11, 3) := by decide +kernel
theorem dX2_guardCount_17 : decode cX2_guardCount 17 = .ok (.iload_n 2, 1) := by decide +kernel
theorem dX2_guardCount_18 : decode cX2_guardCount 18 = .ok (.aaload, 1) := by decide +kernel
theorem dX2_guardCount_19 : decode cX2_guardCount 19 = .ok (.getfield 76, 3) := by decide +kernel
theorem dX2_guardCount_22 : decode cX2_guardCount 22 = .ok (.getfield 61, 3) := by decide +kernel
theorem dX2_guardCount_25 : decode cX2_guardCount 25 = .ok (.iadd, 1) := by decide +kernel
theorem dX2_guardCount_26 : decode cX2_guardCount 26 = .ok (.istore_n 1, 1) := by decide +kernel
theorem dX2_guardCount_27 : decode cX2_guardCount 27 = .ok (.iinc 2 1, 3) := by decide +kernel
theorem dX2_guardCount_30 : decode cX2_guardCount 30 = .ok (.goto (-26), 3) := by decide +kernel
theorem dX2_guardCount_33 : decode cX2_guardCount 33 = .ok (.iload_n 1, 1) := by decide +kernel
theorem dX2_guardCount_34 : decode cX2_guardCount 34 = .ok (.ireturn, 1) := by decide +kernel
theorem dX2_limitCount_0 : decode cX2_limitCount 0 = .ok (.iconst 0, 1) := by decide +kernel
theorem dX2_limitCount_1 : decode cX2_limitCount 1 = .ok (.istore_n 1, 1) := by decide +kernel
theorem dX2_limitCount_2 : decode cX2_limitCount 2 = .ok (.iconst 0, 1) := by decide +kernel
theorem dX2_limitCount_3 : decode cX2_limitCount 3 = .ok (.istore_n 2, 1) := by decide +kernel
theorem dX2_limitCount_4 : decode cX2_limitCount 4 = .ok (.iload_n 2, 1) := by decide +kernel
theorem dX2_limitCount_5 : decode cX2_limitCount 5 = .ok (.bipush 18, 2) := by decide +kernel
theorem dX2_limitCount_7 : decode cX2_limitCount 7 = .ok (.if_icmp .ge 21, 3) := by decide +kernel
theorem dX2_limitCount_10 : decode cX2_limitCount 10 = .ok (.iload_n 1, 1) := by decide +kernel
theorem dX2_limitCount_11 : decode cX2_limitCount 11 = .ok (.aload_n 0, 1) := by decide +kernel
theorem dX2_limitCount_12 : decode cX2_limitCount 12 = .ok (.getfield 25, 3) := by decide +kernel
theorem dX2_limitCount_15 : decode cX2_limitCount 15 = .ok (.iload_n 2, 1) := by decide +kernel
theorem dX2_limitCount_16 : decode cX2_limitCount 16 = .ok (.aaload, 1) := by decide +kernel
theorem dX2_limitCount_17 : decode cX2_limitCount 17 = .ok (.getfield 61, 3) := by decide +kernel
theorem dX2_limitCount_20 : decode cX2_limitCount 20 = .ok (.iadd, 1) := by decide +kernel
theorem dX2_limitCount_21 : decode cX2_limitCount 21 = .ok (.istore_n 1, 1) := by decide +kernel
theorem dX2_limitCount_22 : decode cX2_limitCount 22 = .ok (.iinc 2 1, 3) := by decide +kernel
theorem dX2_limitCount_25 : decode cX2_limitCount 25 = .ok (.goto (-21), 3) := by decide +kernel
theorem dX2_limitCount_28 : decode cX2_limitCount 28 = .ok (.iload_n 1, 1) := by decide +kernel
theorem dX2_limitCount_29 : decode cX2_limitCount 29 = .ok (.ireturn, 1) := by decide +kernel
theorem dX3_init_0 : decode cX3_init 0 = .ok (.aload_n 0, 1) := by decide +kernel
theorem dX3_init_1 : decode cX3_init 1 = .ok (.invokespecial 3, 3) := by decide +kernel
theorem dX3_init_4 : decode cX3_init 4 = .ok (.aload_n 0, 1) := by decide +kernel
theorem dX3_init_5 : decode cX3_init 5 = .ok (.new 9, 3) := by decide +kernel
theorem dX3_init_8 : decode cX3_init 8 = .ok (.dup, 1) := by decide +kernel
theorem dX3_init_9 : decode cX3_init 9 = .ok (.invokespecial 11, 3) := by decide +kernel
theorem dX3_init_12 : decode cX3_init 12 = .ok (.putfield 12, 3) := by decide +kernel
theorem dX3_init_15 : decode cX3_init 15 = .ok (.aload_n 0, 1) := by decide +kernel
theorem dX3_init_16 : decode cX3_init 16 = .ok (.iconst 1, 1) := by decide +kernel
theorem dX3_init_17 : decode cX3_init 17 = .ok (.putfield 18, 3) := by decide +kernel
theorem dX3_init_20 : decode cX3_init 20 = .ok (.aload_n 0, 1) := by decide +kernel
theorem dX3_init_21 : decode cX3_init 21 = .ok (.bipush 7, 2) := by decide +kernel
theorem dX3_init_23 : decode cX3_init 23 = .ok (.newarray .int, 2) := by decide +kernel
theorem dX3_init_25 : decode cX3_init 25 = .ok (.putfield 22, 3) := by decide +kernel
theorem dX3_init_28 : decode cX3_init 28 = .ok (.aload_n 0, 1) := by decide +kernel
theorem dX3_init_29 : decode cX3_init 29 = .ok (.new 26, 3) := by decide +kernel
theorem dX3_init_32 : decode cX3_init 32 = .ok (.dup, 1) := by decide +kernel
theorem dX3_init_33 : decode cX3_init 33 = .ok (.invokespecial 28, 3) := by decide +kernel
theorem dX3_init_36 : decode cX3_init 36 = .ok (.putfield 29, 3) := by decide +kernel
theorem dX3_init_39 : decode cX3_init 39 = .ok (.aload_n 0, 1) := by decide +kernel
theorem dX3_init_40 : decode cX3_init 40 = .ok (.iconst 4, 1) := by decide +kernel
theorem dX3_init_41 : decode cX3_init 41 = .ok (.newarray .int, 2) := by decide +kernel
theorem dX3_init_43 : decode cX3_init 43 = .ok (.putfield 33, 3) := by decide +kernel
theorem dX3_init_46 : decode cX3_init 46 = .ok (.return_, 1) := by decide +kernel
theorem dX3_meetAll_0 : decode cX3_meetAll 0 = .ok (.aload_n 0, 1) := by decide +kernel
theorem dX3_meetAll_1 : decode cX3_meetAll 1 = .ok (.aload_n 1, 1) := by decide +kernel
theorem dX3_meetAll_2 : decode cX3_meetAll 2 = .ok (.invokevirtual 36, 3) := by decide +kernel
theorem dX3_meetAll_5 : decode cX3_meetAll 5 = .ok (.aload_n 0, 1) := by decide +kernel
theorem dX3_meetAll_6 : decode cX3_meetAll 6 = .ok (.invokevirtual 40, 3) := by decide +kernel
theorem dX3_meetAll_9 : decode cX3_meetAll 9 = .ok (.aload_n 0, 1) := by decide +kernel
theorem dX3_meetAll_10 : decode cX3_meetAll 10 = .ok (.aload_n 1, 1) := by decide +kernel
theorem dX3_meetAll_11 : decode cX3_meetAll 11 = .ok (.invokevirtual 43, 3) := by decide +kernel
theorem dX3_meetAll_14 : decode cX3_meetAll 14 = .ok (.ifCond .eq 18, 3) := by decide +kernel
theorem dX3_meetAll_17 : decode cX3_meetAll 17 = .ok (.aload_n 0, 1) := by decide +kernel
theorem dX3_meetAll_18 : decode cX3_meetAll 18 = .ok (.getfield 12, 3) := by decide +kernel
theorem dX3_meetAll_21 : decode cX3_meetAll 21 = .ok (.aload_n 0, 1) := by decide +kernel
theorem dX3_meetAll_22 : decode cX3_meetAll 22 = .ok (.getfield 22, 3) := by decide +kernel
theorem dX3_meetAll_25 : decode cX3_meetAll 25 = .ok (.aload_n 0, 1) := by decide +kernel
theorem dX3_meetAll_26 : decode cX3_meetAll 26 = .ok (.getfield 29, 3) := by decide +kernel
theorem dX3_meetAll_29 : decode cX3_meetAll 29 = .ok (.invokevirtual 47, 3) := by decide +kernel
theorem dX3_meetAll_32 : decode cX3_meetAll 32 = .ok (.iconst 0, 1) := by decide +kernel
theorem dX3_meetAll_33 : decode cX3_meetAll 33 = .ok (.istore_n 3, 1) := by decide +kernel
theorem dX3_meetAll_34 : decode cX3_meetAll 34 = .ok (.iload_n 3, 1) := by decide +kernel
theorem dX3_meetAll_35 : decode cX3_meetAll 35 = .ok (.aload_n 0, 1) := by decide +kernel
theorem dX3_meetAll_36 : decode cX3_meetAll 36 = .ok (.getfield 12, 3) := by decide +kernel
theorem dX3_meetAll_39 : decode cX3_meetAll 39 = .ok (.getfield 51, 3) := by decide +kernel
theorem dX3_meetAll_42 : decode cX3_meetAll 42 = .ok (.if_icmp .ge 107, 3) := by decide +kernel
theorem dX3_meetAll_45 : decode cX3_meetAll 45 = .ok (.iload_n 3, 1) := by decide +kernel
theorem dX3_meetAll_46 : decode cX3_meetAll 46 = .ok (.bipush 120, 2) := by decide +kernel
theorem dX3_meetAll_48 : decode cX3_meetAll 48 = .ok (.if_icmp .ge 101, 3) := by decide +kernel
theorem dX3_meetAll_51 : decode cX3_meetAll 51 = .ok (.iconst 0, 1) := by decide +kernel
theorem dX3_meetAll_52 : decode cX3_meetAll 52 = .ok (.istore 4, 2) := by decide +kernel
theorem dX3_meetAll_54 : decode cX3_meetAll 54 = .ok (.iload 4, 2) := by decide +kernel
theorem dX3_meetAll_56 : decode cX3_meetAll 56 = .ok (.aload_n 1, 1) := by decide +kernel
theorem dX3_meetAll_57 : decode cX3_meetAll 57 = .ok (.getfield 55, 3) := by decide +kernel
theorem dX3_meetAll_60 : decode cX3_meetAll 60 = .ok (.if_icmp .ge 83, 3) := by decide +kernel
theorem dX3_meetAll_63 : decode cX3_meetAll 63 = .ok (.aload_n 0, 1) := by decide +kernel
theorem dX3_meetAll_64 : decode cX3_meetAll 64 = .ok (.iload_n 3, 1) := by decide +kernel
theorem dX3_meetAll_65 : decode cX3_meetAll 65 = .ok (.aload_n 1, 1) := by decide +kernel
theorem dX3_meetAll_66 : decode cX3_meetAll 66 = .ok (.getfield 60, 3) := by decide +kernel
theorem dX3_meetAll_69 : decode cX3_meetAll 69 = .ok (.iload 4, 2) := by decide +kernel
theorem dX3_meetAll_71 : decode cX3_meetAll 71 = .ok (.aaload, 1) := by decide +kernel
theorem dX3_meetAll_72 : decode cX3_meetAll 72 = .ok (.invokevirtual 64, 3) := by decide +kernel
theorem dX3_meetAll_75 : decode cX3_meetAll 75 = .ok (.ifCond .eq 62, 3) := by decide +kernel
theorem dX3_meetAll_78 : decode cX3_meetAll 78 = .ok (.aload_n 0, 1) := by decide +kernel
theorem dX3_meetAll_79 : decode cX3_meetAll 79 = .ok (.aload_n 1, 1) := by decide +kernel
theorem dX3_meetAll_80 : decode cX3_meetAll 80 = .ok (.invokevirtual 43, 3) := by decide +kernel
theorem dX3_meetAll_83 : decode cX3_meetAll 83 = .ok (.ifCond .eq 54, 3) := by decide +kernel
theorem dX3_meetAll_86 : decode cX3_meetAll 86 = .ok (.aload_n 0, 1) := by decide +kernel
theorem dX3_meetAll_87 : decode cX3_meetAll 87 = .ok (.getfield 12, 3) := by decide +kernel
theorem dX3_meetAll_90 : decode cX3_meetAll 90 = .ok (.aload_n 0, 1) := by decide +kernel
theorem dX3_meetAll_91 : decode cX3_meetAll 91 = .ok (.getfield 22, 3) := by decide +kernel
theorem dX3_meetAll_94 : decode cX3_meetAll 94 = .ok (.aload_n 0, 1) := by decide +kernel
theorem dX3_meetAll_95 : decode cX3_meetAll 95 = .ok (.getfield 29, 3) := by decide +kernel
theorem dX3_meetAll_98 : decode cX3_meetAll 98 = .ok (.invokevirtual 68, 3) := by decide +kernel
theorem dX3_meetAll_101 : decode cX3_meetAll 101 = .ok (.ifCond .eq 6, 3) := by decide +kernel
theorem dX3_meetAll_104 : decode cX3_meetAll 104 = .ok (.goto 33, 3) := by decide +kernel
theorem dX3_meetAll_107 : decode cX3_meetAll 107 = .ok (.aload_n 0, 1) := by decide +kernel
theorem dX3_meetAll_108 : decode cX3_meetAll 108 = .ok (.getfield 12, 3) := by decide +kernel
theorem dX3_meetAll_111 : decode cX3_meetAll 111 = .ok (.getfield 51, 3) := by decide +kernel
theorem dX3_meetAll_114 : decode cX3_meetAll 114 = .ok (.iload_n 2, 1) := by decide +kernel
theorem dX3_meetAll_115 : decode cX3_meetAll 115 = .ok (.if_icmp .lt 7, 3) := by decide +kernel
theorem dX3_meetAll_118 : decode cX3_meetAll 118 = .ok (.iconst (-1), 1) := by decide +kernel
theorem dX3_meetAll_119 : decode cX3_meetAll 119 = .ok (.iload_n 2, 1) := by decide +kernel
theorem dX3_meetAll_120 : decode cX3_meetAll 120 = .ok (.isub, 1) := by decide +kernel
theorem dX3_meetAll_121 : decode cX3_meetAll 121 = .ok (.ireturn, 1) := by decide +kernel
theorem dX3_meetAll_122 : decode cX3_meetAll 122 = .ok (.aload_n 0, 1) := by decide +kernel
theorem dX3_meetAll_123 : decode cX3_meetAll 123 = .ok (.getfield 12, 3) := by decide +kernel
theorem dX3_meetAll_126 : decode cX3_meetAll 126 = .ok (.aload_n 0, 1) := by decide +kernel
theorem dX3_meetAll_127 : decode cX3_meetAll 127 = .ok (.getfield 22, 3) := by decide +kernel
theorem dX3_meetAll_130 : decode cX3_meetAll 130 = .ok (.aload_n 0, 1) := by decide +kernel
theorem dX3_meetAll_131 : decode cX3_meetAll 131 = .ok (.getfield 29, 3) := by decide +kernel
theorem dX3_meetAll_134 : decode cX3_meetAll 134 = .ok (.invokevirtual 47, 3) := by decide +kernel
theorem dX3_meetAll_137 : decode cX3_meetAll 137 = .ok (.iinc 4 1, 3) := by decide +kernel
theorem dX3_meetAll_140 : decode cX3_meetAll 140 = .ok (.goto (-86), 3) := by decide +kernel
theorem dX3_meetAll_143 : decode cX3_meetAll 143 = .ok (.iinc 3 1, 3) := by decide +kernel
theorem dX3_meetAll_146 : decode cX3_meetAll 146 = .ok (.goto (-112), 3) := by decide +kernel
theorem dX3_meetAll_149 : decode cX3_meetAll 149 = .ok (.aload_n 0, 1) := by decide +kernel
theorem dX3_meetAll_150 : decode cX3_meetAll 150 = .ok (.getfield 12, 3) := by decide +kernel
theorem dX3_meetAll_153 : decode cX3_meetAll 153 = .ok (.getfield 51, 3) := by decide +kernel
theorem dX3_meetAll_156 : decode cX3_meetAll 156 = .ok (.ireturn, 1) := by decide +kernel
theorem dX3_prepare_0 : decode cX3_prepare 0 = .ok (.aload_n 0, 1) := by decide +kernel
theorem dX3_prepare_1 : decode cX3_prepare 1 = .ok (.getfield 12, 3) := by decide +kernel
theorem dX3_prepare_4 : decode cX3_prepare 4 = .ok (.iconst 0, 1) := by decide +kernel
theorem dX3_prepare_5 : decode cX3_prepare 5 = .ok (.putfield 51, 3) := by decide +kernel
theorem dX3_prepare_8 : decode cX3_prepare 8 = .ok (.aload_n 0, 1) := by decide +kernel
theorem dX3_prepare_9 : decode cX3_prepare 9 = .ok (.iconst 0, 1) := by decide +kernel
theorem dX3_prepare_10 : decode cX3_prepare 10 = .ok (.putfield 18, 3) := by decide +kernel
theorem dX3_prepare_13 : decode cX3_prepare 13 = .ok (.aload_n 0, 1) := by decide +kernel
theorem dX3_prepare_14 : decode cX3_prepare 14 = .ok (.dup, 1) := by decide +kernel
theorem dX3_prepare_15 : decode cX3_prepare 15 = .ok (.getfield 72, 3) := by decide +kernel
theorem dX3_prepare_18 : decode cX3_prepare 18 = .ok (.iconst 1, 1) := by decide +kernel
theorem dX3_prepare_19 : decode cX3_prepare 19 = .ok (.iadd, 1) := by decide +kernel
theorem dX3_prepare_20 : decode cX3_prepare 20 = .ok (.putfield 72, 3) := by decide +kernel
theorem dX3_prepare_23 : decode cX3_prepare 23 = .ok (.iconst 1, 1) := by decide +kernel
theorem dX3_prepare_24 : decode cX3_prepare 24 = .ok (.istore_n 2, 1) := by decide +kernel
theorem dX3_prepare_25 : decode cX3_prepare 25 = .ok (.iload_n 2, 1) := by decide +kernel
theorem dX3_prepare_26 : decode cX3_prepare 26 = .ok (.iconst 4, 1) := by decide +kernel
theorem dX3_prepare_27 : decode cX3_prepare 27 = .ok (.if_icmp .ge 20, 3) := by decide +kernel
theorem dX3_prepare_30 : decode cX3_prepare 30 = .ok (.aload_n 0, 1) := by decide +kernel
theorem dX3_prepare_31 : decode cX3_prepare 31 = .ok (.getfield 33, 3) := by decide +kernel
theorem dX3_prepare_34 : decode cX3_prepare 34 = .ok (.iload_n 2, 1) := by decide +kernel
theorem dX3_prepare_35 : decode cX3_prepare 35 = .ok (.aload_n 1, 1) := by decide +kernel
theorem dX3_prepare_36 : decode cX3_prepare 36 = .ok (.iload_n 2, 1) := by decide +kernel
theorem dX3_prepare_37 : decode cX3_prepare 37 = .ok (.invokevirtual 75, 3) := by decide +kernel
theorem dX3_prepare_40 : decode cX3_prepare 40 = .ok (.iastore, 1) := by decide +kernel
theorem dX3_prepare_41 : decode cX3_prepare 41 = .ok (.iinc 2 1, 3) := by decide +kernel
theorem dX3_prepare_44 : decode cX3_prepare 44 = .ok (.goto (-19), 3) := by decide +kernel
theorem dX3_prepare_47 : decode cX3_prepare 47 = .ok (.return_, 1) := by decide +kernel
theorem dX3_standAtStart_0 : decode cX3_standAtStart 0 = .ok (.aload_n 0, 1) := by decide +kernel
theorem dX3_standAtStart_1 : decode cX3_standAtStart 1 = .ok (.getfield 22, 3) := by decide +kernel
theorem dX3_standAtStart_4 : decode cX3_standAtStart 4 = .ok (.iconst 0, 1) := by decide +kernel
theorem dX3_standAtStart_5 : decode cX3_standAtStart 5 = .ok (.invokestatic 79, 3) := by decide +kernel
theorem dX3_standAtStart_8 : decode cX3_standAtStart 8 = .ok (.aload_n 0, 1) := by decide +kernel
theorem dX3_standAtStart_9 : decode cX3_standAtStart 9 = .ok (.getfield 22, 3) := by decide +kernel
theorem dX3_standAtStart_12 : decode cX3_standAtStart 12 = .ok (.iconst 3, 1) := by decide +kernel
theorem dX3_standAtStart_13 : decode cX3_standAtStart 13 = .ok (.iconst (-1), 1) := by decide +kernel
theorem dX3_standAtStart_14 : decode cX3_standAtStart 14 = .ok (.iastore, 1) := by decide +kernel
theorem dX3_standAtStart_15 : decode cX3_standAtStart 15 = .ok (.aload_n 0, 1) := by decide +kernel
theorem dX3_standAtStart_16 : decode cX3_standAtStart 16 = .ok (.getfield 22, 3) := by decide +kernel
theorem dX3_standAtStart_19 : decode cX3_standAtStart 19 = .ok (.iconst 4, 1) := by decide +kernel
theorem dX3_standAtStart_20 : decode cX3_standAtStart 20 = .ok (.iconst (-1), 1) := by decide +kernel
theorem dX3_standAtStart_21 : decode cX3_standAtStart 21 = .ok (.iastore, 1) := by decide +kernel
theorem dX3_standAtStart_22 : decode cX3_standAtStart 22 = .ok (.aload_n 0, 1) := by decide +kernel
theorem dX3_standAtStart_23 : decode cX3_standAtStart 23 = .ok (.getfield 22, 3) := by decide +kernel
theorem dX3_standAtStart_26 : decode cX3_standAtStart 26 = .ok (.iconst 5, 1) := by decide +kernel
theorem dX3_standAtStart_27 : decode cX3_standAtStart 27 = .ok (.iconst (-1), 1) := by decide +kernel
theorem dX3_standAtStart_28 : decode cX3_standAtStart 28 = .ok (.iastore, 1) := by decide +kernel
theorem dX3_standAtStart_29 : decode cX3_standAtStart 29 = .ok (.aload_n 0, 1) := by decide +kernel
theorem dX3_standAtStart_30 : decode cX3_standAtStart 30 = .ok (.getfield 29, 3) := by decide +kernel
theorem dX3_standAtStart_33 : decode cX3_standAtStart 33 = .ok (.invokevirtual 85, 3) := by decide +kernel
theorem dX3_standAtStart_36 : decode cX3_standAtStart 36 = .ok (.return_, 1) := by decide +kernel
theorem dX3_goesBy_0 : decode cX3_goesBy 0 = .ok (.aload_n 0, 1) := by decide +kernel
theorem dX3_goesBy_1 : decode cX3_goesBy 1 = .ok (.getfield 12, 3) := by decide +kernel
theorem dX3_goesBy_4 : decode cX3_goesBy 4 = .ok (.iload_n 1, 1) := by decide +kernel
theorem dX3_goesBy_5 : decode cX3_goesBy 5 = .ok (.aload_n 0, 1) := by decide +kernel
theorem dX3_goesBy_6 : decode cX3_goesBy 6 = .ok (.getfield 22, 3) := by decide +kernel
theorem dX3_goesBy_9 : decode cX3_goesBy 9 = .ok (.invokevirtual 88, 3) := by decide +kernel
theorem dX3_goesBy_12 : decode cX3_goesBy 12 = .ok (.aload_n 0, 1) := by decide +kernel
theorem dX3_goesBy_13 : decode cX3_goesBy 13 = .ok (.getfield 22, 3) := by decide +kernel
theorem dX3_goesBy_16 : decode cX3_goesBy 16 = .ok (.bipush 6, 2) := by decide +kernel
theorem dX3_goesBy_18 : decode cX3_goesBy 18 = .ok (.iaload, 1) := by decide +kernel
theorem dX3_goesBy_19 : decode cX3_goesBy 19 = .ok (.bipush 40, 2) := by decide +kernel
theorem dX3_goesBy_21 : decode cX3_goesBy 21 = .ok (.if_icmp .ge 14, 3) := by decide +kernel
theorem dX3_goesBy_24 : decode cX3_goesBy 24 = .ok (.aload_n 2, 1) := by decide +kernel
theorem dX3_goesBy_25 : decode cX3_goesBy 25 = .ok (.aload_n 0, 1) := by decide +kernel
theorem dX3_goesBy_26 : decode cX3_goesBy 26 = .ok (.getfield 22, 3) := by decide +kernel
theorem dX3_goesBy_29 : decode cX3_goesBy 29 = .ok (.invokevirtual 92, 3) := by decide +kernel
theorem dX3_goesBy_32 : decode cX3_goesBy 32 = .ok (.ifCond .ne 5, 3) := by decide +kernel
theorem dX3_goesBy_35 : decode cX3_goesBy 35 = .ok (.iconst 0, 1) := by decide +kernel
theorem dX3_goesBy_36 : decode cX3_goesBy 36 = .ok (.ireturn, 1) := by decide +kernel
theorem dX3_goesBy_37 : decode cX3_goesBy 37 = .ok (.aload_n 0, 1) := by decide +kernel
theorem dX3_goesBy_38 : decode cX3_goesBy 38 = .ok (.getfield 12, 3) := by decide +kernel
theorem dX3_goesBy_41 : decode cX3_goesBy 41 = .ok (.iload_n 1, 1) := by decide +kernel
theorem dX3_goesBy_42 : decode cX3_goesBy 42 = .ok (.aload_n 0, 1) := by decide +kernel
theorem dX3_goesBy_43 : decode cX3_goesBy 43 = .ok (.getfield 29, 3) := by decide +kernel
theorem dX3_goesBy_46 : decode cX3_goesBy 46 = .ok (.invokevirtual 98, 3) := by decide +kernel
theorem dX3_goesBy_49 : decode cX3_goesBy 49 = .ok (.aload_n 2, 1) := by decide +kernel
theorem dX3_goesBy_50 : decode cX3_goesBy 50 = .ok (.aload_n 0, 1) := by decide +kernel
theorem dX3_goesBy_51 : decode cX3_goesBy 51 = .ok (.getfield 29, 3) := by decide +kernel
theorem dX3_goesBy_54 : decode cX3_goesBy 54 = .ok (.invokevirtual 102, 3) := by decide +kernel
theorem dX3_goesBy_57 : decode cX3_goesBy 57 = .ok (.ifCond .ne 5, 3) := by decide +kernel
theorem dX3_goesBy_60 : decode cX3_goesBy 60 = .ok (.iconst 0, 1) := by decide +kernel
theorem dX3_goesBy_61 : decode cX3_goesBy 61 = .ok (.ireturn, 1) := by decide +kernel
theorem dX3_goesBy_62 : decode cX3_goesBy 62 = .ok (.iconst 1, 1) := by decide +kernel
theorem dX3_goesBy_63 : decode cX3_goesBy 63 = .ok (.istore_n 3, 1) := by decide +kernel
theorem dX3_goesBy_64 : decode cX3_goesBy 64 = .ok (.iload_n 3, 1) := by decide +kernel
theorem dX3_goesBy_65 : decode cX3_goesBy 65 = .ok (.iconst 4, 1) := by decide +kernel
theorem dX3_goesBy_66 : decode cX3_goesBy 66 = .ok (.if_icmp .ge 25, 3) := by decide +kernel
theorem dX3_goesBy_69 : decode cX3_goesBy 69 = .ok (.aload_n 2, 1) := by decide +kernel
theorem dX3_goesBy_70 : decode cX3_goesBy 70 = .ok (.iload_n 3, 1) := by decide +kernel
theorem dX3_goesBy_71 : decode cX3_goesBy 71 = .ok (.invokevirtual 106, 3) := by decide +kernel
theorem dX3_goesBy_74 : decode cX3_goesBy 74 = .ok (.ifCond .eq 11, 3) := by decide +kernel
theorem dX3_goesBy_77 : decode cX3_goesBy 77 = .ok (.aload_n 0, 1) := by decide +kernel
theorem dX3_goesBy_78 : decode cX3_goesBy 78 = .ok (.getfield 29, 3) := by decide +kernel
theorem dX3_goesBy_81 : decode cX3_goesBy 81 = .ok (.iload_n 3, 1) := by decide +kernel
theorem dX3_goesBy_82 : decode cX3_goesBy 82 = .ok (.invokevirtual 110, 3) := by decide +kernel
theorem dX3_goesBy_85 : decode cX3_goesBy 85 = .ok (.iinc 3 1, 3) := by decide +kernel
theorem dX3_goesBy_88 : decode cX3_goesBy 88 = .ok (.goto (-24), 3) := by decide +kernel
theorem dX3_goesBy_91 : decode cX3_goesBy 91 = .ok (.aload_n 2, 1) := by decide +kernel
theorem dX3_goesBy_92 : decode cX3_goesBy 92 = .ok (.aload_n 0, 1) := by decide +kernel
theorem dX3_goesBy_93 : decode cX3_goesBy 93 = .ok (.getfield 22, 3) := by decide +kernel
theorem dX3_goesBy_96 : decode cX3_goesBy 96 = .ok (.invokevirtual 114, 3) := by decide +kernel
theorem dX3_goesBy_99 : decode cX3_goesBy 99 = .ok (.aload_n 0, 1) := by decide +kernel
theorem dX3_goesBy_100 : decode cX3_goesBy 100 = .ok (.getfield 22, 3) := by decide +kernel
theorem dX3_goesBy_103 : decode cX3_goesBy 103 = .ok (.iconst 3, 1) := by decide +kernel
theorem dX3_goesBy_104 : decode cX3_goesBy 104 = .ok (.iload_n 1, 1) := by decide +kernel
theorem dX3_goesBy_105 : decode cX3_goesBy 105 = .ok (.iastore, 1) := by decide +kernel
theorem dX3_goesBy_106 : decode cX3_goesBy 106 = .ok (.aload_n 0, 1) := by decide +kernel
theorem dX3_goesBy_107 : decode cX3_goesBy 107 = .ok (.getfield 22, 3) := by decide +kernel
theorem dX3_goesBy_110 : decode cX3_goesBy 110 = .ok (.iconst 4, 1) := by decide +kernel
theorem dX3_goesBy_111 : decode cX3_goesBy 111 = .ok (.aload_n 2, 1) := by decide +kernel
theorem dX3_goesBy_112 : decode cX3_goesBy 112 = .ok (.getfield 118, 3) := by decide +kernel
theorem dX3_goesBy_115 : decode cX3_goesBy 115 = .ok (.iastore, 1) := by decide +kernel
theorem dX3_goesBy_116 : decode cX3_goesBy 116 = .ok (.aload_n 0, 1) := by decide +kernel
theorem dX3_goesBy_117 : decode cX3_goesBy 117 = .ok (.getfield 22, 3) := by decide +kernel
theorem dX3_goesBy_120 : decode cX3_goesBy 120 = .ok (.iconst 5, 1) := by decide +kernel
theorem dX3_goesBy_121 : decode cX3_goesBy 121 = .ok (.aload_n 2, 1) := by decide +kernel
theorem dX3_goesBy_122 : decode cX3_goesBy 122 = .ok (.getfield 121, 3) := by decide +kernel
theorem dX3_goesBy_125 : decode cX3_goesBy 125 = .ok (.iastore, 1) := by decide +kernel
theorem dX3_goesBy_126 : decode cX3_goesBy 126 = .ok (.aload_n 0, 1) := by decide +kernel
theorem dX3_goesBy_127 : decode cX3_goesBy 127 = .ok (.getfield 22, 3) := by decide +kernel
theorem dX3_goesBy_130 : decode cX3_goesBy 130 = .ok (.bipush 6, 2) := by decide +kernel
theorem dX3_goesBy_132 : decode cX3_goesBy 132 = .ok (.dup2, 1) := by decide +kernel
theorem dX3_goesBy_133 : decode cX3_goesBy 133 = .ok (.iaload, 1) := by decide +kernel
theorem dX3_goesBy_134 : decode cX3_goesBy 134 = .ok (.iconst 1, 1) := by decide +kernel
theorem dX3_goesBy_135 : decode cX3_goesBy 135 = .ok (.iadd, 1) := by decide +kernel
theorem dX3_goesBy_136 : decode cX3_goesBy 136 = .ok (.iastore, 1) := by decide +kernel
theorem dX3_goesBy_137 : decode cX3_goesBy 137 = .ok (.iconst 1, 1) := by decide +kernel
theorem dX3_goesBy_138 : decode cX3_goesBy 138 = .ok (.ireturn, 1) := by decide +kernel
theorem dX3_settles_0 : decode cX3_settles 0 = .ok (.aload_n 1, 1) := by decide +kernel
theorem dX3_settles_1 : decode cX3_settles 1 = .ok (.aload_n 0, 1) := by decide +kernel
theorem dX3_settles_2 : decode cX3_settles 2 = .ok (.getfield 22, 3) := by decide +kernel
theorem dX3_settles_5 : decode cX3_settles 5 = .ok (.aload_n 0, 1) := by decide +kernel
theorem dX3_settles_6 : decode cX3_settles 6 = .ok (.getfield 29, 3) := by decide +kernel
theorem dX3_settles_9 : decode cX3_settles 9 = .ok (.invokevirtual 124, 3) := by decide +kernel
theorem dX3_settles_12 : decode cX3_settles 12 = .ok (.ifCond .ne 5, 3) := by decide +kernel
theorem dX3_settles_15 : decode cX3_settles 15 = .ok (.iconst 0, 1) := by decide +kernel
theorem dX3_settles_16 : decode cX3_settles 16 = .ok (.ireturn, 1) := by decide +kernel
theorem dX3_settles_17 : decode cX3_settles 17 = .ok (.aload_n 0, 1) := by decide +kernel
theorem dX3_settles_18 : decode cX3_settles 18 = .ok (.getfield 29, 3) := by decide +kernel
theorem dX3_settles_21 : decode cX3_settles 21 = .ok (.invokevirtual 127, 3) := by decide +kernel
theorem dX3_settles_24 : decode cX3_settles 24 = .ok (.aload_n 1, 1) := by decide +kernel
theorem dX3_settles_25 : decode cX3_settles 25 = .ok (.aload_n 0, 1) := by decide +kernel
theorem dX3_settles_26 : decode cX3_settles 26 = .ok (.getfield 22, 3) := by decide +kernel
theorem dX3_settles_29 : decode cX3_settles 29 = .ok (.aload_n 0, 1) := by decide +kernel
theorem dX3_settles_30 : decode cX3_settles 30 = .ok (.getfield 29, 3) := by decide +kernel
theorem dX3_settles_33 : decode cX3_settles 33 = .ok (.invokevirtual 124, 3) := by decide +kernel
theorem dX3_settles_36 : decode cX3_settles 36 = .ok (.ifCond .ne 5, 3) := by decide +kernel
theorem dX3_settles_39 : decode cX3_settles 39 = .ok (.iconst 0, 1) := by decide +kernel
theorem dX3_settles_40 : decode cX3_settles 40 = .ok (.ireturn, 1) := by decide +kernel
theorem dX3_settles_41 : decode cX3_settles 41 = .ok (.aload_n 0, 1) := by decide +kernel
theorem dX3_settles_42 : decode cX3_settles 42 = .ok (.getfield 29, 3) := by decide +kernel
theorem dX3_settles_45 : decode cX3_settles 45 = .ok (.aload_n 0, 1) := by decide +kernel
theorem dX3_settles_46 : decode cX3_settles 46 = .ok (.getfield 33, 3) := by decide +kernel
theorem dX3_settles_49 : decode cX3_settles 49 = .ok (.invokevirtual 130, 3) := by decide +kernel
theorem dX3_settles_52 : decode cX3_settles 52 = .ok (.iconst 1, 1) := by decide +kernel
theorem dX3_settles_53 : decode cX3_settles 53 = .ok (.ireturn, 1) := by decide +kernel
theorem dX4_init_0 : decode cX4_init 0 = .ok (.aload_n 0, 1) := by decide +kernel
theorem dX4_init_1 : decode cX4_init 1 = .ok (.invokespecial 3, 3) := by decide +kernel
theorem dX4_init_4 : decode cX4_init 4 = .ok (.aload_n 0, 1) := by decide +kernel
theorem dX4_init_5 : decode cX4_init 5 = .ok (.sipush 840, 3) := by decide +kernel
theorem dX4_init_8 : decode cX4_init 8 = .ok (.newarray .int, 2) := by decide +kernel
theorem dX4_init_10 : decode cX4_init 10 = .ok (.putfield 9, 3) := by decide +kernel
theorem dX4_init_13 : decode cX4_init 13 = .ok (.aload_n 0, 1) := by decide +kernel
theorem dX4_init_14 : decode cX4_init 14 = .ok (.sipush 1920, 3) := by decide +kernel
theorem dX4_init_17 : decode cX4_init 17 = .ok (.newarray .int, 2) := by decide +kernel
theorem dX4_init_19 : decode cX4_init 19 = .ok (.putfield 15, 3) := by decide +kernel
theorem dX4_init_22 : decode cX4_init 22 = .ok (.return_, 1) := by decide +kernel
theorem dX4_isMet_0 : decode cX4_isMet 0 = .ok (.iload_n 1, 1) := by decide +kernel
theorem dX4_isMet_1 : decode cX4_isMet 1 = .ok (.ifCond .lt 15, 3) := by decide +kernel
theorem dX4_isMet_4 : decode cX4_isMet 4 = .ok (.iload_n 1, 1) := by decide +kernel
theorem dX4_isMet_5 : decode cX4_isMet 5 = .ok (.aload_n 0, 1) := by decide +kernel
theorem dX4_isMet_6 : decode cX4_isMet 6 = .ok (.getfield 18, 3) := by decide +kernel
theorem dX4_isMet_9 : decode cX4_isMet 9 = .ok (.if_icmp .ge 7, 3) := by decide +kernel
theorem dX4_isMet_12 : decode cX4_isMet 12 = .ok (.iconst 1, 1) := by decide +kernel
theorem dX4_isMet_13 : decode cX4_isMet 13 = .ok (.goto 4, 3) := by decide +kernel
theorem dX4_isMet_16 : decode cX4_isMet 16 = .ok (.iconst 0, 1) := by decide +kernel
theorem dX4_isMet_17 : decode cX4_isMet 17 = .ok (.ireturn, 1) := by decide +kernel
theorem dX4_isStep_0 : decode cX4_isStep 0 = .ok (.aload_n 0, 1) := by decide +kernel
theorem dX4_isStep_1 : decode cX4_isStep 1 = .ok (.iload_n 1, 1) := by decide +kernel
theorem dX4_isStep_2 : decode cX4_isStep 2 = .ok (.invokevirtual 22, 3) := by decide +kernel
theorem dX4_isStep_5 : decode cX4_isStep 5 = .ok (.ifCond .eq 22, 3) := by decide +kernel
theorem dX4_isStep_8 : decode cX4_isStep 8 = .ok (.iload_n 2, 1) := by decide +kernel
theorem dX4_isStep_9 : decode cX4_isStep 9 = .ok (.ifCond .lt 18, 3) := by decide +kernel
theorem dX4_isStep_12 : decode cX4_isStep 12 = .ok (.iload_n 2, 1) := by decide +kernel
theorem dX4_isStep_13 : decode cX4_isStep 13 = .ok (.aload_n 0, 1) := by decide +kernel
theorem dX4_isStep_14 : decode cX4_isStep 14 = .ok (.iload_n 1, 1) := by decide +kernel
theorem dX4_isStep_15 : decode cX4_isStep 15 = .ok (.bipush 6, 2) := by decide +kernel
theorem dX4_isStep_17 : decode cX4_isStep 17 = .ok (.invokevirtual 26, 3) := by decide +kernel
theorem dX4_isStep_20 : decode cX4_isStep 20 = .ok (.if_icmp .ge 7, 3) := by decide +kernel
theorem dX4_isStep_23 : decode cX4_isStep 23 = .ok (.iconst 1, 1) := by decide +kernel
theorem dX4_isStep_24 : decode cX4_isStep 24 = .ok (.goto 4, 3) := by decide +kernel
theorem dX4_isStep_27 : decode cX4_isStep 27 = .ok (.iconst 0, 1) := by decide +kernel
theorem dX4_isStep_28 : decode cX4_isStep 28 = .ok (.ireturn, 1) := by decide +kernel
theorem dX4_fact_0 : decode cX4_fact 0 = .ok (.aload_n 0, 1) := by decide +kernel
theorem dX4_fact_1 : decode cX4_fact 1 = .ok (.getfield 9, 3) := by decide +kernel
theorem dX4_fact_4 : decode cX4_fact 4 = .ok (.iload_n 1, 1) := by decide +kernel
theorem dX4_fact_5 : decode cX4_fact 5 = .ok (.bipush 7, 2) := by decide +kernel
theorem dX4_fact_7 : decode cX4_fact 7 = .ok (.imul, 1) := by decide +kernel
theorem dX4_fact_8 : decode cX4_fact 8 = .ok (.iload_n 2, 1) := by decide +kernel
theorem dX4_fact_9 : decode cX4_fact 9 = .ok (.iadd, 1) := by decide +kernel
theorem dX4_fact_10 : decode cX4_fact 10 = .ok (.iaload, 1) := by decide +kernel
theorem dX4_fact_11 : decode cX4_fact 11 = .ok (.ireturn, 1) := by decide +kernel
theorem dX4_boundOf_0 : decode cX4_boundOf 0 = .ok (.aload_n 0, 1) := by decide +kernel
theorem dX4_boundOf_1 : decode cX4_boundOf 1 = .ok (.getfield 15, 3) := by decide +kernel
theorem dX4_boundOf_4 : decode cX4_boundOf 4 = .ok (.iload_n 1, 1) := by decide +kernel
theorem dX4_boundOf_5 : decode cX4_boundOf 5 = .ok (.bipush 16, 2) := by decide +kernel
theorem dX4_boundOf_7 : decode cX4_boundOf 7 = .ok (.imul, 1) := by decide +kernel
theorem dX4_boundOf_8 : decode cX4_boundOf 8 = .ok (.iload_n 2, 1) := by decide +kernel
theorem dX4_boundOf_9 : decode cX4_boundOf 9 = .ok (.iconst 4, 1) := by decide +kernel
theorem dX4_boundOf_10 : decode cX4_boundOf 10 = .ok (.imul, 1) := by decide +kernel
theorem dX4_boundOf_11 : decode cX4_boundOf 11 = .ok (.iadd, 1) := by decide +kernel
theorem dX4_boundOf_12 : decode cX4_boundOf 12 = .ok (.iload_n 3, 1) := by decide +kernel
theorem dX4_boundOf_13 : decode cX4_boundOf 13 = .ok (.iadd, 1) := by decide +kernel
theorem dX4_boundOf_14 : decode cX4_boundOf 14 = .ok (.iaload, 1) := by decide +kernel
theorem dX4_boundOf_15 : decode cX4_boundOf 15 = .ok (.ireturn, 1) := by decide +kernel
theorem dX4_add_0 : decode cX4_add 0 = .ok (.aload_n 0, 1) := by decide +kernel
theorem dX4_add_1 : decode cX4_add 1 = .ok (.getfield 18, 3) := by decide +kernel
theorem dX4_add_4 : decode cX4_add 4 = .ok (.bipush 120, 2) := by decide +kernel
theorem dX4_add_6 : decode cX4_add 6 = .ok (.if_icmp .ge 52, 3) := by decide +kernel
theorem dX4_add_9 : decode cX4_add 9 = .ok (.aload_n 1, 1) := by decide +kernel
theorem dX4_add_10 : decode cX4_add 10 = .ok (.iconst 0, 1) := by decide +kernel
theorem dX4_add_11 : decode cX4_add 11 = .ok (.aload_n 0, 1) := by decide +kernel
theorem dX4_add_12 : decode cX4_add 12 = .ok (.getfield 9, 3) := by decide +kernel
theorem dX4_add_15 : decode cX4_add 15 = .ok (.aload_n 0, 1) := by decide +kernel
theorem dX4_add_16 : decode cX4_add 16 = .ok (.getfield 18, 3) := by decide +kernel
theorem dX4_add_19 : decode cX4_add 19 = .ok (.bipush 7, 2) := by decide +kernel
theorem dX4_add_21 : decode cX4_add 21 = .ok (.imul, 1) := by decide +kernel
theorem dX4_add_22 : decode cX4_add 22 = .ok (.bipush 7, 2) := by decide +kernel
theorem dX4_add_24 : decode cX4_add 24 = .ok (.invokestatic 30, 3) := by decide +kernel
theorem dX4_add_27 : decode cX4_add 27 = .ok (.aload_n 2, 1) := by decide +kernel
theorem dX4_add_28 : decode cX4_add 28 = .ok (.getfield 36, 3) := by decide +kernel
theorem dX4_add_31 : decode cX4_add 31 = .ok (.iconst 0, 1) := by decide +kernel
theorem dX4_add_32 : decode cX4_add 32 = .ok (.aload_n 0, 1) := by decide +kernel
theorem dX4_add_33 : decode cX4_add 33 = .ok (.getfield 15, 3) := by decide +kernel
theorem dX4_add_36 : decode cX4_add 36 = .ok (.aload_n 0, 1) := by decide +kernel
theorem dX4_add_37 : decode cX4_add 37 = .ok (.getfield 18, 3) := by decide +kernel
theorem dX4_add_40 : decode cX4_add 40 = .ok (.bipush 16, 2) := by decide +kernel
theorem dX4_add_42 : decode cX4_add 42 = .ok (.imul, 1) := by decide +kernel
theorem dX4_add_43 : decode cX4_add 43 = .ok (.bipush 16, 2) := by decide +kernel
theorem dX4_add_45 : decode cX4_add 45 = .ok (.invokestatic 30, 3) := by decide +kernel
theorem dX4_add_48 : decode cX4_add 48 = .ok (.aload_n 0, 1) := by decide +kernel
theorem dX4_add_49 : decode cX4_add 49 = .ok (.dup, 1) := by decide +kernel
theorem dX4_add_50 : decode cX4_add 50 = .ok (.getfield 18, 3) := by decide +kernel
theorem dX4_add_53 : decode cX4_add 53 = .ok (.iconst 1, 1) := by decide +kernel
theorem dX4_add_54 : decode cX4_add 54 = .ok (.iadd, 1) := by decide +kernel
theorem dX4_add_55 : decode cX4_add 55 = .ok (.putfield 18, 3) := by decide +kernel
theorem dX4_add_58 : decode cX4_add 58 = .ok (.return_, 1) := by decide +kernel
theorem dX4_copyFacts_0 : decode cX4_copyFacts 0 = .ok (.aload_n 0, 1) := by decide +kernel
theorem dX4_copyFacts_1 : decode cX4_copyFacts 1 = .ok (.getfield 9, 3) := by decide +kernel
theorem dX4_copyFacts_4 : decode cX4_copyFacts 4 = .ok (.iload_n 1, 1) := by decide +kernel
theorem dX4_copyFacts_5 : decode cX4_copyFacts 5 = .ok (.bipush 7, 2) := by decide +kernel
theorem dX4_copyFacts_7 : decode cX4_copyFacts 7 = .ok (.imul, 1) := by decide +kernel
theorem dX4_copyFacts_8 : decode cX4_copyFacts 8 = .ok (.aload_n 2, 1) := by decide +kernel
theorem dX4_copyFacts_9 : decode cX4_copyFacts 9 = .ok (.iconst 0, 1) := by decide +kernel
theorem dX4_copyFacts_10 : decode cX4_copyFacts 10 = .ok (.bipush 7, 2) := by decide +kernel
theorem dX4_copyFacts_12 : decode cX4_copyFacts 12 = .ok (.invokestatic 30, 3) := by decide +kernel
theorem dX4_copyFacts_15 : decode cX4_copyFacts 15 = .ok (.return_, 1) := by decide +kernel
theorem dX4_copyZone_0 : decode cX4_copyZone 0 = .ok (.aload_n 0, 1) := by decide +kernel
theorem dX4_copyZone_1 : decode cX4_copyZone 1 = .ok (.getfield 15, 3) := by decide +kernel
theorem dX4_copyZone_4 : decode cX4_copyZone 4 = .ok (.iload_n 1, 1) := by decide +kernel
theorem dX4_copyZone_5 : decode cX4_copyZone 5 = .ok (.bipush 16, 2) := by decide +kernel
theorem dX4_copyZone_7 : decode cX4_copyZone 7 = .ok (.imul, 1) := by decide +kernel
theorem dX4_copyZone_8 : decode cX4_copyZone 8 = .ok (.aload_n 2, 1) := by decide +kernel
theorem dX4_copyZone_9 : decode cX4_copyZone 9 = .ok (.getfield 36, 3) := by decide +kernel
theorem dX4_copyZone_12 : decode cX4_copyZone 12 = .ok (.iconst 0, 1) := by decide +kernel
theorem dX4_copyZone_13 : decode cX4_copyZone 13 = .ok (.bipush 16, 2) := by decide +kernel
theorem dX4_copyZone_15 : decode cX4_copyZone 15 = .ok (.invokestatic 30, 3) := by decide +kernel
theorem dX4_copyZone_18 : decode cX4_copyZone 18 = .ok (.return_, 1) := by decide +kernel
theorem dX4_onWay_0 : decode cX4_onWay 0 = .ok (.iload_n 1, 1) := by decide +kernel
theorem dX4_onWay_1 : decode cX4_onWay 1 = .ok (.istore_n 3, 1) := by decide +kernel
theorem dX4_onWay_2 : decode cX4_onWay 2 = .ok (.aload_n 0, 1) := by decide +kernel
theorem dX4_onWay_3 : decode cX4_onWay 3 = .ok (.iload_n 1, 1) := by decide +kernel
theorem dX4_onWay_4 : decode cX4_onWay 4 = .ok (.bipush 6, 2) := by decide +kernel
theorem dX4_onWay_6 : decode cX4_onWay 6 = .ok (.invokevirtual 26, 3) := by decide +kernel
theorem dX4_onWay_9 : decode cX4_onWay 9 = .ok (.iconst 1, 1) := by decide +kernel
theorem dX4_onWay_10 : decode cX4_onWay 10 = .ok (.isub, 1) := by decide +kernel
theorem dX4_onWay_11 : decode cX4_onWay 11 = .ok (.istore 4, 2) := by decide +kernel
theorem dX4_onWay_13 : decode cX4_onWay 13 = .ok (.iload 4, 2) := by decide +kernel
theorem dX4_onWay_15 : decode cX4_onWay 15 = .ok (.iload_n 2, 1) := by decide +kernel
theorem dX4_onWay_16 : decode cX4_onWay 16 = .ok (.if_icmp .le 16, 3) := by decide +kernel
theorem dX4_onWay_19 : decode cX4_onWay 19 = .ok (.aload_n 0, 1) := by decide +kernel
theorem dX4_onWay_20 : decode cX4_onWay 20 = .ok (.iload_n 3, 1) := by decide +kernel
theorem dX4_onWay_21 : decode cX4_onWay 21 = .ok (.iconst 3, 1) := by decide +kernel
theorem dX4_onWay_22 : decode cX4_onWay 22 = .ok (.invokevirtual 26, 3) := by decide +kernel
theorem dX4_onWay_25 : decode cX4_onWay 25 = .ok (.istore_n 3, 1) := by decide +kernel
theorem dX4_onWay_26 : decode cX4_onWay 26 = .ok (.iinc 4 (-1), 3) := by decide +kernel
theorem dX4_onWay_29 : decode cX4_onWay 29 = .ok (.goto (-16), 3) := by decide +kernel
theorem dX4_onWay_32 : decode cX4_onWay 32 = .ok (.iload_n 3, 1) := by decide +kernel
theorem dX4_onWay_33 : decode cX4_onWay 33 = .ok (.ireturn, 1) := by decide +kernel
theorem dX4_isAt_0 : decode cX4_isAt 0 = .ok (.iconst 0, 1) := by decide +kernel
theorem dX4_isAt_1 : decode cX4_isAt 1 = .ok (.istore_n 3, 1) := by decide +kernel
theorem dX4_isAt_2 : decode cX4_isAt 2 = .ok (.iload_n 3, 1) := by decide +kernel
theorem dX4_isAt_3 : decode cX4_isAt 3 = .ok (.iconst 3, 1) := by decide +kernel
theorem dX4_isAt_4 : decode cX4_isAt 4 = .ok (.if_icmp .ge 30, 3) := by decide +kernel
theorem dX4_isAt_7 : decode cX4_isAt 7 = .ok (.aload_n 2, 1) := by decide +kernel
theorem dX4_isAt_8 : decode cX4_isAt 8 = .ok (.iload_n 3, 1) := by decide +kernel
theorem dX4_isAt_9 : decode cX4_isAt 9 = .ok (.iaload, 1) := by decide +kernel
theorem dX4_isAt_10 : decode cX4_isAt 10 = .ok (.iconst (-1), 1) := by decide +kernel
theorem dX4_isAt_11 : decode cX4_isAt 11 = .ok (.if_icmp .eq 17, 3) := by decide +kernel
theorem dX4_isAt_14 : decode cX4_isAt 14 = .ok (.aload_n 2, 1) := by decide +kernel
theorem dX4_isAt_15 : decode cX4_isAt 15 = .ok (.iload_n 3, 1) := by decide +kernel
theorem dX4_isAt_16 : decode cX4_isAt 16 = .ok (.iaload, 1) := by decide +kernel
theorem dX4_isAt_17 : decode cX4_isAt 17 = .ok (.aload_n 0, 1) := by decide +kernel
theorem dX4_isAt_18 : decode cX4_isAt 18 = .ok (.iload_n 1, 1) := by decide +kernel
theorem dX4_isAt_19 : decode cX4_isAt 19 = .ok (.iload_n 3, 1) := by decide +kernel
theorem dX4_isAt_20 : decode cX4_isAt 20 = .ok (.invokevirtual 26, 3) := by decide +kernel
theorem dX4_isAt_23 : decode cX4_isAt 23 = .ok (.if_icmp .eq 5, 3) := by decide +kernel
theorem dX4_isAt_26 : decode cX4_isAt 26 = .ok (.iconst 0, 1) := by decide +kernel
theorem dX4_isAt_27 : decode cX4_isAt 27 = .ok (.ireturn, 1) := by decide +kernel
theorem dX4_isAt_28 : decode cX4_isAt 28 = .ok (.iinc 3 1, 3) := by decide +kernel
theorem dX4_isAt_31 : decode cX4_isAt 31 = .ok (.goto (-29), 3) := by decide +kernel
theorem dX4_isAt_34 : decode cX4_isAt 34 = .ok (.iconst 1, 1) := by decide +kernel
theorem dX4_isAt_35 : decode cX4_isAt 35 = .ok (.ireturn, 1) := by decide +kernel
theorem dX4_firstAt_0 : decode cX4_firstAt 0 = .ok (.iconst 0, 1) := by decide +kernel
theorem dX4_firstAt_1 : decode cX4_firstAt 1 = .ok (.istore_n 2, 1) := by decide +kernel
theorem dX4_firstAt_2 : decode cX4_firstAt 2 = .ok (.iload_n 2, 1) := by decide +kernel
theorem dX4_firstAt_3 : decode cX4_firstAt 3 = .ok (.aload_n 0, 1) := by decide +kernel
theorem dX4_firstAt_4 : decode cX4_firstAt 4 = .ok (.getfield 18, 3) := by decide +kernel
theorem dX4_firstAt_7 : decode cX4_firstAt 7 = .ok (.if_icmp .ge 20, 3) := by decide +kernel
theorem dX4_firstAt_10 : decode cX4_firstAt 10 = .ok (.aload_n 0, 1) := by decide +kernel
theorem dX4_firstAt_11 : decode cX4_firstAt 11 = .ok (.iload_n 2, 1) := by decide +kernel
theorem dX4_firstAt_12 : decode cX4_firstAt 12 = .ok (.aload_n 1, 1) := by decide +kernel
theorem dX4_firstAt_13 : decode cX4_firstAt 13 = .ok (.invokevirtual 39, 3) := by decide +kernel
theorem dX4_firstAt_16 : decode cX4_firstAt 16 = .ok (.ifCond .eq 5, 3) := by decide +kernel
theorem dX4_firstAt_19 : decode cX4_firstAt 19 = .ok (.iload_n 2, 1) := by decide +kernel
theorem dX4_firstAt_20 : decode cX4_firstAt 20 = .ok (.ireturn, 1) := by decide +kernel
theorem dX4_firstAt_21 : decode cX4_firstAt 21 = .ok (.iinc 2 1, 3) := by decide +kernel
theorem dX4_firstAt_24 : decode cX4_firstAt 24 = .ok (.goto (-22), 3) := by decide +kernel
theorem dX4_firstAt_27 : decode cX4_firstAt 27 = .ok (.iconst (-1), 1) := by decide +kernel
theorem dX4_firstAt_28 : decode cX4_firstAt 28 = .ok (.ireturn, 1) := by decide +kernel
theorem dX4_firstHolding_0 : decode cX4_firstHolding 0 = .ok (.iconst 0, 1) := by decide +kernel
theorem dX4_firstHolding_1 : decode cX4_firstHolding 1 = .ok (.istore_n 3, 1) := by decide +kernel
theorem dX4_firstHolding_2 : decode cX4_firstHolding 2 = .ok (.iload_n 3, 1) := by decide +kernel
theorem dX4_firstHolding_3 : decode cX4_firstHolding 3 = .ok (.aload_n 0, 1) := by decide +kernel
theorem dX4_firstHolding_4 : decode cX4_firstHolding 4 = .ok (.getfield 18, 3) := by decide +kernel
theorem dX4_firstHolding_7 : decode cX4_firstHolding 7 = .ok (.if_icmp .ge 29, 3) := by decide +kernel
theorem dX4_firstHolding_10 : decode cX4_firstHolding 10 = .ok (.aload_n 0, 1) := by decide +kernel
theorem dX4_firstHolding_11 : decode cX4_firstHolding 11 = .ok (.iload_n 3, 1) := by decide +kernel
theorem dX4_firstHolding_12 : decode cX4_firstHolding 12 = .ok (.aload_n 1, 1) := by decide +kernel
theorem dX4_firstHolding_13 : decode cX4_firstHolding 13 = .ok (.invokevirtual 39, 3) := by decide +kernel
theorem dX4_firstHolding_16 : decode cX4_firstHolding 16 = .ok (.ifCond .eq 14, 3) := by decide +kernel
theorem dX4_firstHolding_19 : decode cX4_firstHolding 19 = .ok (.aload_n 0, 1) := by decide +kernel
theorem dX4_firstHolding_20 : decode cX4_firstHolding 20 = .ok (.iload_n 3, 1) := by decide +kernel
theorem dX4_firstHolding_21 : decode cX4_firstHolding 21 = .ok (.aload_n 2, 1) := by decide +kernel
theorem dX4_firstHolding_22 : decode cX4_firstHolding 22 = .ok (.invokevirtual 43, 3) := by decide +kernel
theorem dX4_firstHolding_25 : decode cX4_firstHolding 25 = .ok (.ifCond .eq 5, 3) := by decide +kernel
theorem dX4_firstHolding_28 : decode cX4_firstHolding 28 = .ok (.iload_n 3, 1) := by decide +kernel
theorem dX4_firstHolding_29 : decode cX4_firstHolding 29 = .ok (.ireturn, 1) := by decide +kernel
theorem dX4_firstHolding_30 : decode cX4_firstHolding 30 = .ok (.iinc 3 1, 3) := by decide +kernel
theorem dX4_firstHolding_33 : decode cX4_firstHolding 33 = .ok (.goto (-31), 3) := by decide +kernel
theorem dX4_firstHolding_36 : decode cX4_firstHolding 36 = .ok (.iconst (-1), 1) := by decide +kernel
theorem dX4_firstHolding_37 : decode cX4_firstHolding 37 = .ok (.ireturn, 1) := by decide +kernel
theorem dX4_cover_0 : decode cX4_cover 0 = .ok (.iconst 0, 1) := by decide +kernel
theorem dX4_cover_1 : decode cX4_cover 1 = .ok (.istore_n 3, 1) := by decide +kernel
theorem dX4_cover_2 : decode cX4_cover 2 = .ok (.iload_n 3, 1) := by decide +kernel
theorem dX4_cover_3 : decode cX4_cover 3 = .ok (.aload_n 0, 1) := by decide +kernel
theorem dX4_cover_4 : decode cX4_cover 4 = .ok (.getfield 18, 3) := by decide +kernel
theorem dX4_cover_7 : decode cX4_cover 7 = .ok (.if_icmp .ge 29, 3) := by decide +kernel
theorem dX4_cover_10 : decode cX4_cover 10 = .ok (.aload_n 0, 1) := by decide +kernel
theorem dX4_cover_11 : decode cX4_cover 11 = .ok (.iload_n 3, 1) := by decide +kernel
theorem dX4_cover_12 : decode cX4_cover 12 = .ok (.aload_n 1, 1) := by decide +kernel
theorem dX4_cover_13 : decode cX4_cover 13 = .ok (.invokevirtual 39, 3) := by decide +kernel
theorem dX4_cover_16 : decode cX4_cover 16 = .ok (.ifCond .eq 14, 3) := by decide +kernel
theorem dX4_cover_19 : decode cX4_cover 19 = .ok (.aload_n 0, 1) := by decide +kernel
theorem dX4_cover_20 : decode cX4_cover 20 = .ok (.iload_n 3, 1) := by decide +kernel
theorem dX4_cover_21 : decode cX4_cover 21 = .ok (.aload_n 2, 1) := by decide +kernel
theorem dX4_cover_22 : decode cX4_cover 22 = .ok (.invokevirtual 46, 3) := by decide +kernel
theorem dX4_cover_25 : decode cX4_cover 25 = .ok (.ifCond .eq 5, 3) := by decide +kernel
theorem dX4_cover_28 : decode cX4_cover 28 = .ok (.iconst 1, 1) := by decide +kernel
theorem dX4_cover_29 : decode cX4_cover 29 = .ok (.ireturn, 1) := by decide +kernel
theorem dX4_cover_30 : decode cX4_cover 30 = .ok (.iinc 3 1, 3) := by decide +kernel
theorem dX4_cover_33 : decode cX4_cover 33 = .ok (.goto (-31), 3) := by decide +kernel
theorem dX4_cover_36 : decode cX4_cover 36 = .ok (.iconst 0, 1) := by decide +kernel
theorem dX4_cover_37 : decode cX4_cover 37 = .ok (.ireturn, 1) := by decide +kernel
theorem dX4_takesIn_0 : decode cX4_takesIn 0 = .ok (.iconst 0, 1) := by decide +kernel
theorem dX4_takesIn_1 : decode cX4_takesIn 1 = .ok (.istore_n 3, 1) := by decide +kernel
theorem dX4_takesIn_2 : decode cX4_takesIn 2 = .ok (.iload_n 3, 1) := by decide +kernel
theorem dX4_takesIn_3 : decode cX4_takesIn 3 = .ok (.bipush 16, 2) := by decide +kernel
theorem dX4_takesIn_5 : decode cX4_takesIn 5 = .ok (.if_icmp .ge 31, 3) := by decide +kernel
theorem dX4_takesIn_8 : decode cX4_takesIn 8 = .ok (.aload_n 2, 1) := by decide +kernel
theorem dX4_takesIn_9 : decode cX4_takesIn 9 = .ok (.getfield 36, 3) := by decide +kernel
theorem dX4_takesIn_12 : decode cX4_takesIn 12 = .ok (.iload_n 3, 1) := by decide +kernel
theorem dX4_takesIn_13 : decode cX4_takesIn 13 = .ok (.iaload, 1) := by decide +kernel
theorem dX4_takesIn_14 : decode cX4_takesIn 14 = .ok (.aload_n 0, 1) := by decide +kernel
theorem dX4_takesIn_15 : decode cX4_takesIn 15 = .ok (.getfield 15, 3) := by decide +kernel
theorem dX4_takesIn_18 : decode cX4_takesIn 18 = .ok (.iload_n 1, 1) := by decide +kernel
theorem dX4_takesIn_19 : decode cX4_takesIn 19 = .ok (.bipush 16, 2) := by decide +kernel
theorem dX4_takesIn_21 : decode cX4_takesIn 21 = .ok (.imul, 1) := by decide +kernel
theorem dX4_takesIn_22 : decode cX4_takesIn 22 = .ok (.iload_n 3, 1) := by decide +kernel
theorem dX4_takesIn_23 : decode cX4_takesIn 23 = .ok (.iadd, 1) := by decide +kernel
theorem dX4_takesIn_24 : decode cX4_takesIn 24 = .ok (.iaload, 1) := by decide +kernel
theorem dX4_takesIn_25 : decode cX4_takesIn 25 = .ok (.if_icmp .le 5, 3) := by decide +kernel
theorem dX4_takesIn_28 : decode cX4_takesIn 28 = .ok (.iconst 0, 1) := by decide +kernel
theorem dX4_takesIn_29 : decode cX4_takesIn 29 = .ok (.ireturn, 1) := by decide +kernel
theorem dX4_takesIn_30 : decode cX4_takesIn 30 = .ok (.iinc 3 1, 3) := by decide +kernel
theorem dX4_takesIn_33 : decode cX4_takesIn 33 = .ok (.goto (-31), 3) := by decide +kernel
theorem dX4_takesIn_36 : decode cX4_takesIn 36 = .ok (.iconst 1, 1) := by decide +kernel
theorem dX4_takesIn_37 : decode cX4_takesIn 37 = .ok (.ireturn, 1) := by decide +kernel
theorem dX4_holds_0 : decode cX4_holds 0 = .ok (.iconst 0, 1) := by decide +kernel
theorem dX4_holds_1 : decode cX4_holds 1 = .ok (.istore_n 3, 1) := by decide +kernel
theorem dX4_holds_2 : decode cX4_holds 2 = .ok (.iload_n 3, 1) := by decide +kernel
theorem dX4_holds_3 : decode cX4_holds 3 = .ok (.iconst 4, 1) := by decide +kernel
theorem dX4_holds_4 : decode cX4_holds 4 = .ok (.if_icmp .ge 72, 3) := by decide +kernel
theorem dX4_holds_7 : decode cX4_holds 7 = .ok (.iconst 0, 1) := by decide +kernel
theorem dX4_holds_8 : decode cX4_holds 8 = .ok (.istore 4, 2) := by decide +kernel
theorem dX4_holds_10 : decode cX4_holds 10 = .ok (.iload 4, 2) := by decide +kernel
theorem dX4_holds_12 : decode cX4_holds 12 = .ok (.iconst 4, 1) := by decide +kernel
theorem dX4_holds_13 : decode cX4_holds 13 = .ok (.if_icmp .ge 57, 3) := by decide +kernel
theorem dX4_holds_16 : decode cX4_holds 16 = .ok (.aload_n 0, 1) := by decide +kernel
theorem dX4_holds_17 : decode cX4_holds 17 = .ok (.iload_n 1, 1) := by decide +kernel
theorem dX4_holds_18 : decode cX4_holds 18 = .ok (.iload_n 3, 1) := by decide +kernel
theorem dX4_holds_19 : decode cX4_holds 19 = .ok (.iload 4, 2) := by decide +kernel
theorem dX4_holds_21 : decode cX4_holds 21 = .ok (.invokevirtual 50, 3) := by decide +kernel
theorem dX4_holds_24 : decode cX4_holds 24 = .ok (.istore 5, 2) := by decide +kernel
theorem dX4_holds_26 : decode cX4_holds 26 = .ok (.bipush 64, 2) := by decide +kernel
theorem dX4_holds_28 : decode cX4_holds 28 = .ok (.iload 5, 2) := by decide +kernel
theorem dX4_holds_30 : decode cX4_holds 30 = .ok (.iconst 1, 1) := by decide +kernel
theorem dX4_holds_31 : decode cX4_holds 31 = .ok (.ishr, 1) := by decide +kernel
theorem dX4_holds_32 : decode cX4_holds 32 = .ok (.imul, 1) := by decide +kernel
theorem dX4_holds_33 : decode cX4_holds 33 = .ok (.iconst 1, 1) := by decide +kernel
theorem dX4_holds_34 : decode cX4_holds 34 = .ok (.isub, 1) := by decide +kernel
theorem dX4_holds_35 : decode cX4_holds 35 = .ok (.iload 5, 2) := by decide +kernel
theorem dX4_holds_37 : decode cX4_holds 37 = .ok (.iconst 1, 1) := by decide +kernel
theorem dX4_holds_38 : decode cX4_holds 38 = .ok (.iand, 1) := by decide +kernel
theorem dX4_holds_39 : decode cX4_holds 39 = .ok (.iadd, 1) := by decide +kernel
theorem dX4_holds_40 : decode cX4_holds 40 = .ok (.istore 6, 2) := by decide +kernel
theorem dX4_holds_42 : decode cX4_holds 42 = .ok (.iload 5, 2) := by decide +kernel
theorem dX4_holds_44 : decode cX4_holds 44 = .ok (.ldc 54, 2) := by decide +kernel
theorem dX4_holds_46 : decode cX4_holds 46 = .ok (.if_icmp .eq 18, 3) := by decide +kernel
theorem dX4_holds_49 : decode cX4_holds 49 = .ok (.aload_n 2, 1) := by decide +kernel
theorem dX4_holds_50 : decode cX4_holds 50 = .ok (.iload_n 3, 1) := by decide +kernel
theorem dX4_holds_51 : decode cX4_holds 51 = .ok (.iaload, 1) := by decide +kernel
theorem dX4_holds_52 : decode cX4_holds 52 = .ok (.aload_n 2, 1) := by decide +kernel
theorem dX4_holds_53 : decode cX4_holds 53 = .ok (.iload 4, 2) := by decide +kernel
theorem dX4_holds_55 : decode cX4_holds 55 = .ok (.iaload, 1) := by decide +kernel
theorem dX4_holds_56 : decode cX4_holds 56 = .ok (.isub, 1) := by decide +kernel
theorem dX4_holds_57 : decode cX4_holds 57 = .ok (.iload 6, 2) := by decide +kernel
theorem dX4_holds_59 : decode cX4_holds 59 = .ok (.if_icmp .le 5, 3) := by decide +kernel
theorem dX4_holds_62 : decode cX4_holds 62 = .ok (.iconst 0, 1) := by decide +kernel
theorem dX4_holds_63 : decode cX4_holds 63 = .ok (.ireturn, 1) := by decide +kernel
theorem dX4_holds_64 : decode cX4_holds 64 = .ok (.iinc 4 1, 3) := by decide +kernel
theorem dX4_holds_67 : decode cX4_holds 67 = .ok (.goto (-57), 3) := by decide +kernel
theorem dX4_holds_70 : decode cX4_holds 70 = .ok (.iinc 3 1, 3) := by decide +kernel
theorem dX4_holds_73 : decode cX4_holds 73 = .ok (.goto (-71), 3) := by decide +kernel
theorem dX4_holds_76 : decode cX4_holds 76 = .ok (.iconst 1, 1) := by decide +kernel
theorem dX4_holds_77 : decode cX4_holds 77 = .ok (.ireturn, 1) := by decide +kernel
theorem dX5_init_0 : decode cX5_init 0 = .ok (.aload_n 0, 1) := by decide +kernel
theorem dX5_init_1 : decode cX5_init 1 = .ok (.invokespecial 3, 3) := by decide +kernel
theorem dX5_init_4 : decode cX5_init 4 = .ok (.aload_n 0, 1) := by decide +kernel
theorem dX5_init_5 : decode cX5_init 5 = .ok (.iload_n 1, 1) := by decide +kernel
theorem dX5_init_6 : decode cX5_init 6 = .ok (.putfield 9, 3) := by decide +kernel
theorem dX5_init_9 : decode cX5_init 9 = .ok (.aload_n 0, 1) := by decide +kernel
theorem dX5_init_10 : decode cX5_init 10 = .ok (.iload_n 2, 1) := by decide +kernel
theorem dX5_init_11 : decode cX5_init 11 = .ok (.putfield 15, 3) := by decide +kernel
theorem dX5_init_14 : decode cX5_init 14 = .ok (.aload_n 0, 1) := by decide +kernel
theorem dX5_init_15 : decode cX5_init 15 = .ok (.iload_n 3, 1) := by decide +kernel
theorem dX5_init_16 : decode cX5_init 16 = .ok (.putfield 18, 3) := by decide +kernel
theorem dX5_init_19 : decode cX5_init 19 = .ok (.return_, 1) := by decide +kernel
theorem dX5_isCeiling_0 : decode cX5_isCeiling 0 = .ok (.aload_n 0, 1) := by decide +kernel
theorem dX5_isCeiling_1 : decode cX5_isCeiling 1 = .ok (.getfield 15, 3) := by decide +kernel
theorem dX5_isCeiling_4 : decode cX5_isCeiling 4 = .ok (.iconst 2, 1) := by decide +kernel
theorem dX5_isCeiling_5 : decode cX5_isCeiling 5 = .ok (.if_icmp .gt 7, 3) := by decide +kernel
theorem dX5_isCeiling_8 : decode cX5_isCeiling 8 = .ok (.iconst 1, 1) := by decide +kernel
theorem dX5_isCeiling_9 : decode cX5_isCeiling 9 = .ok (.goto 4, 3) := by decide +kernel
theorem dX5_isCeiling_12 : decode cX5_isCeiling 12 = .ok (.iconst 0, 1) := by decide +kernel
theorem dX5_isCeiling_13 : decode cX5_isCeiling 13 = .ok (.ireturn, 1) := by decide +kernel
theorem dX5_isFloor_0 : decode cX5_isFloor 0 = .ok (.aload_n 0, 1) := by decide +kernel
theorem dX5_isFloor_1 : decode cX5_isFloor 1 = .ok (.getfield 15, 3) := by decide +kernel
theorem dX5_isFloor_4 : decode cX5_isFloor 4 = .ok (.iconst 2, 1) := by decide +kernel
theorem dX5_isFloor_5 : decode cX5_isFloor 5 = .ok (.if_icmp .lt 7, 3) := by decide +kernel
theorem dX5_isFloor_8 : decode cX5_isFloor 8 = .ok (.iconst 1, 1) := by decide +kernel
theorem dX5_isFloor_9 : decode cX5_isFloor 9 = .ok (.goto 4, 3) := by decide +kernel
theorem dX5_isFloor_12 : decode cX5_isFloor 12 = .ok (.iconst 0, 1) := by decide +kernel
theorem dX5_isFloor_13 : decode cX5_isFloor 13 = .ok (.ireturn, 1) := by decide +kernel
theorem dX5_ceiling_0 : decode cX5_ceiling 0 = .ok (.iconst 2, 1) := by decide +kernel
theorem dX5_ceiling_1 : decode cX5_ceiling 1 = .ok (.aload_n 0, 1) := by decide +kernel
theorem dX5_ceiling_2 : decode cX5_ceiling 2 = .ok (.getfield 18, 3) := by decide +kernel
theorem dX5_ceiling_5 : decode cX5_ceiling 5 = .ok (.imul, 1) := by decide +kernel
theorem dX5_ceiling_6 : decode cX5_ceiling 6 = .ok (.aload_n 0, 1) := by decide +kernel
theorem dX5_ceiling_7 : decode cX5_ceiling 7 = .ok (.getfield 15, 3) := by decide +kernel
theorem dX5_ceiling_10 : decode cX5_ceiling 10 = .ok (.ifCond .ne 7, 3) := by decide +kernel
theorem dX5_ceiling_13 : decode cX5_ceiling 13 = .ok (.iconst 0, 1) := by decide +kernel
theorem dX5_ceiling_14 : decode cX5_ceiling 14 = .ok (.goto 4, 3) := by decide +kernel
theorem dX5_ceiling_17 : decode cX5_ceiling 17 = .ok (.iconst 1, 1) := by decide +kernel
theorem dX5_ceiling_18 : decode cX5_ceiling 18 = .ok (.iadd, 1) := by decide +kernel
theorem dX5_ceiling_19 : decode cX5_ceiling 19 = .ok (.ireturn, 1) := by decide +kernel
theorem dX5_floor_0 : decode cX5_floor 0 = .ok (.bipush (-2), 2) := by decide +kernel
theorem dX5_floor_2 : decode cX5_floor 2 = .ok (.aload_n 0, 1) := by decide +kernel
theorem dX5_floor_3 : decode cX5_floor 3 = .ok (.getfield 18, 3) := by decide +kernel
theorem dX5_floor_6 : decode cX5_floor 6 = .ok (.imul, 1) := by decide +kernel
theorem dX5_floor_7 : decode cX5_floor 7 = .ok (.aload_n 0, 1) := by decide +kernel
theorem dX5_floor_8 : decode cX5_floor 8 = .ok (.getfield 15, 3) := by decide +kernel
theorem dX5_floor_11 : decode cX5_floor 11 = .ok (.iconst 4, 1) := by decide +kernel
theorem dX5_floor_12 : decode cX5_floor 12 = .ok (.if_icmp .ne 7, 3) := by decide +kernel
theorem dX5_floor_15 : decode cX5_floor 15 = .ok (.iconst 0, 1) := by decide +kernel
theorem dX5_floor_16 : decode cX5_floor 16 = .ok (.goto 4, 3) := by decide +kernel
theorem dX5_floor_19 : decode cX5_floor 19 = .ok (.iconst 1, 1) := by decide +kernel
theorem dX5_floor_20 : decode cX5_floor 20 = .ok (.iadd, 1) := by decide +kernel
theorem dX5_floor_21 : decode cX5_floor 21 = .ok (.ireturn, 1) := by decide +kernel
theorem dX5_mostParts_0 : decode cX5_mostParts 0 = .ok (.bipush 64, 2) := by decide +kernel
theorem dX5_mostParts_2 : decode cX5_mostParts 2 = .ok (.aload_n 0, 1) := by decide +kernel
theorem dX5_mostParts_3 : decode cX5_mostParts 3 = .ok (.getfield 18, 3) := by decide +kernel
theorem dX5_mostParts_6 : decode cX5_mostParts 6 = .ok (.imul, 1) := by decide +kernel
theorem dX5_mostParts_7 : decode cX5_mostParts 7 = .ok (.aload_n 0, 1) := by decide +kernel
theorem dX5_mostParts_8 : decode cX5_mostParts 8 = .ok (.getfield 15, 3) := by decide +kernel
theorem dX5_mostParts_11 : decode cX5_mostParts 11 = .ok (.ifCond .ne 7, 3) := by decide +kernel
theorem dX5_mostParts_14 : decode cX5_mostParts 14 = .ok (.iconst 1, 1) := by decide +kernel
theorem dX5_mostParts_15 : decode cX5_mostParts 15 = .ok (.goto 4, 3) := by decide +kernel
theorem dX5_mostParts_18 : decode cX5_mostParts 18 = .ok (.iconst 0, 1) := by decide +kernel
theorem dX5_mostParts_19 : decode cX5_mostParts 19 = .ok (.isub, 1) := by decide +kernel
theorem dX5_mostParts_20 : decode cX5_mostParts 20 = .ok (.ireturn, 1) := by decide +kernel
theorem dX5_leastParts_0 : decode cX5_leastParts 0 = .ok (.bipush 64, 2) := by decide +kernel
theorem dX5_leastParts_2 : decode cX5_leastParts 2 = .ok (.aload_n 0, 1) := by decide +kernel
theorem dX5_leastParts_3 : decode cX5_leastParts 3 = .ok (.getfield 18, 3) := by decide +kernel
theorem dX5_leastParts_6 : decode cX5_leastParts 6 = .ok (.imul, 1) := by decide +kernel
theorem dX5_leastParts_7 : decode cX5_leastParts 7 = .ok (.aload_n 0, 1) := by decide +kernel
theorem dX5_leastParts_8 : decode cX5_leastParts 8 = .ok (.getfield 15, 3) := by decide +kernel
theorem dX5_leastParts_11 : decode cX5_leastParts 11 = .ok (.iconst 4, 1) := by decide +kernel
theorem dX5_leastParts_12 : decode cX5_leastParts 12 = .ok (.if_icmp .ne 7, 3) := by decide +kernel
theorem dX5_leastParts_15 : decode cX5_leastParts 15 = .ok (.iconst 1, 1) := by decide +kernel
theorem dX5_leastParts_16 : decode cX5_leastParts 16 = .ok (.goto 4, 3) := by decide +kernel
theorem dX5_leastParts_19 : decode cX5_leastParts 19 = .ok (.iconst 0, 1) := by decide +kernel
theorem dX5_leastParts_20 : decode cX5_leastParts 20 = .ok (.iadd, 1) := by decide +kernel
theorem dX5_leastParts_21 : decode cX5_leastParts 21 = .ok (.ireturn, 1) := by decide +kernel
theorem dX5_allows_0 : decode cX5_allows 0 = .ok (.aload_n 0, 1) := by decide +kernel
theorem dX5_allows_1 : decode cX5_allows 1 = .ok (.invokevirtual 21, 3) := by decide +kernel
theorem dX5_allows_4 : decode cX5_allows 4 = .ok (.ifCond .eq 11, 3) := by decide +kernel
theorem dX5_allows_7 : decode cX5_allows 7 = .ok (.iload_n 1, 1) := by decide +kernel
theorem dX5_allows_8 : decode cX5_allows 8 = .ok (.aload_n 0, 1) := by decide +kernel
theorem dX5_allows_9 : decode cX5_allows 9 = .ok (.invokevirtual 25, 3) := by decide +kernel
theorem dX5_allows_12 : decode cX5_allows 12 = .ok (.if_icmp .gt 22, 3) := by decide +kernel
theorem dX5_allows_15 : decode cX5_allows 15 = .ok (.aload_n 0, 1) := by decide +kernel
theorem dX5_allows_16 : decode cX5_allows 16 = .ok (.invokevirtual 29, 3) := by decide +kernel
theorem dX5_allows_19 : decode cX5_allows 19 = .ok (.ifCond .eq 11, 3) := by decide +kernel
theorem dX5_allows_22 : decode cX5_allows 22 = .ok (.iload_n 1, 1) := by decide +kernel
theorem dX5_allows_23 : decode cX5_allows 23 = .ok (.aload_n 0, 1) := by decide +kernel
theorem dX5_allows_24 : decode cX5_allows 24 = .ok (.invokevirtual 32, 3) := by decide +kernel
theorem dX5_allows_27 : decode cX5_allows 27 = .ok (.if_icmp .lt 7, 3) := by decide +kernel
theorem dX5_allows_30 : decode cX5_allows 30 = .ok (.iconst 1, 1) := by decide +kernel
theorem dX5_allows_31 : decode cX5_allows 31 = .ok (.goto 4, 3) := by decide +kernel
theorem dX5_allows_34 : decode cX5_allows 34 = .ok (.iconst 0, 1) := by decide +kernel
theorem dX5_allows_35 : decode cX5_allows 35 = .ok (.ireturn, 1) := by decide +kernel
theorem dX6_init_0 : decode cX6_init 0 = .ok (.aload_n 0, 1) := by decide +kernel
theorem dX6_init_1 : decode cX6_init 1 = .ok (.invokespecial 3, 3) := by decide +kernel
theorem dX6_init_4 : decode cX6_init 4 = .ok (.aload_n 0, 1) := by decide +kernel
theorem dX6_init_5 : decode cX6_init 5 = .ok (.iconst 2, 1) := by decide +kernel
theorem dX6_init_6 : decode cX6_init 6 = .ok (.anewarray 9, 3) := by decide +kernel
theorem dX6_init_9 : decode cX6_init 9 = .ok (.putfield 11, 3) := by decide +kernel
theorem dX6_init_12 : decode cX6_init 12 = .ok (.return_, 1) := by decide +kernel
theorem dX6_add_0 : decode cX6_add 0 = .ok (.aload_n 0, 1) := by decide +kernel
theorem dX6_add_1 : decode cX6_add 1 = .ok (.getfield 17, 3) := by decide +kernel
theorem dX6_add_4 : decode cX6_add 4 = .ok (.iconst 2, 1) := by decide +kernel
theorem dX6_add_5 : decode cX6_add 5 = .ok (.if_icmp .ge 23, 3) := by decide +kernel
theorem dX6_add_8 : decode cX6_add 8 = .ok (.aload_n 0, 1) := by decide +kernel
theorem dX6_add_9 : decode cX6_add 9 = .ok (.getfield 11, 3) := by decide +kernel
theorem dX6_add_12 : decode cX6_add 12 = .ok (.aload_n 0, 1) := by decide +kernel
theorem dX6_add_13 : decode cX6_add 13 = .ok (.getfield 17, 3) := by decide +kernel
theorem dX6_add_16 : decode cX6_add 16 = .ok (.aload_n 1, 1) := by decide +kernel
theorem dX6_add_17 : decode cX6_add 17 = .ok (.aastore, 1) := by decide +kernel
theorem dX6_add_18 : decode cX6_add 18 = .ok (.aload_n 0, 1) := by decide +kernel
theorem dX6_add_19 : decode cX6_add 19 = .ok (.dup, 1) := by decide +kernel
theorem dX6_add_20 : decode cX6_add 20 = .ok (.getfield 17, 3) := by decide +kernel
theorem dX6_add_23 : decode cX6_add 23 = .ok (.iconst 1, 1) := by decide +kernel
theorem dX6_add_24 : decode cX6_add 24 = .ok (.iadd, 1) := by decide +kernel
theorem dX6_add_25 : decode cX6_add 25 = .ok (.putfield 17, 3) := by decide +kernel
theorem dX6_add_28 : decode cX6_add 28 = .ok (.return_, 1) := by decide +kernel
theorem dX6_allow_0 : decode cX6_allow 0 = .ok (.iconst 0, 1) := by decide +kernel
theorem dX6_allow_1 : decode cX6_allow 1 = .ok (.istore_n 2, 1) := by decide +kernel
theorem dX6_allow_2 : decode cX6_allow 2 = .ok (.iload_n 2, 1) := by decide +kernel
theorem dX6_allow_3 : decode cX6_allow 3 = .ok (.aload_n 0, 1) := by decide +kernel
theorem dX6_allow_4 : decode cX6_allow 4 = .ok (.getfield 17, 3) := by decide +kernel
theorem dX6_allow_7 : decode cX6_allow 7 = .ok (.if_icmp .ge 34, 3) := by decide +kernel
theorem dX6_allow_10 : decode cX6_allow 10 = .ok (.aload_n 0, 1) := by decide +kernel
theorem dX6_allow_11 : decode cX6_allow 11 = .ok (.getfield 11, 3) := by decide +kernel
theorem dX6_allow_14 : decode cX6_allow 14 = .ok (.iload_n 2, 1) := by decide +kernel
theorem dX6_allow_15 : decode cX6_allow 15 = .ok (.aaload, 1) := by decide +kernel
theorem dX6_allow_16 : decode cX6_allow 16 = .ok (.aload_n 1, 1) := by decide +kernel
theorem dX6_allow_17 : decode cX6_allow 17 = .ok (.aload_n 0, 1) := by decide +kernel
theorem dX6_allow_18 : decode cX6_allow 18 = .ok (.getfield 11, 3) := by decide +kernel
theorem dX6_allow_21 : decode cX6_allow 21 = .ok (.iload_n 2, 1) := by decide +kernel
theorem dX6_allow_22 : decode cX6_allow 22 = .ok (.aaload, 1) := by decide +kernel
theorem dX6_allow_23 : decode cX6_allow 23 = .ok (.getfield 21, 3) := by decide +kernel
theorem dX6_allow_26 : decode cX6_allow 26 = .ok (.iaload, 1) := by decide +kernel
theorem dX6_allow_27 : decode cX6_allow 27 = .ok (.invokevirtual 24, 3) := by decide +kernel
theorem dX6_allow_30 : decode cX6_allow 30 = .ok (.ifCond .ne 5, 3) := by decide +kernel
theorem dX6_allow_33 : decode cX6_allow 33 = .ok (.iconst 0, 1) := by decide +kernel
theorem dX6_allow_34 : decode cX6_allow 34 = .ok (.ireturn, 1) := by decide +kernel
theorem dX6_allow_35 : decode cX6_allow 35 = .ok (.iinc 2 1, 3) := by decide +kernel
theorem dX6_allow_38 : decode cX6_allow 38 = .ok (.goto (-36), 3) := by decide +kernel
theorem dX6_allow_41 : decode cX6_allow 41 = .ok (.iconst 1, 1) := by decide +kernel
theorem dX6_allow_42 : decode cX6_allow 42 = .ok (.ireturn, 1) := by decide +kernel
theorem dX6_narrow_0 : decode cX6_narrow 0 = .ok (.iconst 0, 1) := by decide +kernel
theorem dX6_narrow_1 : decode cX6_narrow 1 = .ok (.istore_n 2, 1) := by decide +kernel
theorem dX6_narrow_2 : decode cX6_narrow 2 = .ok (.iload_n 2, 1) := by decide +kernel
theorem dX6_narrow_3 : decode cX6_narrow 3 = .ok (.aload_n 0, 1) := by decide +kernel
theorem dX6_narrow_4 : decode cX6_narrow 4 = .ok (.getfield 17, 3) := by decide +kernel
theorem dX6_narrow_7 : decode cX6_narrow 7 = .ok (.if_icmp .ge 66, 3) := by decide +kernel
theorem dX6_narrow_10 : decode cX6_narrow 10 = .ok (.aload_n 0, 1) := by decide +kernel
theorem dX6_narrow_11 : decode cX6_narrow 11 = .ok (.getfield 11, 3) := by decide +kernel
theorem dX6_narrow_14 : decode cX6_narrow 14 = .ok (.iload_n 2, 1) := by decide +kernel
theorem dX6_narrow_15 : decode cX6_narrow 15 = .ok (.aaload, 1) := by decide +kernel
theorem dX6_narrow_16 : decode cX6_narrow 16 = .ok (.astore_n 3, 1) := by decide +kernel
theorem dX6_narrow_17 : decode cX6_narrow 17 = .ok (.aload_n 3, 1) := by decide +kernel
theorem dX6_narrow_18 : decode cX6_narrow 18 = .ok (.invokevirtual 28, 3) := by decide +kernel
theorem dX6_narrow_21 : decode cX6_narrow 21 = .ok (.ifCond .eq 21, 3) := by decide +kernel
theorem dX6_narrow_24 : decode cX6_narrow 24 = .ok (.aload_n 1, 1) := by decide +kernel
theorem dX6_narrow_25 : decode cX6_narrow 25 = .ok (.aload_n 3, 1) := by decide +kernel
theorem dX6_narrow_26 : decode cX6_narrow 26 = .ok (.getfield 21, 3) := by decide +kernel
theorem dX6_narrow_29 : decode cX6_narrow 29 = .ok (.iconst 0, 1) := by decide +kernel
theorem dX6_narrow_30 : decode cX6_narrow 30 = .ok (.aload_n 3, 1) := by decide +kernel
theorem dX6_narrow_31 : decode cX6_narrow 31 = .ok (.invokevirtual 32, 3) := by decide +kernel
theorem dX6_narrow_34 : decode cX6_narrow 34 = .ok (.invokevirtual 36, 3) := by decide +kernel
theorem dX6_narrow_37 : decode cX6_narrow 37 = .ok (.ifCond .ne 5, 3) := by decide +kernel
theorem dX6_narrow_40 : decode cX6_narrow 40 = .ok (.iconst 0, 1) := by decide +kernel
theorem dX6_narrow_41 : decode cX6_narrow 41 = .ok (.ireturn, 1) := by decide +kernel
theorem dX6_narrow_42 : decode cX6_narrow 42 = .ok (.aload_n 3, 1) := by decide +kernel
theorem dX6_narrow_43 : decode cX6_narrow 43 = .ok (.invokevirtual 42, 3) := by decide +kernel
theorem dX6_narrow_46 : decode cX6_narrow 46 = .ok (.ifCond .eq 21, 3) := by decide +kernel
theorem dX6_narrow_49 : decode cX6_narrow 49 = .ok (.aload_n 1, 1) := by decide +kernel
theorem dX6_narrow_50 : decode cX6_narrow 50 = .ok (.iconst 0, 1) := by decide +kernel
theorem dX6_narrow_51 : decode cX6_narrow 51 = .ok (.aload_n 3, 1) := by decide +kernel
theorem dX6_narrow_52 : decode cX6_narrow 52 = .ok (.getfield 21, 3) := by decide +kernel
theorem dX6_narrow_55 : decode cX6_narrow 55 = .ok (.aload_n 3, 1) := by decide +kernel
theorem dX6_narrow_56 : decode cX6_narrow 56 = .ok (.invokevirtual 45, 3) := by decide +kernel
theorem dX6_narrow_59 : decode cX6_narrow 59 = .ok (.invokevirtual 36, 3) := by decide +kernel
theorem dX6_narrow_62 : decode cX6_narrow 62 = .ok (.ifCond .ne 5, 3) := by decide +kernel
theorem dX6_narrow_65 : decode cX6_narrow 65 = .ok (.iconst 0, 1) := by decide +kernel
theorem dX6_narrow_66 : decode cX6_narrow 66 = .ok (.ireturn, 1) := by decide +kernel
theorem dX6_narrow_67 : decode cX6_narrow 67 = .ok (.iinc 2 1, 3) := by decide +kernel
theorem dX6_narrow_70 : decode cX6_narrow 70 = .ok (.goto (-68), 3) := by decide +kernel
theorem dX6_narrow_73 : decode cX6_narrow 73 = .ok (.iconst 1, 1) := by decide +kernel
theorem dX6_narrow_74 : decode cX6_narrow 74 = .ok (.ireturn, 1) := by decide +kernel
theorem dX6_greatestNumber_0 : decode cX6_greatestNumber 0 = .ok (.iconst 0, 1) := by decide +kernel
theorem dX6_greatestNumber_1 : decode cX6_greatestNumber 1 = .ok (.istore_n 2, 1) := by decide +kernel
theorem dX6_greatestNumber_2 : decode cX6_greatestNumber 2 = .ok (.iconst 0, 1) := by decide +kernel
theorem dX6_greatestNumber_3 : decode cX6_greatestNumber 3 = .ok (.istore_n 3, 1) := by decide +kernel
theorem dX6_greatestNumber_4 : decode cX6_greatestNumber 4 = .ok (.iload_n 3, 1) := by decide +kernel
theorem dX6_greatestNumber_5 : decode cX6_greatestNumber 5 = .ok (.aload_n 0, 1) := by decide +kernel
theorem dX6_greatestNumber_6 : decode cX6_greatestNumber 6 = .ok (.getfield 17, 3) := by decide +kernel
theorem dX6_greatestNumber_9 : decode cX6_greatestNumber 9 = .ok (.if_icmp .ge 36, 3) := by decide +kernel
theorem dX6_greatestNumber_12 : decode cX6_greatestNumber 12 = .ok (.aload_n 0, 1) := by decide +kernel
theorem dX6_greatestNumber_13 : decode cX6_greatestNumber 13 = .ok (.getfield 11, 3) := by decide +kernel
theorem dX6_greatestNumber_16 : decode cX6_greatestNumber 16 = .ok (.iload_n 3, 1) := by decide +kernel
theorem dX6_greatestNumber_17 : decode cX6_greatestNumber 17 = .ok (.aaload, 1) := by decide +kernel
theorem dX6_greatestNumber_18 : decode cX6_greatestNumber 18 = .ok (.getfield 21, 3) := by decide +kernel
theorem dX6_greatestNumber_21 : decode cX6_greatestNumber 21 = .ok (.iload_n 1, 1) := by decide +kernel
theorem dX6_greatestNumber_22 : decode cX6_greatestNumber 22 = .ok (.if_icmp .ne 17, 3) := by decide +kernel
theorem dX6_greatestNumber_25 : decode cX6_greatestNumber 25 = .ok (.iload_n 2, 1) := by decide +kernel
theorem dX6_greatestNumber_26 : decode cX6_greatestNumber 26 = .ok (.aload_n 0, 1) := by decide +kernel
theorem dX6_greatestNumber_27 : decode cX6_greatestNumber 27 = .ok (.getfield 11, 3) := by decide +kernel
theorem dX6_greatestNumber_30 : decode cX6_greatestNumber 30 = .ok (.iload_n 3, 1) := by decide +kernel
theorem dX6_greatestNumber_31 : decode cX6_greatestNumber 31 = .ok (.aaload, 1) := by decide +kernel
theorem dX6_greatestNumber_32 : decode cX6_greatestNumber 32 = .ok (.getfield 48, 3) := by decide +kernel
theorem dX6_greatestNumber_35 : decode cX6_greatestNumber 35 = .ok (.invokestatic 51, 3) := by decide +kernel
theorem dX6_greatestNumber_38 : decode cX6_greatestNumber 38 = .ok (.istore_n 2, 1) := by decide +kernel
theorem dX6_greatestNumber_39 : decode cX6_greatestNumber 39 = .ok (.iinc 3 1, 3) := by decide +kernel
theorem dX6_greatestNumber_42 : decode cX6_greatestNumber 42 = .ok (.goto (-38), 3) := by decide +kernel
theorem dX6_greatestNumber_45 : decode cX6_greatestNumber 45 = .ok (.iload_n 2, 1) := by decide +kernel
theorem dX6_greatestNumber_46 : decode cX6_greatestNumber 46 = .ok (.ireturn, 1) := by decide +kernel
theorem dX7_init_0 : decode cX7_init 0 = .ok (.aload_n 0, 1) := by decide +kernel
theorem dX7_init_1 : decode cX7_init 1 = .ok (.invokespecial 3, 3) := by decide +kernel
theorem dX7_init_4 : decode cX7_init 4 = .ok (.aload_n 0, 1) := by decide +kernel
theorem dX7_init_5 : decode cX7_init 5 = .ok (.bipush 41, 2) := by decide +kernel
theorem dX7_init_7 : decode cX7_init 7 = .ok (.newarray .int, 2) := by decide +kernel
theorem dX7_init_9 : decode cX7_init 9 = .ok (.putfield 9, 3) := by decide +kernel
theorem dX7_init_12 : decode cX7_init 12 = .ok (.aload_n 0, 1) := by decide +kernel
theorem dX7_init_13 : decode cX7_init 13 = .ok (.bipush 41, 2) := by decide +kernel
theorem dX7_init_15 : decode cX7_init 15 = .ok (.newarray .int, 2) := by decide +kernel
theorem dX7_init_17 : decode cX7_init 17 = .ok (.putfield 15, 3) := by decide +kernel
theorem dX7_init_20 : decode cX7_init 20 = .ok (.aload_n 0, 1) := by decide +kernel
theorem dX7_init_21 : decode cX7_init 21 = .ok (.iconst 4, 1) := by decide +kernel
theorem dX7_init_22 : decode cX7_init 22 = .ok (.newarray .int, 2) := by decide +kernel
theorem dX7_init_24 : decode cX7_init 24 = .ok (.putfield 18, 3) := by decide +kernel
theorem dX7_init_27 : decode cX7_init 27 = .ok (.aload_n 0, 1) := by decide +kernel
theorem dX7_init_28 : decode cX7_init 28 = .ok (.sipush 615, 3) := by decide +kernel
theorem dX7_init_31 : decode cX7_init 31 = .ok (.newarray .int, 2) := by decide +kernel
theorem dX7_init_33 : decode cX7_init 33 = .ok (.putfield 21, 3) := by decide +kernel
theorem dX7_init_36 : decode cX7_init 36 = .ok (.aload_n 0, 1) := by decide +kernel
theorem dX7_init_37 : decode cX7_init 37 = .ok (.sipush 615, 3) := by decide +kernel
theorem dX7_init_40 : decode cX7_init 40 = .ok (.newarray .int, 2) := by decide +kernel
theorem dX7_init_42 : decode cX7_init 42 = .ok (.putfield 24, 3) := by decide +kernel
theorem dX7_init_45 : decode cX7_init 45 = .ok (.aload_n 0, 1) := by decide +kernel
theorem dX7_init_46 : decode cX7_init 46 = .ok (.sipush 615, 3) := by decide +kernel
theorem dX7_init_49 : decode cX7_init 49 = .ok (.newarray .int, 2) := by decide +kernel
theorem dX7_init_51 : decode cX7_init 51 = .ok (.putfield 27, 3) := by decide +kernel
theorem dX7_init_54 : decode cX7_init 54 = .ok (.return_, 1) := by decide +kernel
theorem dX7_fill_0 : decode cX7_fill 0 = .ok (.aload_n 2, 1) := by decide +kernel
theorem dX7_fill_1 : decode cX7_fill 1 = .ok (.iload_n 3, 1) := by decide +kernel
theorem dX7_fill_2 : decode cX7_fill 2 = .ok (.bipush 6, 2) := by decide +kernel
theorem dX7_fill_4 : decode cX7_fill 4 = .ok (.invokevirtual 30, 3) := by decide +kernel
theorem dX7_fill_7 : decode cX7_fill 7 = .ok (.bipush 40, 2) := by decide +kernel
theorem dX7_fill_9 : decode cX7_fill 9 = .ok (.invokestatic 36, 3) := by decide +kernel
theorem dX7_fill_12 : decode cX7_fill 12 = .ok (.istore 4, 2) := by decide +kernel
theorem dX7_fill_14 : decode cX7_fill 14 = .ok (.aload_n 0, 1) := by decide +kernel
theorem dX7_fill_15 : decode cX7_fill 15 = .ok (.aload_n 2, 1) := by decide +kernel
theorem dX7_fill_16 : decode cX7_fill 16 = .ok (.iload_n 3, 1) := by decide +kernel
theorem dX7_fill_17 : decode cX7_fill 17 = .ok (.iload 4, 2) := by decide +kernel
theorem dX7_fill_19 : decode cX7_fill 19 = .ok (.invokevirtual 41, 3) := by decide +kernel
theorem dX7_fill_22 : decode cX7_fill 22 = .ok (.aload_n 0, 1) := by decide +kernel
theorem dX7_fill_23 : decode cX7_fill 23 = .ok (.iconst 0, 1) := by decide +kernel
theorem dX7_fill_24 : decode cX7_fill 24 = .ok (.putfield 45, 3) := by decide +kernel
theorem dX7_fill_27 : decode cX7_fill 27 = .ok (.aload_n 0, 1) := by decide +kernel
theorem dX7_fill_28 : decode cX7_fill 28 = .ok (.getfield 18, 3) := by decide +kernel
theorem dX7_fill_31 : decode cX7_fill 31 = .ok (.iconst 0, 1) := by decide +kernel
theorem dX7_fill_32 : decode cX7_fill 32 = .ok (.invokestatic 49, 3) := by decide +kernel
theorem dX7_fill_35 : decode cX7_fill 35 = .ok (.iconst 1, 1) := by decide +kernel
theorem dX7_fill_36 : decode cX7_fill 36 = .ok (.istore 5, 2) := by decide +kernel
theorem dX7_fill_38 : decode cX7_fill 38 = .ok (.iload 5, 2) := by decide +kernel
theorem dX7_fill_40 : decode cX7_fill 40 = .ok (.iload 4, 2) := by decide +kernel
theorem dX7_fill_42 : decode cX7_fill 42 = .ok (.if_icmp .gt 70, 3) := by decide +kernel
theorem dX7_fill_45 : decode cX7_fill 45 = .ok (.aload_n 0, 1) := by decide +kernel
theorem dX7_fill_46 : decode cX7_fill 46 = .ok (.iload 5, 2) := by decide +kernel
theorem dX7_fill_48 : decode cX7_fill 48 = .ok (.iconst 1, 1) := by decide +kernel
theorem dX7_fill_49 : decode cX7_fill 49 = .ok (.isub, 1) := by decide +kernel
theorem dX7_fill_50 : decode cX7_fill 50 = .ok (.iload 5, 2) := by decide +kernel
theorem dX7_fill_52 : decode cX7_fill 52 = .ok (.iconst 0, 1) := by decide +kernel
theorem dX7_fill_53 : decode cX7_fill 53 = .ok (.invokevirtual 55, 3) := by decide +kernel
theorem dX7_fill_56 : decode cX7_fill 56 = .ok (.aload_n 0, 1) := by decide +kernel
theorem dX7_fill_57 : decode cX7_fill 57 = .ok (.aload_n 1, 1) := by decide +kernel
theorem dX7_fill_58 : decode cX7_fill 58 = .ok (.aload_n 2, 1) := by decide +kernel
theorem dX7_fill_59 : decode cX7_fill 59 = .ok (.aload_n 0, 1) := by decide +kernel
theorem dX7_fill_60 : decode cX7_fill 60 = .ok (.getfield 15, 3) := by decide +kernel
theorem dX7_fill_63 : decode cX7_fill 63 = .ok (.iload 5, 2) := by decide +kernel
theorem dX7_fill_65 : decode cX7_fill 65 = .ok (.iconst 1, 1) := by decide +kernel
theorem dX7_fill_66 : decode cX7_fill 66 = .ok (.isub, 1) := by decide +kernel
theorem dX7_fill_67 : decode cX7_fill 67 = .ok (.iaload, 1) := by decide +kernel
theorem dX7_fill_68 : decode cX7_fill 68 = .ok (.iload 5, 2) := by decide +kernel
theorem dX7_fill_70 : decode cX7_fill 70 = .ok (.invokevirtual 59, 3) := by decide +kernel
theorem dX7_fill_73 : decode cX7_fill 73 = .ok (.aload_n 0, 1) := by decide +kernel
theorem dX7_fill_74 : decode cX7_fill 74 = .ok (.getfield 15, 3) := by decide +kernel
theorem dX7_fill_77 : decode cX7_fill 77 = .ok (.iload 5, 2) := by decide +kernel
theorem dX7_fill_79 : decode cX7_fill 79 = .ok (.iaload, 1) := by decide +kernel
theorem dX7_fill_80 : decode cX7_fill 80 = .ok (.istore 6, 2) := by decide +kernel
theorem dX7_fill_82 : decode cX7_fill 82 = .ok (.aload_n 0, 1) := by decide +kernel
theorem dX7_fill_83 : decode cX7_fill 83 = .ok (.aload_n 1, 1) := by decide +kernel
theorem dX7_fill_84 : decode cX7_fill 84 = .ok (.aload_n 2, 1) := by decide +kernel
theorem dX7_fill_85 : decode cX7_fill 85 = .ok (.iload 6, 2) := by decide +kernel
theorem dX7_fill_87 : decode cX7_fill 87 = .ok (.iconst 4, 1) := by decide +kernel
theorem dX7_fill_88 : decode cX7_fill 88 = .ok (.invokevirtual 30, 3) := by decide +kernel
theorem dX7_fill_91 : decode cX7_fill 91 = .ok (.aload_n 2, 1) := by decide +kernel
theorem dX7_fill_92 : decode cX7_fill 92 = .ok (.iload 6, 2) := by decide +kernel
theorem dX7_fill_94 : decode cX7_fill 94 = .ok (.iconst 5, 1) := by decide +kernel
theorem dX7_fill_95 : decode cX7_fill 95 = .ok (.invokevirtual 30, 3) := by decide +kernel
theorem dX7_fill_98 : decode cX7_fill 98 = .ok (.invokevirtual 63, 3) := by decide +kernel
theorem dX7_fill_101 : decode cX7_fill 101 = .ok (.iload 5, 2) := by decide +kernel
theorem dX7_fill_103 : decode cX7_fill 103 = .ok (.invokevirtual 69, 3) := by decide +kernel
theorem dX7_fill_106 : decode cX7_fill 106 = .ok (.iinc 5 1, 3) := by decide +kernel
theorem dX7_fill_109 : decode cX7_fill 109 = .ok (.goto (-71), 3) := by decide +kernel
theorem dX7_fill_112 : decode cX7_fill 112 = .ok (.aload_n 0, 1) := by decide +kernel
theorem dX7_fill_113 : decode cX7_fill 113 = .ok (.aload_n 1, 1) := by decide +kernel
theorem dX7_fill_114 : decode cX7_fill 114 = .ok (.aload_n 2, 1) := by decide +kernel
theorem dX7_fill_115 : decode cX7_fill 115 = .ok (.aload_n 0, 1) := by decide +kernel
theorem dX7_fill_116 : decode cX7_fill 116 = .ok (.getfield 15, 3) := by decide +kernel
theorem dX7_fill_119 : decode cX7_fill 119 = .ok (.iload 4, 2) := by decide +kernel
theorem dX7_fill_121 : decode cX7_fill 121 = .ok (.iaload, 1) := by decide +kernel
theorem dX7_fill_122 : decode cX7_fill 122 = .ok (.iload 4, 2) := by decide +kernel
theorem dX7_fill_124 : decode cX7_fill 124 = .ok (.invokevirtual 59, 3) := by decide +kernel
theorem dX7_fill_127 : decode cX7_fill 127 = .ok (.aload_n 0, 1) := by decide +kernel
theorem dX7_fill_128 : decode cX7_fill 128 = .ok (.invokevirtual 73, 3) := by decide +kernel
theorem dX7_fill_131 : decode cX7_fill 131 = .ok (.return_, 1) := by decide +kernel
theorem dX7_visit_0 : decode cX7_visit 0 = .ok (.iload_n 2, 1) := by decide +kernel
theorem dX7_visit_1 : decode cX7_visit 1 = .ok (.istore 4, 2) := by decide +kernel
theorem dX7_visit_3 : decode cX7_visit 3 = .ok (.iload_n 3, 1) := by decide +kernel
theorem dX7_visit_4 : decode cX7_visit 4 = .ok (.istore 5, 2) := by decide +kernel
theorem dX7_visit_6 : decode cX7_visit 6 = .ok (.iload 5, 2) := by decide +kernel
theorem dX7_visit_8 : decode cX7_visit 8 = .ok (.ifCond .le 27, 3) := by decide +kernel
theorem dX7_visit_11 : decode cX7_visit 11 = .ok (.aload_n 0, 1) := by decide +kernel
theorem dX7_visit_12 : decode cX7_visit 12 = .ok (.getfield 15, 3) := by decide +kernel
theorem dX7_visit_15 : decode cX7_visit 15 = .ok (.iload 5, 2) := by decide +kernel
theorem dX7_visit_17 : decode cX7_visit 17 = .ok (.iload 4, 2) := by decide +kernel
theorem dX7_visit_19 : decode cX7_visit 19 = .ok (.iastore, 1) := by decide +kernel
theorem dX7_visit_20 : decode cX7_visit 20 = .ok (.aload_n 1, 1) := by decide +kernel
theorem dX7_visit_21 : decode cX7_visit 21 = .ok (.iload 4, 2) := by decide +kernel
theorem dX7_visit_23 : decode cX7_visit 23 = .ok (.iconst 3, 1) := by decide +kernel
theorem dX7_visit_24 : decode cX7_visit 24 = .ok (.invokevirtual 30, 3) := by decide +kernel
theorem dX7_visit_27 : decode cX7_visit 27 = .ok (.istore 4, 2) := by decide +kernel
theorem dX7_visit_29 : decode cX7_visit 29 = .ok (.iinc 5 (-1), 3) := by decide +kernel
theorem dX7_visit_32 : decode cX7_visit 32 = .ok (.goto (-26), 3) := by decide +kernel
theorem dX7_visit_35 : decode cX7_visit 35 = .ok (.aload_n 0, 1) := by decide +kernel
theorem dX7_visit_36 : decode cX7_visit 36 = .ok (.getfield 15, 3) := by decide +kernel
theorem dX7_visit_39 : decode cX7_visit 39 = .ok (.iconst 0, 1) := by decide +kernel
theorem dX7_visit_40 : decode cX7_visit 40 = .ok (.iload 4, 2) := by decide +kernel
theorem dX7_visit_42 : decode cX7_visit 42 = .ok (.iastore, 1) := by decide +kernel
theorem dX7_visit_43 : decode cX7_visit 43 = .ok (.return_, 1) := by decide +kernel
theorem dX7_addStep_0 : decode cX7_addStep 0 = .ok (.aload_n 1, 1) := by decide +kernel
theorem dX7_addStep_1 : decode cX7_addStep 1 = .ok (.ifnonnull 4, 3) := by decide +kernel
theorem dX7_addStep_4 : decode cX7_addStep 4 = .ok (.return_, 1) := by decide +kernel
theorem dX7_addStep_5 : decode cX7_addStep 5 = .ok (.aload_n 0, 1) := by decide +kernel
theorem dX7_addStep_6 : decode cX7_addStep 6 = .ok (.aload_n 1, 1) := by decide +kernel
theorem dX7_addStep_7 : decode cX7_addStep 7 = .ok (.getfield 76, 3) := by decide +kernel
theorem dX7_addStep_10 : decode cX7_addStep 10 = .ok (.getfield 82, 3) := by decide +kernel
theorem dX7_addStep_13 : decode cX7_addStep 13 = .ok (.iload_n 2, 1) := by decide +kernel
theorem dX7_addStep_14 : decode cX7_addStep 14 = .ok (.invokevirtual 88, 3) := by decide +kernel
theorem dX7_addStep_17 : decode cX7_addStep 17 = .ok (.aload_n 1, 1) := by decide +kernel
theorem dX7_addStep_18 : decode cX7_addStep 18 = .ok (.getfield 92, 3) := by decide +kernel
theorem dX7_addStep_21 : decode cX7_addStep 21 = .ok (.ifnull 15, 3) := by decide +kernel
theorem dX7_addStep_24 : decode cX7_addStep 24 = .ok (.aload_n 0, 1) := by decide +kernel
theorem dX7_addStep_25 : decode cX7_addStep 25 = .ok (.aload_n 1, 1) := by decide +kernel
theorem dX7_addStep_26 : decode cX7_addStep 26 = .ok (.getfield 92, 3) := by decide +kernel
theorem dX7_addStep_29 : decode cX7_addStep 29 = .ok (.getfield 82, 3) := by decide +kernel
theorem dX7_addStep_32 : decode cX7_addStep 32 = .ok (.iload_n 2, 1) := by decide +kernel
theorem dX7_addStep_33 : decode cX7_addStep 33 = .ok (.invokevirtual 88, 3) := by decide +kernel
theorem dX7_addStep_36 : decode cX7_addStep 36 = .ok (.iconst 1, 1) := by decide +kernel
theorem dX7_addStep_37 : decode cX7_addStep 37 = .ok (.istore_n 3, 1) := by decide +kernel
theorem dX7_addStep_38 : decode cX7_addStep 38 = .ok (.iload_n 3, 1) := by decide +kernel
theorem dX7_addStep_39 : decode cX7_addStep 39 = .ok (.iconst 4, 1) := by decide +kernel
theorem dX7_addStep_40 : decode cX7_addStep 40 = .ok (.if_icmp .ge 24, 3) := by decide +kernel
theorem dX7_addStep_43 : decode cX7_addStep 43 = .ok (.aload_n 1, 1) := by decide +kernel
theorem dX7_addStep_44 : decode cX7_addStep 44 = .ok (.iload_n 3, 1) := by decide +kernel
theorem dX7_addStep_45 : decode cX7_addStep 45 = .ok (.invokevirtual 95, 3) := by decide +kernel
theorem dX7_addStep_48 : decode cX7_addStep 48 = .ok (.ifCond .eq 10, 3) := by decide +kernel
theorem dX7_addStep_51 : decode cX7_addStep 51 = .ok (.aload_n 0, 1) := by decide +kernel
theorem dX7_addStep_52 : decode cX7_addStep 52 = .ok (.getfield 18, 3) := by decide +kernel
theorem dX7_addStep_55 : decode cX7_addStep 55 = .ok (.iload_n 3, 1) := by decide +kernel
theorem dX7_addStep_56 : decode cX7_addStep 56 = .ok (.iload_n 2, 1) := by decide +kernel
theorem dX7_addStep_57 : decode cX7_addStep 57 = .ok (.iastore, 1) := by decide +kernel
theorem dX7_addStep_58 : decode cX7_addStep 58 = .ok (.iinc 3 1, 3) := by decide +kernel
theorem dX7_addStep_61 : decode cX7_addStep 61 = .ok (.goto (-23), 3) := by decide +kernel
theorem dX7_addStep_64 : decode cX7_addStep 64 = .ok (.return_, 1) := by decide +kernel
theorem dX7_addLimits_0 : decode cX7_addLimits 0 = .ok (.iconst 0, 1) := by decide +kernel
theorem dX7_addLimits_1 : decode cX7_addLimits 1 = .ok (.istore 5, 2) := by decide +kernel
theorem dX7_addLimits_3 : decode cX7_addLimits 3 = .ok (.iload 5, 2) := by decide +kernel
theorem dX7_addLimits_5 : decode cX7_addLimits 5 = .ok (.iconst 3, 1) := by decide +kernel
theorem dX7_addLimits_6 : decode cX7_addLimits 6 = .ok (.if_icmp .ge 28, 3) := by decide +kernel
theorem dX7_addLimits_9 : decode cX7_addLimits 9 = .ok (.aload_n 0, 1) := by decide +kernel
theorem dX7_addLimits_10 : decode cX7_addLimits 10 = .ok (.aload_n 1, 1) := by decide +kernel
theorem dX7_addLimits_11 : decode cX7_addLimits 11 = .ok (.iload 5, 2) := by decide +kernel
theorem dX7_addLimits_13 : decode cX7_addLimits 13 = .ok (.aload_n 2, 1) := by decide +kernel
theorem dX7_addLimits_14 : decode cX7_addLimits 14 = .ok (.iload_n 3, 1) := by decide +kernel
theorem dX7_addLimits_15 : decode cX7_addLimits 15 = .ok (.iload 5, 2) := by decide +kernel
theorem dX7_addLimits_17 : decode cX7_addLimits 17 = .ok (.invokevirtual 30, 3) := by decide +kernel
theorem dX7_addLimits_20 : decode cX7_addLimits 20 = .ok (.invokevirtual 99, 3) := by decide +kernel
theorem dX7_addLimits_23 : decode cX7_addLimits 23 = .ok (.iload 4, 2) := by decide +kernel
theorem dX7_addLimits_25 : decode cX7_addLimits 25 = .ok (.invokevirtual 88, 3) := by decide +kernel
theorem dX7_addLimits_28 : decode cX7_addLimits 28 = .ok (.iinc 5 1, 3) := by decide +kernel
theorem dX7_addLimits_31 : decode cX7_addLimits 31 = .ok (.goto (-28), 3) := by decide +kernel
theorem dX7_addLimits_34 : decode cX7_addLimits 34 = .ok (.return_, 1) := by decide +kernel
theorem dX7_addTests_0 : decode cX7_addTests 0 = .ok (.iconst 0, 1) := by decide +kernel
theorem dX7_addTests_1 : decode cX7_addTests 1 = .ok (.istore_n 3, 1) := by decide +kernel
theorem dX7_addTests_2 : decode cX7_addTests 2 = .ok (.iload_n 3, 1) := by decide +kernel
theorem dX7_addTests_3 : decode cX7_addTests 3 = .ok (.aload_n 1, 1) := by decide +kernel
theorem dX7_addTests_4 : decode cX7_addTests 4 = .ok (.getfield 103, 3) := by decide +kernel
theorem dX7_addTests_7 : decode cX7_addTests 7 = .ok (.if_icmp .ge 70, 3) := by decide +kernel
theorem dX7_addTests_10 : decode cX7_addTests 10 = .ok (.aload_n 1, 1) := by decide +kernel
theorem dX7_addTests_11 : decode cX7_addTests 11 = .ok (.getfield 108, 3) := by decide +kernel
theorem dX7_addTests_14 : decode cX7_addTests 14 = .ok (.iload_n 3, 1) := by decide +kernel
theorem dX7_addTests_15 : decode cX7_addTests 15 = .ok (.aaload, 1) := by decide +kernel
theorem dX7_addTests_16 : decode cX7_addTests 16 = .ok (.astore 4, 2) := by decide +kernel
theorem dX7_addTests_18 : decode cX7_addTests 18 = .ok (.aload_n 0, 1) := by decide +kernel
theorem dX7_addTests_19 : decode cX7_addTests 19 = .ok (.getfield 18, 3) := by decide +kernel
theorem dX7_addTests_22 : decode cX7_addTests 22 = .ok (.aload 4, 2) := by decide +kernel
theorem dX7_addTests_24 : decode cX7_addTests 24 = .ok (.getfield 112, 3) := by decide +kernel
theorem dX7_addTests_27 : decode cX7_addTests 27 = .ok (.iaload, 1) := by decide +kernel
theorem dX7_addTests_28 : decode cX7_addTests 28 = .ok (.istore 5, 2) := by decide +kernel
theorem dX7_addTests_30 : decode cX7_addTests 30 = .ok (.aload 4, 2) := by decide +kernel
theorem dX7_addTests_32 : decode cX7_addTests 32 = .ok (.invokevirtual 117, 3) := by decide +kernel
theorem dX7_addTests_35 : decode cX7_addTests 35 = .ok (.ifCond .eq 16, 3) := by decide +kernel
theorem dX7_addTests_38 : decode cX7_addTests 38 = .ok (.aload_n 0, 1) := by decide +kernel
theorem dX7_addTests_39 : decode cX7_addTests 39 = .ok (.iload_n 2, 1) := by decide +kernel
theorem dX7_addTests_40 : decode cX7_addTests 40 = .ok (.iload 5, 2) := by decide +kernel
theorem dX7_addTests_42 : decode cX7_addTests 42 = .ok (.aload 4, 2) := by decide +kernel
theorem dX7_addTests_44 : decode cX7_addTests 44 = .ok (.invokevirtual 121, 3) := by decide +kernel
theorem dX7_addTests_47 : decode cX7_addTests 47 = .ok (.ineg, 1) := by decide +kernel
theorem dX7_addTests_48 : decode cX7_addTests 48 = .ok (.invokevirtual 55, 3) := by decide +kernel
theorem dX7_addTests_51 : decode cX7_addTests 51 = .ok (.aload 4, 2) := by decide +kernel
theorem dX7_addTests_53 : decode cX7_addTests 53 = .ok (.invokevirtual 125, 3) := by decide +kernel
theorem dX7_addTests_56 : decode cX7_addTests 56 = .ok (.ifCond .eq 15, 3) := by decide +kernel
theorem dX7_addTests_59 : decode cX7_addTests 59 = .ok (.aload_n 0, 1) := by decide +kernel
theorem dX7_addTests_60 : decode cX7_addTests 60 = .ok (.iload 5, 2) := by decide +kernel
theorem dX7_addTests_62 : decode cX7_addTests 62 = .ok (.iload_n 2, 1) := by decide +kernel
theorem dX7_addTests_63 : decode cX7_addTests 63 = .ok (.aload 4, 2) := by decide +kernel
theorem dX7_addTests_65 : decode cX7_addTests 65 = .ok (.invokevirtual 128, 3) := by decide +kernel
theorem dX7_addTests_68 : decode cX7_addTests 68 = .ok (.invokevirtual 55, 3) := by decide +kernel
theorem dX7_addTests_71 : decode cX7_addTests 71 = .ok (.iinc 3 1, 3) := by decide +kernel
theorem dX7_addTests_74 : decode cX7_addTests 74 = .ok (.goto (-72), 3) := by decide +kernel
theorem dX7_addTests_77 : decode cX7_addTests 77 = .ok (.return_, 1) := by decide +kernel
theorem dX7_addGap_0 : decode cX7_addGap 0 = .ok (.aload_n 0, 1) := by decide +kernel
theorem dX7_addGap_1 : decode cX7_addGap 1 = .ok (.getfield 45, 3) := by decide +kernel
theorem dX7_addGap_4 : decode cX7_addGap 4 = .ok (.sipush 615, 3) := by decide +kernel
theorem dX7_addGap_7 : decode cX7_addGap 7 = .ok (.if_icmp .ge 43, 3) := by decide +kernel
theorem dX7_addGap_10 : decode cX7_addGap 10 = .ok (.aload_n 0, 1) := by decide +kernel
theorem dX7_addGap_11 : decode cX7_addGap 11 = .ok (.getfield 21, 3) := by decide +kernel
theorem dX7_addGap_14 : decode cX7_addGap 14 = .ok (.aload_n 0, 1) := by decide +kernel
theorem dX7_addGap_15 : decode cX7_addGap 15 = .ok (.getfield 45, 3) := by decide +kernel
theorem dX7_addGap_18 : decode cX7_addGap 18 = .ok (.iload_n 1, 1) := by decide +kernel
theorem dX7_addGap_19 : decode cX7_addGap 19 = .ok (.iastore, 1) := by decide +kernel
theorem dX7_addGap_20 : decode cX7_addGap 20 = .ok (.aload_n 0, 1) := by decide +kernel
theorem dX7_addGap_21 : decode cX7_addGap 21 = .ok (.getfield 24, 3) := by decide +kernel
theorem dX7_addGap_24 : decode cX7_addGap 24 = .ok (.aload_n 0, 1) := by decide +kernel
theorem dX7_addGap_25 : decode cX7_addGap 25 = .ok (.getfield 45, 3) := by decide +kernel
theorem dX7_addGap_28 : decode cX7_addGap 28 = .ok (.iload_n 2, 1) := by decide +kernel
theorem dX7_addGap_29 : decode cX7_addGap 29 = .ok (.iastore, 1) := by decide +kernel
theorem dX7_addGap_30 : decode cX7_addGap 30 = .ok (.aload_n 0, 1) := by decide +kernel
theorem dX7_addGap_31 : decode cX7_addGap 31 = .ok (.getfield 27, 3) := by decide +kernel
theorem dX7_addGap_34 : decode cX7_addGap 34 = .ok (.aload_n 0, 1) := by decide +kernel
theorem dX7_addGap_35 : decode cX7_addGap 35 = .ok (.getfield 45, 3) := by decide +kernel
theorem dX7_addGap_38 : decode cX7_addGap 38 = .ok (.iload_n 3, 1) := by decide +kernel
theorem dX7_addGap_39 : decode cX7_addGap 39 = .ok (.iastore, 1) := by decide +kernel
theorem dX7_addGap_40 : decode cX7_addGap 40 = .ok (.aload_n 0, 1) := by decide +kernel
theorem dX7_addGap_41 : decode cX7_addGap 41 = .ok (.dup, 1) := by decide +kernel
theorem dX7_addGap_42 : decode cX7_addGap 42 = .ok (.getfield 45, 3) := by decide +kernel
theorem dX7_addGap_45 : decode cX7_addGap 45 = .ok (.iconst 1, 1) := by decide +kernel
theorem dX7_addGap_46 : decode cX7_addGap 46 = .ok (.iadd, 1) := by decide +kernel
theorem dX7_addGap_47 : decode cX7_addGap 47 = .ok (.putfield 45, 3) := by decide +kernel
theorem dX7_addGap_50 : decode cX7_addGap 50 = .ok (.return_, 1) := by decide +kernel
theorem dX7_settle_0 : decode cX7_settle 0 = .ok (.aload_n 0, 1) := by decide +kernel
theorem dX7_settle_1 : decode cX7_settle 1 = .ok (.getfield 9, 3) := by decide +kernel
theorem dX7_settle_4 : decode cX7_settle 4 = .ok (.iconst 0, 1) := by decide +kernel
theorem dX7_settle_5 : decode cX7_settle 5 = .ok (.invokestatic 49, 3) := by decide +kernel
theorem dX7_settle_8 : decode cX7_settle 8 = .ok (.iconst 1, 1) := by decide +kernel
theorem dX7_settle_9 : decode cX7_settle 9 = .ok (.istore_n 1, 1) := by decide +kernel
theorem dX7_settle_10 : decode cX7_settle 10 = .ok (.iconst 0, 1) := by decide +kernel
theorem dX7_settle_11 : decode cX7_settle 11 = .ok (.istore_n 2, 1) := by decide +kernel
theorem dX7_settle_12 : decode cX7_settle 12 = .ok (.iload_n 1, 1) := by decide +kernel
theorem dX7_settle_13 : decode cX7_settle 13 = .ok (.ifCond .eq 84, 3) := by decide +kernel
theorem dX7_settle_16 : decode cX7_settle 16 = .ok (.iload_n 2, 1) := by decide +kernel
theorem dX7_settle_17 : decode cX7_settle 17 = .ok (.bipush 41, 2) := by decide +kernel
theorem dX7_settle_19 : decode cX7_settle 19 = .ok (.if_icmp .gt 78, 3) := by decide +kernel
theorem dX7_settle_22 : decode cX7_settle 22 = .ok (.iconst 0, 1) := by decide +kernel
theorem dX7_settle_23 : decode cX7_settle 23 = .ok (.istore_n 1, 1) := by decide +kernel
theorem dX7_settle_24 : decode cX7_settle 24 = .ok (.iconst 0, 1) := by decide +kernel
theorem dX7_settle_25 : decode cX7_settle 25 = .ok (.istore_n 3, 1) := by decide +kernel
theorem dX7_settle_26 : decode cX7_settle 26 = .ok (.iload_n 3, 1) := by decide +kernel
theorem dX7_settle_27 : decode cX7_settle 27 = .ok (.aload_n 0, 1) := by decide +kernel
theorem dX7_settle_28 : decode cX7_settle 28 = .ok (.getfield 45, 3) := by decide +kernel
theorem dX7_settle_31 : decode cX7_settle 31 = .ok (.if_icmp .ge 60, 3) := by decide +kernel
theorem dX7_settle_34 : decode cX7_settle 34 = .ok (.aload_n 0, 1) := by decide +kernel
theorem dX7_settle_35 : decode cX7_settle 35 = .ok (.getfield 9, 3) := by decide +kernel
theorem dX7_settle_38 : decode cX7_settle 38 = .ok (.aload_n 0, 1) := by decide +kernel
theorem dX7_settle_39 : decode cX7_settle 39 = .ok (.getfield 21, 3) := by decide +kernel
theorem dX7_settle_42 : decode cX7_settle 42 = .ok (.iload_n 3, 1) := by decide +kernel
theorem dX7_settle_43 : decode cX7_settle 43 = .ok (.iaload, 1) := by decide +kernel
theorem dX7_settle_44 : decode cX7_settle 44 = .ok (.iaload, 1) := by decide +kernel
theorem dX7_settle_45 : decode cX7_settle 45 = .ok (.aload_n 0, 1) := by decide +kernel
theorem dX7_settle_46 : decode cX7_settle 46 = .ok (.getfield 27, 3) := by decide +kernel
theorem dX7_settle_49 : decode cX7_settle 49 = .ok (.iload_n 3, 1) := by decide +kernel
theorem dX7_settle_50 : decode cX7_settle 50 = .ok (.iaload, 1) := by decide +kernel
theorem dX7_settle_51 : decode cX7_settle 51 = .ok (.iadd, 1) := by decide +kernel
theorem dX7_settle_52 : decode cX7_settle 52 = .ok (.istore 4, 2) := by decide +kernel
theorem dX7_settle_54 : decode cX7_settle 54 = .ok (.iload 4, 2) := by decide +kernel
theorem dX7_settle_56 : decode cX7_settle 56 = .ok (.aload_n 0, 1) := by decide +kernel
theorem dX7_settle_57 : decode cX7_settle 57 = .ok (.getfield 9, 3) := by decide +kernel
theorem dX7_settle_60 : decode cX7_settle 60 = .ok (.aload_n 0, 1) := by decide +kernel
theorem dX7_settle_61 : decode cX7_settle 61 = .ok (.getfield 24, 3) := by decide +kernel
theorem dX7_settle_64 : decode cX7_settle 64 = .ok (.iload_n 3, 1) := by decide +kernel
theorem dX7_settle_65 : decode cX7_settle 65 = .ok (.iaload, 1) := by decide +kernel
theorem dX7_settle_66 : decode cX7_settle 66 = .ok (.iaload, 1) := by decide +kernel
theorem dX7_settle_67 : decode cX7_settle 67 = .ok (.if_icmp .le 18, 3) := by decide +kernel
theorem dX7_settle_70 : decode cX7_settle 70 = .ok (.aload_n 0, 1) := by decide +kernel
theorem dX7_settle_71 : decode cX7_settle 71 = .ok (.getfield 9, 3) := by decide +kernel
theorem dX7_settle_74 : decode cX7_settle 74 = .ok (.aload_n 0, 1) := by decide +kernel
theorem dX7_settle_75 : decode cX7_settle 75 = .ok (.getfield 24, 3) := by decide +kernel
theorem dX7_settle_78 : decode cX7_settle 78 = .ok (.iload_n 3, 1) := by decide +kernel
theorem dX7_settle_79 : decode cX7_settle 79 = .ok (.iaload, 1) := by decide +kernel
theorem dX7_settle_80 : decode cX7_settle 80 = .ok (.iload 4, 2) := by decide +kernel
theorem dX7_settle_82 : decode cX7_settle 82 = .ok (.iastore, 1) := by decide +kernel
theorem dX7_settle_83 : decode cX7_settle 83 = .ok (.iconst 1, 1) := by decide +kernel
theorem dX7_settle_84 : decode cX7_settle 84 = .ok (.istore_n 1, 1) := by decide +kernel
theorem dX7_settle_85 : decode cX7_settle 85 = .ok (.iinc 3 1, 3) := by decide +kernel
theorem dX7_settle_88 : decode cX7_settle 88 = .ok (.goto (-62), 3) := by decide +kernel
theorem dX7_settle_91 : decode cX7_settle 91 = .ok (.iinc 2 1, 3) := by decide +kernel
theorem dX7_settle_94 : decode cX7_settle 94 = .ok (.goto (-82), 3) := by decide +kernel
theorem dX7_settle_97 : decode cX7_settle 97 = .ok (.return_, 1) := by decide +kernel
theorem dX8_init_0 : decode cX8_init 0 = .ok (.aload_n 0, 1) := by decide +kernel
theorem dX8_init_1 : decode cX8_init 1 = .ok (.invokespecial 3, 3) := by decide +kernel
theorem dX8_init_4 : decode cX8_init 4 = .ok (.aload_n 0, 1) := by decide +kernel
theorem dX8_init_5 : decode cX8_init 5 = .ok (.iconst 3, 1) := by decide +kernel
theorem dX8_init_6 : decode cX8_init 6 = .ok (.newarray .int, 2) := by decide +kernel
theorem dX8_init_8 : decode cX8_init 8 = .ok (.putfield 9, 3) := by decide +kernel
theorem dX8_init_11 : decode cX8_init 11 = .ok (.aload_n 0, 1) := by decide +kernel
theorem dX8_init_12 : decode cX8_init 12 = .ok (.iconst 4, 1) := by decide +kernel
theorem dX8_init_13 : decode cX8_init 13 = .ok (.newarray .int, 2) := by decide +kernel
theorem dX8_init_15 : decode cX8_init 15 = .ok (.putfield 15, 3) := by decide +kernel
theorem dX8_init_18 : decode cX8_init 18 = .ok (.aload_n 0, 1) := by decide +kernel
theorem dX8_init_19 : decode cX8_init 19 = .ok (.iconst 3, 1) := by decide +kernel
theorem dX8_init_20 : decode cX8_init 20 = .ok (.newarray .int, 2) := by decide +kernel
theorem dX8_init_22 : decode cX8_init 22 = .ok (.putfield 18, 3) := by decide +kernel
theorem dX8_init_25 : decode cX8_init 25 = .ok (.aload_n 0, 1) := by decide +kernel
theorem dX8_init_26 : decode cX8_init 26 = .ok (.iconst 4, 1) := by decide +kernel
theorem dX8_init_27 : decode cX8_init 27 = .ok (.newarray .int, 2) := by decide +kernel
theorem dX8_init_29 : decode cX8_init 29 = .ok (.putfield 21, 3) := by decide +kernel
theorem dX8_init_32 : decode cX8_init 32 = .ok (.return_, 1) := by decide +kernel
theorem dX8_start_0 : decode cX8_start 0 = .ok (.aload_n 0, 1) := by decide +kernel
theorem dX8_start_1 : decode cX8_start 1 = .ok (.getfield 9, 3) := by decide +kernel
theorem dX8_start_4 : decode cX8_start 4 = .ok (.iconst 0, 1) := by decide +kernel
theorem dX8_start_5 : decode cX8_start 5 = .ok (.invokestatic 24, 3) := by decide +kernel
theorem dX8_start_8 : decode cX8_start 8 = .ok (.aload_n 0, 1) := by decide +kernel
theorem dX8_start_9 : decode cX8_start 9 = .ok (.getfield 15, 3) := by decide +kernel
theorem dX8_start_12 : decode cX8_start 12 = .ok (.iconst 0, 1) := by decide +kernel
theorem dX8_start_13 : decode cX8_start 13 = .ok (.invokestatic 24, 3) := by decide +kernel
theorem dX8_start_16 : decode cX8_start 16 = .ok (.aload_n 0, 1) := by decide +kernel
theorem dX8_start_17 : decode cX8_start 17 = .ok (.iconst 0, 1) := by decide +kernel
theorem dX8_start_18 : decode cX8_start 18 = .ok (.putfield 30, 3) := by decide +kernel
theorem dX8_start_21 : decode cX8_start 21 = .ok (.aload_n 0, 1) := by decide +kernel
theorem dX8_start_22 : decode cX8_start 22 = .ok (.iconst 0, 1) := by decide +kernel
theorem dX8_start_23 : decode cX8_start 23 = .ok (.putfield 34, 3) := by decide +kernel
theorem dX8_start_26 : decode cX8_start 26 = .ok (.aload_n 0, 1) := by decide +kernel
theorem dX8_start_27 : decode cX8_start 27 = .ok (.aload_n 1, 1) := by decide +kernel
theorem dX8_start_28 : decode cX8_start 28 = .ok (.aload_n 0, 1) := by decide +kernel
theorem dX8_start_29 : decode cX8_start 29 = .ok (.getfield 9, 3) := by decide +kernel
theorem dX8_start_32 : decode cX8_start 32 = .ok (.aload_n 0, 1) := by decide +kernel
theorem dX8_start_33 : decode cX8_start 33 = .ok (.getfield 15, 3) := by decide +kernel
theorem dX8_start_36 : decode cX8_start 36 = .ok (.invokevirtual 37, 3) := by decide +kernel
theorem dX8_start_39 : decode cX8_start 39 = .ok (.putfield 43, 3) := by decide +kernel
theorem dX8_start_42 : decode cX8_start 42 = .ok (.aload_n 0, 1) := by decide +kernel
theorem dX8_start_43 : decode cX8_start 43 = .ok (.getfield 43, 3) := by decide +kernel
theorem dX8_start_46 : decode cX8_start 46 = .ok (.ireturn, 1) := by decide +kernel
theorem dX8_greatestAmount_0 : decode cX8_greatestAmount 0 = .ok (.aload_n 0, 1) := by decide +kernel
theorem dX8_greatestAmount_1 : decode cX8_greatestAmount 1 = .ok (.getfield 15, 3) := by decide +kernel
theorem dX8_greatestAmount_4 : decode cX8_greatestAmount 4 = .ok (.iconst 1, 1) := by decide +kernel
theorem dX8_greatestAmount_5 : decode cX8_greatestAmount 5 = .ok (.iaload, 1) := by decide +kernel
theorem dX8_greatestAmount_6 : decode cX8_greatestAmount 6 = .ok (.aload_n 0, 1) := by decide +kernel
theorem dX8_greatestAmount_7 : decode cX8_greatestAmount 7 = .ok (.getfield 15, 3) := by decide +kernel
theorem dX8_greatestAmount_10 : decode cX8_greatestAmount 10 = .ok (.iconst 2, 1) := by decide +kernel
theorem dX8_greatestAmount_11 : decode cX8_greatestAmount 11 = .ok (.iaload, 1) := by decide +kernel
theorem dX8_greatestAmount_12 : decode cX8_greatestAmount 12 = .ok (.aload_n 0, 1) := by decide +kernel
theorem dX8_greatestAmount_13 : decode cX8_greatestAmount 13 = .ok (.getfield 15, 3) := by decide +kernel
theorem dX8_greatestAmount_16 : decode cX8_greatestAmount 16 = .ok (.iconst 3, 1) := by decide +kernel
theorem dX8_greatestAmount_17 : decode cX8_greatestAmount 17 = .ok (.iaload, 1) := by decide +kernel
theorem dX8_greatestAmount_18 : decode cX8_greatestAmount 18 = .ok (.invokestatic 47, 3) := by decide +kernel
theorem dX8_greatestAmount_21 : decode cX8_greatestAmount 21 = .ok (.invokestatic 47, 3) := by decide +kernel
theorem dX8_greatestAmount_24 : decode cX8_greatestAmount 24 = .ok (.ireturn, 1) := by decide +kernel
theorem dX8_linger_0 : decode cX8_linger 0 = .ok (.iconst 1, 1) := by decide +kernel
theorem dX8_linger_1 : decode cX8_linger 1 = .ok (.istore_n 3, 1) := by decide +kernel
theorem dX8_linger_2 : decode cX8_linger 2 = .ok (.iload_n 3, 1) := by decide +kernel
theorem dX8_linger_3 : decode cX8_linger 3 = .ok (.iconst 4, 1) := by decide +kernel
theorem dX8_linger_4 : decode cX8_linger 4 = .ok (.if_icmp .ge 23, 3) := by decide +kernel
theorem dX8_linger_7 : decode cX8_linger 7 = .ok (.aload_n 0, 1) := by decide +kernel
theorem dX8_linger_8 : decode cX8_linger 8 = .ok (.getfield 21, 3) := by decide +kernel
theorem dX8_linger_11 : decode cX8_linger 11 = .ok (.iload_n 3, 1) := by decide +kernel
theorem dX8_linger_12 : decode cX8_linger 12 = .ok (.aload_n 0, 1) := by decide +kernel
theorem dX8_linger_13 : decode cX8_linger 13 = .ok (.getfield 15, 3) := by decide +kernel
theorem dX8_linger_16 : decode cX8_linger 16 = .ok (.iload_n 3, 1) := by decide +kernel
theorem dX8_linger_17 : decode cX8_linger 17 = .ok (.iaload, 1) := by decide +kernel
theorem dX8_linger_18 : decode cX8_linger 18 = .ok (.iload_n 2, 1) := by decide +kernel
theorem dX8_linger_19 : decode cX8_linger 19 = .ok (.iadd, 1) := by decide +kernel
theorem dX8_linger_20 : decode cX8_linger 20 = .ok (.iastore, 1) := by decide +kernel
theorem dX8_linger_21 : decode cX8_linger 21 = .ok (.iinc 3 1, 3) := by decide +kernel
theorem dX8_linger_24 : decode cX8_linger 24 = .ok (.goto (-22), 3) := by decide +kernel
theorem dX8_linger_27 : decode cX8_linger 27 = .ok (.aload_n 1, 1) := by decide +kernel
theorem dX8_linger_28 : decode cX8_linger 28 = .ok (.aload_n 0, 1) := by decide +kernel
theorem dX8_linger_29 : decode cX8_linger 29 = .ok (.getfield 9, 3) := by decide +kernel
theorem dX8_linger_32 : decode cX8_linger 32 = .ok (.aload_n 0, 1) := by decide +kernel
theorem dX8_linger_33 : decode cX8_linger 33 = .ok (.getfield 21, 3) := by decide +kernel
theorem dX8_linger_36 : decode cX8_linger 36 = .ok (.invokevirtual 37, 3) := by decide +kernel
theorem dX8_linger_39 : decode cX8_linger 39 = .ok (.ifCond .ne 5, 3) := by decide +kernel
theorem dX8_linger_42 : decode cX8_linger 42 = .ok (.iconst 0, 1) := by decide +kernel
theorem dX8_linger_43 : decode cX8_linger 43 = .ok (.ireturn, 1) := by decide +kernel
theorem dX8_linger_44 : decode cX8_linger 44 = .ok (.aload_n 0, 1) := by decide +kernel
theorem dX8_linger_45 : decode cX8_linger 45 = .ok (.getfield 21, 3) := by decide +kernel
theorem dX8_linger_48 : decode cX8_linger 48 = .ok (.iconst 0, 1) := by decide +kernel
theorem dX8_linger_49 : decode cX8_linger 49 = .ok (.aload_n 0, 1) := by decide +kernel
theorem dX8_linger_50 : decode cX8_linger 50 = .ok (.getfield 15, 3) := by decide +kernel
theorem dX8_linger_53 : decode cX8_linger 53 = .ok (.iconst 0, 1) := by decide +kernel
theorem dX8_linger_54 : decode cX8_linger 54 = .ok (.iconst 4, 1) := by decide +kernel
theorem dX8_linger_55 : decode cX8_linger 55 = .ok (.invokestatic 53, 3) := by decide +kernel
theorem dX8_linger_58 : decode cX8_linger 58 = .ok (.aload_n 0, 1) := by decide +kernel
theorem dX8_linger_59 : decode cX8_linger 59 = .ok (.dup, 1) := by decide +kernel
theorem dX8_linger_60 : decode cX8_linger 60 = .ok (.getfield 30, 3) := by decide +kernel
theorem dX8_linger_63 : decode cX8_linger 63 = .ok (.iload_n 2, 1) := by decide +kernel
theorem dX8_linger_64 : decode cX8_linger 64 = .ok (.iadd, 1) := by decide +kernel
theorem dX8_linger_65 : decode cX8_linger 65 = .ok (.putfield 30, 3) := by decide +kernel
theorem dX8_linger_68 : decode cX8_linger 68 = .ok (.iconst 1, 1) := by decide +kernel
theorem dX8_linger_69 : decode cX8_linger 69 = .ok (.ireturn, 1) := by decide +kernel
theorem dX8_take_0 : decode cX8_take 0 = .ok (.aload_n 2, 1) := by decide +kernel
theorem dX8_take_1 : decode cX8_take 1 = .ok (.aload_n 0, 1) := by decide +kernel
theorem dX8_take_2 : decode cX8_take 2 = .ok (.getfield 9, 3) := by decide +kernel
theorem dX8_take_5 : decode cX8_take 5 = .ok (.invokevirtual 59, 3) := by decide +kernel
theorem dX8_take_8 : decode cX8_take 8 = .ok (.ifCond .eq 14, 3) := by decide +kernel
theorem dX8_take_11 : decode cX8_take 11 = .ok (.aload_n 2, 1) := by decide +kernel
theorem dX8_take_12 : decode cX8_take 12 = .ok (.aload_n 0, 1) := by decide +kernel
theorem dX8_take_13 : decode cX8_take 13 = .ok (.getfield 15, 3) := by decide +kernel
theorem dX8_take_16 : decode cX8_take 16 = .ok (.invokevirtual 65, 3) := by decide +kernel
theorem dX8_take_19 : decode cX8_take 19 = .ok (.ifCond .ne 5, 3) := by decide +kernel
theorem dX8_take_22 : decode cX8_take 22 = .ok (.iconst 0, 1) := by decide +kernel
theorem dX8_take_23 : decode cX8_take 23 = .ok (.ireturn, 1) := by decide +kernel
theorem dX8_take_24 : decode cX8_take 24 = .ok (.aload_n 0, 1) := by decide +kernel
theorem dX8_take_25 : decode cX8_take 25 = .ok (.getfield 9, 3) := by decide +kernel
theorem dX8_take_28 : decode cX8_take 28 = .ok (.iconst 0, 1) := by decide +kernel
theorem dX8_take_29 : decode cX8_take 29 = .ok (.aload_n 0, 1) := by decide +kernel
theorem dX8_take_30 : decode cX8_take 30 = .ok (.getfield 18, 3) := by decide +kernel
theorem dX8_take_33 : decode cX8_take 33 = .ok (.iconst 0, 1) := by decide +kernel
theorem dX8_take_34 : decode cX8_take 34 = .ok (.iconst 3, 1) := by decide +kernel
theorem dX8_take_35 : decode cX8_take 35 = .ok (.invokestatic 53, 3) := by decide +kernel
theorem dX8_take_38 : decode cX8_take 38 = .ok (.aload_n 2, 1) := by decide +kernel
theorem dX8_take_39 : decode cX8_take 39 = .ok (.aload_n 0, 1) := by decide +kernel
theorem dX8_take_40 : decode cX8_take 40 = .ok (.getfield 18, 3) := by decide +kernel
theorem dX8_take_43 : decode cX8_take 43 = .ok (.invokevirtual 68, 3) := by decide +kernel
theorem dX8_take_46 : decode cX8_take 46 = .ok (.iconst 1, 1) := by decide +kernel
theorem dX8_take_47 : decode cX8_take 47 = .ok (.istore_n 3, 1) := by decide +kernel
theorem dX8_take_48 : decode cX8_take 48 = .ok (.iload_n 3, 1) := by decide +kernel
theorem dX8_take_49 : decode cX8_take 49 = .ok (.iconst 4, 1) := by decide +kernel
theorem dX8_take_50 : decode cX8_take 50 = .ok (.if_icmp .ge 33, 3) := by decide +kernel
theorem dX8_take_53 : decode cX8_take 53 = .ok (.aload_n 0, 1) := by decide +kernel
theorem dX8_take_54 : decode cX8_take 54 = .ok (.getfield 21, 3) := by decide +kernel
theorem dX8_take_57 : decode cX8_take 57 = .ok (.iload_n 3, 1) := by decide +kernel
theorem dX8_take_58 : decode cX8_take 58 = .ok (.aload_n 2, 1) := by decide +kernel
theorem dX8_take_59 : decode cX8_take 59 = .ok (.iload_n 3, 1) := by decide +kernel
theorem dX8_take_60 : decode cX8_take 60 = .ok (.invokevirtual 72, 3) := by decide +kernel
theorem dX8_take_63 : decode cX8_take 63 = .ok (.ifCond .eq 7, 3) := by decide +kernel
theorem dX8_take_66 : decode cX8_take 66 = .ok (.iconst 0, 1) := by decide +kernel
theorem dX8_take_67 : decode cX8_take 67 = .ok (.goto 9, 3) := by decide +kernel
theorem dX8_take_70 : decode cX8_take 70 = .ok (.aload_n 0, 1) := by decide +kernel
theorem dX8_take_71 : decode cX8_take 71 = .ok (.getfield 15, 3) := by decide +kernel
theorem dX8_take_74 : decode cX8_take 74 = .ok (.iload_n 3, 1) := by decide +kernel
theorem dX8_take_75 : decode cX8_take 75 = .ok (.iaload, 1) := by decide +kernel
theorem dX8_take_76 : decode cX8_take 76 = .ok (.iastore, 1) := by decide +kernel
theorem dX8_take_77 : decode cX8_take 77 = .ok (.iinc 3 1, 3) := by decide +kernel
theorem dX8_take_80 : decode cX8_take 80 = .ok (.goto (-32), 3) := by decide +kernel
theorem dX8_take_83 : decode cX8_take 83 = .ok (.aload_n 1, 1) := by decide +kernel
theorem dX8_take_84 : decode cX8_take 84 = .ok (.aload_n 0, 1) := by decide +kernel
theorem dX8_take_85 : decode cX8_take 85 = .ok (.getfield 18, 3) := by decide +kernel
theorem dX8_take_88 : decode cX8_take 88 = .ok (.aload_n 0, 1) := by decide +kernel
theorem dX8_take_89 : decode cX8_take 89 = .ok (.getfield 21, 3) := by decide +kernel
theorem dX8_take_92 : decode cX8_take 92 = .ok (.invokevirtual 37, 3) := by decide +kernel
theorem dX8_take_95 : decode cX8_take 95 = .ok (.ifCond .ne 5, 3) := by decide +kernel
theorem dX8_take_98 : decode cX8_take 98 = .ok (.iconst 0, 1) := by decide +kernel
theorem dX8_take_99 : decode cX8_take 99 = .ok (.ireturn, 1) := by decide +kernel
theorem dX8_take_100 : decode cX8_take 100 = .ok (.aload_n 0, 1) := by decide +kernel
theorem dX8_take_101 : decode cX8_take 101 = .ok (.getfield 18, 3) := by decide +kernel
theorem dX8_take_104 : decode cX8_take 104 = .ok (.iconst 0, 1) := by decide +kernel
theorem dX8_take_105 : decode cX8_take 105 = .ok (.aload_n 0, 1) := by decide +kernel
theorem dX8_take_106 : decode cX8_take 106 = .ok (.getfield 9, 3) := by decide +kernel
theorem dX8_take_109 : decode cX8_take 109 = .ok (.iconst 0, 1) := by decide +kernel
theorem dX8_take_110 : decode cX8_take 110 = .ok (.iconst 3, 1) := by decide +kernel
theorem dX8_take_111 : decode cX8_take 111 = .ok (.invokestatic 53, 3) := by decide +kernel
theorem dX8_take_114 : decode cX8_take 114 = .ok (.aload_n 0, 1) := by decide +kernel
theorem dX8_take_115 : decode cX8_take 115 = .ok (.getfield 21, 3) := by decide +kernel
theorem dX8_take_118 : decode cX8_take 118 = .ok (.iconst 0, 1) := by decide +kernel
theorem dX8_take_119 : decode cX8_take 119 = .ok (.aload_n 0, 1) := by decide +kernel
theorem dX8_take_120 : decode cX8_take 120 = .ok (.getfield 15, 3) := by decide +kernel
theorem dX8_take_123 : decode cX8_take 123 = .ok (.iconst 0, 1) := by decide +kernel
theorem dX8_take_124 : decode cX8_take 124 = .ok (.iconst 4, 1) := by decide +kernel
theorem dX8_take_125 : decode cX8_take 125 = .ok (.invokestatic 53, 3) := by decide +kernel
theorem dX8_take_128 : decode cX8_take 128 = .ok (.aload_n 0, 1) := by decide +kernel
theorem dX8_take_129 : decode cX8_take 129 = .ok (.dup, 1) := by decide +kernel
theorem dX8_take_130 : decode cX8_take 130 = .ok (.getfield 34, 3) := by decide +kernel
theorem dX8_take_133 : decode cX8_take 133 = .ok (.iconst 1, 1) := by decide +kernel
theorem dX8_take_134 : decode cX8_take 134 = .ok (.iadd, 1) := by decide +kernel
theorem dX8_take_135 : decode cX8_take 135 = .ok (.putfield 34, 3) := by decide +kernel
theorem dX8_take_138 : decode cX8_take 138 = .ok (.iconst 1, 1) := by decide +kernel
theorem dX8_take_139 : decode cX8_take 139 = .ok (.ireturn, 1) := by decide +kernel
theorem dX9_init_0 : decode cX9_init 0 = .ok (.aload_n 0, 1) := by decide +kernel
theorem dX9_init_1 : decode cX9_init 1 = .ok (.invokespecial 3, 3) := by decide +kernel
theorem dX9_init_4 : decode cX9_init 4 = .ok (.aload_n 0, 1) := by decide +kernel
theorem dX9_init_5 : decode cX9_init 5 = .ok (.bipush 16, 2) := by decide +kernel
theorem dX9_init_7 : decode cX9_init 7 = .ok (.newarray .int, 2) := by decide +kernel
theorem dX9_init_9 : decode cX9_init 9 = .ok (.putfield 9, 3) := by decide +kernel
theorem dX9_init_12 : decode cX9_init 12 = .ok (.return_, 1) := by decide +kernel
theorem dX9_sum_0 : decode cX9_sum 0 = .ok (.iload_n 0, 1) := by decide +kernel
theorem dX9_sum_1 : decode cX9_sum 1 = .ok (.ldc 15, 2) := by decide +kernel
theorem dX9_sum_3 : decode cX9_sum 3 = .ok (.if_icmp .eq 9, 3) := by decide +kernel
theorem dX9_sum_6 : decode cX9_sum 6 = .ok (.iload_n 1, 1) := by decide +kernel
theorem dX9_sum_7 : decode cX9_sum 7 = .ok (.ldc 15, 2) := by decide +kernel
theorem dX9_sum_9 : decode cX9_sum 9 = .ok (.if_icmp .ne 6, 3) := by decide +kernel
theorem dX9_sum_12 : decode cX9_sum 12 = .ok (.ldc 15, 2) := by decide +kernel
theorem dX9_sum_14 : decode cX9_sum 14 = .ok (.ireturn, 1) := by decide +kernel
theorem dX9_sum_15 : decode cX9_sum 15 = .ok (.iload_n 0, 1) := by decide +kernel
theorem dX9_sum_16 : decode cX9_sum 16 = .ok (.iload_n 1, 1) := by decide +kernel
theorem dX9_sum_17 : decode cX9_sum 17 = .ok (.iadd, 1) := by decide +kernel
theorem dX9_sum_18 : decode cX9_sum 18 = .ok (.iload_n 0, 1) := by decide +kernel
theorem dX9_sum_19 : decode cX9_sum 19 = .ok (.iload_n 1, 1) := by decide +kernel
theorem dX9_sum_20 : decode cX9_sum 20 = .ok (.ior, 1) := by decide +kernel
theorem dX9_sum_21 : decode cX9_sum 21 = .ok (.iconst 1, 1) := by decide +kernel
theorem dX9_sum_22 : decode cX9_sum 22 = .ok (.iand, 1) := by decide +kernel
theorem dX9_sum_23 : decode cX9_sum 23 = .ok (.isub, 1) := by decide +kernel
theorem dX9_sum_24 : decode cX9_sum 24 = .ok (.ireturn, 1) := by decide +kernel
theorem dX9_putAllClocksAtZero_0 : decode cX9_putAllClocksAtZero 0 = .ok (.aload_n 0, 1) := by decide +kernel
theorem dX9_putAllClocksAtZero_1 : decode cX9_putAllClocksAtZero 1 = .ok (.getfield 9, 3) := by decide +kernel
theorem dX9_putAllClocksAtZero_4 : decode cX9_putAllClocksAtZero 4 = .ok (.iconst 1, 1) := by decide +kernel
theorem dX9_putAllClocksAtZero_5 : decode cX9_putAllClocksAtZero 5 = .ok (.invokestatic 16, 3) := by decide +kernel
theorem dX9_putAllClocksAtZero_8 : decode cX9_putAllClocksAtZero 8 = .ok (.return_, 1) := by decide +kernel
theorem dX9_narrow_0 : decode cX9_narrow 0 = .ok (.iload_n 3, 1) := by decide +kernel
theorem dX9_narrow_1 : decode cX9_narrow 1 = .ok (.aload_n 0, 1) := by decide +kernel
theorem dX9_narrow_2 : decode cX9_narrow 2 = .ok (.getfield 9, 3) := by decide +kernel
theorem dX9_narrow_5 : decode cX9_narrow 5 = .ok (.iconst 4, 1) := by decide +kernel
theorem dX9_narrow_6 : decode cX9_narrow 6 = .ok (.iload_n 1, 1) := by decide +kernel
theorem dX9_narrow_7 : decode cX9_narrow 7 = .ok (.imul, 1) := by decide +kernel
theorem dX9_narrow_8 : decode cX9_narrow 8 = .ok (.iload_n 2, 1) := by decide +kernel
theorem dX9_narrow_9 : decode cX9_narrow 9 = .ok (.iadd, 1) := by decide +kernel
theorem dX9_narrow_10 : decode cX9_narrow 10 = .ok (.iaload, 1) := by decide +kernel
theorem dX9_narrow_11 : decode cX9_narrow 11 = .ok (.if_icmp .lt 5, 3) := by decide +kernel
theorem dX9_narrow_14 : decode cX9_narrow 14 = .ok (.iconst 1, 1) := by decide +kernel
theorem dX9_narrow_15 : decode cX9_narrow 15 = .ok (.ireturn, 1) := by decide +kernel
theorem dX9_narrow_16 : decode cX9_narrow 16 = .ok (.iload_n 3, 1) := by decide +kernel
theorem dX9_narrow_17 : decode cX9_narrow 17 = .ok (.aload_n 0, 1) := by decide +kernel
theorem dX9_narrow_18 : decode cX9_narrow 18 = .ok (.getfield 9, 3) := by decide +kernel
theorem dX9_narrow_21 : decode cX9_narrow 21 = .ok (.iconst 4, 1) := by decide +kernel
theorem dX9_narrow_22 : decode cX9_narrow 22 = .ok (.iload_n 2, 1) := by decide +kernel
theorem dX9_narrow_23 : decode cX9_narrow 23 = .ok (.imul, 1) := by decide +kernel
theorem dX9_narrow_24 : decode cX9_narrow 24 = .ok (.iload_n 1, 1) := by decide +kernel
theorem dX9_narrow_25 : decode cX9_narrow 25 = .ok (.iadd, 1) := by decide +kernel
theorem dX9_narrow_26 : decode cX9_narrow 26 = .ok (.iaload, 1) := by decide +kernel
theorem dX9_narrow_27 : decode cX9_narrow 27 = .ok (.invokestatic 22, 3) := by decide +kernel
theorem dX9_narrow_30 : decode cX9_narrow 30 = .ok (.iconst 1, 1) := by decide +kernel
theorem dX9_narrow_31 : decode cX9_narrow 31 = .ok (.if_icmp .ge 5, 3) := by decide +kernel
theorem dX9_narrow_34 : decode cX9_narrow 34 = .ok (.iconst 0, 1) := by decide +kernel
theorem dX9_narrow_35 : decode cX9_narrow 35 = .ok (.ireturn, 1) := by decide +kernel
theorem dX9_narrow_36 : decode cX9_narrow 36 = .ok (.iconst 0, 1) := by decide +kernel
theorem dX9_narrow_37 : decode cX9_narrow 37 = .ok (.istore 4, 2) := by decide +kernel
theorem dX9_narrow_39 : decode cX9_narrow 39 = .ok (.iload 4, 2) := by decide +kernel
theorem dX9_narrow_41 : decode cX9_narrow 41 = .ok (.iconst 4, 1) := by decide +kernel
theorem dX9_narrow_42 : decode cX9_narrow 42 = .ok (.if_icmp .ge 100, 3) := by decide +kernel
theorem dX9_narrow_45 : decode cX9_narrow 45 = .ok (.aload_n 0, 1) := by decide +kernel
theorem dX9_narrow_46 : decode cX9_narrow 46 = .ok (.getfield 9, 3) := by decide +kernel
theorem dX9_narrow_49 : decode cX9_narrow 49 = .ok (.iconst 4, 1) := by decide +kernel
theorem dX9_narrow_50 : decode cX9_narrow 50 = .ok (.iload 4, 2) := by decide +kernel
theorem dX9_narrow_52 : decode cX9_narrow 52 = .ok (.imul, 1) := by decide +kernel
theorem dX9_narrow_53 : decode cX9_narrow 53 = .ok (.iload_n 1, 1) := by decide +kernel
theorem dX9_narrow_54 : decode cX9_narrow 54 = .ok (.iadd, 1) := by decide +kernel
theorem dX9_narrow_55 : decode cX9_narrow 55 = .ok (.iaload, 1) := by decide +kernel
theorem dX9_narrow_56 : decode cX9_narrow 56 = .ok (.iload_n 3, 1) := by decide +kernel
theorem dX9_narrow_57 : decode cX9_narrow 57 = .ok (.invokestatic 22, 3) := by decide +kernel
theorem dX9_narrow_60 : decode cX9_narrow 60 = .ok (.istore 5, 2) := by decide +kernel
theorem dX9_narrow_62 : decode cX9_narrow 62 = .ok (.iload 5, 2) := by decide +kernel
theorem dX9_narrow_64 : decode cX9_narrow 64 = .ok (.ldc 15, 2) := by decide +kernel
theorem dX9_narrow_66 : decode cX9_narrow 66 = .ok (.if_icmp .ne 6, 3) := by decide +kernel
theorem dX9_narrow_69 : decode cX9_narrow 69 = .ok (.goto 67, 3) := by decide +kernel
theorem dX9_narrow_72 : decode cX9_narrow 72 = .ok (.iconst 0, 1) := by decide +kernel
theorem dX9_narrow_73 : decode cX9_narrow 73 = .ok (.istore 6, 2) := by decide +kernel
theorem dX9_narrow_75 : decode cX9_narrow 75 = .ok (.iload 6, 2) := by decide +kernel
theorem dX9_narrow_77 : decode cX9_narrow 77 = .ok (.iconst 4, 1) := by decide +kernel
theorem dX9_narrow_78 : decode cX9_narrow 78 = .ok (.if_icmp .ge 58, 3) := by decide +kernel
theorem dX9_narrow_81 : decode cX9_narrow 81 = .ok (.iload 5, 2) := by decide +kernel
theorem dX9_narrow_83 : decode cX9_narrow 83 = .ok (.aload_n 0, 1) := by decide +kernel
theorem dX9_narrow_84 : decode cX9_narrow 84 = .ok (.getfield 9, 3) := by decide +kernel
theorem dX9_narrow_87 : decode cX9_narrow 87 = .ok (.iconst 4, 1) := by decide +kernel
theorem dX9_narrow_88 : decode cX9_narrow 88 = .ok (.iload_n 2, 1) := by decide +kernel
theorem dX9_narrow_89 : decode cX9_narrow 89 = .ok (.imul, 1) := by decide +kernel
theorem dX9_narrow_90 : decode cX9_narrow 90 = .ok (.iload 6, 2) := by decide +kernel
theorem dX9_narrow_92 : decode cX9_narrow 92 = .ok (.iadd, 1) := by decide +kernel
theorem dX9_narrow_93 : decode cX9_narrow 93 = .ok (.iaload, 1) := by decide +kernel
theorem dX9_narrow_94 : decode cX9_narrow 94 = .ok (.invokestatic 22, 3) := by decide +kernel
theorem dX9_narrow_97 : decode cX9_narrow 97 = .ok (.istore 7, 2) := by decide +kernel
theorem dX9_narrow_99 : decode cX9_narrow 99 = .ok (.iload 7, 2) := by decide +kernel
theorem dX9_narrow_101 : decode cX9_narrow 101 = .ok (.aload_n 0, 1) := by decide +kernel
theorem dX9_narrow_102 : decode cX9_narrow 102 = .ok (.getfield 9, 3) := by decide +kernel
theorem dX9_narrow_105 : decode cX9_narrow 105 = .ok (.iconst 4, 1) := by decide +kernel
theorem dX9_narrow_106 : decode cX9_narrow 106 = .ok (.iload 4, 2) := by decide +kernel
theorem dX9_narrow_108 : decode cX9_narrow 108 = .ok (.imul, 1) := by decide +kernel
theorem dX9_narrow_109 : decode cX9_narrow 109 = .ok (.iload 6, 2) := by decide +kernel
theorem dX9_narrow_111 : decode cX9_narrow 111 = .ok (.iadd, 1) := by decide +kernel
theorem dX9_narrow_112 : decode cX9_narrow 112 = .ok (.iaload, 1) := by decide +kernel
theorem dX9_narrow_113 : decode cX9_narrow 113 = .ok (.if_icmp .ge 17, 3) := by decide +kernel
theorem dX9_narrow_116 : decode cX9_narrow 116 = .ok (.aload_n 0, 1) := by decide +kernel
theorem dX9_narrow_117 : decode cX9_narrow 117 = .ok (.getfield 9, 3) := by decide +kernel
theorem dX9_narrow_120 : decode cX9_narrow 120 = .ok (.iconst 4, 1) := by decide +kernel
theorem dX9_narrow_121 : decode cX9_narrow 121 = .ok (.iload 4, 2) := by decide +kernel
theorem dX9_narrow_123 : decode cX9_narrow 123 = .ok (.imul, 1) := by decide +kernel
theorem dX9_narrow_124 : decode cX9_narrow 124 = .ok (.iload 6, 2) := by decide +kernel
theorem dX9_narrow_126 : decode cX9_narrow 126 = .ok (.iadd, 1) := by decide +kernel
theorem dX9_narrow_127 : decode cX9_narrow 127 = .ok (.iload 7, 2) := by decide +kernel
theorem dX9_narrow_129 : decode cX9_narrow 129 = .ok (.iastore, 1) := by decide +kernel
theorem dX9_narrow_130 : decode cX9_narrow 130 = .ok (.iinc 6 1, 3) := by decide +kernel
theorem dX9_narrow_133 : decode cX9_narrow 133 = .ok (.goto (-58), 3) := by decide +kernel
theorem dX9_narrow_136 : decode cX9_narrow 136 = .ok (.iinc 4 1, 3) := by decide +kernel
theorem dX9_narrow_139 : decode cX9_narrow 139 = .ok (.goto (-100), 3) := by decide +kernel
theorem dX9_narrow_142 : decode cX9_narrow 142 = .ok (.iconst 1, 1) := by decide +kernel
theorem dX9_narrow_143 : decode cX9_narrow 143 = .ok (.ireturn, 1) := by decide +kernel
theorem dX9_setToZero_0 : decode cX9_setToZero 0 = .ok (.iconst 0, 1) := by decide +kernel
theorem dX9_setToZero_1 : decode cX9_setToZero 1 = .ok (.istore_n 2, 1) := by decide +kernel
theorem dX9_setToZero_2 : decode cX9_setToZero 2 = .ok (.iload_n 2, 1) := by decide +kernel
theorem dX9_setToZero_3 : decode cX9_setToZero 3 = .ok (.iconst 4, 1) := by decide +kernel
theorem dX9_setToZero_4 : decode cX9_setToZero 4 = .ok (.if_icmp .ge 43, 3) := by decide +kernel
theorem dX9_setToZero_7 : decode cX9_setToZero 7 = .ok (.aload_n 0, 1) := by decide +kernel
theorem dX9_setToZero_8 : decode cX9_setToZero 8 = .ok (.getfield 9, 3) := by decide +kernel
theorem dX9_setToZero_11 : decode cX9_setToZero 11 = .ok (.iconst 4, 1) := by decide +kernel
theorem dX9_setToZero_12 : decode cX9_setToZero 12 = .ok (.iload_n 1, 1) := by decide +kernel
theorem dX9_setToZero_13 : decode cX9_setToZero 13 = .ok (.imul, 1) := by decide +kernel
theorem dX9_setToZero_14 : decode cX9_setToZero 14 = .ok (.iload_n 2, 1) := by decide +kernel
theorem dX9_setToZero_15 : decode cX9_setToZero 15 = .ok (.iadd, 1) := by decide +kernel
theorem dX9_setToZero_16 : decode cX9_setToZero 16 = .ok (.aload_n 0, 1) := by decide +kernel
theorem dX9_setToZero_17 : decode cX9_setToZero 17 = .ok (.getfield 9, 3) := by decide +kernel
theorem dX9_setToZero_20 : decode cX9_setToZero 20 = .ok (.iload_n 2, 1) := by decide +kernel
theorem dX9_setToZero_21 : decode cX9_setToZero 21 = .ok (.iaload, 1) := by decide +kernel
theorem dX9_setToZero_22 : decode cX9_setToZero 22 = .ok (.iastore, 1) := by decide +kernel
theorem dX9_setToZero_23 : decode cX9_setToZero 23 = .ok (.aload_n 0, 1) := by decide +kernel
theorem dX9_setToZero_24 : decode cX9_setToZero 24 = .ok (.getfield 9, 3) := by decide +kernel
theorem dX9_setToZero_27 : decode cX9_setToZero 27 = .ok (.iconst 4, 1) := by decide +kernel
theorem dX9_setToZero_28 : decode cX9_setToZero 28 = .ok (.iload_n 2, 1) := by decide +kernel
theorem dX9_setToZero_29 : decode cX9_setToZero 29 = .ok (.imul, 1) := by decide +kernel
theorem dX9_setToZero_30 : decode cX9_setToZero 30 = .ok (.iload_n 1, 1) := by decide +kernel
theorem dX9_setToZero_31 : decode cX9_setToZero 31 = .ok (.iadd, 1) := by decide +kernel
theorem dX9_setToZero_32 : decode cX9_setToZero 32 = .ok (.aload_n 0, 1) := by decide +kernel
theorem dX9_setToZero_33 : decode cX9_setToZero 33 = .ok (.getfield 9, 3) := by decide +kernel
theorem dX9_setToZero_36 : decode cX9_setToZero 36 = .ok (.iconst 4, 1) := by decide +kernel
theorem dX9_setToZero_37 : decode cX9_setToZero 37 = .ok (.iload_n 2, 1) := by decide +kernel
theorem dX9_setToZero_38 : decode cX9_setToZero 38 = .ok (.imul, 1) := by decide +kernel
theorem dX9_setToZero_39 : decode cX9_setToZero 39 = .ok (.iaload, 1) := by decide +kernel
theorem dX9_setToZero_40 : decode cX9_setToZero 40 = .ok (.iastore, 1) := by decide +kernel
theorem dX9_setToZero_41 : decode cX9_setToZero 41 = .ok (.iinc 2 1, 3) := by decide +kernel
theorem dX9_setToZero_44 : decode cX9_setToZero 44 = .ok (.goto (-42), 3) := by decide +kernel
theorem dX9_setToZero_47 : decode cX9_setToZero 47 = .ok (.aload_n 0, 1) := by decide +kernel
theorem dX9_setToZero_48 : decode cX9_setToZero 48 = .ok (.getfield 9, 3) := by decide +kernel
theorem dX9_setToZero_51 : decode cX9_setToZero 51 = .ok (.iconst 4, 1) := by decide +kernel
theorem dX9_setToZero_52 : decode cX9_setToZero 52 = .ok (.iload_n 1, 1) := by decide +kernel
theorem dX9_setToZero_53 : decode cX9_setToZero 53 = .ok (.imul, 1) := by decide +kernel
theorem dX9_setToZero_54 : decode cX9_setToZero 54 = .ok (.iload_n 1, 1) := by decide +kernel
theorem dX9_setToZero_55 : decode cX9_setToZero 55 = .ok (.iadd, 1) := by decide +kernel
theorem dX9_setToZero_56 : decode cX9_setToZero 56 = .ok (.iconst 1, 1) := by decide +kernel
theorem dX9_setToZero_57 : decode cX9_setToZero 57 = .ok (.iastore, 1) := by decide +kernel
theorem dX9_setToZero_58 : decode cX9_setToZero 58 = .ok (.return_, 1) := by decide +kernel
theorem dX9_letTimeGoBy_0 : decode cX9_letTimeGoBy 0 = .ok (.iconst 1, 1) := by decide +kernel
theorem dX9_letTimeGoBy_1 : decode cX9_letTimeGoBy 1 = .ok (.istore_n 1, 1) := by decide +kernel
theorem dX9_letTimeGoBy_2 : decode cX9_letTimeGoBy 2 = .ok (.iload_n 1, 1) := by decide +kernel
theorem dX9_letTimeGoBy_3 : decode cX9_letTimeGoBy 3 = .ok (.iconst 4, 1) := by decide +kernel
theorem dX9_letTimeGoBy_4 : decode cX9_letTimeGoBy 4 = .ok (.if_icmp .ge 19, 3) := by decide +kernel
theorem dX9_letTimeGoBy_7 : decode cX9_letTimeGoBy 7 = .ok (.aload_n 0, 1) := by decide +kernel
theorem dX9_letTimeGoBy_8 : decode cX9_letTimeGoBy 8 = .ok (.getfield 9, 3) := by decide +kernel
theorem dX9_letTimeGoBy_11 : decode cX9_letTimeGoBy 11 = .ok (.iconst 4, 1) := by decide +kernel
theorem dX9_letTimeGoBy_12 : decode cX9_letTimeGoBy 12 = .ok (.iload_n 1, 1) := by decide +kernel
theorem dX9_letTimeGoBy_13 : decode cX9_letTimeGoBy 13 = .ok (.imul, 1) := by decide +kernel
theorem dX9_letTimeGoBy_14 : decode cX9_letTimeGoBy 14 = .ok (.ldc 15, 2) := by decide +kernel
theorem dX9_letTimeGoBy_16 : decode cX9_letTimeGoBy 16 = .ok (.iastore, 1) := by decide +kernel
theorem dX9_letTimeGoBy_17 : decode cX9_letTimeGoBy 17 = .ok (.iinc 1 1, 3) := by decide +kernel
theorem dX9_letTimeGoBy_20 : decode cX9_letTimeGoBy 20 = .ok (.goto (-18), 3) := by decide +kernel
theorem dX9_letTimeGoBy_23 : decode cX9_letTimeGoBy 23 = .ok (.return_, 1) := by decide +kernel
theorem dX9_widen_0 : decode cX9_widen 0 = .ok (.iconst 1, 1) := by decide +kernel
theorem dX9_widen_1 : decode cX9_widen 1 = .ok (.istore_n 2, 1) := by decide +kernel
theorem dX9_widen_2 : decode cX9_widen 2 = .ok (.iload_n 2, 1) := by decide +kernel
theorem dX9_widen_3 : decode cX9_widen 3 = .ok (.iconst 4, 1) := by decide +kernel
theorem dX9_widen_4 : decode cX9_widen 4 = .ok (.if_icmp .ge 95, 3) := by decide +kernel
theorem dX9_widen_7 : decode cX9_widen 7 = .ok (.iconst 0, 1) := by decide +kernel
theorem dX9_widen_8 : decode cX9_widen 8 = .ok (.istore_n 3, 1) := by decide +kernel
theorem dX9_widen_9 : decode cX9_widen 9 = .ok (.iload_n 3, 1) := by decide +kernel
theorem dX9_widen_10 : decode cX9_widen 10 = .ok (.iconst 4, 1) := by decide +kernel
theorem dX9_widen_11 : decode cX9_widen 11 = .ok (.if_icmp .ge 82, 3) := by decide +kernel
theorem dX9_widen_14 : decode cX9_widen 14 = .ok (.iload_n 2, 1) := by decide +kernel
theorem dX9_widen_15 : decode cX9_widen 15 = .ok (.iload_n 3, 1) := by decide +kernel
theorem dX9_widen_16 : decode cX9_widen 16 = .ok (.if_icmp .ne 6, 3) := by decide +kernel
theorem dX9_widen_19 : decode cX9_widen 19 = .ok (.goto 68, 3) := by decide +kernel
theorem dX9_widen_22 : decode cX9_widen 22 = .ok (.aload_n 0, 1) := by decide +kernel
theorem dX9_widen_23 : decode cX9_widen 23 = .ok (.getfield 9, 3) := by decide +kernel
theorem dX9_widen_26 : decode cX9_widen 26 = .ok (.iconst 4, 1) := by decide +kernel
theorem dX9_widen_27 : decode cX9_widen 27 = .ok (.iload_n 2, 1) := by decide +kernel
theorem dX9_widen_28 : decode cX9_widen 28 = .ok (.imul, 1) := by decide +kernel
theorem dX9_widen_29 : decode cX9_widen 29 = .ok (.iload_n 3, 1) := by decide +kernel
theorem dX9_widen_30 : decode cX9_widen 30 = .ok (.iadd, 1) := by decide +kernel
theorem dX9_widen_31 : decode cX9_widen 31 = .ok (.iaload, 1) := by decide +kernel
theorem dX9_widen_32 : decode cX9_widen 32 = .ok (.iconst 1, 1) := by decide +kernel
theorem dX9_widen_33 : decode cX9_widen 33 = .ok (.ishr, 1) := by decide +kernel
theorem dX9_widen_34 : decode cX9_widen 34 = .ok (.aload_n 1, 1) := by decide +kernel
theorem dX9_widen_35 : decode cX9_widen 35 = .ok (.iload_n 2, 1) := by decide +kernel
theorem dX9_widen_36 : decode cX9_widen 36 = .ok (.iaload, 1) := by decide +kernel
theorem dX9_widen_37 : decode cX9_widen 37 = .ok (.if_icmp .le 15, 3) := by decide +kernel
theorem dX9_widen_40 : decode cX9_widen 40 = .ok (.aload_n 0, 1) := by decide +kernel
theorem dX9_widen_41 : decode cX9_widen 41 = .ok (.getfield 9, 3) := by decide +kernel
theorem dX9_widen_44 : decode cX9_widen 44 = .ok (.iconst 4, 1) := by decide +kernel
theorem dX9_widen_45 : decode cX9_widen 45 = .ok (.iload_n 2, 1) := by decide +kernel
theorem dX9_widen_46 : decode cX9_widen 46 = .ok (.imul, 1) := by decide +kernel
theorem dX9_widen_47 : decode cX9_widen 47 = .ok (.iload_n 3, 1) := by decide +kernel
theorem dX9_widen_48 : decode cX9_widen 48 = .ok (.iadd, 1) := by decide +kernel
theorem dX9_widen_49 : decode cX9_widen 49 = .ok (.ldc 15, 2) := by decide +kernel
theorem dX9_widen_51 : decode cX9_widen 51 = .ok (.iastore, 1) := by decide +kernel
theorem dX9_widen_52 : decode cX9_widen 52 = .ok (.aload_n 0, 1) := by decide +kernel
theorem dX9_widen_53 : decode cX9_widen 53 = .ok (.getfield 9, 3) := by decide +kernel
theorem dX9_widen_56 : decode cX9_widen 56 = .ok (.iconst 4, 1) := by decide +kernel
theorem dX9_widen_57 : decode cX9_widen 57 = .ok (.iload_n 3, 1) := by decide +kernel
theorem dX9_widen_58 : decode cX9_widen 58 = .ok (.imul, 1) := by decide +kernel
theorem dX9_widen_59 : decode cX9_widen 59 = .ok (.iload_n 2, 1) := by decide +kernel
theorem dX9_widen_60 : decode cX9_widen 60 = .ok (.iadd, 1) := by decide +kernel
theorem dX9_widen_61 : decode cX9_widen 61 = .ok (.iaload, 1) := by decide +kernel
theorem dX9_widen_62 : decode cX9_widen 62 = .ok (.iconst 1, 1) := by decide +kernel
theorem dX9_widen_63 : decode cX9_widen 63 = .ok (.ishr, 1) := by decide +kernel
theorem dX9_widen_64 : decode cX9_widen 64 = .ok (.aload_n 1, 1) := by decide +kernel
theorem dX9_widen_65 : decode cX9_widen 65 = .ok (.iload_n 2, 1) := by decide +kernel
theorem dX9_widen_66 : decode cX9_widen 66 = .ok (.iaload, 1) := by decide +kernel
theorem dX9_widen_67 : decode cX9_widen 67 = .ok (.ineg, 1) := by decide +kernel
theorem dX9_widen_68 : decode cX9_widen 68 = .ok (.if_icmp .ge 19, 3) := by decide +kernel
theorem dX9_widen_71 : decode cX9_widen 71 = .ok (.aload_n 0, 1) := by decide +kernel
theorem dX9_widen_72 : decode cX9_widen 72 = .ok (.getfield 9, 3) := by decide +kernel
theorem dX9_widen_75 : decode cX9_widen 75 = .ok (.iconst 4, 1) := by decide +kernel
theorem dX9_widen_76 : decode cX9_widen 76 = .ok (.iload_n 3, 1) := by decide +kernel
theorem dX9_widen_77 : decode cX9_widen 77 = .ok (.imul, 1) := by decide +kernel
theorem dX9_widen_78 : decode cX9_widen 78 = .ok (.iload_n 2, 1) := by decide +kernel
theorem dX9_widen_79 : decode cX9_widen 79 = .ok (.iadd, 1) := by decide +kernel
theorem dX9_widen_80 : decode cX9_widen 80 = .ok (.bipush (-2), 2) := by decide +kernel
theorem dX9_widen_82 : decode cX9_widen 82 = .ok (.aload_n 1, 1) := by decide +kernel
theorem dX9_widen_83 : decode cX9_widen 83 = .ok (.iload_n 2, 1) := by decide +kernel
theorem dX9_widen_84 : decode cX9_widen 84 = .ok (.iaload, 1) := by decide +kernel
theorem dX9_widen_85 : decode cX9_widen 85 = .ok (.imul, 1) := by decide +kernel
theorem dX9_widen_86 : decode cX9_widen 86 = .ok (.iastore, 1) := by decide +kernel
theorem dX9_widen_87 : decode cX9_widen 87 = .ok (.iinc 3 1, 3) := by decide +kernel
theorem dX9_widen_90 : decode cX9_widen 90 = .ok (.goto (-81), 3) := by decide +kernel
theorem dX9_widen_93 : decode cX9_widen 93 = .ok (.iinc 2 1, 3) := by decide +kernel
theorem dX9_widen_96 : decode cX9_widen 96 = .ok (.goto (-94), 3) := by decide +kernel
theorem dX9_widen_99 : decode cX9_widen 99 = .ok (.aload_n 0, 1) := by decide +kernel
theorem dX9_widen_100 : decode cX9_widen 100 = .ok (.invokevirtual 26, 3) := by decide +kernel
theorem dX9_widen_103 : decode cX9_widen 103 = .ok (.return_, 1) := by decide +kernel
theorem dX9_close_0 : decode cX9_close 0 = .ok (.iconst 0, 1) := by decide +kernel
theorem dX9_close_1 : decode cX9_close 1 = .ok (.istore_n 1, 1) := by decide +kernel
theorem dX9_close_2 : decode cX9_close 2 = .ok (.iload_n 1, 1) := by decide +kernel
theorem dX9_close_3 : decode cX9_close 3 = .ok (.iconst 4, 1) := by decide +kernel
theorem dX9_close_4 : decode cX9_close 4 = .ok (.if_icmp .ge 103, 3) := by decide +kernel
theorem dX9_close_7 : decode cX9_close 7 = .ok (.iconst 0, 1) := by decide +kernel
theorem dX9_close_8 : decode cX9_close 8 = .ok (.istore_n 2, 1) := by decide +kernel
theorem dX9_close_9 : decode cX9_close 9 = .ok (.iload_n 2, 1) := by decide +kernel
theorem dX9_close_10 : decode cX9_close 10 = .ok (.iconst 4, 1) := by decide +kernel
theorem dX9_close_11 : decode cX9_close 11 = .ok (.if_icmp .ge 90, 3) := by decide +kernel
theorem dX9_close_14 : decode cX9_close 14 = .ok (.aload_n 0, 1) := by decide +kernel
theorem dX9_close_15 : decode cX9_close 15 = .ok (.getfield 9, 3) := by decide +kernel
theorem dX9_close_18 : decode cX9_close 18 = .ok (.iconst 4, 1) := by decide +kernel
theorem dX9_close_19 : decode cX9_close 19 = .ok (.iload_n 2, 1) := by decide +kernel
theorem dX9_close_20 : decode cX9_close 20 = .ok (.imul, 1) := by decide +kernel
theorem dX9_close_21 : decode cX9_close 21 = .ok (.iload_n 1, 1) := by decide +kernel
theorem dX9_close_22 : decode cX9_close 22 = .ok (.iadd, 1) := by decide +kernel
theorem dX9_close_23 : decode cX9_close 23 = .ok (.iaload, 1) := by decide +kernel
theorem dX9_close_24 : decode cX9_close 24 = .ok (.istore_n 3, 1) := by decide +kernel
theorem dX9_close_25 : decode cX9_close 25 = .ok (.iload_n 3, 1) := by decide +kernel
theorem dX9_close_26 : decode cX9_close 26 = .ok (.ldc 15, 2) := by decide +kernel
theorem dX9_close_28 : decode cX9_close 28 = .ok (.if_icmp .ne 6, 3) := by decide +kernel
theorem dX9_close_31 : decode cX9_close 31 = .ok (.goto 64, 3) := by decide +kernel
theorem dX9_close_34 : decode cX9_close 34 = .ok (.iconst 0, 1) := by decide +kernel
theorem dX9_close_35 : decode cX9_close 35 = .ok (.istore 4, 2) := by decide +kernel
theorem dX9_close_37 : decode cX9_close 37 = .ok (.iload 4, 2) := by decide +kernel
theorem dX9_close_39 : decode cX9_close 39 = .ok (.iconst 4, 1) := by decide +kernel
theorem dX9_close_40 : decode cX9_close 40 = .ok (.if_icmp .ge 55, 3) := by decide +kernel
theorem dX9_close_43 : decode cX9_close 43 = .ok (.iload_n 3, 1) := by decide +kernel
theorem dX9_close_44 : decode cX9_close 44 = .ok (.aload_n 0, 1) := by decide +kernel
theorem dX9_close_45 : decode cX9_close 45 = .ok (.getfield 9, 3) := by decide +kernel
theorem dX9_close_48 : decode cX9_close 48 = .ok (.iconst 4, 1) := by decide +kernel
theorem dX9_close_49 : decode cX9_close 49 = .ok (.iload_n 1, 1) := by decide +kernel
theorem dX9_close_50 : decode cX9_close 50 = .ok (.imul, 1) := by decide +kernel
theorem dX9_close_51 : decode cX9_close 51 = .ok (.iload 4, 2) := by decide +kernel
theorem dX9_close_53 : decode cX9_close 53 = .ok (.iadd, 1) := by decide +kernel
theorem dX9_close_54 : decode cX9_close 54 = .ok (.iaload, 1) := by decide +kernel
theorem dX9_close_55 : decode cX9_close 55 = .ok (.invokestatic 22, 3) := by decide +kernel
theorem dX9_close_58 : decode cX9_close 58 = .ok (.istore 5, 2) := by decide +kernel
theorem dX9_close_60 : decode cX9_close 60 = .ok (.iload 5, 2) := by decide +kernel
theorem dX9_close_62 : decode cX9_close 62 = .ok (.aload_n 0, 1) := by decide +kernel
theorem dX9_close_63 : decode cX9_close 63 = .ok (.getfield 9, 3) := by decide +kernel
theorem dX9_close_66 : decode cX9_close 66 = .ok (.iconst 4, 1) := by decide +kernel
theorem dX9_close_67 : decode cX9_close 67 = .ok (.iload_n 2, 1) := by decide +kernel
theorem dX9_close_68 : decode cX9_close 68 = .ok (.imul, 1) := by decide +kernel
theorem dX9_close_69 : decode cX9_close 69 = .ok (.iload 4, 2) := by decide +kernel
theorem dX9_close_71 : decode cX9_close 71 = .ok (.iadd, 1) := by decide +kernel
theorem dX9_close_72 : decode cX9_close 72 = .ok (.iaload, 1) := by decide +kernel
theorem dX9_close_73 : decode cX9_close 73 = .ok (.if_icmp .ge 16, 3) := by decide +kernel
theorem dX9_close_76 : decode cX9_close 76 = .ok (.aload_n 0, 1) := by decide +kernel
theorem dX9_close_77 : decode cX9_close 77 = .ok (.getfield 9, 3) := by decide +kernel
theorem dX9_close_80 : decode cX9_close 80 = .ok (.iconst 4, 1) := by decide +kernel
theorem dX9_close_81 : decode cX9_close 81 = .ok (.iload_n 2, 1) := by decide +kernel
theorem dX9_close_82 : decode cX9_close 82 = .ok (.imul, 1) := by decide +kernel
theorem dX9_close_83 : decode cX9_close 83 = .ok (.iload 4, 2) := by decide +kernel
theorem dX9_close_85 : decode cX9_close 85 = .ok (.iadd, 1) := by decide +kernel
theorem dX9_close_86 : decode cX9_close 86 = .ok (.iload 5, 2) := by decide +kernel
theorem dX9_close_88 : decode cX9_close 88 = .ok (.iastore, 1) := by decide +kernel
theorem dX9_close_89 : decode cX9_close 89 = .ok (.iinc 4 1, 3) := by decide +kernel
theorem dX9_close_92 : decode cX9_close 92 = .ok (.goto (-55), 3) := by decide +kernel
theorem dX9_close_95 : decode cX9_close 95 = .ok (.iinc 2 1, 3) := by decide +kernel
theorem dX9_close_98 : decode cX9_close 98 = .ok (.goto (-89), 3) := by decide +kernel
theorem dX9_close_101 : decode cX9_close 101 = .ok (.iinc 1 1, 3) := by decide +kernel
theorem dX9_close_104 : decode cX9_close 104 = .ok (.goto (-102), 3) := by decide +kernel
theorem dX9_close_107 : decode cX9_close 107 = .ok (.return_, 1) := by decide +kernel
theorem dX10_init_0 : decode cX10_init 0 = .ok (.aload_n 0, 1) := by decide +kernel
theorem dX10_init_1 : decode cX10_init 1 = .ok (.invokespecial 3, 3) := by decide +kernel
theorem dX10_init_4 : decode cX10_init 4 = .ok (.aload_n 0, 1) := by decide +kernel
theorem dX10_init_5 : decode cX10_init 5 = .ok (.new 9, 3) := by decide +kernel
theorem dX10_init_8 : decode cX10_init 8 = .ok (.dup, 1) := by decide +kernel
theorem dX10_init_9 : decode cX10_init 9 = .ok (.invokespecial 11, 3) := by decide +kernel
theorem dX10_init_12 : decode cX10_init 12 = .ok (.putfield 12, 3) := by decide +kernel
theorem dX10_init_15 : decode cX10_init 15 = .ok (.aload_n 0, 1) := by decide +kernel
theorem dX10_init_16 : decode cX10_init 16 = .ok (.new 16, 3) := by decide +kernel
theorem dX10_init_19 : decode cX10_init 19 = .ok (.dup, 1) := by decide +kernel
theorem dX10_init_20 : decode cX10_init 20 = .ok (.invokespecial 18, 3) := by decide +kernel
theorem dX10_init_23 : decode cX10_init 23 = .ok (.putfield 19, 3) := by decide +kernel
theorem dX10_init_26 : decode cX10_init 26 = .ok (.aload_n 0, 1) := by decide +kernel
theorem dX10_init_27 : decode cX10_init 27 = .ok (.new 23, 3) := by decide +kernel
theorem dX10_init_30 : decode cX10_init 30 = .ok (.dup, 1) := by decide +kernel
theorem dX10_init_31 : decode cX10_init 31 = .ok (.invokespecial 25, 3) := by decide +kernel
theorem dX10_init_34 : decode cX10_init 34 = .ok (.putfield 26, 3) := by decide +kernel
theorem dX10_init_37 : decode cX10_init 37 = .ok (.aload_n 0, 1) := by decide +kernel
theorem dX10_init_38 : decode cX10_init 38 = .ok (.new 30, 3) := by decide +kernel
theorem dX10_init_41 : decode cX10_init 41 = .ok (.dup, 1) := by decide +kernel
theorem dX10_init_42 : decode cX10_init 42 = .ok (.invokespecial 32, 3) := by decide +kernel
theorem dX10_init_45 : decode cX10_init 45 = .ok (.putfield 33, 3) := by decide +kernel
theorem dX10_init_48 : decode cX10_init 48 = .ok (.aload_n 0, 1) := by decide +kernel
theorem dX10_init_49 : decode cX10_init 49 = .ok (.iconst 3, 1) := by decide +kernel
theorem dX10_init_50 : decode cX10_init 50 = .ok (.newarray .int, 2) := by decide +kernel
theorem dX10_init_52 : decode cX10_init 52 = .ok (.putfield 37, 3) := by decide +kernel
theorem dX10_init_55 : decode cX10_init 55 = .ok (.aload_n 0, 1) := by decide +kernel
theorem dX10_init_56 : decode cX10_init 56 = .ok (.iconst 4, 1) := by decide +kernel
theorem dX10_init_57 : decode cX10_init 57 = .ok (.newarray .int, 2) := by decide +kernel
theorem dX10_init_59 : decode cX10_init 59 = .ok (.putfield 41, 3) := by decide +kernel
theorem dX10_init_62 : decode cX10_init 62 = .ok (.return_, 1) := by decide +kernel
theorem dX10_edge_0 : decode cX10_edge 0 = .ok (.iload_n 1, 1) := by decide +kernel
theorem dX10_edge_1 : decode cX10_edge 1 = .ok (.invokestatic 44, 3) := by decide +kernel
theorem dX10_edge_4 : decode cX10_edge 4 = .ok (.ifCond .eq 17, 3) := by decide +kernel
theorem dX10_edge_7 : decode cX10_edge 7 = .ok (.iload_n 2, 1) := by decide +kernel
theorem dX10_edge_8 : decode cX10_edge 8 = .ok (.invokestatic 48, 3) := by decide +kernel
theorem dX10_edge_11 : decode cX10_edge 11 = .ok (.ifCond .eq 10, 3) := by decide +kernel
theorem dX10_edge_14 : decode cX10_edge 14 = .ok (.iload_n 3, 1) := by decide +kernel
theorem dX10_edge_15 : decode cX10_edge 15 = .ok (.invokestatic 48, 3) := by decide +kernel
theorem dX10_edge_18 : decode cX10_edge 18 = .ok (.ifCond .ne 6, 3) := by decide +kernel
theorem dX10_edge_21 : decode cX10_edge 21 = .ok (.bipush (-101), 2) := by decide +kernel
theorem dX10_edge_23 : decode cX10_edge 23 = .ok (.ireturn, 1) := by decide +kernel
theorem dX10_edge_24 : decode cX10_edge 24 = .ok (.iload 4, 2) := by decide +kernel
theorem dX10_edge_26 : decode cX10_edge 26 = .ok (.bipush (-4), 2) := by decide +kernel
theorem dX10_edge_28 : decode cX10_edge 28 = .ok (.if_icmp .lt 17, 3) := by decide +kernel
theorem dX10_edge_31 : decode cX10_edge 31 = .ok (.iload 4, 2) := by decide +kernel
theorem dX10_edge_33 : decode cX10_edge 33 = .ok (.iconst 4, 1) := by decide +kernel
theorem dX10_edge_34 : decode cX10_edge 34 = .ok (.if_icmp .gt 11, 3) := by decide +kernel
theorem dX10_edge_37 : decode cX10_edge 37 = .ok (.iload 5, 2) := by decide +kernel
theorem dX10_edge_39 : decode cX10_edge 39 = .ok (.bipush (-15), 2) := by decide +kernel
theorem dX10_edge_41 : decode cX10_edge 41 = .ok (.iand, 1) := by decide +kernel
theorem dX10_edge_42 : decode cX10_edge 42 = .ok (.ifCond .eq 6, 3) := by decide +kernel
theorem dX10_edge_45 : decode cX10_edge 45 = .ok (.bipush (-102), 2) := by decide +kernel
theorem dX10_edge_47 : decode cX10_edge 47 = .ok (.ireturn, 1) := by decide +kernel
theorem dX10_edge_48 : decode cX10_edge 48 = .ok (.aload_n 0, 1) := by decide +kernel
theorem dX10_edge_49 : decode cX10_edge 49 = .ok (.getfield 12, 3) := by decide +kernel
theorem dX10_edge_52 : decode cX10_edge 52 = .ok (.getfield 51, 3) := by decide +kernel
theorem dX10_edge_55 : decode cX10_edge 55 = .ok (.bipush 20, 2) := by decide +kernel
theorem dX10_edge_57 : decode cX10_edge 57 = .ok (.if_icmp .lt 6, 3) := by decide +kernel
theorem dX10_edge_60 : decode cX10_edge 60 = .ok (.bipush (-104), 2) := by decide +kernel
theorem dX10_edge_62 : decode cX10_edge 62 = .ok (.ireturn, 1) := by decide +kernel
theorem dX10_edge_63 : decode cX10_edge 63 = .ok (.aload_n 0, 1) := by decide +kernel
theorem dX10_edge_64 : decode cX10_edge 64 = .ok (.invokevirtual 55, 3) := by decide +kernel
theorem dX10_edge_67 : decode cX10_edge 67 = .ok (.aload_n 0, 1) := by decide +kernel
theorem dX10_edge_68 : decode cX10_edge 68 = .ok (.getfield 12, 3) := by decide +kernel
theorem dX10_edge_71 : decode cX10_edge 71 = .ok (.new 58, 3) := by decide +kernel
theorem dX10_edge_74 : decode cX10_edge 74 = .ok (.dup, 1) := by decide +kernel
theorem dX10_edge_75 : decode cX10_edge 75 = .ok (.iload_n 1, 1) := by decide +kernel
theorem dX10_edge_76 : decode cX10_edge 76 = .ok (.iload_n 2, 1) := by decide +kernel
theorem dX10_edge_77 : decode cX10_edge 77 = .ok (.iload_n 3, 1) := by decide +kernel
theorem dX10_edge_78 : decode cX10_edge 78 = .ok (.iload 4, 2) := by decide +kernel
theorem dX10_edge_80 : decode cX10_edge 80 = .ok (.iload 5, 2) := by decide +kernel
theorem dX10_edge_82 : decode cX10_edge 82 = .ok (.invokespecial 60, 3) := by decide +kernel
theorem dX10_edge_85 : decode cX10_edge 85 = .ok (.invokevirtual 63, 3) := by decide +kernel
theorem dX10_edge_88 : decode cX10_edge 88 = .ok (.ireturn, 1) := by decide +kernel
theorem dX10_guard_0 : decode cX10_guard 0 = .ok (.aload_n 0, 1) := by decide +kernel
theorem dX10_guard_1 : decode cX10_guard 1 = .ok (.getfield 12, 3) := by decide +kernel
theorem dX10_guard_4 : decode cX10_guard 4 = .ok (.iload_n 1, 1) := by decide +kernel
theorem dX10_guard_5 : decode cX10_guard 5 = .ok (.invokevirtual 67, 3) := by decide +kernel
theorem dX10_guard_8 : decode cX10_guard 8 = .ok (.ifCond .eq 10, 3) := by decide +kernel
theorem dX10_guard_11 : decode cX10_guard 11 = .ok (.iload_n 2, 1) := by decide +kernel
theorem dX10_guard_12 : decode cX10_guard 12 = .ok (.invokestatic 70, 3) := by decide +kernel
theorem dX10_guard_15 : decode cX10_guard 15 = .ok (.ifCond .ne 6, 3) := by decide +kernel
theorem dX10_guard_18 : decode cX10_guard 18 = .ok (.bipush (-101), 2) := by decide +kernel
theorem dX10_guard_20 : decode cX10_guard 20 = .ok (.ireturn, 1) := by decide +kernel
theorem dX10_guard_21 : decode cX10_guard 21 = .ok (.iload_n 3, 1) := by decide +kernel
theorem dX10_guard_22 : decode cX10_guard 22 = .ok (.ifCond .lt 16, 3) := by decide +kernel
theorem dX10_guard_25 : decode cX10_guard 25 = .ok (.iload_n 3, 1) := by decide +kernel
theorem dX10_guard_26 : decode cX10_guard 26 = .ok (.iconst 4, 1) := by decide +kernel
theorem dX10_guard_27 : decode cX10_guard 27 = .ok (.if_icmp .gt 11, 3) := by decide +kernel
theorem dX10_guard_30 : decode cX10_guard 30 = .ok (.iload 4, 2) := by decide +kernel
theorem dX10_guard_32 : decode cX10_guard 32 = .ok (.invokestatic 73, 3) := by decide +kernel
theorem dX10_guard_35 : decode cX10_guard 35 = .ok (.ifCond .ne 6, 3) := by decide +kernel
theorem dX10_guard_38 : decode cX10_guard 38 = .ok (.bipush (-102), 2) := by decide +kernel
theorem dX10_guard_40 : decode cX10_guard 40 = .ok (.ireturn, 1) := by decide +kernel
theorem dX10_guard_41 : decode cX10_guard 41 = .ok (.aload_n 0, 1) := by decide +kernel
theorem dX10_guard_42 : decode cX10_guard 42 = .ok (.aload_n 0, 1) := by decide +kernel
theorem dX10_guard_43 : decode cX10_guard 43 = .ok (.getfield 12, 3) := by decide +kernel
theorem dX10_guard_46 : decode cX10_guard 46 = .ok (.getfield 76, 3) := by decide +kernel
theorem dX10_guard_49 : decode cX10_guard 49 = .ok (.iload_n 1, 1) := by decide +kernel
theorem dX10_guard_50 : decode cX10_guard 50 = .ok (.aaload, 1) := by decide +kernel
theorem dX10_guard_51 : decode cX10_guard 51 = .ok (.getfield 80, 3) := by decide +kernel
theorem dX10_guard_54 : decode cX10_guard 54 = .ok (.iload_n 2, 1) := by decide +kernel
theorem dX10_guard_55 : decode cX10_guard 55 = .ok (.iload_n 3, 1) := by decide +kernel
theorem dX10_guard_56 : decode cX10_guard 56 = .ok (.iload 4, 2) := by decide +kernel
theorem dX10_guard_58 : decode cX10_guard 58 = .ok (.invokevirtual 84, 3) := by decide +kernel
theorem dX10_guard_61 : decode cX10_guard 61 = .ok (.ireturn, 1) := by decide +kernel
theorem dX10_limit_0 : decode cX10_limit 0 = .ok (.iload_n 1, 1) := by decide +kernel
theorem dX10_limit_1 : decode cX10_limit 1 = .ok (.invokestatic 44, 3) := by decide +kernel
theorem dX10_limit_4 : decode cX10_limit 4 = .ok (.ifCond .eq 17, 3) := by decide +kernel
theorem dX10_limit_7 : decode cX10_limit 7 = .ok (.iload_n 2, 1) := by decide +kernel
theorem dX10_limit_8 : decode cX10_limit 8 = .ok (.invokestatic 48, 3) := by decide +kernel
theorem dX10_limit_11 : decode cX10_limit 11 = .ok (.ifCond .eq 10, 3) := by decide +kernel
theorem dX10_limit_14 : decode cX10_limit 14 = .ok (.iload_n 3, 1) := by decide +kernel
theorem dX10_limit_15 : decode cX10_limit 15 = .ok (.invokestatic 70, 3) := by decide +kernel
theorem dX10_limit_18 : decode cX10_limit 18 = .ok (.ifCond .ne 6, 3) := by decide +kernel
theorem dX10_limit_21 : decode cX10_limit 21 = .ok (.bipush (-101), 2) := by decide +kernel
theorem dX10_limit_23 : decode cX10_limit 23 = .ok (.ireturn, 1) := by decide +kernel
theorem dX10_limit_24 : decode cX10_limit 24 = .ok (.iload 4, 2) := by decide +kernel
theorem dX10_limit_26 : decode cX10_limit 26 = .ok (.ifCond .lt 17, 3) := by decide +kernel
theorem dX10_limit_29 : decode cX10_limit 29 = .ok (.iload 4, 2) := by decide +kernel
theorem dX10_limit_31 : decode cX10_limit 31 = .ok (.iconst 1, 1) := by decide +kernel
theorem dX10_limit_32 : decode cX10_limit 32 = .ok (.if_icmp .gt 11, 3) := by decide +kernel
theorem dX10_limit_35 : decode cX10_limit 35 = .ok (.iload 5, 2) := by decide +kernel
theorem dX10_limit_37 : decode cX10_limit 37 = .ok (.invokestatic 73, 3) := by decide +kernel
theorem dX10_limit_40 : decode cX10_limit 40 = .ok (.ifCond .ne 6, 3) := by decide +kernel
theorem dX10_limit_43 : decode cX10_limit 43 = .ok (.bipush (-102), 2) := by decide +kernel
theorem dX10_limit_45 : decode cX10_limit 45 = .ok (.ireturn, 1) := by decide +kernel
theorem dX10_limit_46 : decode cX10_limit 46 = .ok (.aload_n 0, 1) := by decide +kernel
theorem dX10_limit_47 : decode cX10_limit 47 = .ok (.aload_n 0, 1) := by decide +kernel
theorem dX10_limit_48 : decode cX10_limit 48 = .ok (.getfield 12, 3) := by decide +kernel
theorem dX10_limit_51 : decode cX10_limit 51 = .ok (.iload_n 1, 1) := by decide +kernel
theorem dX10_limit_52 : decode cX10_limit 52 = .ok (.iload_n 2, 1) := by decide +kernel
theorem dX10_limit_53 : decode cX10_limit 53 = .ok (.invokevirtual 88, 3) := by decide +kernel
theorem dX10_limit_56 : decode cX10_limit 56 = .ok (.iload_n 3, 1) := by decide +kernel
theorem dX10_limit_57 : decode cX10_limit 57 = .ok (.iload 4, 2) := by decide +kernel
theorem dX10_limit_59 : decode cX10_limit 59 = .ok (.iload 5, 2) := by decide +kernel
theorem dX10_limit_61 : decode cX10_limit 61 = .ok (.invokevirtual 84, 3) := by decide +kernel
theorem dX10_limit_64 : decode cX10_limit 64 = .ok (.ireturn, 1) := by decide +kernel
theorem dX10_wipe_0 : decode cX10_wipe 0 = .ok (.aload_n 0, 1) := by decide +kernel
theorem dX10_wipe_1 : decode cX10_wipe 1 = .ok (.getfield 12, 3) := by decide +kernel
theorem dX10_wipe_4 : decode cX10_wipe 4 = .ok (.getfield 51, 3) := by decide +kernel
theorem dX10_wipe_7 : decode cX10_wipe 7 = .ok (.istore_n 1, 1) := by decide +kernel
theorem dX10_wipe_8 : decode cX10_wipe 8 = .ok (.aload_n 0, 1) := by decide +kernel
theorem dX10_wipe_9 : decode cX10_wipe 9 = .ok (.getfield 12, 3) := by decide +kernel
theorem dX10_wipe_12 : decode cX10_wipe 12 = .ok (.invokevirtual 92, 3) := by decide +kernel
theorem dX10_wipe_15 : decode cX10_wipe 15 = .ok (.aload_n 0, 1) := by decide +kernel
theorem dX10_wipe_16 : decode cX10_wipe 16 = .ok (.invokevirtual 55, 3) := by decide +kernel
theorem dX10_wipe_19 : decode cX10_wipe 19 = .ok (.iload_n 1, 1) := by decide +kernel
theorem dX10_wipe_20 : decode cX10_wipe 20 = .ok (.ireturn, 1) := by decide +kernel
theorem dX10_explore_0 : decode cX10_explore 0 = .ok (.iload_n 1, 1) := by decide +kernel
theorem dX10_explore_1 : decode cX10_explore 1 = .ok (.iconst 1, 1) := by decide +kernel
theorem dX10_explore_2 : decode cX10_explore 2 = .ok (.if_icmp .lt 9, 3) := by decide +kernel
theorem dX10_explore_5 : decode cX10_explore 5 = .ok (.iload_n 1, 1) := by decide +kernel
theorem dX10_explore_6 : decode cX10_explore 6 = .ok (.bipush 120, 2) := by decide +kernel
theorem dX10_explore_8 : decode cX10_explore 8 = .ok (.if_icmp .le 6, 3) := by decide +kernel
theorem dX10_explore_11 : decode cX10_explore 11 = .ok (.bipush (-102), 2) := by decide +kernel
theorem dX10_explore_13 : decode cX10_explore 13 = .ok (.ireturn, 1) := by decide +kernel
theorem dX10_explore_14 : decode cX10_explore 14 = .ok (.aload_n 0, 1) := by decide +kernel
theorem dX10_explore_15 : decode cX10_explore 15 = .ok (.getfield 19, 3) := by decide +kernel
theorem dX10_explore_18 : decode cX10_explore 18 = .ok (.getfield 95, 3) := by decide +kernel
theorem dX10_explore_21 : decode cX10_explore 21 = .ok (.bipush 40, 2) := by decide +kernel
theorem dX10_explore_23 : decode cX10_explore 23 = .ok (.if_icmp .lt 6, 3) := by decide +kernel
theorem dX10_explore_26 : decode cX10_explore 26 = .ok (.bipush (-104), 2) := by decide +kernel
theorem dX10_explore_28 : decode cX10_explore 28 = .ok (.ireturn, 1) := by decide +kernel
theorem dX10_explore_29 : decode cX10_explore 29 = .ok (.aload_n 0, 1) := by decide +kernel
theorem dX10_explore_30 : decode cX10_explore 30 = .ok (.getfield 19, 3) := by decide +kernel
theorem dX10_explore_33 : decode cX10_explore 33 = .ok (.aload_n 0, 1) := by decide +kernel
theorem dX10_explore_34 : decode cX10_explore 34 = .ok (.getfield 12, 3) := by decide +kernel
theorem dX10_explore_37 : decode cX10_explore 37 = .ok (.iload_n 1, 1) := by decide +kernel
theorem dX10_explore_38 : decode cX10_explore 38 = .ok (.invokevirtual 98, 3) := by decide +kernel
theorem dX10_explore_41 : decode cX10_explore 41 = .ok (.ireturn, 1) := by decide +kernel
theorem dX10_state_0 : decode cX10_state 0 = .ok (.aload_n 0, 1) := by decide +kernel
theorem dX10_state_1 : decode cX10_state 1 = .ok (.getfield 19, 3) := by decide +kernel
theorem dX10_state_4 : decode cX10_state 4 = .ok (.getfield 102, 3) := by decide +kernel
theorem dX10_state_7 : decode cX10_state 7 = .ok (.ifCond .eq 6, 3) := by decide +kernel
theorem dX10_state_10 : decode cX10_state 10 = .ok (.bipush (-103), 2) := by decide +kernel
theorem dX10_state_12 : decode cX10_state 12 = .ok (.ireturn, 1) := by decide +kernel
theorem dX10_state_13 : decode cX10_state 13 = .ok (.aload_n 0, 1) := by decide +kernel
theorem dX10_state_14 : decode cX10_state 14 = .ok (.getfield 19, 3) := by decide +kernel
theorem dX10_state_17 : decode cX10_state 17 = .ok (.getfield 106, 3) := by decide +kernel
theorem dX10_state_20 : decode cX10_state 20 = .ok (.iload_n 1, 1) := by decide +kernel
theorem dX10_state_21 : decode cX10_state 21 = .ok (.invokevirtual 110, 3) := by decide +kernel
theorem dX10_state_24 : decode cX10_state 24 = .ok (.ifCond .ne 6, 3) := by decide +kernel
theorem dX10_state_27 : decode cX10_state 27 = .ok (.bipush (-101), 2) := by decide +kernel
theorem dX10_state_29 : decode cX10_state 29 = .ok (.ireturn, 1) := by decide +kernel
theorem dX10_state_30 : decode cX10_state 30 = .ok (.iload_n 2, 1) := by decide +kernel
theorem dX10_state_31 : decode cX10_state 31 = .ok (.ifCond .lt 9, 3) := by decide +kernel
theorem dX10_state_34 : decode cX10_state 34 = .ok (.iload_n 2, 1) := by decide +kernel
theorem dX10_state_35 : decode cX10_state 35 = .ok (.bipush 7, 2) := by decide +kernel
theorem dX10_state_37 : decode cX10_state 37 = .ok (.if_icmp .lt 6, 3) := by decide +kernel
theorem dX10_state_40 : decode cX10_state 40 = .ok (.bipush (-102), 2) := by decide +kernel
theorem dX10_state_42 : decode cX10_state 42 = .ok (.ireturn, 1) := by decide +kernel
theorem dX10_state_43 : decode cX10_state 43 = .ok (.aload_n 0, 1) := by decide +kernel
theorem dX10_state_44 : decode cX10_state 44 = .ok (.getfield 19, 3) := by decide +kernel
theorem dX10_state_47 : decode cX10_state 47 = .ok (.getfield 106, 3) := by decide +kernel
theorem dX10_state_50 : decode cX10_state 50 = .ok (.iload_n 1, 1) := by decide +kernel
theorem dX10_state_51 : decode cX10_state 51 = .ok (.iload_n 2, 1) := by decide +kernel
theorem dX10_state_52 : decode cX10_state 52 = .ok (.invokevirtual 115, 3) := by decide +kernel
theorem dX10_state_55 : decode cX10_state 55 = .ok (.ireturn, 1) := by decide +kernel
theorem dX10_bound_0 : decode cX10_bound 0 = .ok (.aload_n 0, 1) := by decide +kernel
theorem dX10_bound_1 : decode cX10_bound 1 = .ok (.getfield 19, 3) := by decide +kernel
theorem dX10_bound_4 : decode cX10_bound 4 = .ok (.getfield 102, 3) := by decide +kernel
theorem dX10_bound_7 : decode cX10_bound 7 = .ok (.ifCond .eq 6, 3) := by decide +kernel
theorem dX10_bound_10 : decode cX10_bound 10 = .ok (.ldc 119, 2) := by decide +kernel
theorem dX10_bound_12 : decode cX10_bound 12 = .ok (.ireturn, 1) := by decide +kernel
theorem dX10_bound_13 : decode cX10_bound 13 = .ok (.aload_n 0, 1) := by decide +kernel
theorem dX10_bound_14 : decode cX10_bound 14 = .ok (.getfield 19, 3) := by decide +kernel
theorem dX10_bound_17 : decode cX10_bound 17 = .ok (.getfield 106, 3) := by decide +kernel
theorem dX10_bound_20 : decode cX10_bound 20 = .ok (.iload_n 1, 1) := by decide +kernel
theorem dX10_bound_21 : decode cX10_bound 21 = .ok (.invokevirtual 110, 3) := by decide +kernel
theorem dX10_bound_24 : decode cX10_bound 24 = .ok (.ifCond .eq 17, 3) := by decide +kernel
theorem dX10_bound_27 : decode cX10_bound 27 = .ok (.iload_n 2, 1) := by decide +kernel
theorem dX10_bound_28 : decode cX10_bound 28 = .ok (.invokestatic 120, 3) := by decide +kernel
theorem dX10_bound_31 : decode cX10_bound 31 = .ok (.ifCond .eq 10, 3) := by decide +kernel
theorem dX10_bound_34 : decode cX10_bound 34 = .ok (.iload_n 3, 1) := by decide +kernel
theorem dX10_bound_35 : decode cX10_bound 35 = .ok (.invokestatic 120, 3) := by decide +kernel
theorem dX10_bound_38 : decode cX10_bound 38 = .ok (.ifCond .ne 6, 3) := by decide +kernel
theorem dX10_bound_41 : decode cX10_bound 41 = .ok (.ldc 123, 2) := by decide +kernel
theorem dX10_bound_43 : decode cX10_bound 43 = .ok (.ireturn, 1) := by decide +kernel
theorem dX10_bound_44 : decode cX10_bound 44 = .ok (.aload_n 0, 1) := by decide +kernel
theorem dX10_bound_45 : decode cX10_bound 45 = .ok (.getfield 19, 3) := by decide +kernel
theorem dX10_bound_48 : decode cX10_bound 48 = .ok (.getfield 106, 3) := by decide +kernel
theorem dX10_bound_51 : decode cX10_bound 51 = .ok (.iload_n 1, 1) := by decide +kernel
theorem dX10_bound_52 : decode cX10_bound 52 = .ok (.iload_n 2, 1) := by decide +kernel
theorem dX10_bound_53 : decode cX10_bound 53 = .ok (.iload_n 3, 1) := by decide +kernel
theorem dX10_bound_54 : decode cX10_bound 54 = .ok (.invokevirtual 124, 3) := by decide +kernel
theorem dX10_bound_57 : decode cX10_bound 57 = .ok (.ireturn, 1) := by decide +kernel
theorem dX10_reach_0 : decode cX10_reach 0 = .ok (.aload_n 0, 1) := by decide +kernel
theorem dX10_reach_1 : decode cX10_reach 1 = .ok (.getfield 19, 3) := by decide +kernel
theorem dX10_reach_4 : decode cX10_reach 4 = .ok (.getfield 102, 3) := by decide +kernel
theorem dX10_reach_7 : decode cX10_reach 7 = .ok (.ifCond .eq 6, 3) := by decide +kernel
theorem dX10_reach_10 : decode cX10_reach 10 = .ok (.bipush (-103), 2) := by decide +kernel
theorem dX10_reach_12 : decode cX10_reach 12 = .ok (.ireturn, 1) := by decide +kernel
theorem dX10_reach_13 : decode cX10_reach 13 = .ok (.iload_n 1, 1) := by decide +kernel
theorem dX10_reach_14 : decode cX10_reach 14 = .ok (.invokestatic 128, 3) := by decide +kernel
theorem dX10_reach_17 : decode cX10_reach 17 = .ok (.ifCond .eq 17, 3) := by decide +kernel
theorem dX10_reach_20 : decode cX10_reach 20 = .ok (.iload_n 2, 1) := by decide +kernel
theorem dX10_reach_21 : decode cX10_reach 21 = .ok (.invokestatic 128, 3) := by decide +kernel
theorem dX10_reach_24 : decode cX10_reach 24 = .ok (.ifCond .eq 10, 3) := by decide +kernel
theorem dX10_reach_27 : decode cX10_reach 27 = .ok (.iload_n 3, 1) := by decide +kernel
theorem dX10_reach_28 : decode cX10_reach 28 = .ok (.invokestatic 128, 3) := by decide +kernel
theorem dX10_reach_31 : decode cX10_reach 31 = .ok (.ifCond .ne 6, 3) := by decide +kernel
theorem dX10_reach_34 : decode cX10_reach 34 = .ok (.bipush (-102), 2) := by decide +kernel
theorem dX10_reach_36 : decode cX10_reach 36 = .ok (.ireturn, 1) := by decide +kernel
theorem dX10_reach_37 : decode cX10_reach 37 = .ok (.aload_n 0, 1) := by decide +kernel
theorem dX10_reach_38 : decode cX10_reach 38 = .ok (.getfield 37, 3) := by decide +kernel
theorem dX10_reach_41 : decode cX10_reach 41 = .ok (.iconst 0, 1) := by decide +kernel
theorem dX10_reach_42 : decode cX10_reach 42 = .ok (.iload_n 1, 1) := by decide +kernel
theorem dX10_reach_43 : decode cX10_reach 43 = .ok (.iastore, 1) := by decide +kernel
theorem dX10_reach_44 : decode cX10_reach 44 = .ok (.aload_n 0, 1) := by decide +kernel
theorem dX10_reach_45 : decode cX10_reach 45 = .ok (.getfield 37, 3) := by decide +kernel
theorem dX10_reach_48 : decode cX10_reach 48 = .ok (.iconst 1, 1) := by decide +kernel
theorem dX10_reach_49 : decode cX10_reach 49 = .ok (.iload_n 2, 1) := by decide +kernel
theorem dX10_reach_50 : decode cX10_reach 50 = .ok (.iastore, 1) := by decide +kernel
theorem dX10_reach_51 : decode cX10_reach 51 = .ok (.aload_n 0, 1) := by decide +kernel
theorem dX10_reach_52 : decode cX10_reach 52 = .ok (.getfield 37, 3) := by decide +kernel
theorem dX10_reach_55 : decode cX10_reach 55 = .ok (.iconst 2, 1) := by decide +kernel
theorem dX10_reach_56 : decode cX10_reach 56 = .ok (.iload_n 3, 1) := by decide +kernel
theorem dX10_reach_57 : decode cX10_reach 57 = .ok (.iastore, 1) := by decide +kernel
theorem dX10_reach_58 : decode cX10_reach 58 = .ok (.aload_n 0, 1) := by decide +kernel
theorem dX10_reach_59 : decode cX10_reach 59 = .ok (.getfield 19, 3) := by decide +kernel
theorem dX10_reach_62 : decode cX10_reach 62 = .ok (.getfield 106, 3) := by decide +kernel
theorem dX10_reach_65 : decode cX10_reach 65 = .ok (.aload_n 0, 1) := by decide +kernel
theorem dX10_reach_66 : decode cX10_reach 66 = .ok (.getfield 37, 3) := by decide +kernel
theorem dX10_reach_69 : decode cX10_reach 69 = .ok (.invokevirtual 131, 3) := by decide +kernel
theorem dX10_reach_72 : decode cX10_reach 72 = .ok (.ireturn, 1) := by decide +kernel
theorem dX10_has_0 : decode cX10_has 0 = .ok (.aload_n 0, 1) := by decide +kernel
theorem dX10_has_1 : decode cX10_has 1 = .ok (.getfield 19, 3) := by decide +kernel
theorem dX10_has_4 : decode cX10_has 4 = .ok (.getfield 102, 3) := by decide +kernel
theorem dX10_has_7 : decode cX10_has 7 = .ok (.ifCond .eq 6, 3) := by decide +kernel
theorem dX10_has_10 : decode cX10_has 10 = .ok (.bipush (-103), 2) := by decide +kernel
theorem dX10_has_12 : decode cX10_has 12 = .ok (.ireturn, 1) := by decide +kernel
theorem dX10_has_13 : decode cX10_has 13 = .ok (.aload_n 0, 1) := by decide +kernel
theorem dX10_has_14 : decode cX10_has 14 = .ok (.getfield 19, 3) := by decide +kernel
theorem dX10_has_17 : decode cX10_has 17 = .ok (.getfield 106, 3) := by decide +kernel
theorem dX10_has_20 : decode cX10_has 20 = .ok (.iload_n 1, 1) := by decide +kernel
theorem dX10_has_21 : decode cX10_has 21 = .ok (.invokevirtual 110, 3) := by decide +kernel
theorem dX10_has_24 : decode cX10_has 24 = .ok (.ifCond .ne 6, 3) := by decide +kernel
theorem dX10_has_27 : decode cX10_has 27 = .ok (.bipush (-101), 2) := by decide +kernel
theorem dX10_has_29 : decode cX10_has 29 = .ok (.ireturn, 1) := by decide +kernel
theorem dX10_has_30 : decode cX10_has 30 = .ok (.iload_n 2, 1) := by decide +kernel
theorem dX10_has_31 : decode cX10_has 31 = .ok (.invokestatic 135, 3) := by decide +kernel
theorem dX10_has_34 : decode cX10_has 34 = .ok (.ifCond .eq 18, 3) := by decide +kernel
theorem dX10_has_37 : decode cX10_has 37 = .ok (.iload_n 3, 1) := by decide +kernel
theorem dX10_has_38 : decode cX10_has 38 = .ok (.invokestatic 135, 3) := by decide +kernel
theorem dX10_has_41 : decode cX10_has 41 = .ok (.ifCond .eq 11, 3) := by decide +kernel
theorem dX10_has_44 : decode cX10_has 44 = .ok (.iload 4, 2) := by decide +kernel
theorem dX10_has_46 : decode cX10_has 46 = .ok (.invokestatic 135, 3) := by decide +kernel
theorem dX10_has_49 : decode cX10_has 49 = .ok (.ifCond .ne 6, 3) := by decide +kernel
theorem dX10_has_52 : decode cX10_has 52 = .ok (.bipush (-102), 2) := by decide +kernel
theorem dX10_has_54 : decode cX10_has 54 = .ok (.ireturn, 1) := by decide +kernel
theorem dX10_has_55 : decode cX10_has 55 = .ok (.aload_n 0, 1) := by decide +kernel
theorem dX10_has_56 : decode cX10_has 56 = .ok (.getfield 41, 3) := by decide +kernel
theorem dX10_has_59 : decode cX10_has 59 = .ok (.iconst 1, 1) := by decide +kernel
theorem dX10_has_60 : decode cX10_has 60 = .ok (.iload_n 2, 1) := by decide +kernel
theorem dX10_has_61 : decode cX10_has 61 = .ok (.iastore, 1) := by decide +kernel
theorem dX10_has_62 : decode cX10_has 62 = .ok (.aload_n 0, 1) := by decide +kernel
theorem dX10_has_63 : decode cX10_has 63 = .ok (.getfield 41, 3) := by decide +kernel
theorem dX10_has_66 : decode cX10_has 66 = .ok (.iconst 2, 1) := by decide +kernel
theorem dX10_has_67 : decode cX10_has 67 = .ok (.iload_n 3, 1) := by decide +kernel
theorem dX10_has_68 : decode cX10_has 68 = .ok (.iastore, 1) := by decide +kernel
theorem dX10_has_69 : decode cX10_has 69 = .ok (.aload_n 0, 1) := by decide +kernel
theorem dX10_has_70 : decode cX10_has 70 = .ok (.getfield 41, 3) := by decide +kernel
theorem dX10_has_73 : decode cX10_has 73 = .ok (.iconst 3, 1) := by decide +kernel
theorem dX10_has_74 : decode cX10_has 74 = .ok (.iload 4, 2) := by decide +kernel
theorem dX10_has_76 : decode cX10_has 76 = .ok (.iastore, 1) := by decide +kernel
theorem dX10_has_77 : decode cX10_has 77 = .ok (.aload_n 0, 1) := by decide +kernel
theorem dX10_has_78 : decode cX10_has 78 = .ok (.getfield 19, 3) := by decide +kernel
theorem dX10_has_81 : decode cX10_has 81 = .ok (.getfield 106, 3) := by decide +kernel
theorem dX10_has_84 : decode cX10_has 84 = .ok (.iload_n 1, 1) := by decide +kernel
theorem dX10_has_85 : decode cX10_has 85 = .ok (.aload_n 0, 1) := by decide +kernel
theorem dX10_has_86 : decode cX10_has 86 = .ok (.getfield 41, 3) := by decide +kernel
theorem dX10_has_89 : decode cX10_has 89 = .ok (.invokevirtual 138, 3) := by decide +kernel
theorem dX10_has_92 : decode cX10_has 92 = .ok (.ifCond .eq 7, 3) := by decide +kernel
theorem dX10_has_95 : decode cX10_has 95 = .ok (.iconst 1, 1) := by decide +kernel
theorem dX10_has_96 : decode cX10_has 96 = .ok (.goto 4, 3) := by decide +kernel
theorem dX10_has_99 : decode cX10_has 99 = .ok (.iconst 0, 1) := by decide +kernel
theorem dX10_has_100 : decode cX10_has 100 = .ok (.ireturn, 1) := by decide +kernel
theorem dX10_way_0 : decode cX10_way 0 = .ok (.aload_n 0, 1) := by decide +kernel
theorem dX10_way_1 : decode cX10_way 1 = .ok (.getfield 19, 3) := by decide +kernel
theorem dX10_way_4 : decode cX10_way 4 = .ok (.getfield 102, 3) := by decide +kernel
theorem dX10_way_7 : decode cX10_way 7 = .ok (.ifCond .eq 6, 3) := by decide +kernel
theorem dX10_way_10 : decode cX10_way 10 = .ok (.bipush (-103), 2) := by decide +kernel
theorem dX10_way_12 : decode cX10_way 12 = .ok (.ireturn, 1) := by decide +kernel
theorem dX10_way_13 : decode cX10_way 13 = .ok (.aload_n 0, 1) := by decide +kernel
theorem dX10_way_14 : decode cX10_way 14 = .ok (.getfield 19, 3) := by decide +kernel
theorem dX10_way_17 : decode cX10_way 17 = .ok (.getfield 106, 3) := by decide +kernel
theorem dX10_way_20 : decode cX10_way 20 = .ok (.iload_n 1, 1) := by decide +kernel
theorem dX10_way_21 : decode cX10_way 21 = .ok (.iload_n 2, 1) := by decide +kernel
theorem dX10_way_22 : decode cX10_way 22 = .ok (.invokevirtual 142, 3) := by decide +kernel
theorem dX10_way_25 : decode cX10_way 25 = .ok (.ifCond .ne 6, 3) := by decide +kernel
theorem dX10_way_28 : decode cX10_way 28 = .ok (.bipush (-101), 2) := by decide +kernel
theorem dX10_way_30 : decode cX10_way 30 = .ok (.ireturn, 1) := by decide +kernel
theorem dX10_way_31 : decode cX10_way 31 = .ok (.iload_n 3, 1) := by decide +kernel
theorem dX10_way_32 : decode cX10_way 32 = .ok (.ifCond .lt 8, 3) := by decide +kernel
theorem dX10_way_35 : decode cX10_way 35 = .ok (.iload_n 3, 1) := by decide +kernel
theorem dX10_way_36 : decode cX10_way 36 = .ok (.iconst 1, 1) := by decide +kernel
theorem dX10_way_37 : decode cX10_way 37 = .ok (.if_icmp .le 6, 3) := by decide +kernel
theorem dX10_way_40 : decode cX10_way 40 = .ok (.bipush (-102), 2) := by decide +kernel
theorem dX10_way_42 : decode cX10_way 42 = .ok (.ireturn, 1) := by decide +kernel
theorem dX10_way_43 : decode cX10_way 43 = .ok (.aload_n 0, 1) := by decide +kernel
theorem dX10_way_44 : decode cX10_way 44 = .ok (.getfield 19, 3) := by decide +kernel
theorem dX10_way_47 : decode cX10_way 47 = .ok (.getfield 106, 3) := by decide +kernel
theorem dX10_way_50 : decode cX10_way 50 = .ok (.aload_n 0, 1) := by decide +kernel
theorem dX10_way_51 : decode cX10_way 51 = .ok (.getfield 19, 3) := by decide +kernel
theorem dX10_way_54 : decode cX10_way 54 = .ok (.getfield 106, 3) := by decide +kernel
theorem dX10_way_57 : decode cX10_way 57 = .ok (.iload_n 1, 1) := by decide +kernel
theorem dX10_way_58 : decode cX10_way 58 = .ok (.iload_n 2, 1) := by decide +kernel
theorem dX10_way_59 : decode cX10_way 59 = .ok (.invokevirtual 146, 3) := by decide +kernel
theorem dX10_way_62 : decode cX10_way 62 = .ok (.iload_n 3, 1) := by decide +kernel
theorem dX10_way_63 : decode cX10_way 63 = .ok (.ifCond .ne 7, 3) := by decide +kernel
theorem dX10_way_66 : decode cX10_way 66 = .ok (.iconst 4, 1) := by decide +kernel
theorem dX10_way_67 : decode cX10_way 67 = .ok (.goto 4, 3) := by decide +kernel
theorem dX10_way_70 : decode cX10_way 70 = .ok (.iconst 5, 1) := by decide +kernel
theorem dX10_way_71 : decode cX10_way 71 = .ok (.invokevirtual 115, 3) := by decide +kernel
theorem dX10_way_74 : decode cX10_way 74 = .ok (.ireturn, 1) := by decide +kernel
theorem dX10_moment_0 : decode cX10_moment 0 = .ok (.aload_n 0, 1) := by decide +kernel
theorem dX10_moment_1 : decode cX10_moment 1 = .ok (.getfield 19, 3) := by decide +kernel
theorem dX10_moment_4 : decode cX10_moment 4 = .ok (.getfield 102, 3) := by decide +kernel
theorem dX10_moment_7 : decode cX10_moment 7 = .ok (.ifCond .eq 6, 3) := by decide +kernel
theorem dX10_moment_10 : decode cX10_moment 10 = .ok (.bipush (-103), 2) := by decide +kernel
theorem dX10_moment_12 : decode cX10_moment 12 = .ok (.ireturn, 1) := by decide +kernel
theorem dX10_moment_13 : decode cX10_moment 13 = .ok (.aload_n 0, 1) := by decide +kernel
theorem dX10_moment_14 : decode cX10_moment 14 = .ok (.getfield 19, 3) := by decide +kernel
theorem dX10_moment_17 : decode cX10_moment 17 = .ok (.getfield 106, 3) := by decide +kernel
theorem dX10_moment_20 : decode cX10_moment 20 = .ok (.iload_n 1, 1) := by decide +kernel
theorem dX10_moment_21 : decode cX10_moment 21 = .ok (.iload_n 2, 1) := by decide +kernel
theorem dX10_moment_22 : decode cX10_moment 22 = .ok (.invokevirtual 142, 3) := by decide +kernel
theorem dX10_moment_25 : decode cX10_moment 25 = .ok (.ifCond .ne 6, 3) := by decide +kernel
theorem dX10_moment_28 : decode cX10_moment 28 = .ok (.bipush (-101), 2) := by decide +kernel
theorem dX10_moment_30 : decode cX10_moment 30 = .ok (.ireturn, 1) := by decide +kernel
theorem dX10_moment_31 : decode cX10_moment 31 = .ok (.aload_n 0, 1) := by decide +kernel
theorem dX10_moment_32 : decode cX10_moment 32 = .ok (.getfield 33, 3) := by decide +kernel
theorem dX10_moment_35 : decode cX10_moment 35 = .ok (.aload_n 0, 1) := by decide +kernel
theorem dX10_moment_36 : decode cX10_moment 36 = .ok (.getfield 12, 3) := by decide +kernel
theorem dX10_moment_39 : decode cX10_moment 39 = .ok (.aload_n 0, 1) := by decide +kernel
theorem dX10_moment_40 : decode cX10_moment 40 = .ok (.getfield 19, 3) := by decide +kernel
theorem dX10_moment_43 : decode cX10_moment 43 = .ok (.getfield 106, 3) := by decide +kernel
theorem dX10_moment_46 : decode cX10_moment 46 = .ok (.iload_n 1, 1) := by decide +kernel
theorem dX10_moment_47 : decode cX10_moment 47 = .ok (.invokevirtual 149, 3) := by decide +kernel
theorem dX10_moment_50 : decode cX10_moment 50 = .ok (.aload_n 0, 1) := by decide +kernel
theorem dX10_moment_51 : decode cX10_moment 51 = .ok (.getfield 33, 3) := by decide +kernel
theorem dX10_moment_54 : decode cX10_moment 54 = .ok (.getfield 153, 3) := by decide +kernel
theorem dX10_moment_57 : decode cX10_moment 57 = .ok (.iload_n 2, 1) := by decide +kernel
theorem dX10_moment_58 : decode cX10_moment 58 = .ok (.iconst 1, 1) := by decide +kernel
theorem dX10_moment_59 : decode cX10_moment 59 = .ok (.iadd, 1) := by decide +kernel
theorem dX10_moment_60 : decode cX10_moment 60 = .ok (.iaload, 1) := by decide +kernel
theorem dX10_moment_61 : decode cX10_moment 61 = .ok (.ireturn, 1) := by decide +kernel
theorem dX10_greatest_0 : decode cX10_greatest 0 = .ok (.iload_n 1, 1) := by decide +kernel
theorem dX10_greatest_1 : decode cX10_greatest 1 = .ok (.invokestatic 70, 3) := by decide +kernel
theorem dX10_greatest_4 : decode cX10_greatest 4 = .ok (.ifCond .eq 14, 3) := by decide +kernel
theorem dX10_greatest_7 : decode cX10_greatest 7 = .ok (.aload_n 0, 1) := by decide +kernel
theorem dX10_greatest_8 : decode cX10_greatest 8 = .ok (.getfield 12, 3) := by decide +kernel
theorem dX10_greatest_11 : decode cX10_greatest 11 = .ok (.iload_n 1, 1) := by decide +kernel
theorem dX10_greatest_12 : decode cX10_greatest 12 = .ok (.invokevirtual 156, 3) := by decide +kernel
theorem dX10_greatest_15 : decode cX10_greatest 15 = .ok (.goto 5, 3) := by decide +kernel
theorem dX10_greatest_18 : decode cX10_greatest 18 = .ok (.bipush (-101), 2) := by decide +kernel
theorem dX10_greatest_20 : decode cX10_greatest 20 = .ok (.ireturn, 1) := by decide +kernel
theorem dX10_begin_0 : decode cX10_begin 0 = .ok (.aload_n 0, 1) := by decide +kernel
theorem dX10_begin_1 : decode cX10_begin 1 = .ok (.getfield 26, 3) := by decide +kernel
theorem dX10_begin_4 : decode cX10_begin 4 = .ok (.aload_n 0, 1) := by decide +kernel
theorem dX10_begin_5 : decode cX10_begin 5 = .ok (.getfield 12, 3) := by decide +kernel
theorem dX10_begin_8 : decode cX10_begin 8 = .ok (.invokevirtual 160, 3) := by decide +kernel
theorem dX10_begin_11 : decode cX10_begin 11 = .ok (.ifCond .eq 7, 3) := by decide +kernel
theorem dX10_begin_14 : decode cX10_begin 14 = .ok (.iconst 1, 1) := by decide +kernel
theorem dX10_begin_15 : decode cX10_begin 15 = .ok (.goto 4, 3) := by decide +kernel
theorem dX10_begin_18 : decode cX10_begin 18 = .ok (.iconst 0, 1) := by decide +kernel
theorem dX10_begin_19 : decode cX10_begin 19 = .ok (.ireturn, 1) := by decide +kernel
theorem dX10_pass_0 : decode cX10_pass 0 = .ok (.iload_n 1, 1) := by decide +kernel
theorem dX10_pass_1 : decode cX10_pass 1 = .ok (.iconst 1, 1) := by decide +kernel
theorem dX10_pass_2 : decode cX10_pass 2 = .ok (.if_icmp .lt 9, 3) := by decide +kernel
theorem dX10_pass_5 : decode cX10_pass 5 = .ok (.iload_n 1, 1) := by decide +kernel
theorem dX10_pass_6 : decode cX10_pass 6 = .ok (.ldc 164, 2) := by decide +kernel
theorem dX10_pass_8 : decode cX10_pass 8 = .ok (.if_icmp .le 6, 3) := by decide +kernel
theorem dX10_pass_11 : decode cX10_pass 11 = .ok (.bipush (-102), 2) := by decide +kernel
theorem dX10_pass_13 : decode cX10_pass 13 = .ok (.ireturn, 1) := by decide +kernel
theorem dX10_pass_14 : decode cX10_pass 14 = .ok (.aload_n 0, 1) := by decide +kernel
theorem dX10_pass_15 : decode cX10_pass 15 = .ok (.getfield 26, 3) := by decide +kernel
theorem dX10_pass_18 : decode cX10_pass 18 = .ok (.getfield 165, 3) := by decide +kernel
theorem dX10_pass_21 : decode cX10_pass 21 = .ok (.ifCond .eq 17, 3) := by decide +kernel
theorem dX10_pass_24 : decode cX10_pass 24 = .ok (.aload_n 0, 1) := by decide +kernel
theorem dX10_pass_25 : decode cX10_pass 25 = .ok (.getfield 26, 3) := by decide +kernel
theorem dX10_pass_28 : decode cX10_pass 28 = .ok (.invokevirtual 168, 3) := by decide +kernel
theorem dX10_pass_31 : decode cX10_pass 31 = .ok (.iload_n 1, 1) := by decide +kernel
theorem dX10_pass_32 : decode cX10_pass 32 = .ok (.iadd, 1) := by decide +kernel
theorem dX10_pass_33 : decode cX10_pass 33 = .ok (.ldc 172, 2) := by decide +kernel
theorem dX10_pass_35 : decode cX10_pass 35 = .ok (.if_icmp .le 6, 3) := by decide +kernel
theorem dX10_pass_38 : decode cX10_pass 38 = .ok (.bipush (-103), 2) := by decide +kernel
theorem dX10_pass_40 : decode cX10_pass 40 = .ok (.ireturn, 1) := by decide +kernel
theorem dX10_pass_41 : decode cX10_pass 41 = .ok (.aload_n 0, 1) := by decide +kernel
theorem dX10_pass_42 : decode cX10_pass 42 = .ok (.getfield 26, 3) := by decide +kernel
theorem dX10_pass_45 : decode cX10_pass 45 = .ok (.aload_n 0, 1) := by decide +kernel
theorem dX10_pass_46 : decode cX10_pass 46 = .ok (.getfield 12, 3) := by decide +kernel
theorem dX10_pass_49 : decode cX10_pass 49 = .ok (.iload_n 1, 1) := by decide +kernel
theorem dX10_pass_50 : decode cX10_pass 50 = .ok (.invokevirtual 173, 3) := by decide +kernel
theorem dX10_pass_53 : decode cX10_pass 53 = .ok (.ifCond .eq 7, 3) := by decide +kernel
theorem dX10_pass_56 : decode cX10_pass 56 = .ok (.iconst 1, 1) := by decide +kernel
theorem dX10_pass_57 : decode cX10_pass 57 = .ok (.goto 4, 3) := by decide +kernel
theorem dX10_pass_60 : decode cX10_pass 60 = .ok (.iconst 0, 1) := by decide +kernel
theorem dX10_pass_61 : decode cX10_pass 61 = .ok (.ireturn, 1) := by decide +kernel
theorem dX10_move_0 : decode cX10_move 0 = .ok (.aload_n 0, 1) := by decide +kernel
theorem dX10_move_1 : decode cX10_move 1 = .ok (.getfield 12, 3) := by decide +kernel
theorem dX10_move_4 : decode cX10_move 4 = .ok (.iload_n 1, 1) := by decide +kernel
theorem dX10_move_5 : decode cX10_move 5 = .ok (.invokevirtual 67, 3) := by decide +kernel
theorem dX10_move_8 : decode cX10_move 8 = .ok (.ifCond .eq 19, 3) := by decide +kernel
theorem dX10_move_11 : decode cX10_move 11 = .ok (.iload_n 2, 1) := by decide +kernel
theorem dX10_move_12 : decode cX10_move 12 = .ok (.iconst (-1), 1) := by decide +kernel
theorem dX10_move_13 : decode cX10_move 13 = .ok (.if_icmp .eq 17, 3) := by decide +kernel
theorem dX10_move_16 : decode cX10_move 16 = .ok (.aload_n 0, 1) := by decide +kernel
theorem dX10_move_17 : decode cX10_move 17 = .ok (.getfield 12, 3) := by decide +kernel
theorem dX10_move_20 : decode cX10_move 20 = .ok (.iload_n 2, 1) := by decide +kernel
theorem dX10_move_21 : decode cX10_move 21 = .ok (.invokevirtual 67, 3) := by decide +kernel
theorem dX10_move_24 : decode cX10_move 24 = .ok (.ifCond .ne 6, 3) := by decide +kernel
theorem dX10_move_27 : decode cX10_move 27 = .ok (.bipush (-101), 2) := by decide +kernel
theorem dX10_move_29 : decode cX10_move 29 = .ok (.ireturn, 1) := by decide +kernel
theorem dX10_move_30 : decode cX10_move 30 = .ok (.aload_n 0, 1) := by decide +kernel
theorem dX10_move_31 : decode cX10_move 31 = .ok (.getfield 12, 3) := by decide +kernel
theorem dX10_move_34 : decode cX10_move 34 = .ok (.iload_n 1, 1) := by decide +kernel
theorem dX10_move_35 : decode cX10_move 35 = .ok (.iload_n 2, 1) := by decide +kernel
theorem dX10_move_36 : decode cX10_move 36 = .ok (.invokevirtual 177, 3) := by decide +kernel
theorem dX10_move_39 : decode cX10_move 39 = .ok (.astore_n 3, 1) := by decide +kernel
theorem dX10_move_40 : decode cX10_move 40 = .ok (.aload_n 3, 1) := by decide +kernel
theorem dX10_move_41 : decode cX10_move 41 = .ok (.ifnonnull 6, 3) := by decide +kernel
theorem dX10_move_44 : decode cX10_move 44 = .ok (.bipush (-102), 2) := by decide +kernel
theorem dX10_move_46 : decode cX10_move 46 = .ok (.ireturn, 1) := by decide +kernel
theorem dX10_move_47 : decode cX10_move 47 = .ok (.aload_n 0, 1) := by decide +kernel
theorem dX10_move_48 : decode cX10_move 48 = .ok (.getfield 26, 3) := by decide +kernel
theorem dX10_move_51 : decode cX10_move 51 = .ok (.getfield 165, 3) := by decide +kernel
theorem dX10_move_54 : decode cX10_move 54 = .ok (.ifCond .ne 6, 3) := by decide +kernel
theorem dX10_move_57 : decode cX10_move 57 = .ok (.bipush (-103), 2) := by decide +kernel
theorem dX10_move_59 : decode cX10_move 59 = .ok (.ireturn, 1) := by decide +kernel
theorem dX10_move_60 : decode cX10_move 60 = .ok (.aload_n 0, 1) := by decide +kernel
theorem dX10_move_61 : decode cX10_move 61 = .ok (.getfield 26, 3) := by decide +kernel
theorem dX10_move_64 : decode cX10_move 64 = .ok (.aload_n 0, 1) := by decide +kernel
theorem dX10_move_65 : decode cX10_move 65 = .ok (.getfield 12, 3) := by decide +kernel
theorem dX10_move_68 : decode cX10_move 68 = .ok (.aload_n 3, 1) := by decide +kernel
theorem dX10_move_69 : decode cX10_move 69 = .ok (.invokevirtual 181, 3) := by decide +kernel
theorem dX10_move_72 : decode cX10_move 72 = .ok (.ifCond .eq 7, 3) := by decide +kernel
theorem dX10_move_75 : decode cX10_move 75 = .ok (.iconst 1, 1) := by decide +kernel
theorem dX10_move_76 : decode cX10_move 76 = .ok (.goto 4, 3) := by decide +kernel
theorem dX10_move_79 : decode cX10_move 79 = .ok (.iconst 0, 1) := by decide +kernel
theorem dX10_move_80 : decode cX10_move 80 = .ok (.ireturn, 1) := by decide +kernel
theorem dX10_run_0 : decode cX10_run 0 = .ok (.aload_n 0, 1) := by decide +kernel
theorem dX10_run_1 : decode cX10_run 1 = .ok (.getfield 26, 3) := by decide +kernel
theorem dX10_run_4 : decode cX10_run 4 = .ok (.getfield 165, 3) := by decide +kernel
theorem dX10_run_7 : decode cX10_run 7 = .ok (.ifCond .ne 6, 3) := by decide +kernel
theorem dX10_run_10 : decode cX10_run 10 = .ok (.bipush (-103), 2) := by decide +kernel
theorem dX10_run_12 : decode cX10_run 12 = .ok (.ireturn, 1) := by decide +kernel
theorem dX10_run_13 : decode cX10_run 13 = .ok (.iload_n 1, 1) := by decide +kernel
theorem dX10_run_14 : decode cX10_run 14 = .ok (.ifCond .lt 18, 3) := by decide +kernel
theorem dX10_run_17 : decode cX10_run 17 = .ok (.iload_n 1, 1) := by decide +kernel
theorem dX10_run_18 : decode cX10_run 18 = .ok (.iconst 3, 1) := by decide +kernel
theorem dX10_run_19 : decode cX10_run 19 = .ok (.if_icmp .ge 13, 3) := by decide +kernel
theorem dX10_run_22 : decode cX10_run 22 = .ok (.aload_n 0, 1) := by decide +kernel
theorem dX10_run_23 : decode cX10_run 23 = .ok (.getfield 26, 3) := by decide +kernel
theorem dX10_run_26 : decode cX10_run 26 = .ok (.getfield 185, 3) := by decide +kernel
theorem dX10_run_29 : decode cX10_run 29 = .ok (.iload_n 1, 1) := by decide +kernel
theorem dX10_run_30 : decode cX10_run 30 = .ok (.iaload, 1) := by decide +kernel
theorem dX10_run_31 : decode cX10_run 31 = .ok (.ireturn, 1) := by decide +kernel
theorem dX10_run_32 : decode cX10_run 32 = .ok (.iload_n 1, 1) := by decide +kernel
theorem dX10_run_33 : decode cX10_run 33 = .ok (.iconst 3, 1) := by decide +kernel
theorem dX10_run_34 : decode cX10_run 34 = .ok (.if_icmp .le 21, 3) := by decide +kernel
theorem dX10_run_37 : decode cX10_run 37 = .ok (.iload_n 1, 1) := by decide +kernel
theorem dX10_run_38 : decode cX10_run 38 = .ok (.bipush 7, 2) := by decide +kernel
theorem dX10_run_40 : decode cX10_run 40 = .ok (.if_icmp .ge 15, 3) := by decide +kernel
theorem dX10_run_43 : decode cX10_run 43 = .ok (.aload_n 0, 1) := by decide +kernel
theorem dX10_run_44 : decode cX10_run 44 = .ok (.getfield 26, 3) := by decide +kernel
theorem dX10_run_47 : decode cX10_run 47 = .ok (.getfield 188, 3) := by decide +kernel
theorem dX10_run_50 : decode cX10_run 50 = .ok (.iload_n 1, 1) := by decide +kernel
theorem dX10_run_51 : decode cX10_run 51 = .ok (.iconst 3, 1) := by decide +kernel
theorem dX10_run_52 : decode cX10_run 52 = .ok (.isub, 1) := by decide +kernel
theorem dX10_run_53 : decode cX10_run 53 = .ok (.iaload, 1) := by decide +kernel
theorem dX10_run_54 : decode cX10_run 54 = .ok (.ireturn, 1) := by decide +kernel
theorem dX10_run_55 : decode cX10_run 55 = .ok (.iload_n 1, 1) := by decide +kernel
theorem dX10_run_56 : decode cX10_run 56 = .ok (.lookupswitch 44 #[(7, 28), (8, 36)], 28) := by decide +kernel
theorem dX10_run_84 : decode cX10_run 84 = .ok (.aload_n 0, 1) := by decide +kernel
theorem dX10_run_85 : decode cX10_run 85 = .ok (.getfield 26, 3) := by decide +kernel
theorem dX10_run_88 : decode cX10_run 88 = .ok (.getfield 191, 3) := by decide +kernel
theorem dX10_run_91 : decode cX10_run 91 = .ok (.ireturn, 1) := by decide +kernel
theorem dX10_run_92 : decode cX10_run 92 = .ok (.aload_n 0, 1) := by decide +kernel
theorem dX10_run_93 : decode cX10_run 93 = .ok (.getfield 26, 3) := by decide +kernel
theorem dX10_run_96 : decode cX10_run 96 = .ok (.getfield 194, 3) := by decide +kernel
theorem dX10_run_99 : decode cX10_run 99 = .ok (.ireturn, 1) := by decide +kernel
theorem dX10_run_100 : decode cX10_run 100 = .ok (.bipush (-102), 2) := by decide +kernel
theorem dX10_run_102 : decode cX10_run 102 = .ok (.ireturn, 1) := by decide +kernel
theorem dX10_here_0 : decode cX10_here 0 = .ok (.aload_n 0, 1) := by decide +kernel
theorem dX10_here_1 : decode cX10_here 1 = .ok (.getfield 26, 3) := by decide +kernel
theorem dX10_here_4 : decode cX10_here 4 = .ok (.getfield 165, 3) := by decide +kernel
theorem dX10_here_7 : decode cX10_here 7 = .ok (.ifCond .eq 13, 3) := by decide +kernel
theorem dX10_here_10 : decode cX10_here 10 = .ok (.aload_n 0, 1) := by decide +kernel
theorem dX10_here_11 : decode cX10_here 11 = .ok (.getfield 19, 3) := by decide +kernel
theorem dX10_here_14 : decode cX10_here 14 = .ok (.getfield 102, 3) := by decide +kernel
theorem dX10_here_17 : decode cX10_here 17 = .ok (.ifCond .eq 6, 3) := by decide +kernel
theorem dX10_here_20 : decode cX10_here 20 = .ok (.bipush (-103), 2) := by decide +kernel
theorem dX10_here_22 : decode cX10_here 22 = .ok (.ireturn, 1) := by decide +kernel
theorem dX10_here_23 : decode cX10_here 23 = .ok (.aload_n 0, 1) := by decide +kernel
theorem dX10_here_24 : decode cX10_here 24 = .ok (.getfield 19, 3) := by decide +kernel
theorem dX10_here_27 : decode cX10_here 27 = .ok (.getfield 106, 3) := by decide +kernel
theorem dX10_here_30 : decode cX10_here 30 = .ok (.aload_n 0, 1) := by decide +kernel
theorem dX10_here_31 : decode cX10_here 31 = .ok (.getfield 26, 3) := by decide +kernel
theorem dX10_here_34 : decode cX10_here 34 = .ok (.getfield 185, 3) := by decide +kernel
theorem dX10_here_37 : decode cX10_here 37 = .ok (.aload_n 0, 1) := by decide +kernel
theorem dX10_here_38 : decode cX10_here 38 = .ok (.getfield 26, 3) := by decide +kernel
theorem dX10_here_41 : decode cX10_here 41 = .ok (.getfield 188, 3) := by decide +kernel
theorem dX10_here_44 : decode cX10_here 44 = .ok (.invokevirtual 197, 3) := by decide +kernel
theorem dX10_here_47 : decode cX10_here 47 = .ok (.ireturn, 1) := by decide +kernel
theorem dX10_about_0 : decode cX10_about 0 = .ok (.aload_n 0, 1) := by decide +kernel
theorem dX10_about_1 : decode cX10_about 1 = .ok (.getfield 12, 3) := by decide +kernel
theorem dX10_about_4 : decode cX10_about 4 = .ok (.iload_n 1, 1) := by decide +kernel
theorem dX10_about_5 : decode cX10_about 5 = .ok (.invokevirtual 67, 3) := by decide +kernel
theorem dX10_about_8 : decode cX10_about 8 = .ok (.ifCond .ne 6, 3) := by decide +kernel
theorem dX10_about_11 : decode cX10_about 11 = .ok (.bipush (-101), 2) := by decide +kernel
theorem dX10_about_13 : decode cX10_about 13 = .ok (.ireturn, 1) := by decide +kernel
theorem dX10_about_14 : decode cX10_about 14 = .ok (.aload_n 0, 1) := by decide +kernel
theorem dX10_about_15 : decode cX10_about 15 = .ok (.getfield 12, 3) := by decide +kernel
theorem dX10_about_18 : decode cX10_about 18 = .ok (.getfield 76, 3) := by decide +kernel
theorem dX10_about_21 : decode cX10_about 21 = .ok (.iload_n 1, 1) := by decide +kernel
theorem dX10_about_22 : decode cX10_about 22 = .ok (.aaload, 1) := by decide +kernel
theorem dX10_about_23 : decode cX10_about 23 = .ok (.astore_n 3, 1) := by decide +kernel
theorem dX10_about_24 : decode cX10_about 24 = .ok (.iload_n 2, 1) := by decide +kernel
theorem dX10_about_25 : decode cX10_about 25 = .ok (.tableswitch 72 0 5 #[39, 44, 49, 54, 59, 64], 39) := by decide +kernel
theorem dX10_about_64 : decode cX10_about 64 = .ok (.aload_n 3, 1) := by decide +kernel
theorem dX10_about_65 : decode cX10_about 65 = .ok (.getfield 201, 3) := by decide +kernel
theorem dX10_about_68 : decode cX10_about 68 = .ok (.ireturn, 1) := by decide +kernel
theorem dX10_about_69 : decode cX10_about 69 = .ok (.aload_n 3, 1) := by decide +kernel
theorem dX10_about_70 : decode cX10_about 70 = .ok (.getfield 204, 3) := by decide +kernel
theorem dX10_about_73 : decode cX10_about 73 = .ok (.ireturn, 1) := by decide +kernel
theorem dX10_about_74 : decode cX10_about 74 = .ok (.aload_n 3, 1) := by decide +kernel
theorem dX10_about_75 : decode cX10_about 75 = .ok (.getfield 207, 3) := by decide +kernel
theorem dX10_about_78 : decode cX10_about 78 = .ok (.ireturn, 1) := by decide +kernel
theorem dX10_about_79 : decode cX10_about 79 = .ok (.aload_n 3, 1) := by decide +kernel
theorem dX10_about_80 : decode cX10_about 80 = .ok (.getfield 210, 3) := by decide +kernel
theorem dX10_about_83 : decode cX10_about 83 = .ok (.ireturn, 1) := by decide +kernel
theorem dX10_about_84 : decode cX10_about 84 = .ok (.aload_n 3, 1) := by decide +kernel
theorem dX10_about_85 : decode cX10_about 85 = .ok (.getfield 213, 3) := by decide +kernel
theorem dX10_about_88 : decode cX10_about 88 = .ok (.ireturn, 1) := by decide +kernel
theorem dX10_about_89 : decode cX10_about 89 = .ok (.aload_n 3, 1) := by decide +kernel
theorem dX10_about_90 : decode cX10_about 90 = .ok (.getfield 80, 3) := by decide +kernel
theorem dX10_about_93 : decode cX10_about 93 = .ok (.getfield 216, 3) := by decide +kernel
theorem dX10_about_96 : decode cX10_about 96 = .ok (.ireturn, 1) := by decide +kernel
theorem dX10_about_97 : decode cX10_about 97 = .ok (.bipush (-102), 2) := by decide +kernel
theorem dX10_about_99 : decode cX10_about 99 = .ok (.ireturn, 1) := by decide +kernel
theorem dX10_count_0 : decode cX10_count 0 = .ok (.iload_n 1, 1) := by decide +kernel
theorem dX10_count_1 : decode cX10_count 1 = .ok (.tableswitch 124 0 6 #[43, 51, 59, 67, 92, 100, 116], 43) := by decide +kernel
theorem dX10_count_44 : decode cX10_count 44 = .ok (.aload_n 0, 1) := by decide +kernel
theorem dX10_count_45 : decode cX10_count 45 = .ok (.getfield 12, 3) := by decide +kernel
theorem dX10_count_48 : decode cX10_count 48 = .ok (.getfield 51, 3) := by decide +kernel
theorem dX10_count_51 : decode cX10_count 51 = .ok (.ireturn, 1) := by decide +kernel
theorem dX10_count_52 : decode cX10_count 52 = .ok (.aload_n 0, 1) := by decide +kernel
theorem dX10_count_53 : decode cX10_count 53 = .ok (.getfield 12, 3) := by decide +kernel
theorem dX10_count_56 : decode cX10_count 56 = .ok (.invokevirtual 221, 3) := by decide +kernel
theorem dX10_count_59 : decode cX10_count 59 = .ok (.ireturn, 1) := by decide +kernel
theorem dX10_count_60 : decode cX10_count 60 = .ok (.aload_n 0, 1) := by decide +kernel
theorem dX10_count_61 : decode cX10_count 61 = .ok (.getfield 12, 3) := by decide +kernel
theorem dX10_count_64 : decode cX10_count 64 = .ok (.invokevirtual 224, 3) := by decide +kernel
theorem dX10_count_67 : decode cX10_count 67 = .ok (.ireturn, 1) := by decide +kernel
theorem dX10_count_68 : decode cX10_count 68 = .ok (.aload_n 0, 1) := by decide +kernel
theorem dX10_count_69 : decode cX10_count 69 = .ok (.getfield 19, 3) := by decide +kernel
theorem dX10_count_72 : decode cX10_count 72 = .ok (.getfield 102, 3) := by decide +kernel
theorem dX10_count_75 : decode cX10_count 75 = .ok (.ifCond .eq 7, 3) := by decide +kernel
theorem dX10_count_78 : decode cX10_count 78 = .ok (.iconst 0, 1) := by decide +kernel
theorem dX10_count_79 : decode cX10_count 79 = .ok (.goto 13, 3) := by decide +kernel
theorem dX10_count_82 : decode cX10_count 82 = .ok (.aload_n 0, 1) := by decide +kernel
theorem dX10_count_83 : decode cX10_count 83 = .ok (.getfield 19, 3) := by decide +kernel
theorem dX10_count_86 : decode cX10_count 86 = .ok (.getfield 106, 3) := by decide +kernel
theorem dX10_count_89 : decode cX10_count 89 = .ok (.getfield 227, 3) := by decide +kernel
theorem dX10_count_92 : decode cX10_count 92 = .ok (.ireturn, 1) := by decide +kernel
theorem dX10_count_93 : decode cX10_count 93 = .ok (.aload_n 0, 1) := by decide +kernel
theorem dX10_count_94 : decode cX10_count 94 = .ok (.getfield 12, 3) := by decide +kernel
theorem dX10_count_97 : decode cX10_count 97 = .ok (.getfield 228, 3) := by decide +kernel
theorem dX10_count_100 : decode cX10_count 100 = .ok (.ireturn, 1) := by decide +kernel
theorem dX10_count_101 : decode cX10_count 101 = .ok (.aload_n 0, 1) := by decide +kernel
theorem dX10_count_102 : decode cX10_count 102 = .ok (.getfield 19, 3) := by decide +kernel
theorem dX10_count_105 : decode cX10_count 105 = .ok (.getfield 102, 3) := by decide +kernel
theorem dX10_count_108 : decode cX10_count 108 = .ok (.ifCond .eq 7, 3) := by decide +kernel
theorem dX10_count_111 : decode cX10_count 111 = .ok (.iconst 1, 1) := by decide +kernel
theorem dX10_count_112 : decode cX10_count 112 = .ok (.goto 4, 3) := by decide +kernel
theorem dX10_count_115 : decode cX10_count 115 = .ok (.iconst 0, 1) := by decide +kernel
theorem dX10_count_116 : decode cX10_count 116 = .ok (.ireturn, 1) := by decide +kernel
theorem dX10_count_117 : decode cX10_count 117 = .ok (.aload_n 0, 1) := by decide +kernel
theorem dX10_count_118 : decode cX10_count 118 = .ok (.getfield 19, 3) := by decide +kernel
theorem dX10_count_121 : decode cX10_count 121 = .ok (.getfield 95, 3) := by decide +kernel
theorem dX10_count_124 : decode cX10_count 124 = .ok (.ireturn, 1) := by decide +kernel
theorem dX10_count_125 : decode cX10_count 125 = .ok (.bipush (-102), 2) := by decide +kernel
theorem dX10_count_127 : decode cX10_count 127 = .ok (.ireturn, 1) := by decide +kernel
theorem dX10_digest_0 : decode cX10_digest 0 = .ok (.aload_n 0, 1) := by decide +kernel
theorem dX10_digest_1 : decode cX10_digest 1 = .ok (.ldc2_w 231, 3) := by decide +kernel
theorem dX10_digest_4 : decode cX10_digest 4 = .ok (.invokevirtual 233, 3) := by decide +kernel
theorem dX10_digest_7 : decode cX10_digest 7 = .ok (.lstore_n 1, 1) := by decide +kernel
theorem dX10_digest_8 : decode cX10_digest 8 = .ok (.aload_n 0, 1) := by decide +kernel
theorem dX10_digest_9 : decode cX10_digest 9 = .ok (.lload_n 1, 1) := by decide +kernel
theorem dX10_digest_10 : decode cX10_digest 10 = .ok (.invokevirtual 237, 3) := by decide +kernel
theorem dX10_digest_13 : decode cX10_digest 13 = .ok (.lstore_n 1, 1) := by decide +kernel
theorem dX10_digest_14 : decode cX10_digest 14 = .ok (.aload_n 0, 1) := by decide +kernel
theorem dX10_digest_15 : decode cX10_digest 15 = .ok (.getfield 19, 3) := by decide +kernel
theorem dX10_digest_18 : decode cX10_digest 18 = .ok (.getfield 102, 3) := by decide +kernel
theorem dX10_digest_21 : decode cX10_digest 21 = .ok (.ifCond .ne 9, 3) := by decide +kernel
theorem dX10_digest_24 : decode cX10_digest 24 = .ok (.aload_n 0, 1) := by decide +kernel
theorem dX10_digest_25 : decode cX10_digest 25 = .ok (.lload_n 1, 1) := by decide +kernel
theorem dX10_digest_26 : decode cX10_digest 26 = .ok (.invokevirtual 240, 3) := by decide +kernel
theorem dX10_digest_29 : decode cX10_digest 29 = .ok (.lstore_n 1, 1) := by decide +kernel
theorem dX10_digest_30 : decode cX10_digest 30 = .ok (.aload_n 0, 1) := by decide +kernel
theorem dX10_digest_31 : decode cX10_digest 31 = .ok (.lload_n 1, 1) := by decide +kernel
theorem dX10_digest_32 : decode cX10_digest 32 = .ok (.invokevirtual 243, 3) := by decide +kernel
theorem dX10_digest_35 : decode cX10_digest 35 = .ok (.lreturn, 1) := by decide +kernel
theorem dX10_isMachine_0 : decode cX10_isMachine 0 = .ok (.iload_n 0, 1) := by decide +kernel
theorem dX10_isMachine_1 : decode cX10_isMachine 1 = .ok (.ifCond .lt 12, 3) := by decide +kernel
theorem dX10_isMachine_4 : decode cX10_isMachine 4 = .ok (.iload_n 0, 1) := by decide +kernel
theorem dX10_isMachine_5 : decode cX10_isMachine 5 = .ok (.iconst 3, 1) := by decide +kernel
theorem dX10_isMachine_6 : decode cX10_isMachine 6 = .ok (.if_icmp .ge 7, 3) := by decide +kernel
theorem dX10_isMachine_9 : decode cX10_isMachine 9 = .ok (.iconst 1, 1) := by decide +kernel
theorem dX10_isMachine_10 : decode cX10_isMachine 10 = .ok (.goto 4, 3) := by decide +kernel
theorem dX10_isMachine_13 : decode cX10_isMachine 13 = .ok (.iconst 0, 1) := by decide +kernel
theorem dX10_isMachine_14 : decode cX10_isMachine 14 = .ok (.ireturn, 1) := by decide +kernel
theorem dX10_isPlace_0 : decode cX10_isPlace 0 = .ok (.iload_n 0, 1) := by decide +kernel
theorem dX10_isPlace_1 : decode cX10_isPlace 1 = .ok (.ifCond .lt 13, 3) := by decide +kernel
theorem dX10_isPlace_4 : decode cX10_isPlace 4 = .ok (.iload_n 0, 1) := by decide +kernel
theorem dX10_isPlace_5 : decode cX10_isPlace 5 = .ok (.bipush 6, 2) := by decide +kernel
theorem dX10_isPlace_7 : decode cX10_isPlace 7 = .ok (.if_icmp .ge 7, 3) := by decide +kernel
theorem dX10_isPlace_10 : decode cX10_isPlace 10 = .ok (.iconst 1, 1) := by decide +kernel
theorem dX10_isPlace_11 : decode cX10_isPlace 11 = .ok (.goto 4, 3) := by decide +kernel
theorem dX10_isPlace_14 : decode cX10_isPlace 14 = .ok (.iconst 0, 1) := by decide +kernel
theorem dX10_isPlace_15 : decode cX10_isPlace 15 = .ok (.ireturn, 1) := by decide +kernel
theorem dX10_isPlaceOrAny_0 : decode cX10_isPlaceOrAny 0 = .ok (.iload_n 0, 1) := by decide +kernel
theorem dX10_isPlaceOrAny_1 : decode cX10_isPlaceOrAny 1 = .ok (.iconst (-1), 1) := by decide +kernel
theorem dX10_isPlaceOrAny_2 : decode cX10_isPlaceOrAny 2 = .ok (.if_icmp .eq 10, 3) := by decide +kernel
theorem dX10_isPlaceOrAny_5 : decode cX10_isPlaceOrAny 5 = .ok (.iload_n 0, 1) := by decide +kernel
theorem dX10_isPlaceOrAny_6 : decode cX10_isPlaceOrAny 6 = .ok (.invokestatic 48, 3) := by decide +kernel
theorem dX10_isPlaceOrAny_9 : decode cX10_isPlaceOrAny 9 = .ok (.ifCond .eq 7, 3) := by decide +kernel
theorem dX10_isPlaceOrAny_12 : decode cX10_isPlaceOrAny 12 = .ok (.iconst 1, 1) := by decide +kernel
theorem dX10_isPlaceOrAny_13 : decode cX10_isPlaceOrAny 13 = .ok (.goto 4, 3) := by decide +kernel
theorem dX10_isPlaceOrAny_16 : decode cX10_isPlaceOrAny 16 = .ok (.iconst 0, 1) := by decide +kernel
theorem dX10_isPlaceOrAny_17 : decode cX10_isPlaceOrAny 17 = .ok (.ireturn, 1) := by decide +kernel
theorem dX10_isClockOrZero_0 : decode cX10_isClockOrZero 0 = .ok (.iload_n 0, 1) := by decide +kernel
theorem dX10_isClockOrZero_1 : decode cX10_isClockOrZero 1 = .ok (.ifCond .lt 12, 3) := by decide +kernel
theorem dX10_isClockOrZero_4 : decode cX10_isClockOrZero 4 = .ok (.iload_n 0, 1) := by decide +kernel
theorem dX10_isClockOrZero_5 : decode cX10_isClockOrZero 5 = .ok (.iconst 4, 1) := by decide +kernel
theorem dX10_isClockOrZero_6 : decode cX10_isClockOrZero 6 = .ok (.if_icmp .ge 7, 3) := by decide +kernel
theorem dX10_isClockOrZero_9 : decode cX10_isClockOrZero 9 = .ok (.iconst 1, 1) := by decide +kernel
theorem dX10_isClockOrZero_10 : decode cX10_isClockOrZero 10 = .ok (.goto 4, 3) := by decide +kernel
theorem dX10_isClockOrZero_13 : decode cX10_isClockOrZero 13 = .ok (.iconst 0, 1) := by decide +kernel
theorem dX10_isClockOrZero_14 : decode cX10_isClockOrZero 14 = .ok (.ireturn, 1) := by decide +kernel
theorem dX10_isClock_0 : decode cX10_isClock 0 = .ok (.iload_n 0, 1) := by decide +kernel
theorem dX10_isClock_1 : decode cX10_isClock 1 = .ok (.ifCond .eq 14, 3) := by decide +kernel
theorem dX10_isClock_4 : decode cX10_isClock 4 = .ok (.iload_n 0, 1) := by decide +kernel
theorem dX10_isClock_5 : decode cX10_isClock 5 = .ok (.invokestatic 120, 3) := by decide +kernel
theorem dX10_isClock_8 : decode cX10_isClock 8 = .ok (.ifCond .eq 7, 3) := by decide +kernel
theorem dX10_isClock_11 : decode cX10_isClock 11 = .ok (.iconst 1, 1) := by decide +kernel
theorem dX10_isClock_12 : decode cX10_isClock 12 = .ok (.goto 4, 3) := by decide +kernel
theorem dX10_isClock_15 : decode cX10_isClock 15 = .ok (.iconst 0, 1) := by decide +kernel
theorem dX10_isClock_16 : decode cX10_isClock 16 = .ok (.ireturn, 1) := by decide +kernel
theorem dX10_isNumber_0 : decode cX10_isNumber 0 = .ok (.iload_n 0, 1) := by decide +kernel
theorem dX10_isNumber_1 : decode cX10_isNumber 1 = .ok (.ifCond .lt 14, 3) := by decide +kernel
theorem dX10_isNumber_4 : decode cX10_isNumber 4 = .ok (.iload_n 0, 1) := by decide +kernel
theorem dX10_isNumber_5 : decode cX10_isNumber 5 = .ok (.sipush 1000, 3) := by decide +kernel
theorem dX10_isNumber_8 : decode cX10_isNumber 8 = .ok (.if_icmp .gt 7, 3) := by decide +kernel
theorem dX10_isNumber_11 : decode cX10_isNumber 11 = .ok (.iconst 1, 1) := by decide +kernel
theorem dX10_isNumber_12 : decode cX10_isNumber 12 = .ok (.goto 4, 3) := by decide +kernel
theorem dX10_isNumber_15 : decode cX10_isNumber 15 = .ok (.iconst 0, 1) := by decide +kernel
theorem dX10_isNumber_16 : decode cX10_isNumber 16 = .ok (.ireturn, 1) := by decide +kernel
theorem dX10_isAmount_0 : decode cX10_isAmount 0 = .ok (.iload_n 0, 1) := by decide +kernel
theorem dX10_isAmount_1 : decode cX10_isAmount 1 = .ok (.ifCond .lt 13, 3) := by decide +kernel
theorem dX10_isAmount_4 : decode cX10_isAmount 4 = .ok (.iload_n 0, 1) := by decide +kernel
theorem dX10_isAmount_5 : decode cX10_isAmount 5 = .ok (.ldc 172, 2) := by decide +kernel
theorem dX10_isAmount_7 : decode cX10_isAmount 7 = .ok (.if_icmp .gt 7, 3) := by decide +kernel
theorem dX10_isAmount_10 : decode cX10_isAmount 10 = .ok (.iconst 1, 1) := by decide +kernel
theorem dX10_isAmount_11 : decode cX10_isAmount 11 = .ok (.goto 4, 3) := by decide +kernel
theorem dX10_isAmount_14 : decode cX10_isAmount 14 = .ok (.iconst 0, 1) := by decide +kernel
theorem dX10_isAmount_15 : decode cX10_isAmount 15 = .ok (.ireturn, 1) := by decide +kernel
theorem dX10_forgetFindings_0 : decode cX10_forgetFindings 0 = .ok (.aload_n 0, 1) := by decide +kernel
theorem dX10_forgetFindings_1 : decode cX10_forgetFindings 1 = .ok (.getfield 19, 3) := by decide +kernel
theorem dX10_forgetFindings_4 : decode cX10_forgetFindings 4 = .ok (.iconst 1, 1) := by decide +kernel
theorem dX10_forgetFindings_5 : decode cX10_forgetFindings 5 = .ok (.putfield 102, 3) := by decide +kernel
theorem dX10_forgetFindings_8 : decode cX10_forgetFindings 8 = .ok (.aload_n 0, 1) := by decide +kernel
theorem dX10_forgetFindings_9 : decode cX10_forgetFindings 9 = .ok (.getfield 26, 3) := by decide +kernel
theorem dX10_forgetFindings_12 : decode cX10_forgetFindings 12 = .ok (.iconst 0, 1) := by decide +kernel
theorem dX10_forgetFindings_13 : decode cX10_forgetFindings 13 = .ok (.putfield 165, 3) := by decide +kernel
theorem dX10_forgetFindings_16 : decode cX10_forgetFindings 16 = .ok (.return_, 1) := by decide +kernel
theorem dX10_addTest_0 : decode cX10_addTest 0 = .ok (.aload_n 1, 1) := by decide +kernel
theorem dX10_addTest_1 : decode cX10_addTest 1 = .ok (.getfield 216, 3) := by decide +kernel
theorem dX10_addTest_4 : decode cX10_addTest 4 = .ok (.iconst 2, 1) := by decide +kernel
theorem dX10_addTest_5 : decode cX10_addTest 5 = .ok (.if_icmp .lt 6, 3) := by decide +kernel
theorem dX10_addTest_8 : decode cX10_addTest 8 = .ok (.bipush (-104), 2) := by decide +kernel
theorem dX10_addTest_10 : decode cX10_addTest 10 = .ok (.ireturn, 1) := by decide +kernel
theorem dX10_addTest_11 : decode cX10_addTest 11 = .ok (.aload_n 0, 1) := by decide +kernel
theorem dX10_addTest_12 : decode cX10_addTest 12 = .ok (.invokevirtual 55, 3) := by decide +kernel
theorem dX10_addTest_15 : decode cX10_addTest 15 = .ok (.aload_n 1, 1) := by decide +kernel
theorem dX10_addTest_16 : decode cX10_addTest 16 = .ok (.new 246, 3) := by decide +kernel
theorem dX10_addTest_19 : decode cX10_addTest 19 = .ok (.dup, 1) := by decide +kernel
theorem dX10_addTest_20 : decode cX10_addTest 20 = .ok (.iload_n 2, 1) := by decide +kernel
theorem dX10_addTest_21 : decode cX10_addTest 21 = .ok (.iload_n 3, 1) := by decide +kernel
theorem dX10_addTest_22 : decode cX10_addTest 22 = .ok (.iload 4, 2) := by decide +kernel
theorem dX10_addTest_24 : decode cX10_addTest 24 = .ok (.invokespecial 248, 3) := by decide +kernel
theorem dX10_addTest_27 : decode cX10_addTest 27 = .ok (.invokevirtual 251, 3) := by decide +kernel
theorem dX10_addTest_30 : decode cX10_addTest 30 = .ok (.aload_n 1, 1) := by decide +kernel
theorem dX10_addTest_31 : decode cX10_addTest 31 = .ok (.getfield 216, 3) := by decide +kernel
theorem dX10_addTest_34 : decode cX10_addTest 34 = .ok (.ireturn, 1) := by decide +kernel
theorem dX10_mix_0 : decode cX10_mix 0 = .ok (.ldc2_w 255, 3) := by decide +kernel
theorem dX10_mix_3 : decode cX10_mix 3 = .ok (.lload_n 0, 1) := by decide +kernel
theorem dX10_mix_4 : decode cX10_mix 4 = .ok (.lmul, 1) := by decide +kernel
theorem dX10_mix_5 : decode cX10_mix 5 = .ok (.lload_n 2, 1) := by decide +kernel
theorem dX10_mix_6 : decode cX10_mix 6 = .ok (.ladd, 1) := by decide +kernel
theorem dX10_mix_7 : decode cX10_mix 7 = .ok (.lreturn, 1) := by decide +kernel
theorem dX10_mixTests_0 : decode cX10_mixTests 0 = .ok (.lload_n 0, 1) := by decide +kernel
theorem dX10_mixTests_1 : decode cX10_mixTests 1 = .ok (.lstore_n 3, 1) := by decide +kernel
theorem dX10_mixTests_2 : decode cX10_mixTests 2 = .ok (.iconst 0, 1) := by decide +kernel
theorem dX10_mixTests_3 : decode cX10_mixTests 3 = .ok (.istore 5, 2) := by decide +kernel
theorem dX10_mixTests_5 : decode cX10_mixTests 5 = .ok (.iload 5, 2) := by decide +kernel
theorem dX10_mixTests_7 : decode cX10_mixTests 7 = .ok (.aload_n 2, 1) := by decide +kernel
theorem dX10_mixTests_8 : decode cX10_mixTests 8 = .ok (.getfield 216, 3) := by decide +kernel
theorem dX10_mixTests_11 : decode cX10_mixTests 11 = .ok (.if_icmp .ge 47, 3) := by decide +kernel
theorem dX10_mixTests_14 : decode cX10_mixTests 14 = .ok (.aload_n 2, 1) := by decide +kernel
theorem dX10_mixTests_15 : decode cX10_mixTests 15 = .ok (.getfield 257, 3) := by decide +kernel
theorem dX10_mixTests_18 : decode cX10_mixTests 18 = .ok (.iload 5, 2) := by decide +kernel
theorem dX10_mixTests_20 : decode cX10_mixTests 20 = .ok (.aaload, 1) := by decide +kernel
theorem dX10_mixTests_21 : decode cX10_mixTests 21 = .ok (.astore 6, 2) := by decide +kernel
theorem dX10_mixTests_23 : decode cX10_mixTests 23 = .ok (.lload_n 3, 1) := by decide +kernel
theorem dX10_mixTests_24 : decode cX10_mixTests 24 = .ok (.aload 6, 2) := by decide +kernel
theorem dX10_mixTests_26 : decode cX10_mixTests 26 = .ok (.getfield 261, 3) := by decide +kernel
theorem dX10_mixTests_29 : decode cX10_mixTests 29 = .ok (.i2l, 1) := by decide +kernel
theorem dX10_mixTests_30 : decode cX10_mixTests 30 = .ok (.invokestatic 264, 3) := by decide +kernel
theorem dX10_mixTests_33 : decode cX10_mixTests 33 = .ok (.aload 6, 2) := by decide +kernel
theorem dX10_mixTests_35 : decode cX10_mixTests 35 = .ok (.getfield 268, 3) := by decide +kernel
theorem dX10_mixTests_38 : decode cX10_mixTests 38 = .ok (.i2l, 1) := by decide +kernel
theorem dX10_mixTests_39 : decode cX10_mixTests 39 = .ok (.invokestatic 264, 3) := by decide +kernel
theorem dX10_mixTests_42 : decode cX10_mixTests 42 = .ok (.aload 6, 2) := by decide +kernel
theorem dX10_mixTests_44 : decode cX10_mixTests 44 = .ok (.getfield 271, 3) := by decide +kernel
theorem dX10_mixTests_47 : decode cX10_mixTests 47 = .ok (.i2l, 1) := by decide +kernel
theorem dX10_mixTests_48 : decode cX10_mixTests 48 = .ok (.invokestatic 264, 3) := by decide +kernel
theorem dX10_mixTests_51 : decode cX10_mixTests 51 = .ok (.lstore_n 3, 1) := by decide +kernel
theorem dX10_mixTests_52 : decode cX10_mixTests 52 = .ok (.iinc 5 1, 3) := by decide +kernel
theorem dX10_mixTests_55 : decode cX10_mixTests 55 = .ok (.goto (-50), 3) := by decide +kernel
theorem dX10_mixTests_58 : decode cX10_mixTests 58 = .ok (.lload_n 3, 1) := by decide +kernel
theorem dX10_mixTests_59 : decode cX10_mixTests 59 = .ok (.lreturn, 1) := by decide +kernel
theorem dX10_mixEdges_0 : decode cX10_mixEdges 0 = .ok (.lload_n 1, 1) := by decide +kernel
theorem dX10_mixEdges_1 : decode cX10_mixEdges 1 = .ok (.lstore_n 3, 1) := by decide +kernel
theorem dX10_mixEdges_2 : decode cX10_mixEdges 2 = .ok (.iconst 0, 1) := by decide +kernel
theorem dX10_mixEdges_3 : decode cX10_mixEdges 3 = .ok (.istore 5, 2) := by decide +kernel
theorem dX10_mixEdges_5 : decode cX10_mixEdges 5 = .ok (.iload 5, 2) := by decide +kernel
theorem dX10_mixEdges_7 : decode cX10_mixEdges 7 = .ok (.aload_n 0, 1) := by decide +kernel
theorem dX10_mixEdges_8 : decode cX10_mixEdges 8 = .ok (.getfield 12, 3) := by decide +kernel
theorem dX10_mixEdges_11 : decode cX10_mixEdges 11 = .ok (.getfield 51, 3) := by decide +kernel
theorem dX10_mixEdges_14 : decode cX10_mixEdges 14 = .ok (.if_icmp .ge 56, 3) := by decide +kernel
theorem dX10_mixEdges_17 : decode cX10_mixEdges 17 = .ok (.iconst 0, 1) := by decide +kernel
theorem dX10_mixEdges_18 : decode cX10_mixEdges 18 = .ok (.istore 6, 2) := by decide +kernel
theorem dX10_mixEdges_20 : decode cX10_mixEdges 20 = .ok (.iload 6, 2) := by decide +kernel
theorem dX10_mixEdges_22 : decode cX10_mixEdges 22 = .ok (.iconst 5, 1) := by decide +kernel
theorem dX10_mixEdges_23 : decode cX10_mixEdges 23 = .ok (.if_icmp .gt 23, 3) := by decide +kernel
theorem dX10_mixEdges_26 : decode cX10_mixEdges 26 = .ok (.lload_n 3, 1) := by decide +kernel
theorem dX10_mixEdges_27 : decode cX10_mixEdges 27 = .ok (.aload_n 0, 1) := by decide +kernel
theorem dX10_mixEdges_28 : decode cX10_mixEdges 28 = .ok (.iload 5, 2) := by decide +kernel
theorem dX10_mixEdges_30 : decode cX10_mixEdges 30 = .ok (.iload 6, 2) := by decide +kernel
theorem dX10_mixEdges_32 : decode cX10_mixEdges 32 = .ok (.invokevirtual 274, 3) := by decide +kernel
theorem dX10_mixEdges_35 : decode cX10_mixEdges 35 = .ok (.i2l, 1) := by decide +kernel
theorem dX10_mixEdges_36 : decode cX10_mixEdges 36 = .ok (.invokestatic 264, 3) := by decide +kernel
theorem dX10_mixEdges_39 : decode cX10_mixEdges 39 = .ok (.lstore_n 3, 1) := by decide +kernel
theorem dX10_mixEdges_40 : decode cX10_mixEdges 40 = .ok (.iinc 6 1, 3) := by decide +kernel
theorem dX10_mixEdges_43 : decode cX10_mixEdges 43 = .ok (.goto (-23), 3) := by decide +kernel
theorem dX10_mixEdges_46 : decode cX10_mixEdges 46 = .ok (.lload_n 3, 1) := by decide +kernel
theorem dX10_mixEdges_47 : decode cX10_mixEdges 47 = .ok (.aload_n 0, 1) := by decide +kernel
theorem dX10_mixEdges_48 : decode cX10_mixEdges 48 = .ok (.getfield 12, 3) := by decide +kernel
theorem dX10_mixEdges_51 : decode cX10_mixEdges 51 = .ok (.getfield 76, 3) := by decide +kernel
theorem dX10_mixEdges_54 : decode cX10_mixEdges 54 = .ok (.iload 5, 2) := by decide +kernel
theorem dX10_mixEdges_56 : decode cX10_mixEdges 56 = .ok (.aaload, 1) := by decide +kernel
theorem dX10_mixEdges_57 : decode cX10_mixEdges 57 = .ok (.getfield 80, 3) := by decide +kernel
theorem dX10_mixEdges_60 : decode cX10_mixEdges 60 = .ok (.invokestatic 277, 3) := by decide +kernel
theorem dX10_mixEdges_63 : decode cX10_mixEdges 63 = .ok (.lstore_n 3, 1) := by decide +kernel
theorem dX10_mixEdges_64 : decode cX10_mixEdges 64 = .ok (.iinc 5 1, 3) := by decide +kernel
theorem dX10_mixEdges_67 : decode cX10_mixEdges 67 = .ok (.goto (-62), 3) := by decide +kernel
theorem dX10_mixEdges_70 : decode cX10_mixEdges 70 = .ok (.lload_n 3, 1) := by decide +kernel
theorem dX10_mixEdges_71 : decode cX10_mixEdges 71 = .ok (.lreturn, 1) := by decide +kernel
theorem dX10_mixLimits_0 : decode cX10_mixLimits 0 = .ok (.lload_n 1, 1) := by decide +kernel
theorem dX10_mixLimits_1 : decode cX10_mixLimits 1 = .ok (.lstore_n 3, 1) := by decide +kernel
theorem dX10_mixLimits_2 : decode cX10_mixLimits 2 = .ok (.iconst 0, 1) := by decide +kernel
theorem dX10_mixLimits_3 : decode cX10_mixLimits 3 = .ok (.istore 5, 2) := by decide +kernel
theorem dX10_mixLimits_5 : decode cX10_mixLimits 5 = .ok (.iload 5, 2) := by decide +kernel
theorem dX10_mixLimits_7 : decode cX10_mixLimits 7 = .ok (.iconst 3, 1) := by decide +kernel
theorem dX10_mixLimits_8 : decode cX10_mixLimits 8 = .ok (.if_icmp .ge 54, 3) := by decide +kernel
theorem dX10_mixLimits_11 : decode cX10_mixLimits 11 = .ok (.iconst 0, 1) := by decide +kernel
theorem dX10_mixLimits_12 : decode cX10_mixLimits 12 = .ok (.istore 6, 2) := by decide +kernel
theorem dX10_mixLimits_14 : decode cX10_mixLimits 14 = .ok (.iload 6, 2) := by decide +kernel
theorem dX10_mixLimits_16 : decode cX10_mixLimits 16 = .ok (.bipush 6, 2) := by decide +kernel
theorem dX10_mixLimits_18 : decode cX10_mixLimits 18 = .ok (.if_icmp .ge 38, 3) := by decide +kernel
theorem dX10_mixLimits_21 : decode cX10_mixLimits 21 = .ok (.aload_n 0, 1) := by decide +kernel
theorem dX10_mixLimits_22 : decode cX10_mixLimits 22 = .ok (.getfield 12, 3) := by decide +kernel
theorem dX10_mixLimits_25 : decode cX10_mixLimits 25 = .ok (.iload 5, 2) := by decide +kernel
theorem dX10_mixLimits_27 : decode cX10_mixLimits 27 = .ok (.iload 6, 2) := by decide +kernel
theorem dX10_mixLimits_29 : decode cX10_mixLimits 29 = .ok (.invokevirtual 88, 3) := by decide +kernel
theorem dX10_mixLimits_32 : decode cX10_mixLimits 32 = .ok (.astore 7, 2) := by decide +kernel
theorem dX10_mixLimits_34 : decode cX10_mixLimits 34 = .ok (.lload_n 3, 1) := by decide +kernel
theorem dX10_mixLimits_35 : decode cX10_mixLimits 35 = .ok (.aload 7, 2) := by decide +kernel
theorem dX10_mixLimits_37 : decode cX10_mixLimits 37 = .ok (.getfield 216, 3) := by decide +kernel
theorem dX10_mixLimits_40 : decode cX10_mixLimits 40 = .ok (.i2l, 1) := by decide +kernel
theorem dX10_mixLimits_41 : decode cX10_mixLimits 41 = .ok (.invokestatic 264, 3) := by decide +kernel
theorem dX10_mixLimits_44 : decode cX10_mixLimits 44 = .ok (.aload 7, 2) := by decide +kernel
theorem dX10_mixLimits_46 : decode cX10_mixLimits 46 = .ok (.invokestatic 277, 3) := by decide +kernel
theorem dX10_mixLimits_49 : decode cX10_mixLimits 49 = .ok (.lstore_n 3, 1) := by decide +kernel
theorem dX10_mixLimits_50 : decode cX10_mixLimits 50 = .ok (.iinc 6 1, 3) := by decide +kernel
theorem dX10_mixLimits_53 : decode cX10_mixLimits 53 = .ok (.goto (-39), 3) := by decide +kernel
theorem dX10_mixLimits_56 : decode cX10_mixLimits 56 = .ok (.iinc 5 1, 3) := by decide +kernel
theorem dX10_mixLimits_59 : decode cX10_mixLimits 59 = .ok (.goto (-54), 3) := by decide +kernel
theorem dX10_mixLimits_62 : decode cX10_mixLimits 62 = .ok (.lload_n 3, 1) := by decide +kernel
theorem dX10_mixLimits_63 : decode cX10_mixLimits 63 = .ok (.lreturn, 1) := by decide +kernel
theorem dX10_mixStates_0 : decode cX10_mixStates 0 = .ok (.lload_n 1, 1) := by decide +kernel
theorem dX10_mixStates_1 : decode cX10_mixStates 1 = .ok (.lstore_n 3, 1) := by decide +kernel
theorem dX10_mixStates_2 : decode cX10_mixStates 2 = .ok (.iconst 0, 1) := by decide +kernel
theorem dX10_mixStates_3 : decode cX10_mixStates 3 = .ok (.istore 5, 2) := by decide +kernel
theorem dX10_mixStates_5 : decode cX10_mixStates 5 = .ok (.iload 5, 2) := by decide +kernel
theorem dX10_mixStates_7 : decode cX10_mixStates 7 = .ok (.aload_n 0, 1) := by decide +kernel
theorem dX10_mixStates_8 : decode cX10_mixStates 8 = .ok (.getfield 19, 3) := by decide +kernel
theorem dX10_mixStates_11 : decode cX10_mixStates 11 = .ok (.getfield 106, 3) := by decide +kernel
theorem dX10_mixStates_14 : decode cX10_mixStates 14 = .ok (.getfield 227, 3) := by decide +kernel
theorem dX10_mixStates_17 : decode cX10_mixStates 17 = .ok (.if_icmp .ge 85, 3) := by decide +kernel
theorem dX10_mixStates_20 : decode cX10_mixStates 20 = .ok (.iconst 0, 1) := by decide +kernel
theorem dX10_mixStates_21 : decode cX10_mixStates 21 = .ok (.istore 6, 2) := by decide +kernel
theorem dX10_mixStates_23 : decode cX10_mixStates 23 = .ok (.iload 6, 2) := by decide +kernel
theorem dX10_mixStates_25 : decode cX10_mixStates 25 = .ok (.bipush 7, 2) := by decide +kernel
theorem dX10_mixStates_27 : decode cX10_mixStates 27 = .ok (.if_icmp .ge 23, 3) := by decide +kernel
theorem dX10_mixStates_30 : decode cX10_mixStates 30 = .ok (.lload_n 3, 1) := by decide +kernel
theorem dX10_mixStates_31 : decode cX10_mixStates 31 = .ok (.aload_n 0, 1) := by decide +kernel
theorem dX10_mixStates_32 : decode cX10_mixStates 32 = .ok (.iload 5, 2) := by decide +kernel
theorem dX10_mixStates_34 : decode cX10_mixStates 34 = .ok (.iload 6, 2) := by decide +kernel
theorem dX10_mixStates_36 : decode cX10_mixStates 36 = .ok (.invokevirtual 281, 3) := by decide +kernel
theorem dX10_mixStates_39 : decode cX10_mixStates 39 = .ok (.i2l, 1) := by decide +kernel
theorem dX10_mixStates_40 : decode cX10_mixStates 40 = .ok (.invokestatic 264, 3) := by decide +kernel
theorem dX10_mixStates_43 : decode cX10_mixStates 43 = .ok (.lstore_n 3, 1) := by decide +kernel
theorem dX10_mixStates_44 : decode cX10_mixStates 44 = .ok (.iinc 6 1, 3) := by decide +kernel
theorem dX10_mixStates_47 : decode cX10_mixStates 47 = .ok (.goto (-24), 3) := by decide +kernel
theorem dX10_mixStates_50 : decode cX10_mixStates 50 = .ok (.iconst 0, 1) := by decide +kernel
theorem dX10_mixStates_51 : decode cX10_mixStates 51 = .ok (.istore 6, 2) := by decide +kernel
theorem dX10_mixStates_53 : decode cX10_mixStates 53 = .ok (.iload 6, 2) := by decide +kernel
theorem dX10_mixStates_55 : decode cX10_mixStates 55 = .ok (.iconst 4, 1) := by decide +kernel
theorem dX10_mixStates_56 : decode cX10_mixStates 56 = .ok (.if_icmp .ge 40, 3) := by decide +kernel
theorem dX10_mixStates_59 : decode cX10_mixStates 59 = .ok (.iconst 0, 1) := by decide +kernel
theorem dX10_mixStates_60 : decode cX10_mixStates 60 = .ok (.istore 7, 2) := by decide +kernel
theorem dX10_mixStates_62 : decode cX10_mixStates 62 = .ok (.iload 7, 2) := by decide +kernel
theorem dX10_mixStates_64 : decode cX10_mixStates 64 = .ok (.iconst 4, 1) := by decide +kernel
theorem dX10_mixStates_65 : decode cX10_mixStates 65 = .ok (.if_icmp .ge 25, 3) := by decide +kernel
theorem dX10_mixStates_68 : decode cX10_mixStates 68 = .ok (.lload_n 3, 1) := by decide +kernel
theorem dX10_mixStates_69 : decode cX10_mixStates 69 = .ok (.aload_n 0, 1) := by decide +kernel
theorem dX10_mixStates_70 : decode cX10_mixStates 70 = .ok (.iload 5, 2) := by decide +kernel
theorem dX10_mixStates_72 : decode cX10_mixStates 72 = .ok (.iload 6, 2) := by decide +kernel
theorem dX10_mixStates_74 : decode cX10_mixStates 74 = .ok (.iload 7, 2) := by decide +kernel
theorem dX10_mixStates_76 : decode cX10_mixStates 76 = .ok (.invokevirtual 284, 3) := by decide +kernel
theorem dX10_mixStates_79 : decode cX10_mixStates 79 = .ok (.i2l, 1) := by decide +kernel
theorem dX10_mixStates_80 : decode cX10_mixStates 80 = .ok (.invokestatic 264, 3) := by decide +kernel
theorem dX10_mixStates_83 : decode cX10_mixStates 83 = .ok (.lstore_n 3, 1) := by decide +kernel
theorem dX10_mixStates_84 : decode cX10_mixStates 84 = .ok (.iinc 7 1, 3) := by decide +kernel
theorem dX10_mixStates_87 : decode cX10_mixStates 87 = .ok (.goto (-25), 3) := by decide +kernel
theorem dX10_mixStates_90 : decode cX10_mixStates 90 = .ok (.iinc 6 1, 3) := by decide +kernel
theorem dX10_mixStates_93 : decode cX10_mixStates 93 = .ok (.goto (-40), 3) := by decide +kernel
theorem dX10_mixStates_96 : decode cX10_mixStates 96 = .ok (.iinc 5 1, 3) := by decide +kernel
theorem dX10_mixStates_99 : decode cX10_mixStates 99 = .ok (.goto (-94), 3) := by decide +kernel
theorem dX10_mixStates_102 : decode cX10_mixStates 102 = .ok (.lload_n 3, 1) := by decide +kernel
theorem dX10_mixStates_103 : decode cX10_mixStates 103 = .ok (.lreturn, 1) := by decide +kernel
theorem dX10_mixWalk_0 : decode cX10_mixWalk 0 = .ok (.lload_n 1, 1) := by decide +kernel
theorem dX10_mixWalk_1 : decode cX10_mixWalk 1 = .ok (.aload_n 0, 1) := by decide +kernel
theorem dX10_mixWalk_2 : decode cX10_mixWalk 2 = .ok (.getfield 26, 3) := by decide +kernel
theorem dX10_mixWalk_5 : decode cX10_mixWalk 5 = .ok (.getfield 165, 3) := by decide +kernel
theorem dX10_mixWalk_8 : decode cX10_mixWalk 8 = .ok (.ifCond .eq 7, 3) := by decide +kernel
theorem dX10_mixWalk_11 : decode cX10_mixWalk 11 = .ok (.lconst 1, 1) := by decide +kernel
theorem dX10_mixWalk_12 : decode cX10_mixWalk 12 = .ok (.goto 4, 3) := by decide +kernel
theorem dX10_mixWalk_15 : decode cX10_mixWalk 15 = .ok (.lconst 0, 1) := by decide +kernel
theorem dX10_mixWalk_16 : decode cX10_mixWalk 16 = .ok (.invokestatic 264, 3) := by decide +kernel
theorem dX10_mixWalk_19 : decode cX10_mixWalk 19 = .ok (.lstore_n 3, 1) := by decide +kernel
theorem dX10_mixWalk_20 : decode cX10_mixWalk 20 = .ok (.iconst 0, 1) := by decide +kernel
theorem dX10_mixWalk_21 : decode cX10_mixWalk 21 = .ok (.istore 5, 2) := by decide +kernel
theorem dX10_mixWalk_23 : decode cX10_mixWalk 23 = .ok (.iload 5, 2) := by decide +kernel
theorem dX10_mixWalk_25 : decode cX10_mixWalk 25 = .ok (.bipush 8, 2) := by decide +kernel
theorem dX10_mixWalk_27 : decode cX10_mixWalk 27 = .ok (.if_icmp .gt 27, 3) := by decide +kernel
theorem dX10_mixWalk_30 : decode cX10_mixWalk 30 = .ok (.iload 5, 2) := by decide +kernel
theorem dX10_mixWalk_32 : decode cX10_mixWalk 32 = .ok (.iconst 3, 1) := by decide +kernel
theorem dX10_mixWalk_33 : decode cX10_mixWalk 33 = .ok (.if_icmp .eq 15, 3) := by decide +kernel
theorem dX10_mixWalk_36 : decode cX10_mixWalk 36 = .ok (.lload_n 3, 1) := by decide +kernel
theorem dX10_mixWalk_37 : decode cX10_mixWalk 37 = .ok (.aload_n 0, 1) := by decide +kernel
theorem dX10_mixWalk_38 : decode cX10_mixWalk 38 = .ok (.iload 5, 2) := by decide +kernel
theorem dX10_mixWalk_40 : decode cX10_mixWalk 40 = .ok (.invokevirtual 287, 3) := by decide +kernel
theorem dX10_mixWalk_43 : decode cX10_mixWalk 43 = .ok (.i2l, 1) := by decide +kernel
theorem dX10_mixWalk_44 : decode cX10_mixWalk 44 = .ok (.invokestatic 264, 3) := by decide +kernel
theorem dX10_mixWalk_47 : decode cX10_mixWalk 47 = .ok (.lstore_n 3, 1) := by decide +kernel
theorem dX10_mixWalk_48 : decode cX10_mixWalk 48 = .ok (.iinc 5 1, 3) := by decide +kernel
theorem dX10_mixWalk_51 : decode cX10_mixWalk 51 = .ok (.goto (-28), 3) := by decide +kernel
theorem dX10_mixWalk_54 : decode cX10_mixWalk 54 = .ok (.lload_n 3, 1) := by decide +kernel
theorem dX10_mixWalk_55 : decode cX10_mixWalk 55 = .ok (.lreturn, 1) := by decide +kernel
theorem dJ9_max_7cf53_0 : decode cJ9_max_7cf53 0 = .ok (.iload_n 0, 1) := by decide +kernel
theorem dJ9_max_7cf53_1 : decode cJ9_max_7cf53 1 = .ok (.iload_n 1, 1) := by decide +kernel
theorem dJ9_max_7cf53_2 : decode cJ9_max_7cf53 2 = .ok (.if_icmp .lt 7, 3) := by decide +kernel
theorem dJ9_max_7cf53_5 : decode cJ9_max_7cf53 5 = .ok (.iload_n 0, 1) := by decide +kernel
theorem dJ9_max_7cf53_6 : decode cJ9_max_7cf53 6 = .ok (.goto 4, 3) := by decide +kernel
theorem dJ9_max_7cf53_9 : decode cJ9_max_7cf53 9 = .ok (.iload_n 1, 1) := by decide +kernel
theorem dJ9_max_7cf53_10 : decode cJ9_max_7cf53 10 = .ok (.ireturn, 1) := by decide +kernel
theorem dJ9_min_7cf53_0 : decode cJ9_min_7cf53 0 = .ok (.iload_n 0, 1) := by decide +kernel
theorem dJ9_min_7cf53_1 : decode cJ9_min_7cf53 1 = .ok (.iload_n 1, 1) := by decide +kernel
theorem dJ9_min_7cf53_2 : decode cJ9_min_7cf53 2 = .ok (.if_icmp .gt 7, 3) := by decide +kernel
theorem dJ9_min_7cf53_5 : decode cJ9_min_7cf53 5 = .ok (.iload_n 0, 1) := by decide +kernel
theorem dJ9_min_7cf53_6 : decode cJ9_min_7cf53 6 = .ok (.goto 4, 3) := by decide +kernel
theorem dJ9_min_7cf53_9 : decode cJ9_min_7cf53 9 = .ok (.iload_n 1, 1) := by decide +kernel
theorem dJ9_min_7cf53_10 : decode cJ9_min_7cf53 10 = .ok (.ireturn, 1) := by decide +kernel
theorem dJ7_fill_53178_0 : decode cJ7_fill_53178 0 = .ok (.iconst 0, 1) := by decide +kernel
theorem dJ7_fill_53178_1 : decode cJ7_fill_53178 1 = .ok (.istore_n 2, 1) := by decide +kernel
theorem dJ7_fill_53178_2 : decode cJ7_fill_53178 2 = .ok (.aload_n 0, 1) := by decide +kernel
theorem dJ7_fill_53178_3 : decode cJ7_fill_53178 3 = .ok (.arraylength, 1) := by decide +kernel
theorem dJ7_fill_53178_4 : decode cJ7_fill_53178 4 = .ok (.istore_n 3, 1) := by decide +kernel
theorem dJ7_fill_53178_5 : decode cJ7_fill_53178 5 = .ok (.iload_n 2, 1) := by decide +kernel
theorem dJ7_fill_53178_6 : decode cJ7_fill_53178 6 = .ok (.iload_n 3, 1) := by decide +kernel
theorem dJ7_fill_53178_7 : decode cJ7_fill_53178 7 = .ok (.if_icmp .ge 13, 3) := by decide +kernel
theorem dJ7_fill_53178_10 : decode cJ7_fill_53178 10 = .ok (.aload_n 0, 1) := by decide +kernel
theorem dJ7_fill_53178_11 : decode cJ7_fill_53178 11 = .ok (.iload_n 2, 1) := by decide +kernel
theorem dJ7_fill_53178_12 : decode cJ7_fill_53178 12 = .ok (.iload_n 1, 1) := by decide +kernel
theorem dJ7_fill_53178_13 : decode cJ7_fill_53178 13 = .ok (.iastore, 1) := by decide +kernel
theorem dJ7_fill_53178_14 : decode cJ7_fill_53178 14 = .ok (.iinc 2 1, 3) := by decide +kernel
theorem dJ7_fill_53178_17 : decode cJ7_fill_53178 17 = .ok (.goto (-12), 3) := by decide +kernel
theorem dJ7_fill_53178_20 : decode cJ7_fill_53178 20 = .ok (.return_, 1) := by decide +kernel
theorem dL_law_0 : decode cL_law 0 = .ok (.new 7, 3) := by decide +kernel
theorem dL_law_3 : decode cL_law 3 = .ok (.dup, 1) := by decide +kernel
theorem dL_law_4 : decode cL_law 4 = .ok (.invokespecial 9, 3) := by decide +kernel
theorem dL_law_7 : decode cL_law 7 = .ok (.astore_n 1, 1) := by decide +kernel
theorem dL_law_8 : decode cL_law 8 = .ok (.new 10, 3) := by decide +kernel
theorem dL_law_11 : decode cL_law 11 = .ok (.dup, 1) := by decide +kernel
theorem dL_law_12 : decode cL_law 12 = .ok (.invokespecial 12, 3) := by decide +kernel
theorem dL_law_15 : decode cL_law 15 = .ok (.astore_n 2, 1) := by decide +kernel
theorem dL_law_16 : decode cL_law 16 = .ok (.iconst 0, 1) := by decide +kernel
theorem dL_law_17 : decode cL_law 17 = .ok (.istore_n 3, 1) := by decide +kernel
theorem dL_law_18 : decode cL_law 18 = .ok (.iload_n 3, 1) := by decide +kernel
theorem dL_law_19 : decode cL_law 19 = .ok (.aload_n 0, 1) := by decide +kernel
theorem dL_law_20 : decode cL_law 20 = .ok (.arraylength, 1) := by decide +kernel
theorem dL_law_21 : decode cL_law 21 = .ok (.bipush 6, 2) := by decide +kernel
theorem dL_law_23 : decode cL_law 23 = .ok (.isub, 1) := by decide +kernel
theorem dL_law_24 : decode cL_law 24 = .ok (.if_icmp .gt 770, 3) := by decide +kernel
theorem dL_law_27 : decode cL_law 27 = .ok (.aload_n 0, 1) := by decide +kernel
theorem dL_law_28 : decode cL_law 28 = .ok (.iload_n 3, 1) := by decide +kernel
theorem dL_law_29 : decode cL_law 29 = .ok (.iaload, 1) := by decide +kernel
theorem dL_law_30 : decode cL_law 30 = .ok (.bipush 31, 2) := by decide +kernel
theorem dL_law_32 : decode cL_law 32 = .ok (.iand, 1) := by decide +kernel
theorem dL_law_33 : decode cL_law 33 = .ok (.tableswitch 755 0 19 #[95, 158, 211, 274, 287, 310, 343, 386, 429, 482, 525, 558, 581, 594, 617, 650, 673, 686, 719, 742], 95) := by decide +kernel
theorem dL_law_128 : decode cL_law 128 = .ok (.aload_n 1, 1) := by decide +kernel
theorem dL_law_129 : decode cL_law 129 = .ok (.aload_n 0, 1) := by decide +kernel
theorem dL_law_130 : decode cL_law 130 = .ok (.iload_n 3, 1) := by decide +kernel
theorem dL_law_131 : decode cL_law 131 = .ok (.iconst 1, 1) := by decide +kernel
theorem dL_law_132 : decode cL_law 132 = .ok (.iadd, 1) := by decide +kernel
theorem dL_law_133 : decode cL_law 133 = .ok (.iaload, 1) := by decide +kernel
theorem dL_law_134 : decode cL_law 134 = .ok (.aload_n 0, 1) := by decide +kernel
theorem dL_law_135 : decode cL_law 135 = .ok (.iload_n 3, 1) := by decide +kernel
theorem dL_law_136 : decode cL_law 136 = .ok (.iconst 2, 1) := by decide +kernel
theorem dL_law_137 : decode cL_law 137 = .ok (.iadd, 1) := by decide +kernel
theorem dL_law_138 : decode cL_law 138 = .ok (.iaload, 1) := by decide +kernel
theorem dL_law_139 : decode cL_law 139 = .ok (.aload_n 0, 1) := by decide +kernel
theorem dL_law_140 : decode cL_law 140 = .ok (.iload_n 3, 1) := by decide +kernel
theorem dL_law_141 : decode cL_law 141 = .ok (.iconst 3, 1) := by decide +kernel
theorem dL_law_142 : decode cL_law 142 = .ok (.iadd, 1) := by decide +kernel
theorem dL_law_143 : decode cL_law 143 = .ok (.iaload, 1) := by decide +kernel
theorem dL_law_144 : decode cL_law 144 = .ok (.aload_n 0, 1) := by decide +kernel
theorem dL_law_145 : decode cL_law 145 = .ok (.iload_n 3, 1) := by decide +kernel
theorem dL_law_146 : decode cL_law 146 = .ok (.iconst 4, 1) := by decide +kernel
theorem dL_law_147 : decode cL_law 147 = .ok (.iadd, 1) := by decide +kernel
theorem dL_law_148 : decode cL_law 148 = .ok (.iaload, 1) := by decide +kernel
theorem dL_law_149 : decode cL_law 149 = .ok (.aload_n 0, 1) := by decide +kernel
theorem dL_law_150 : decode cL_law 150 = .ok (.iload_n 3, 1) := by decide +kernel
theorem dL_law_151 : decode cL_law 151 = .ok (.iconst 5, 1) := by decide +kernel
theorem dL_law_152 : decode cL_law 152 = .ok (.iadd, 1) := by decide +kernel
theorem dL_law_153 : decode cL_law 153 = .ok (.iaload, 1) := by decide +kernel
theorem dL_law_154 : decode cL_law 154 = .ok (.invokevirtual 13, 3) := by decide +kernel
theorem dL_law_157 : decode cL_law 157 = .ok (.pop, 1) := by decide +kernel
theorem dL_law_158 : decode cL_law 158 = .ok (.aload_n 2, 1) := by decide +kernel
theorem dL_law_159 : decode cL_law 159 = .ok (.aload_n 0, 1) := by decide +kernel
theorem dL_law_160 : decode cL_law 160 = .ok (.iload_n 3, 1) := by decide +kernel
theorem dL_law_161 : decode cL_law 161 = .ok (.iconst 1, 1) := by decide +kernel
theorem dL_law_162 : decode cL_law 162 = .ok (.iadd, 1) := by decide +kernel
theorem dL_law_163 : decode cL_law 163 = .ok (.iaload, 1) := by decide +kernel
theorem dL_law_164 : decode cL_law 164 = .ok (.aload_n 0, 1) := by decide +kernel
theorem dL_law_165 : decode cL_law 165 = .ok (.iload_n 3, 1) := by decide +kernel
theorem dL_law_166 : decode cL_law 166 = .ok (.iconst 2, 1) := by decide +kernel
theorem dL_law_167 : decode cL_law 167 = .ok (.iadd, 1) := by decide +kernel
theorem dL_law_168 : decode cL_law 168 = .ok (.iaload, 1) := by decide +kernel
theorem dL_law_169 : decode cL_law 169 = .ok (.aload_n 0, 1) := by decide +kernel
theorem dL_law_170 : decode cL_law 170 = .ok (.iload_n 3, 1) := by decide +kernel
theorem dL_law_171 : decode cL_law 171 = .ok (.iconst 3, 1) := by decide +kernel
theorem dL_law_172 : decode cL_law 172 = .ok (.iadd, 1) := by decide +kernel
theorem dL_law_173 : decode cL_law 173 = .ok (.iaload, 1) := by decide +kernel
theorem dL_law_174 : decode cL_law 174 = .ok (.aload_n 0, 1) := by decide +kernel
theorem dL_law_175 : decode cL_law 175 = .ok (.iload_n 3, 1) := by decide +kernel
theorem dL_law_176 : decode cL_law 176 = .ok (.iconst 4, 1) := by decide +kernel
theorem dL_law_177 : decode cL_law 177 = .ok (.iadd, 1) := by decide +kernel
theorem dL_law_178 : decode cL_law 178 = .ok (.iaload, 1) := by decide +kernel
theorem dL_law_179 : decode cL_law 179 = .ok (.aload_n 0, 1) := by decide +kernel
theorem dL_law_180 : decode cL_law 180 = .ok (.iload_n 3, 1) := by decide +kernel
theorem dL_law_181 : decode cL_law 181 = .ok (.iconst 5, 1) := by decide +kernel
theorem dL_law_182 : decode cL_law 182 = .ok (.iadd, 1) := by decide +kernel
theorem dL_law_183 : decode cL_law 183 = .ok (.iaload, 1) := by decide +kernel
theorem dL_law_184 : decode cL_law 184 = .ok (.invokevirtual 17, 3) := by decide +kernel
theorem dL_law_187 : decode cL_law 187 = .ok (.pop, 1) := by decide +kernel
theorem dL_law_188 : decode cL_law 188 = .ok (.goto 600, 3) := by decide +kernel
theorem dL_law_191 : decode cL_law 191 = .ok (.aload_n 1, 1) := by decide +kernel
theorem dL_law_192 : decode cL_law 192 = .ok (.aload_n 0, 1) := by decide +kernel
theorem dL_law_193 : decode cL_law 193 = .ok (.iload_n 3, 1) := by decide +kernel
theorem dL_law_194 : decode cL_law 194 = .ok (.iconst 1, 1) := by decide +kernel
theorem dL_law_195 : decode cL_law 195 = .ok (.iadd, 1) := by decide +kernel
theorem dL_law_196 : decode cL_law 196 = .ok (.iaload, 1) := by decide +kernel
theorem dL_law_197 : decode cL_law 197 = .ok (.aload_n 0, 1) := by decide +kernel
theorem dL_law_198 : decode cL_law 198 = .ok (.iload_n 3, 1) := by decide +kernel
theorem dL_law_199 : decode cL_law 199 = .ok (.iconst 2, 1) := by decide +kernel
theorem dL_law_200 : decode cL_law 200 = .ok (.iadd, 1) := by decide +kernel
theorem dL_law_201 : decode cL_law 201 = .ok (.iaload, 1) := by decide +kernel
theorem dL_law_202 : decode cL_law 202 = .ok (.aload_n 0, 1) := by decide +kernel
theorem dL_law_203 : decode cL_law 203 = .ok (.iload_n 3, 1) := by decide +kernel
theorem dL_law_204 : decode cL_law 204 = .ok (.iconst 3, 1) := by decide +kernel
theorem dL_law_205 : decode cL_law 205 = .ok (.iadd, 1) := by decide +kernel
theorem dL_law_206 : decode cL_law 206 = .ok (.iaload, 1) := by decide +kernel
theorem dL_law_207 : decode cL_law 207 = .ok (.aload_n 0, 1) := by decide +kernel
theorem dL_law_208 : decode cL_law 208 = .ok (.iload_n 3, 1) := by decide +kernel
theorem dL_law_209 : decode cL_law 209 = .ok (.iconst 4, 1) := by decide +kernel
theorem dL_law_210 : decode cL_law 210 = .ok (.iadd, 1) := by decide +kernel
theorem dL_law_211 : decode cL_law 211 = .ok (.iaload, 1) := by decide +kernel
theorem dL_law_212 : decode cL_law 212 = .ok (.invokevirtual 18, 3) := by decide +kernel
theorem dL_law_215 : decode cL_law 215 = .ok (.pop, 1) := by decide +kernel
theorem dL_law_216 : decode cL_law 216 = .ok (.aload_n 2, 1) := by decide +kernel
theorem dL_law_217 : decode cL_law 217 = .ok (.aload_n 0, 1) := by decide +kernel
theorem dL_law_218 : decode cL_law 218 = .ok (.iload_n 3, 1) := by decide +kernel
theorem dL_law_219 : decode cL_law 219 = .ok (.iconst 1, 1) := by decide +kernel
theorem dL_law_220 : decode cL_law 220 = .ok (.iadd, 1) := by decide +kernel
theorem dL_law_221 : decode cL_law 221 = .ok (.iaload, 1) := by decide +kernel
theorem dL_law_222 : decode cL_law 222 = .ok (.aload_n 0, 1) := by decide +kernel
theorem dL_law_223 : decode cL_law 223 = .ok (.iload_n 3, 1) := by decide +kernel
theorem dL_law_224 : decode cL_law 224 = .ok (.iconst 2, 1) := by decide +kernel
theorem dL_law_225 : decode cL_law 225 = .ok (.iadd, 1) := by decide +kernel
theorem dL_law_226 : decode cL_law 226 = .ok (.iaload, 1) := by decide +kernel
theorem dL_law_227 : decode cL_law 227 = .ok (.aload_n 0, 1) := by decide +kernel
theorem dL_law_228 : decode cL_law 228 = .ok (.iload_n 3, 1) := by decide +kernel
theorem dL_law_229 : decode cL_law 229 = .ok (.iconst 3, 1) := by decide +kernel
theorem dL_law_230 : decode cL_law 230 = .ok (.iadd, 1) := by decide +kernel
theorem dL_law_231 : decode cL_law 231 = .ok (.iaload, 1) := by decide +kernel
theorem dL_law_232 : decode cL_law 232 = .ok (.aload_n 0, 1) := by decide +kernel
theorem dL_law_233 : decode cL_law 233 = .ok (.iload_n 3, 1) := by decide +kernel
theorem dL_law_234 : decode cL_law 234 = .ok (.iconst 4, 1) := by decide +kernel
theorem dL_law_235 : decode cL_law 235 = .ok (.iadd, 1) := by decide +kernel
theorem dL_law_236 : decode cL_law 236 = .ok (.iaload, 1) := by decide +kernel
theorem dL_law_237 : decode cL_law 237 = .ok (.invokevirtual 22, 3) := by decide +kernel
theorem dL_law_240 : decode cL_law 240 = .ok (.pop, 1) := by decide +kernel
theorem dL_law_241 : decode cL_law 241 = .ok (.goto 547, 3) := by decide +kernel
theorem dL_law_244 : decode cL_law 244 = .ok (.aload_n 1, 1) := by decide +kernel
theorem dL_law_245 : decode cL_law 245 = .ok (.aload_n 0, 1) := by decide +kernel
theorem dL_law_246 : decode cL_law 246 = .ok (.iload_n 3, 1) := by decide +kernel
theorem dL_law_247 : decode cL_law 247 = .ok (.iconst 1, 1) := by decide +kernel
theorem dL_law_248 : decode cL_law 248 = .ok (.iadd, 1) := by decide +kernel
theorem dL_law_249 : decode cL_law 249 = .ok (.iaload, 1) := by decide +kernel
theorem dL_law_250 : decode cL_law 250 = .ok (.aload_n 0, 1) := by decide +kernel
theorem dL_law_251 : decode cL_law 251 = .ok (.iload_n 3, 1) := by decide +kernel
theorem dL_law_252 : decode cL_law 252 = .ok (.iconst 2, 1) := by decide +kernel
theorem dL_law_253 : decode cL_law 253 = .ok (.iadd, 1) := by decide +kernel
theorem dL_law_254 : decode cL_law 254 = .ok (.iaload, 1) := by decide +kernel
theorem dL_law_255 : decode cL_law 255 = .ok (.aload_n 0, 1) := by decide +kernel
theorem dL_law_256 : decode cL_law 256 = .ok (.iload_n 3, 1) := by decide +kernel
theorem dL_law_257 : decode cL_law 257 = .ok (.iconst 3, 1) := by decide +kernel
theorem dL_law_258 : decode cL_law 258 = .ok (.iadd, 1) := by decide +kernel
theorem dL_law_259 : decode cL_law 259 = .ok (.iaload, 1) := by decide +kernel
theorem dL_law_260 : decode cL_law 260 = .ok (.aload_n 0, 1) := by decide +kernel
theorem dL_law_261 : decode cL_law 261 = .ok (.iload_n 3, 1) := by decide +kernel
theorem dL_law_262 : decode cL_law 262 = .ok (.iconst 4, 1) := by decide +kernel
theorem dL_law_263 : decode cL_law 263 = .ok (.iadd, 1) := by decide +kernel
theorem dL_law_264 : decode cL_law 264 = .ok (.iaload, 1) := by decide +kernel
theorem dL_law_265 : decode cL_law 265 = .ok (.aload_n 0, 1) := by decide +kernel
theorem dL_law_266 : decode cL_law 266 = .ok (.iload_n 3, 1) := by decide +kernel
theorem dL_law_267 : decode cL_law 267 = .ok (.iconst 5, 1) := by decide +kernel
theorem dL_law_268 : decode cL_law 268 = .ok (.iadd, 1) := by decide +kernel
theorem dL_law_269 : decode cL_law 269 = .ok (.iaload, 1) := by decide +kernel
theorem dL_law_270 : decode cL_law 270 = .ok (.invokevirtual 23, 3) := by decide +kernel
theorem dL_law_273 : decode cL_law 273 = .ok (.pop, 1) := by decide +kernel
theorem dL_law_274 : decode cL_law 274 = .ok (.aload_n 2, 1) := by decide +kernel
theorem dL_law_275 : decode cL_law 275 = .ok (.aload_n 0, 1) := by decide +kernel
theorem dL_law_276 : decode cL_law 276 = .ok (.iload_n 3, 1) := by decide +kernel
theorem dL_law_277 : decode cL_law 277 = .ok (.iconst 1, 1) := by decide +kernel
theorem dL_law_278 : decode cL_law 278 = .ok (.iadd, 1) := by decide +kernel
theorem dL_law_279 : decode cL_law 279 = .ok (.iaload, 1) := by decide +kernel
theorem dL_law_280 : decode cL_law 280 = .ok (.aload_n 0, 1) := by decide +kernel
theorem dL_law_281 : decode cL_law 281 = .ok (.iload_n 3, 1) := by decide +kernel
theorem dL_law_282 : decode cL_law 282 = .ok (.iconst 2, 1) := by decide +kernel
theorem dL_law_283 : decode cL_law 283 = .ok (.iadd, 1) := by decide +kernel
theorem dL_law_284 : decode cL_law 284 = .ok (.iaload, 1) := by decide +kernel
theorem dL_law_285 : decode cL_law 285 = .ok (.aload_n 0, 1) := by decide +kernel
theorem dL_law_286 : decode cL_law 286 = .ok (.iload_n 3, 1) := by decide +kernel
theorem dL_law_287 : decode cL_law 287 = .ok (.iconst 3, 1) := by decide +kernel
theorem dL_law_288 : decode cL_law 288 = .ok (.iadd, 1) := by decide +kernel
theorem dL_law_289 : decode cL_law 289 = .ok (.iaload, 1) := by decide +kernel
theorem dL_law_290 : decode cL_law 290 = .ok (.aload_n 0, 1) := by decide +kernel
theorem dL_law_291 : decode cL_law 291 = .ok (.iload_n 3, 1) := by decide +kernel
theorem dL_law_292 : decode cL_law 292 = .ok (.iconst 4, 1) := by decide +kernel
theorem dL_law_293 : decode cL_law 293 = .ok (.iadd, 1) := by decide +kernel
theorem dL_law_294 : decode cL_law 294 = .ok (.iaload, 1) := by decide +kernel
theorem dL_law_295 : decode cL_law 295 = .ok (.aload_n 0, 1) := by decide +kernel
theorem dL_law_296 : decode cL_law 296 = .ok (.iload_n 3, 1) := by decide +kernel
theorem dL_law_297 : decode cL_law 297 = .ok (.iconst 5, 1) := by decide +kernel
theorem dL_law_298 : decode cL_law 298 = .ok (.iadd, 1) := by decide +kernel
theorem dL_law_299 : decode cL_law 299 = .ok (.iaload, 1) := by decide +kernel
theorem dL_law_300 : decode cL_law 300 = .ok (.invokevirtual 26, 3) := by decide +kernel
theorem dL_law_303 : decode cL_law 303 = .ok (.pop, 1) := by decide +kernel
theorem dL_law_304 : decode cL_law 304 = .ok (.goto 484, 3) := by decide +kernel
theorem dL_law_307 : decode cL_law 307 = .ok (.aload_n 1, 1) := by decide +kernel
theorem dL_law_308 : decode cL_law 308 = .ok (.invokevirtual 27, 3) := by decide +kernel
theorem dL_law_311 : decode cL_law 311 = .ok (.pop, 1) := by decide +kernel
theorem dL_law_312 : decode cL_law 312 = .ok (.aload_n 2, 1) := by decide +kernel
theorem dL_law_313 : decode cL_law 313 = .ok (.invokevirtual 31, 3) := by decide +kernel
theorem dL_law_316 : decode cL_law 316 = .ok (.pop, 1) := by decide +kernel
theorem dL_law_317 : decode cL_law 317 = .ok (.goto 471, 3) := by decide +kernel
theorem dL_law_320 : decode cL_law 320 = .ok (.aload_n 1, 1) := by decide +kernel
theorem dL_law_321 : decode cL_law 321 = .ok (.aload_n 0, 1) := by decide +kernel
theorem dL_law_322 : decode cL_law 322 = .ok (.iload_n 3, 1) := by decide +kernel
theorem dL_law_323 : decode cL_law 323 = .ok (.iconst 1, 1) := by decide +kernel
theorem dL_law_324 : decode cL_law 324 = .ok (.iadd, 1) := by decide +kernel
theorem dL_law_325 : decode cL_law 325 = .ok (.iaload, 1) := by decide +kernel
theorem dL_law_326 : decode cL_law 326 = .ok (.invokevirtual 32, 3) := by decide +kernel
theorem dL_law_329 : decode cL_law 329 = .ok (.pop, 1) := by decide +kernel
theorem dL_law_330 : decode cL_law 330 = .ok (.aload_n 2, 1) := by decide +kernel
theorem dL_law_331 : decode cL_law 331 = .ok (.aload_n 0, 1) := by decide +kernel
theorem dL_law_332 : decode cL_law 332 = .ok (.iload_n 3, 1) := by decide +kernel
theorem dL_law_333 : decode cL_law 333 = .ok (.iconst 1, 1) := by decide +kernel
theorem dL_law_334 : decode cL_law 334 = .ok (.iadd, 1) := by decide +kernel
theorem dL_law_335 : decode cL_law 335 = .ok (.iaload, 1) := by decide +kernel
theorem dL_law_336 : decode cL_law 336 = .ok (.invokevirtual 36, 3) := by decide +kernel
theorem dL_law_339 : decode cL_law 339 = .ok (.pop, 1) := by decide +kernel
theorem dL_law_340 : decode cL_law 340 = .ok (.goto 448, 3) := by decide +kernel
theorem dL_law_343 : decode cL_law 343 = .ok (.aload_n 1, 1) := by decide +kernel
theorem dL_law_344 : decode cL_law 344 = .ok (.aload_n 0, 1) := by decide +kernel
theorem dL_law_345 : decode cL_law 345 = .ok (.iload_n 3, 1) := by decide +kernel
theorem dL_law_346 : decode cL_law 346 = .ok (.iconst 1, 1) := by decide +kernel
theorem dL_law_347 : decode cL_law 347 = .ok (.iadd, 1) := by decide +kernel
theorem dL_law_348 : decode cL_law 348 = .ok (.iaload, 1) := by decide +kernel
theorem dL_law_349 : decode cL_law 349 = .ok (.aload_n 0, 1) := by decide +kernel
theorem dL_law_350 : decode cL_law 350 = .ok (.iload_n 3, 1) := by decide +kernel
theorem dL_law_351 : decode cL_law 351 = .ok (.iconst 2, 1) := by decide +kernel
theorem dL_law_352 : decode cL_law 352 = .ok (.iadd, 1) := by decide +kernel
theorem dL_law_353 : decode cL_law 353 = .ok (.iaload, 1) := by decide +kernel
theorem dL_law_354 : decode cL_law 354 = .ok (.invokevirtual 37, 3) := by decide +kernel
theorem dL_law_357 : decode cL_law 357 = .ok (.pop, 1) := by decide +kernel
theorem dL_law_358 : decode cL_law 358 = .ok (.aload_n 2, 1) := by decide +kernel
theorem dL_law_359 : decode cL_law 359 = .ok (.aload_n 0, 1) := by decide +kernel
theorem dL_law_360 : decode cL_law 360 = .ok (.iload_n 3, 1) := by decide +kernel
theorem dL_law_361 : decode cL_law 361 = .ok (.iconst 1, 1) := by decide +kernel
theorem dL_law_362 : decode cL_law 362 = .ok (.iadd, 1) := by decide +kernel
theorem dL_law_363 : decode cL_law 363 = .ok (.iaload, 1) := by decide +kernel
theorem dL_law_364 : decode cL_law 364 = .ok (.aload_n 0, 1) := by decide +kernel
theorem dL_law_365 : decode cL_law 365 = .ok (.iload_n 3, 1) := by decide +kernel
theorem dL_law_366 : decode cL_law 366 = .ok (.iconst 2, 1) := by decide +kernel
theorem dL_law_367 : decode cL_law 367 = .ok (.iadd, 1) := by decide +kernel
theorem dL_law_368 : decode cL_law 368 = .ok (.iaload, 1) := by decide +kernel
theorem dL_law_369 : decode cL_law 369 = .ok (.invokevirtual 41, 3) := by decide +kernel
theorem dL_law_372 : decode cL_law 372 = .ok (.pop, 1) := by decide +kernel
theorem dL_law_373 : decode cL_law 373 = .ok (.goto 415, 3) := by decide +kernel
theorem dL_law_376 : decode cL_law 376 = .ok (.aload_n 1, 1) := by decide +kernel
theorem dL_law_377 : decode cL_law 377 = .ok (.aload_n 0, 1) := by decide +kernel
theorem dL_law_378 : decode cL_law 378 = .ok (.iload_n 3, 1) := by decide +kernel
theorem dL_law_379 : decode cL_law 379 = .ok (.iconst 1, 1) := by decide +kernel
theorem dL_law_380 : decode cL_law 380 = .ok (.iadd, 1) := by decide +kernel
theorem dL_law_381 : decode cL_law 381 = .ok (.iaload, 1) := by decide +kernel
theorem dL_law_382 : decode cL_law 382 = .ok (.aload_n 0, 1) := by decide +kernel
theorem dL_law_383 : decode cL_law 383 = .ok (.iload_n 3, 1) := by decide +kernel
theorem dL_law_384 : decode cL_law 384 = .ok (.iconst 2, 1) := by decide +kernel
theorem dL_law_385 : decode cL_law 385 = .ok (.iadd, 1) := by decide +kernel
theorem dL_law_386 : decode cL_law 386 = .ok (.iaload, 1) := by decide +kernel
theorem dL_law_387 : decode cL_law 387 = .ok (.aload_n 0, 1) := by decide +kernel
theorem dL_law_388 : decode cL_law 388 = .ok (.iload_n 3, 1) := by decide +kernel
theorem dL_law_389 : decode cL_law 389 = .ok (.iconst 3, 1) := by decide +kernel
theorem dL_law_390 : decode cL_law 390 = .ok (.iadd, 1) := by decide +kernel
theorem dL_law_391 : decode cL_law 391 = .ok (.iaload, 1) := by decide +kernel
theorem dL_law_392 : decode cL_law 392 = .ok (.invokevirtual 42, 3) := by decide +kernel
theorem dL_law_395 : decode cL_law 395 = .ok (.pop, 1) := by decide +kernel
theorem dL_law_396 : decode cL_law 396 = .ok (.aload_n 2, 1) := by decide +kernel
theorem dL_law_397 : decode cL_law 397 = .ok (.aload_n 0, 1) := by decide +kernel
theorem dL_law_398 : decode cL_law 398 = .ok (.iload_n 3, 1) := by decide +kernel
theorem dL_law_399 : decode cL_law 399 = .ok (.iconst 1, 1) := by decide +kernel
theorem dL_law_400 : decode cL_law 400 = .ok (.iadd, 1) := by decide +kernel
theorem dL_law_401 : decode cL_law 401 = .ok (.iaload, 1) := by decide +kernel
theorem dL_law_402 : decode cL_law 402 = .ok (.aload_n 0, 1) := by decide +kernel
theorem dL_law_403 : decode cL_law 403 = .ok (.iload_n 3, 1) := by decide +kernel
theorem dL_law_404 : decode cL_law 404 = .ok (.iconst 2, 1) := by decide +kernel
theorem dL_law_405 : decode cL_law 405 = .ok (.iadd, 1) := by decide +kernel
theorem dL_law_406 : decode cL_law 406 = .ok (.iaload, 1) := by decide +kernel
theorem dL_law_407 : decode cL_law 407 = .ok (.aload_n 0, 1) := by decide +kernel
theorem dL_law_408 : decode cL_law 408 = .ok (.iload_n 3, 1) := by decide +kernel
theorem dL_law_409 : decode cL_law 409 = .ok (.iconst 3, 1) := by decide +kernel
theorem dL_law_410 : decode cL_law 410 = .ok (.iadd, 1) := by decide +kernel
theorem dL_law_411 : decode cL_law 411 = .ok (.iaload, 1) := by decide +kernel
theorem dL_law_412 : decode cL_law 412 = .ok (.invokevirtual 46, 3) := by decide +kernel
theorem dL_law_415 : decode cL_law 415 = .ok (.pop, 1) := by decide +kernel
theorem dL_law_416 : decode cL_law 416 = .ok (.goto 372, 3) := by decide +kernel
theorem dL_law_419 : decode cL_law 419 = .ok (.aload_n 1, 1) := by decide +kernel
theorem dL_law_420 : decode cL_law 420 = .ok (.aload_n 0, 1) := by decide +kernel
theorem dL_law_421 : decode cL_law 421 = .ok (.iload_n 3, 1) := by decide +kernel
theorem dL_law_422 : decode cL_law 422 = .ok (.iconst 1, 1) := by decide +kernel
theorem dL_law_423 : decode cL_law 423 = .ok (.iadd, 1) := by decide +kernel
theorem dL_law_424 : decode cL_law 424 = .ok (.iaload, 1) := by decide +kernel
theorem dL_law_425 : decode cL_law 425 = .ok (.aload_n 0, 1) := by decide +kernel
theorem dL_law_426 : decode cL_law 426 = .ok (.iload_n 3, 1) := by decide +kernel
theorem dL_law_427 : decode cL_law 427 = .ok (.iconst 2, 1) := by decide +kernel
theorem dL_law_428 : decode cL_law 428 = .ok (.iadd, 1) := by decide +kernel
theorem dL_law_429 : decode cL_law 429 = .ok (.iaload, 1) := by decide +kernel
theorem dL_law_430 : decode cL_law 430 = .ok (.aload_n 0, 1) := by decide +kernel
theorem dL_law_431 : decode cL_law 431 = .ok (.iload_n 3, 1) := by decide +kernel
theorem dL_law_432 : decode cL_law 432 = .ok (.iconst 3, 1) := by decide +kernel
theorem dL_law_433 : decode cL_law 433 = .ok (.iadd, 1) := by decide +kernel
theorem dL_law_434 : decode cL_law 434 = .ok (.iaload, 1) := by decide +kernel
theorem dL_law_435 : decode cL_law 435 = .ok (.invokevirtual 47, 3) := by decide +kernel
theorem dL_law_438 : decode cL_law 438 = .ok (.pop, 1) := by decide +kernel
theorem dL_law_439 : decode cL_law 439 = .ok (.aload_n 2, 1) := by decide +kernel
theorem dL_law_440 : decode cL_law 440 = .ok (.aload_n 0, 1) := by decide +kernel
theorem dL_law_441 : decode cL_law 441 = .ok (.iload_n 3, 1) := by decide +kernel
theorem dL_law_442 : decode cL_law 442 = .ok (.iconst 1, 1) := by decide +kernel
theorem dL_law_443 : decode cL_law 443 = .ok (.iadd, 1) := by decide +kernel
theorem dL_law_444 : decode cL_law 444 = .ok (.iaload, 1) := by decide +kernel
theorem dL_law_445 : decode cL_law 445 = .ok (.aload_n 0, 1) := by decide +kernel
theorem dL_law_446 : decode cL_law 446 = .ok (.iload_n 3, 1) := by decide +kernel
theorem dL_law_447 : decode cL_law 447 = .ok (.iconst 2, 1) := by decide +kernel
theorem dL_law_448 : decode cL_law 448 = .ok (.iadd, 1) := by decide +kernel
theorem dL_law_449 : decode cL_law 449 = .ok (.iaload, 1) := by decide +kernel
theorem dL_law_450 : decode cL_law 450 = .ok (.aload_n 0, 1) := by decide +kernel
theorem dL_law_451 : decode cL_law 451 = .ok (.iload_n 3, 1) := by decide +kernel
theorem dL_law_452 : decode cL_law 452 = .ok (.iconst 3, 1) := by decide +kernel
theorem dL_law_453 : decode cL_law 453 = .ok (.iadd, 1) := by decide +kernel
theorem dL_law_454 : decode cL_law 454 = .ok (.iaload, 1) := by decide +kernel
theorem dL_law_455 : decode cL_law 455 = .ok (.invokevirtual 50, 3) := by decide +kernel
theorem dL_law_458 : decode cL_law 458 = .ok (.pop, 1) := by decide +kernel
theorem dL_law_459 : decode cL_law 459 = .ok (.goto 329, 3) := by decide +kernel
theorem dL_law_462 : decode cL_law 462 = .ok (.aload_n 1, 1) := by decide +kernel
theorem dL_law_463 : decode cL_law 463 = .ok (.aload_n 0, 1) := by decide +kernel
theorem dL_law_464 : decode cL_law 464 = .ok (.iload_n 3, 1) := by decide +kernel
theorem dL_law_465 : decode cL_law 465 = .ok (.iconst 1, 1) := by decide +kernel
theorem dL_law_466 : decode cL_law 466 = .ok (.iadd, 1) := by decide +kernel
theorem dL_law_467 : decode cL_law 467 = .ok (.iaload, 1) := by decide +kernel
theorem dL_law_468 : decode cL_law 468 = .ok (.aload_n 0, 1) := by decide +kernel
theorem dL_law_469 : decode cL_law 469 = .ok (.iload_n 3, 1) := by decide +kernel
theorem dL_law_470 : decode cL_law 470 = .ok (.iconst 2, 1) := by decide +kernel
theorem dL_law_471 : decode cL_law 471 = .ok (.iadd, 1) := by decide +kernel
theorem dL_law_472 : decode cL_law 472 = .ok (.iaload, 1) := by decide +kernel
theorem dL_law_473 : decode cL_law 473 = .ok (.aload_n 0, 1) := by decide +kernel
theorem dL_law_474 : decode cL_law 474 = .ok (.iload_n 3, 1) := by decide +kernel
theorem dL_law_475 : decode cL_law 475 = .ok (.iconst 3, 1) := by decide +kernel
theorem dL_law_476 : decode cL_law 476 = .ok (.iadd, 1) := by decide +kernel
theorem dL_law_477 : decode cL_law 477 = .ok (.iaload, 1) := by decide +kernel
theorem dL_law_478 : decode cL_law 478 = .ok (.aload_n 0, 1) := by decide +kernel
theorem dL_law_479 : decode cL_law 479 = .ok (.iload_n 3, 1) := by decide +kernel
theorem dL_law_480 : decode cL_law 480 = .ok (.iconst 4, 1) := by decide +kernel
theorem dL_law_481 : decode cL_law 481 = .ok (.iadd, 1) := by decide +kernel
theorem dL_law_482 : decode cL_law 482 = .ok (.iaload, 1) := by decide +kernel
theorem dL_law_483 : decode cL_law 483 = .ok (.invokevirtual 51, 3) := by decide +kernel
theorem dL_law_486 : decode cL_law 486 = .ok (.pop, 1) := by decide +kernel
theorem dL_law_487 : decode cL_law 487 = .ok (.aload_n 2, 1) := by decide +kernel
theorem dL_law_488 : decode cL_law 488 = .ok (.aload_n 0, 1) := by decide +kernel
theorem dL_law_489 : decode cL_law 489 = .ok (.iload_n 3, 1) := by decide +kernel
theorem dL_law_490 : decode cL_law 490 = .ok (.iconst 1, 1) := by decide +kernel
theorem dL_law_491 : decode cL_law 491 = .ok (.iadd, 1) := by decide +kernel
theorem dL_law_492 : decode cL_law 492 = .ok (.iaload, 1) := by decide +kernel
theorem dL_law_493 : decode cL_law 493 = .ok (.aload_n 0, 1) := by decide +kernel
theorem dL_law_494 : decode cL_law 494 = .ok (.iload_n 3, 1) := by decide +kernel
theorem dL_law_495 : decode cL_law 495 = .ok (.iconst 2, 1) := by decide +kernel
theorem dL_law_496 : decode cL_law 496 = .ok (.iadd, 1) := by decide +kernel
theorem dL_law_497 : decode cL_law 497 = .ok (.iaload, 1) := by decide +kernel
theorem dL_law_498 : decode cL_law 498 = .ok (.aload_n 0, 1) := by decide +kernel
theorem dL_law_499 : decode cL_law 499 = .ok (.iload_n 3, 1) := by decide +kernel
theorem dL_law_500 : decode cL_law 500 = .ok (.iconst 3, 1) := by decide +kernel
theorem dL_law_501 : decode cL_law 501 = .ok (.iadd, 1) := by decide +kernel
theorem dL_law_502 : decode cL_law 502 = .ok (.iaload, 1) := by decide +kernel
theorem dL_law_503 : decode cL_law 503 = .ok (.aload_n 0, 1) := by decide +kernel
theorem dL_law_504 : decode cL_law 504 = .ok (.iload_n 3, 1) := by decide +kernel
theorem dL_law_505 : decode cL_law 505 = .ok (.iconst 4, 1) := by decide +kernel
theorem dL_law_506 : decode cL_law 506 = .ok (.iadd, 1) := by decide +kernel
theorem dL_law_507 : decode cL_law 507 = .ok (.iaload, 1) := by decide +kernel
theorem dL_law_508 : decode cL_law 508 = .ok (.invokevirtual 54, 3) := by decide +kernel
theorem dL_law_511 : decode cL_law 511 = .ok (.pop, 1) := by decide +kernel
theorem dL_law_512 : decode cL_law 512 = .ok (.goto 276, 3) := by decide +kernel
theorem dL_law_515 : decode cL_law 515 = .ok (.aload_n 1, 1) := by decide +kernel
theorem dL_law_516 : decode cL_law 516 = .ok (.aload_n 0, 1) := by decide +kernel
theorem dL_law_517 : decode cL_law 517 = .ok (.iload_n 3, 1) := by decide +kernel
theorem dL_law_518 : decode cL_law 518 = .ok (.iconst 1, 1) := by decide +kernel
theorem dL_law_519 : decode cL_law 519 = .ok (.iadd, 1) := by decide +kernel
theorem dL_law_520 : decode cL_law 520 = .ok (.iaload, 1) := by decide +kernel
theorem dL_law_521 : decode cL_law 521 = .ok (.aload_n 0, 1) := by decide +kernel
theorem dL_law_522 : decode cL_law 522 = .ok (.iload_n 3, 1) := by decide +kernel
theorem dL_law_523 : decode cL_law 523 = .ok (.iconst 2, 1) := by decide +kernel
theorem dL_law_524 : decode cL_law 524 = .ok (.iadd, 1) := by decide +kernel
theorem dL_law_525 : decode cL_law 525 = .ok (.iaload, 1) := by decide +kernel
theorem dL_law_526 : decode cL_law 526 = .ok (.aload_n 0, 1) := by decide +kernel
theorem dL_law_527 : decode cL_law 527 = .ok (.iload_n 3, 1) := by decide +kernel
theorem dL_law_528 : decode cL_law 528 = .ok (.iconst 3, 1) := by decide +kernel
theorem dL_law_529 : decode cL_law 529 = .ok (.iadd, 1) := by decide +kernel
theorem dL_law_530 : decode cL_law 530 = .ok (.iaload, 1) := by decide +kernel
theorem dL_law_531 : decode cL_law 531 = .ok (.invokevirtual 55, 3) := by decide +kernel
theorem dL_law_534 : decode cL_law 534 = .ok (.pop, 1) := by decide +kernel
theorem dL_law_535 : decode cL_law 535 = .ok (.aload_n 2, 1) := by decide +kernel
theorem dL_law_536 : decode cL_law 536 = .ok (.aload_n 0, 1) := by decide +kernel
theorem dL_law_537 : decode cL_law 537 = .ok (.iload_n 3, 1) := by decide +kernel
theorem dL_law_538 : decode cL_law 538 = .ok (.iconst 1, 1) := by decide +kernel
theorem dL_law_539 : decode cL_law 539 = .ok (.iadd, 1) := by decide +kernel
theorem dL_law_540 : decode cL_law 540 = .ok (.iaload, 1) := by decide +kernel
theorem dL_law_541 : decode cL_law 541 = .ok (.aload_n 0, 1) := by decide +kernel
theorem dL_law_542 : decode cL_law 542 = .ok (.iload_n 3, 1) := by decide +kernel
theorem dL_law_543 : decode cL_law 543 = .ok (.iconst 2, 1) := by decide +kernel
theorem dL_law_544 : decode cL_law 544 = .ok (.iadd, 1) := by decide +kernel
theorem dL_law_545 : decode cL_law 545 = .ok (.iaload, 1) := by decide +kernel
theorem dL_law_546 : decode cL_law 546 = .ok (.aload_n 0, 1) := by decide +kernel
theorem dL_law_547 : decode cL_law 547 = .ok (.iload_n 3, 1) := by decide +kernel
theorem dL_law_548 : decode cL_law 548 = .ok (.iconst 3, 1) := by decide +kernel
theorem dL_law_549 : decode cL_law 549 = .ok (.iadd, 1) := by decide +kernel
theorem dL_law_550 : decode cL_law 550 = .ok (.iaload, 1) := by decide +kernel
theorem dL_law_551 : decode cL_law 551 = .ok (.invokevirtual 58, 3) := by decide +kernel
theorem dL_law_554 : decode cL_law 554 = .ok (.pop, 1) := by decide +kernel
theorem dL_law_555 : decode cL_law 555 = .ok (.goto 233, 3) := by decide +kernel
theorem dL_law_558 : decode cL_law 558 = .ok (.aload_n 1, 1) := by decide +kernel
theorem dL_law_559 : decode cL_law 559 = .ok (.aload_n 0, 1) := by decide +kernel
theorem dL_law_560 : decode cL_law 560 = .ok (.iload_n 3, 1) := by decide +kernel
theorem dL_law_561 : decode cL_law 561 = .ok (.iconst 1, 1) := by decide +kernel
theorem dL_law_562 : decode cL_law 562 = .ok (.iadd, 1) := by decide +kernel
theorem dL_law_563 : decode cL_law 563 = .ok (.iaload, 1) := by decide +kernel
theorem dL_law_564 : decode cL_law 564 = .ok (.aload_n 0, 1) := by decide +kernel
theorem dL_law_565 : decode cL_law 565 = .ok (.iload_n 3, 1) := by decide +kernel
theorem dL_law_566 : decode cL_law 566 = .ok (.iconst 2, 1) := by decide +kernel
theorem dL_law_567 : decode cL_law 567 = .ok (.iadd, 1) := by decide +kernel
theorem dL_law_568 : decode cL_law 568 = .ok (.iaload, 1) := by decide +kernel
theorem dL_law_569 : decode cL_law 569 = .ok (.invokevirtual 59, 3) := by decide +kernel
theorem dL_law_572 : decode cL_law 572 = .ok (.pop, 1) := by decide +kernel
theorem dL_law_573 : decode cL_law 573 = .ok (.aload_n 2, 1) := by decide +kernel
theorem dL_law_574 : decode cL_law 574 = .ok (.aload_n 0, 1) := by decide +kernel
theorem dL_law_575 : decode cL_law 575 = .ok (.iload_n 3, 1) := by decide +kernel
theorem dL_law_576 : decode cL_law 576 = .ok (.iconst 1, 1) := by decide +kernel
theorem dL_law_577 : decode cL_law 577 = .ok (.iadd, 1) := by decide +kernel
theorem dL_law_578 : decode cL_law 578 = .ok (.iaload, 1) := by decide +kernel
theorem dL_law_579 : decode cL_law 579 = .ok (.aload_n 0, 1) := by decide +kernel
theorem dL_law_580 : decode cL_law 580 = .ok (.iload_n 3, 1) := by decide +kernel
theorem dL_law_581 : decode cL_law 581 = .ok (.iconst 2, 1) := by decide +kernel
theorem dL_law_582 : decode cL_law 582 = .ok (.iadd, 1) := by decide +kernel
theorem dL_law_583 : decode cL_law 583 = .ok (.iaload, 1) := by decide +kernel
theorem dL_law_584 : decode cL_law 584 = .ok (.invokevirtual 62, 3) := by decide +kernel
theorem dL_law_587 : decode cL_law 587 = .ok (.pop, 1) := by decide +kernel
theorem dL_law_588 : decode cL_law 588 = .ok (.goto 200, 3) := by decide +kernel
theorem dL_law_591 : decode cL_law 591 = .ok (.aload_n 1, 1) := by decide +kernel
theorem dL_law_592 : decode cL_law 592 = .ok (.aload_n 0, 1) := by decide +kernel
theorem dL_law_593 : decode cL_law 593 = .ok (.iload_n 3, 1) := by decide +kernel
theorem dL_law_594 : decode cL_law 594 = .ok (.iconst 1, 1) := by decide +kernel
theorem dL_law_595 : decode cL_law 595 = .ok (.iadd, 1) := by decide +kernel
theorem dL_law_596 : decode cL_law 596 = .ok (.iaload, 1) := by decide +kernel
theorem dL_law_597 : decode cL_law 597 = .ok (.invokevirtual 63, 3) := by decide +kernel
theorem dL_law_600 : decode cL_law 600 = .ok (.pop, 1) := by decide +kernel
theorem dL_law_601 : decode cL_law 601 = .ok (.aload_n 2, 1) := by decide +kernel
theorem dL_law_602 : decode cL_law 602 = .ok (.aload_n 0, 1) := by decide +kernel
theorem dL_law_603 : decode cL_law 603 = .ok (.iload_n 3, 1) := by decide +kernel
theorem dL_law_604 : decode cL_law 604 = .ok (.iconst 1, 1) := by decide +kernel
theorem dL_law_605 : decode cL_law 605 = .ok (.iadd, 1) := by decide +kernel
theorem dL_law_606 : decode cL_law 606 = .ok (.iaload, 1) := by decide +kernel
theorem dL_law_607 : decode cL_law 607 = .ok (.invokevirtual 66, 3) := by decide +kernel
theorem dL_law_610 : decode cL_law 610 = .ok (.pop, 1) := by decide +kernel
theorem dL_law_611 : decode cL_law 611 = .ok (.goto 177, 3) := by decide +kernel
theorem dL_law_614 : decode cL_law 614 = .ok (.aload_n 1, 1) := by decide +kernel
theorem dL_law_615 : decode cL_law 615 = .ok (.invokevirtual 67, 3) := by decide +kernel
theorem dL_law_618 : decode cL_law 618 = .ok (.pop, 1) := by decide +kernel
theorem dL_law_619 : decode cL_law 619 = .ok (.aload_n 2, 1) := by decide +kernel
theorem dL_law_620 : decode cL_law 620 = .ok (.invokevirtual 70, 3) := by decide +kernel
theorem dL_law_623 : decode cL_law 623 = .ok (.pop, 1) := by decide +kernel
theorem dL_law_624 : decode cL_law 624 = .ok (.goto 164, 3) := by decide +kernel
theorem dL_law_627 : decode cL_law 627 = .ok (.aload_n 1, 1) := by decide +kernel
theorem dL_law_628 : decode cL_law 628 = .ok (.aload_n 0, 1) := by decide +kernel
theorem dL_law_629 : decode cL_law 629 = .ok (.iload_n 3, 1) := by decide +kernel
theorem dL_law_630 : decode cL_law 630 = .ok (.iconst 1, 1) := by decide +kernel
theorem dL_law_631 : decode cL_law 631 = .ok (.iadd, 1) := by decide +kernel
theorem dL_law_632 : decode cL_law 632 = .ok (.iaload, 1) := by decide +kernel
theorem dL_law_633 : decode cL_law 633 = .ok (.invokevirtual 71, 3) := by decide +kernel
theorem dL_law_636 : decode cL_law 636 = .ok (.pop, 1) := by decide +kernel
theorem dL_law_637 : decode cL_law 637 = .ok (.aload_n 2, 1) := by decide +kernel
theorem dL_law_638 : decode cL_law 638 = .ok (.aload_n 0, 1) := by decide +kernel
theorem dL_law_639 : decode cL_law 639 = .ok (.iload_n 3, 1) := by decide +kernel
theorem dL_law_640 : decode cL_law 640 = .ok (.iconst 1, 1) := by decide +kernel
theorem dL_law_641 : decode cL_law 641 = .ok (.iadd, 1) := by decide +kernel
theorem dL_law_642 : decode cL_law 642 = .ok (.iaload, 1) := by decide +kernel
theorem dL_law_643 : decode cL_law 643 = .ok (.invokevirtual 74, 3) := by decide +kernel
theorem dL_law_646 : decode cL_law 646 = .ok (.pop, 1) := by decide +kernel
theorem dL_law_647 : decode cL_law 647 = .ok (.goto 141, 3) := by decide +kernel
theorem dL_law_650 : decode cL_law 650 = .ok (.aload_n 1, 1) := by decide +kernel
theorem dL_law_651 : decode cL_law 651 = .ok (.aload_n 0, 1) := by decide +kernel
theorem dL_law_652 : decode cL_law 652 = .ok (.iload_n 3, 1) := by decide +kernel
theorem dL_law_653 : decode cL_law 653 = .ok (.iconst 1, 1) := by decide +kernel
theorem dL_law_654 : decode cL_law 654 = .ok (.iadd, 1) := by decide +kernel
theorem dL_law_655 : decode cL_law 655 = .ok (.iaload, 1) := by decide +kernel
theorem dL_law_656 : decode cL_law 656 = .ok (.aload_n 0, 1) := by decide +kernel
theorem dL_law_657 : decode cL_law 657 = .ok (.iload_n 3, 1) := by decide +kernel
theorem dL_law_658 : decode cL_law 658 = .ok (.iconst 2, 1) := by decide +kernel
theorem dL_law_659 : decode cL_law 659 = .ok (.iadd, 1) := by decide +kernel
theorem dL_law_660 : decode cL_law 660 = .ok (.iaload, 1) := by decide +kernel
theorem dL_law_661 : decode cL_law 661 = .ok (.invokevirtual 75, 3) := by decide +kernel
theorem dL_law_664 : decode cL_law 664 = .ok (.pop, 1) := by decide +kernel
theorem dL_law_665 : decode cL_law 665 = .ok (.aload_n 2, 1) := by decide +kernel
theorem dL_law_666 : decode cL_law 666 = .ok (.aload_n 0, 1) := by decide +kernel
theorem dL_law_667 : decode cL_law 667 = .ok (.iload_n 3, 1) := by decide +kernel
theorem dL_law_668 : decode cL_law 668 = .ok (.iconst 1, 1) := by decide +kernel
theorem dL_law_669 : decode cL_law 669 = .ok (.iadd, 1) := by decide +kernel
theorem dL_law_670 : decode cL_law 670 = .ok (.iaload, 1) := by decide +kernel
theorem dL_law_671 : decode cL_law 671 = .ok (.aload_n 0, 1) := by decide +kernel
theorem dL_law_672 : decode cL_law 672 = .ok (.iload_n 3, 1) := by decide +kernel
theorem dL_law_673 : decode cL_law 673 = .ok (.iconst 2, 1) := by decide +kernel
theorem dL_law_674 : decode cL_law 674 = .ok (.iadd, 1) := by decide +kernel
theorem dL_law_675 : decode cL_law 675 = .ok (.iaload, 1) := by decide +kernel
theorem dL_law_676 : decode cL_law 676 = .ok (.invokevirtual 78, 3) := by decide +kernel
theorem dL_law_679 : decode cL_law 679 = .ok (.pop, 1) := by decide +kernel
theorem dL_law_680 : decode cL_law 680 = .ok (.goto 108, 3) := by decide +kernel
theorem dL_law_683 : decode cL_law 683 = .ok (.aload_n 1, 1) := by decide +kernel
theorem dL_law_684 : decode cL_law 684 = .ok (.aload_n 0, 1) := by decide +kernel
theorem dL_law_685 : decode cL_law 685 = .ok (.iload_n 3, 1) := by decide +kernel
theorem dL_law_686 : decode cL_law 686 = .ok (.iconst 1, 1) := by decide +kernel
theorem dL_law_687 : decode cL_law 687 = .ok (.iadd, 1) := by decide +kernel
theorem dL_law_688 : decode cL_law 688 = .ok (.iaload, 1) := by decide +kernel
theorem dL_law_689 : decode cL_law 689 = .ok (.invokevirtual 79, 3) := by decide +kernel
theorem dL_law_692 : decode cL_law 692 = .ok (.pop, 1) := by decide +kernel
theorem dL_law_693 : decode cL_law 693 = .ok (.aload_n 2, 1) := by decide +kernel
theorem dL_law_694 : decode cL_law 694 = .ok (.aload_n 0, 1) := by decide +kernel
theorem dL_law_695 : decode cL_law 695 = .ok (.iload_n 3, 1) := by decide +kernel
theorem dL_law_696 : decode cL_law 696 = .ok (.iconst 1, 1) := by decide +kernel
theorem dL_law_697 : decode cL_law 697 = .ok (.iadd, 1) := by decide +kernel
theorem dL_law_698 : decode cL_law 698 = .ok (.iaload, 1) := by decide +kernel
theorem dL_law_699 : decode cL_law 699 = .ok (.invokevirtual 82, 3) := by decide +kernel
theorem dL_law_702 : decode cL_law 702 = .ok (.pop, 1) := by decide +kernel
theorem dL_law_703 : decode cL_law 703 = .ok (.goto 85, 3) := by decide +kernel
theorem dL_law_706 : decode cL_law 706 = .ok (.aload_n 1, 1) := by decide +kernel
theorem dL_law_707 : decode cL_law 707 = .ok (.invokevirtual 83, 3) := by decide +kernel
theorem dL_law_710 : decode cL_law 710 = .ok (.pop, 1) := by decide +kernel
theorem dL_law_711 : decode cL_law 711 = .ok (.aload_n 2, 1) := by decide +kernel
theorem dL_law_712 : decode cL_law 712 = .ok (.invokevirtual 86, 3) := by decide +kernel
theorem dL_law_715 : decode cL_law 715 = .ok (.pop, 1) := by decide +kernel
theorem dL_law_716 : decode cL_law 716 = .ok (.goto 72, 3) := by decide +kernel
theorem dL_law_719 : decode cL_law 719 = .ok (.aload_n 1, 1) := by decide +kernel
theorem dL_law_720 : decode cL_law 720 = .ok (.aload_n 0, 1) := by decide +kernel
theorem dL_law_721 : decode cL_law 721 = .ok (.iload_n 3, 1) := by decide +kernel
theorem dL_law_722 : decode cL_law 722 = .ok (.iconst 1, 1) := by decide +kernel
theorem dL_law_723 : decode cL_law 723 = .ok (.iadd, 1) := by decide +kernel
theorem dL_law_724 : decode cL_law 724 = .ok (.iaload, 1) := by decide +kernel
theorem dL_law_725 : decode cL_law 725 = .ok (.aload_n 0, 1) := by decide +kernel
theorem dL_law_726 : decode cL_law 726 = .ok (.iload_n 3, 1) := by decide +kernel
theorem dL_law_727 : decode cL_law 727 = .ok (.iconst 2, 1) := by decide +kernel
theorem dL_law_728 : decode cL_law 728 = .ok (.iadd, 1) := by decide +kernel
theorem dL_law_729 : decode cL_law 729 = .ok (.iaload, 1) := by decide +kernel
theorem dL_law_730 : decode cL_law 730 = .ok (.invokevirtual 87, 3) := by decide +kernel
theorem dL_law_733 : decode cL_law 733 = .ok (.aload_n 2, 1) := by decide +kernel
theorem dL_law_734 : decode cL_law 734 = .ok (.aload_n 0, 1) := by decide +kernel
theorem dL_law_735 : decode cL_law 735 = .ok (.iload_n 3, 1) := by decide +kernel
theorem dL_law_736 : decode cL_law 736 = .ok (.iconst 1, 1) := by decide +kernel
theorem dL_law_737 : decode cL_law 737 = .ok (.iadd, 1) := by decide +kernel
theorem dL_law_738 : decode cL_law 738 = .ok (.iaload, 1) := by decide +kernel
theorem dL_law_739 : decode cL_law 739 = .ok (.aload_n 0, 1) := by decide +kernel
theorem dL_law_740 : decode cL_law 740 = .ok (.iload_n 3, 1) := by decide +kernel
theorem dL_law_741 : decode cL_law 741 = .ok (.iconst 2, 1) := by decide +kernel
theorem dL_law_742 : decode cL_law 742 = .ok (.iadd, 1) := by decide +kernel
theorem dL_law_743 : decode cL_law 743 = .ok (.iaload, 1) := by decide +kernel
theorem dL_law_744 : decode cL_law 744 = .ok (.invokevirtual 90, 3) := by decide +kernel
theorem dL_law_747 : decode cL_law 747 = .ok (.if_icmp .eq 41, 3) := by decide +kernel
theorem dL_law_750 : decode cL_law 750 = .ok (.iconst 0, 1) := by decide +kernel
theorem dL_law_751 : decode cL_law 751 = .ok (.ireturn, 1) := by decide +kernel
theorem dL_law_752 : decode cL_law 752 = .ok (.aload_n 1, 1) := by decide +kernel
theorem dL_law_753 : decode cL_law 753 = .ok (.aload_n 0, 1) := by decide +kernel
theorem dL_law_754 : decode cL_law 754 = .ok (.iload_n 3, 1) := by decide +kernel
theorem dL_law_755 : decode cL_law 755 = .ok (.iconst 1, 1) := by decide +kernel
theorem dL_law_756 : decode cL_law 756 = .ok (.iadd, 1) := by decide +kernel
theorem dL_law_757 : decode cL_law 757 = .ok (.iaload, 1) := by decide +kernel
theorem dL_law_758 : decode cL_law 758 = .ok (.invokevirtual 91, 3) := by decide +kernel
theorem dL_law_761 : decode cL_law 761 = .ok (.pop, 1) := by decide +kernel
theorem dL_law_762 : decode cL_law 762 = .ok (.aload_n 2, 1) := by decide +kernel
theorem dL_law_763 : decode cL_law 763 = .ok (.aload_n 0, 1) := by decide +kernel
theorem dL_law_764 : decode cL_law 764 = .ok (.iload_n 3, 1) := by decide +kernel
theorem dL_law_765 : decode cL_law 765 = .ok (.iconst 1, 1) := by decide +kernel
theorem dL_law_766 : decode cL_law 766 = .ok (.iadd, 1) := by decide +kernel
theorem dL_law_767 : decode cL_law 767 = .ok (.iaload, 1) := by decide +kernel
theorem dL_law_768 : decode cL_law 768 = .ok (.invokevirtual 94, 3) := by decide +kernel
theorem dL_law_771 : decode cL_law 771 = .ok (.pop, 1) := by decide +kernel
theorem dL_law_772 : decode cL_law 772 = .ok (.goto 16, 3) := by decide +kernel
theorem dL_law_775 : decode cL_law 775 = .ok (.aload_n 1, 1) := by decide +kernel
theorem dL_law_776 : decode cL_law 776 = .ok (.invokevirtual 95, 3) := by decide +kernel
theorem dL_law_779 : decode cL_law 779 = .ok (.pop2, 1) := by decide +kernel
theorem dL_law_780 : decode cL_law 780 = .ok (.aload_n 2, 1) := by decide +kernel
theorem dL_law_781 : decode cL_law 781 = .ok (.invokevirtual 99, 3) := by decide +kernel
theorem dL_law_784 : decode cL_law 784 = .ok (.pop2, 1) := by decide +kernel
theorem dL_law_785 : decode cL_law 785 = .ok (.goto 3, 3) := by decide +kernel
theorem dL_law_788 : decode cL_law 788 = .ok (.iinc 3 6, 3) := by decide +kernel
theorem dL_law_791 : decode cL_law 791 = .ok (.goto (-773), 3) := by decide +kernel
theorem dL_law_794 : decode cL_law 794 = .ok (.iconst 1, 1) := by decide +kernel
theorem dL_law_795 : decode cL_law 795 = .ok (.ireturn, 1) := by decide +kernel
