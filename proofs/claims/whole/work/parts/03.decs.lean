theorem dX0_init_0 : decode cX0_init 0 = .ok (.aload_n 0, 1) := by decide +kernel
theorem dX0_init_1 : decode cX0_init 1 = .ok (.invokespecial 3, 3) := by decide +kernel
theorem dX0_init_4 : decode cX0_init 4 = .ok (.aload_n 0, 1) := by decide +kernel
theorem dX0_init_5 : decode cX0_init 5 = .ok (.iconst (-1), 1) := by decide +kernel
theorem dX0_init_6 : decode cX0_init 6 = .ok (.putfield 9, 3) := by decide +kernel
theorem dX0_init_9 : decode cX0_init 9 = .ok (.aload_n 0, 1) := by decide +kernel
theorem dX0_init_10 : decode cX0_init 10 = .ok (.iload_n 1, 1) := by decide +kernel
theorem dX0_init_11 : decode cX0_init 11 = .ok (.putfield 15, 3) := by decide +kernel
theorem dX0_init_14 : decode cX0_init 14 = .ok (.aload_n 0, 1) := by decide +kernel
theorem dX0_init_15 : decode cX0_init 15 = .ok (.iload_n 2, 1) := by decide +kernel
theorem dX0_init_16 : decode cX0_init 16 = .ok (.putfield 18, 3) := by decide +kernel
theorem dX0_init_19 : decode cX0_init 19 = .ok (.aload_n 0, 1) := by decide +kernel
theorem dX0_init_20 : decode cX0_init 20 = .ok (.iload_n 3, 1) := by decide +kernel
theorem dX0_init_21 : decode cX0_init 21 = .ok (.putfield 21, 3) := by decide +kernel
theorem dX0_init_24 : decode cX0_init 24 = .ok (.aload_n 0, 1) := by decide +kernel
theorem dX0_init_25 : decode cX0_init 25 = .ok (.iload 4, 2) := by decide +kernel
theorem dX0_init_27 : decode cX0_init 27 = .ok (.putfield 24, 3) := by decide +kernel
theorem dX0_init_30 : decode cX0_init 30 = .ok (.return_, 1) := by decide +kernel
theorem dX0_isPaid_0 : decode cX0_isPaid 0 = .ok (.aload_n 0, 1) := by decide +kernel
theorem dX0_isPaid_1 : decode cX0_isPaid 1 = .ok (.getfield 9, 3) := by decide +kernel
theorem dX0_isPaid_4 : decode cX0_isPaid 4 = .ok (.iconst (-1), 1) := by decide +kernel
theorem dX0_isPaid_5 : decode cX0_isPaid 5 = .ok (.if_icmp .eq 7, 3) := by decide +kernel
theorem dX0_isPaid_8 : decode cX0_isPaid 8 = .ok (.iconst 1, 1) := by decide +kernel
theorem dX0_isPaid_9 : decode cX0_isPaid 9 = .ok (.goto 4, 3) := by decide +kernel
theorem dX0_isPaid_12 : decode cX0_isPaid 12 = .ok (.iconst 0, 1) := by decide +kernel
theorem dX0_isPaid_13 : decode cX0_isPaid 13 = .ok (.ireturn, 1) := by decide +kernel
theorem dX0_grow_0 : decode cX0_grow 0 = .ok (.aload_n 0, 1) := by decide +kernel
theorem dX0_grow_1 : decode cX0_grow 1 = .ok (.sipush 10000, 3) := by decide +kernel
theorem dX0_grow_4 : decode cX0_grow 4 = .ok (.aload_n 0, 1) := by decide +kernel
theorem dX0_grow_5 : decode cX0_grow 5 = .ok (.getfield 21, 3) := by decide +kernel
theorem dX0_grow_8 : decode cX0_grow 8 = .ok (.aload_n 0, 1) := by decide +kernel
theorem dX0_grow_9 : decode cX0_grow 9 = .ok (.getfield 21, 3) := by decide +kernel
theorem dX0_grow_12 : decode cX0_grow 12 = .ok (.iload_n 1, 1) := by decide +kernel
theorem dX0_grow_13 : decode cX0_grow 13 = .ok (.imul, 1) := by decide +kernel
theorem dX0_grow_14 : decode cX0_grow 14 = .ok (.bipush 100, 2) := by decide +kernel
theorem dX0_grow_16 : decode cX0_grow 16 = .ok (.idiv, 1) := by decide +kernel
theorem dX0_grow_17 : decode cX0_grow 17 = .ok (.iadd, 1) := by decide +kernel
theorem dX0_grow_18 : decode cX0_grow 18 = .ok (.invokestatic 27, 3) := by decide +kernel
theorem dX0_grow_21 : decode cX0_grow 21 = .ok (.putfield 21, 3) := by decide +kernel
theorem dX0_grow_24 : decode cX0_grow 24 = .ok (.return_, 1) := by decide +kernel
theorem dX1_init_0 : decode cX1_init 0 = .ok (.aload_n 0, 1) := by decide +kernel
theorem dX1_init_1 : decode cX1_init 1 = .ok (.invokespecial 3, 3) := by decide +kernel
theorem dX1_init_4 : decode cX1_init 4 = .ok (.aload_n 0, 1) := by decide +kernel
theorem dX1_init_5 : decode cX1_init 5 = .ok (.iconst 5, 1) := by decide +kernel
theorem dX1_init_6 : decode cX1_init 6 = .ok (.newarray .int, 2) := by decide +kernel
theorem dX1_init_8 : decode cX1_init 8 = .ok (.putfield 9, 3) := by decide +kernel
theorem dX1_init_11 : decode cX1_init 11 = .ok (.aload_n 0, 1) := by decide +kernel
theorem dX1_init_12 : decode cX1_init 12 = .ok (.iconst 0, 1) := by decide +kernel
theorem dX1_init_13 : decode cX1_init 13 = .ok (.putfield 15, 3) := by decide +kernel
theorem dX1_init_16 : decode cX1_init 16 = .ok (.aload_n 0, 1) := by decide +kernel
theorem dX1_init_17 : decode cX1_init 17 = .ok (.bipush 60, 2) := by decide +kernel
theorem dX1_init_19 : decode cX1_init 19 = .ok (.newarray .int, 2) := by decide +kernel
theorem dX1_init_21 : decode cX1_init 21 = .ok (.putfield 19, 3) := by decide +kernel
theorem dX1_init_24 : decode cX1_init 24 = .ok (.aload_n 0, 1) := by decide +kernel
theorem dX1_init_25 : decode cX1_init 25 = .ok (.bipush 61, 2) := by decide +kernel
theorem dX1_init_27 : decode cX1_init 27 = .ok (.newarray .int, 2) := by decide +kernel
theorem dX1_init_29 : decode cX1_init 29 = .ok (.putfield 22, 3) := by decide +kernel
theorem dX1_init_32 : decode cX1_init 32 = .ok (.aload_n 0, 1) := by decide +kernel
theorem dX1_init_33 : decode cX1_init 33 = .ok (.bipush 61, 2) := by decide +kernel
theorem dX1_init_35 : decode cX1_init 35 = .ok (.newarray .int, 2) := by decide +kernel
theorem dX1_init_37 : decode cX1_init 37 = .ok (.putfield 25, 3) := by decide +kernel
theorem dX1_init_40 : decode cX1_init 40 = .ok (.aload_n 0, 1) := by decide +kernel
theorem dX1_init_41 : decode cX1_init 41 = .ok (.bipush 61, 2) := by decide +kernel
theorem dX1_init_43 : decode cX1_init 43 = .ok (.newarray .int, 2) := by decide +kernel
theorem dX1_init_45 : decode cX1_init 45 = .ok (.putfield 28, 3) := by decide +kernel
theorem dX1_init_48 : decode cX1_init 48 = .ok (.return_, 1) := by decide +kernel
theorem dX1_put_0 : decode cX1_put 0 = .ok (.iload_n 1, 1) := by decide +kernel
theorem dX1_put_1 : decode cX1_put 1 = .ok (.invokestatic 31, 3) := by decide +kernel
theorem dX1_put_4 : decode cX1_put 4 = .ok (.ifCond .eq 13, 3) := by decide +kernel
theorem dX1_put_7 : decode cX1_put 7 = .ok (.iload_n 2, 1) := by decide +kernel
theorem dX1_put_8 : decode cX1_put 8 = .ok (.ifCond .lt 9, 3) := by decide +kernel
theorem dX1_put_11 : decode cX1_put 11 = .ok (.iload_n 2, 1) := by decide +kernel
theorem dX1_put_12 : decode cX1_put 12 = .ok (.bipush 60, 2) := by decide +kernel
theorem dX1_put_14 : decode cX1_put 14 = .ok (.if_icmp .le 5, 3) := by decide +kernel
theorem dX1_put_17 : decode cX1_put 17 = .ok (.iconst 0, 1) := by decide +kernel
theorem dX1_put_18 : decode cX1_put 18 = .ok (.ireturn, 1) := by decide +kernel
theorem dX1_put_19 : decode cX1_put 19 = .ok (.aload_n 0, 1) := by decide +kernel
theorem dX1_put_20 : decode cX1_put 20 = .ok (.getfield 15, 3) := by decide +kernel
theorem dX1_put_23 : decode cX1_put 23 = .ok (.aload_n 0, 1) := by decide +kernel
theorem dX1_put_24 : decode cX1_put 24 = .ok (.getfield 9, 3) := by decide +kernel
theorem dX1_put_27 : decode cX1_put 27 = .ok (.iload_n 1, 1) := by decide +kernel
theorem dX1_put_28 : decode cX1_put 28 = .ok (.iaload, 1) := by decide +kernel
theorem dX1_put_29 : decode cX1_put 29 = .ok (.isub, 1) := by decide +kernel
theorem dX1_put_30 : decode cX1_put 30 = .ok (.istore_n 3, 1) := by decide +kernel
theorem dX1_put_31 : decode cX1_put 31 = .ok (.iload_n 3, 1) := by decide +kernel
theorem dX1_put_32 : decode cX1_put 32 = .ok (.iload_n 2, 1) := by decide +kernel
theorem dX1_put_33 : decode cX1_put 33 = .ok (.iadd, 1) := by decide +kernel
theorem dX1_put_34 : decode cX1_put 34 = .ok (.bipush 60, 2) := by decide +kernel
theorem dX1_put_36 : decode cX1_put 36 = .ok (.if_icmp .le 5, 3) := by decide +kernel
theorem dX1_put_39 : decode cX1_put 39 = .ok (.iconst 0, 1) := by decide +kernel
theorem dX1_put_40 : decode cX1_put 40 = .ok (.ireturn, 1) := by decide +kernel
theorem dX1_put_41 : decode cX1_put 41 = .ok (.aload_n 0, 1) := by decide +kernel
theorem dX1_put_42 : decode cX1_put 42 = .ok (.getfield 9, 3) := by decide +kernel
theorem dX1_put_45 : decode cX1_put 45 = .ok (.iload_n 1, 1) := by decide +kernel
theorem dX1_put_46 : decode cX1_put 46 = .ok (.iload_n 2, 1) := by decide +kernel
theorem dX1_put_47 : decode cX1_put 47 = .ok (.iastore, 1) := by decide +kernel
theorem dX1_put_48 : decode cX1_put 48 = .ok (.aload_n 0, 1) := by decide +kernel
theorem dX1_put_49 : decode cX1_put 49 = .ok (.iload_n 3, 1) := by decide +kernel
theorem dX1_put_50 : decode cX1_put 50 = .ok (.iload_n 2, 1) := by decide +kernel
theorem dX1_put_51 : decode cX1_put 51 = .ok (.iadd, 1) := by decide +kernel
theorem dX1_put_52 : decode cX1_put 52 = .ok (.putfield 15, 3) := by decide +kernel
theorem dX1_put_55 : decode cX1_put 55 = .ok (.iconst 1, 1) := by decide +kernel
theorem dX1_put_56 : decode cX1_put 56 = .ok (.ireturn, 1) := by decide +kernel
theorem dX1_bestWorth_0 : decode cX1_bestWorth 0 = .ok (.aload_n 0, 1) := by decide +kernel
theorem dX1_bestWorth_1 : decode cX1_bestWorth 1 = .ok (.getfield 22, 3) := by decide +kernel
theorem dX1_bestWorth_4 : decode cX1_bestWorth 4 = .ok (.iconst 0, 1) := by decide +kernel
theorem dX1_bestWorth_5 : decode cX1_bestWorth 5 = .ok (.iaload, 1) := by decide +kernel
theorem dX1_bestWorth_6 : decode cX1_bestWorth 6 = .ok (.ireturn, 1) := by decide +kernel
theorem dX1_bestParts_0 : decode cX1_bestParts 0 = .ok (.aload_n 0, 1) := by decide +kernel
theorem dX1_bestParts_1 : decode cX1_bestParts 1 = .ok (.getfield 25, 3) := by decide +kernel
theorem dX1_bestParts_4 : decode cX1_bestParts 4 = .ok (.iconst 0, 1) := by decide +kernel
theorem dX1_bestParts_5 : decode cX1_bestParts 5 = .ok (.iaload, 1) := by decide +kernel
theorem dX1_bestParts_6 : decode cX1_bestParts 6 = .ok (.ireturn, 1) := by decide +kernel
theorem dX1_plan_0 : decode cX1_plan 0 = .ok (.aload_n 0, 1) := by decide +kernel
theorem dX1_plan_1 : decode cX1_plan 1 = .ok (.invokevirtual 35, 3) := by decide +kernel
theorem dX1_plan_4 : decode cX1_plan 4 = .ok (.aload_n 0, 1) := by decide +kernel
theorem dX1_plan_5 : decode cX1_plan 5 = .ok (.aload_n 0, 1) := by decide +kernel
theorem dX1_plan_6 : decode cX1_plan 6 = .ok (.getfield 15, 3) := by decide +kernel
theorem dX1_plan_9 : decode cX1_plan 9 = .ok (.invokevirtual 38, 3) := by decide +kernel
theorem dX1_plan_12 : decode cX1_plan 12 = .ok (.aload_n 0, 1) := by decide +kernel
theorem dX1_plan_13 : decode cX1_plan 13 = .ok (.getfield 15, 3) := by decide +kernel
theorem dX1_plan_16 : decode cX1_plan 16 = .ok (.iconst 1, 1) := by decide +kernel
theorem dX1_plan_17 : decode cX1_plan 17 = .ok (.isub, 1) := by decide +kernel
theorem dX1_plan_18 : decode cX1_plan 18 = .ok (.istore_n 2, 1) := by decide +kernel
theorem dX1_plan_19 : decode cX1_plan 19 = .ok (.iload_n 2, 1) := by decide +kernel
theorem dX1_plan_20 : decode cX1_plan 20 = .ok (.ifCond .lt 45, 3) := by decide +kernel
theorem dX1_plan_23 : decode cX1_plan 23 = .ok (.aload_n 0, 1) := by decide +kernel
theorem dX1_plan_24 : decode cX1_plan 24 = .ok (.iload_n 2, 1) := by decide +kernel
theorem dX1_plan_25 : decode cX1_plan 25 = .ok (.invokevirtual 38, 3) := by decide +kernel
theorem dX1_plan_28 : decode cX1_plan 28 = .ok (.iconst 1, 1) := by decide +kernel
theorem dX1_plan_29 : decode cX1_plan 29 = .ok (.istore_n 3, 1) := by decide +kernel
theorem dX1_plan_30 : decode cX1_plan 30 = .ok (.iload_n 3, 1) := by decide +kernel
theorem dX1_plan_31 : decode cX1_plan 31 = .ok (.bipush 80, 2) := by decide +kernel
theorem dX1_plan_33 : decode cX1_plan 33 = .ok (.if_icmp .gt 26, 3) := by decide +kernel
theorem dX1_plan_36 : decode cX1_plan 36 = .ok (.iload_n 2, 1) := by decide +kernel
theorem dX1_plan_37 : decode cX1_plan 37 = .ok (.iload_n 3, 1) := by decide +kernel
theorem dX1_plan_38 : decode cX1_plan 38 = .ok (.iadd, 1) := by decide +kernel
theorem dX1_plan_39 : decode cX1_plan 39 = .ok (.aload_n 0, 1) := by decide +kernel
theorem dX1_plan_40 : decode cX1_plan 40 = .ok (.getfield 15, 3) := by decide +kernel
theorem dX1_plan_43 : decode cX1_plan 43 = .ok (.if_icmp .gt 16, 3) := by decide +kernel
theorem dX1_plan_46 : decode cX1_plan 46 = .ok (.aload_n 0, 1) := by decide +kernel
theorem dX1_plan_47 : decode cX1_plan 47 = .ok (.aload_n 1, 1) := by decide +kernel
theorem dX1_plan_48 : decode cX1_plan 48 = .ok (.iload_n 2, 1) := by decide +kernel
theorem dX1_plan_49 : decode cX1_plan 49 = .ok (.iload_n 3, 1) := by decide +kernel
theorem dX1_plan_50 : decode cX1_plan 50 = .ok (.invokevirtual 42, 3) := by decide +kernel
theorem dX1_plan_53 : decode cX1_plan 53 = .ok (.iinc 3 1, 3) := by decide +kernel
theorem dX1_plan_56 : decode cX1_plan 56 = .ok (.goto (-26), 3) := by decide +kernel
theorem dX1_plan_59 : decode cX1_plan 59 = .ok (.iinc 2 (-1), 3) := by decide +kernel
theorem dX1_plan_62 : decode cX1_plan 62 = .ok (.goto (-43), 3) := by decide +kernel
theorem dX1_plan_65 : decode cX1_plan 65 = .ok (.return_, 1) := by decide +kernel
theorem dX1_layRow_0 : decode cX1_layRow 0 = .ok (.iconst 0, 1) := by decide +kernel
theorem dX1_layRow_1 : decode cX1_layRow 1 = .ok (.istore_n 1, 1) := by decide +kernel
theorem dX1_layRow_2 : decode cX1_layRow 2 = .ok (.iconst 4, 1) := by decide +kernel
theorem dX1_layRow_3 : decode cX1_layRow 3 = .ok (.istore_n 2, 1) := by decide +kernel
theorem dX1_layRow_4 : decode cX1_layRow 4 = .ok (.iload_n 2, 1) := by decide +kernel
theorem dX1_layRow_5 : decode cX1_layRow 5 = .ok (.ifCond .lt 43, 3) := by decide +kernel
theorem dX1_layRow_8 : decode cX1_layRow 8 = .ok (.iconst 0, 1) := by decide +kernel
theorem dX1_layRow_9 : decode cX1_layRow 9 = .ok (.istore_n 3, 1) := by decide +kernel
theorem dX1_layRow_10 : decode cX1_layRow 10 = .ok (.iload_n 3, 1) := by decide +kernel
theorem dX1_layRow_11 : decode cX1_layRow 11 = .ok (.aload_n 0, 1) := by decide +kernel
theorem dX1_layRow_12 : decode cX1_layRow 12 = .ok (.getfield 9, 3) := by decide +kernel
theorem dX1_layRow_15 : decode cX1_layRow 15 = .ok (.iload_n 2, 1) := by decide +kernel
theorem dX1_layRow_16 : decode cX1_layRow 16 = .ok (.iaload, 1) := by decide +kernel
theorem dX1_layRow_17 : decode cX1_layRow 17 = .ok (.if_icmp .ge 25, 3) := by decide +kernel
theorem dX1_layRow_20 : decode cX1_layRow 20 = .ok (.iload_n 1, 1) := by decide +kernel
theorem dX1_layRow_21 : decode cX1_layRow 21 = .ok (.bipush 60, 2) := by decide +kernel
theorem dX1_layRow_23 : decode cX1_layRow 23 = .ok (.if_icmp .ge 19, 3) := by decide +kernel
theorem dX1_layRow_26 : decode cX1_layRow 26 = .ok (.aload_n 0, 1) := by decide +kernel
theorem dX1_layRow_27 : decode cX1_layRow 27 = .ok (.getfield 19, 3) := by decide +kernel
theorem dX1_layRow_30 : decode cX1_layRow 30 = .ok (.iload_n 1, 1) := by decide +kernel
theorem dX1_layRow_31 : decode cX1_layRow 31 = .ok (.iload_n 2, 1) := by decide +kernel
theorem dX1_layRow_32 : decode cX1_layRow 32 = .ok (.iastore, 1) := by decide +kernel
theorem dX1_layRow_33 : decode cX1_layRow 33 = .ok (.iinc 1 1, 3) := by decide +kernel
theorem dX1_layRow_36 : decode cX1_layRow 36 = .ok (.iinc 3 1, 3) := by decide +kernel
theorem dX1_layRow_39 : decode cX1_layRow 39 = .ok (.goto (-29), 3) := by decide +kernel
theorem dX1_layRow_42 : decode cX1_layRow 42 = .ok (.iinc 2 (-1), 3) := by decide +kernel
theorem dX1_layRow_45 : decode cX1_layRow 45 = .ok (.goto (-41), 3) := by decide +kernel
theorem dX1_layRow_48 : decode cX1_layRow 48 = .ok (.return_, 1) := by decide +kernel
theorem dX1_clearFrom_0 : decode cX1_clearFrom 0 = .ok (.iload_n 1, 1) := by decide +kernel
theorem dX1_clearFrom_1 : decode cX1_clearFrom 1 = .ok (.ifCond .lt 30, 3) := by decide +kernel
theorem dX1_clearFrom_4 : decode cX1_clearFrom 4 = .ok (.iload_n 1, 1) := by decide +kernel
theorem dX1_clearFrom_5 : decode cX1_clearFrom 5 = .ok (.bipush 60, 2) := by decide +kernel
theorem dX1_clearFrom_7 : decode cX1_clearFrom 7 = .ok (.if_icmp .gt 24, 3) := by decide +kernel
theorem dX1_clearFrom_10 : decode cX1_clearFrom 10 = .ok (.aload_n 0, 1) := by decide +kernel
theorem dX1_clearFrom_11 : decode cX1_clearFrom 11 = .ok (.getfield 22, 3) := by decide +kernel
theorem dX1_clearFrom_14 : decode cX1_clearFrom 14 = .ok (.iload_n 1, 1) := by decide +kernel
theorem dX1_clearFrom_15 : decode cX1_clearFrom 15 = .ok (.iconst 0, 1) := by decide +kernel
theorem dX1_clearFrom_16 : decode cX1_clearFrom 16 = .ok (.iastore, 1) := by decide +kernel
theorem dX1_clearFrom_17 : decode cX1_clearFrom 17 = .ok (.aload_n 0, 1) := by decide +kernel
theorem dX1_clearFrom_18 : decode cX1_clearFrom 18 = .ok (.getfield 25, 3) := by decide +kernel
theorem dX1_clearFrom_21 : decode cX1_clearFrom 21 = .ok (.iload_n 1, 1) := by decide +kernel
theorem dX1_clearFrom_22 : decode cX1_clearFrom 22 = .ok (.iconst 0, 1) := by decide +kernel
theorem dX1_clearFrom_23 : decode cX1_clearFrom 23 = .ok (.iastore, 1) := by decide +kernel
theorem dX1_clearFrom_24 : decode cX1_clearFrom 24 = .ok (.aload_n 0, 1) := by decide +kernel
theorem dX1_clearFrom_25 : decode cX1_clearFrom 25 = .ok (.getfield 28, 3) := by decide +kernel
theorem dX1_clearFrom_28 : decode cX1_clearFrom 28 = .ok (.iload_n 1, 1) := by decide +kernel
theorem dX1_clearFrom_29 : decode cX1_clearFrom 29 = .ok (.iconst 0, 1) := by decide +kernel
theorem dX1_clearFrom_30 : decode cX1_clearFrom 30 = .ok (.iastore, 1) := by decide +kernel
theorem dX1_clearFrom_31 : decode cX1_clearFrom 31 = .ok (.return_, 1) := by decide +kernel
theorem dX1_tryFirst_0 : decode cX1_tryFirst 0 = .ok (.iload_n 2, 1) := by decide +kernel
theorem dX1_tryFirst_1 : decode cX1_tryFirst 1 = .ok (.iload_n 3, 1) := by decide +kernel
theorem dX1_tryFirst_2 : decode cX1_tryFirst 2 = .ok (.iadd, 1) := by decide +kernel
theorem dX1_tryFirst_3 : decode cX1_tryFirst 3 = .ok (.istore 4, 2) := by decide +kernel
theorem dX1_tryFirst_5 : decode cX1_tryFirst 5 = .ok (.iload_n 2, 1) := by decide +kernel
theorem dX1_tryFirst_6 : decode cX1_tryFirst 6 = .ok (.ifCond .lt 24, 3) := by decide +kernel
theorem dX1_tryFirst_9 : decode cX1_tryFirst 9 = .ok (.iload_n 3, 1) := by decide +kernel
theorem dX1_tryFirst_10 : decode cX1_tryFirst 10 = .ok (.iconst 1, 1) := by decide +kernel
theorem dX1_tryFirst_11 : decode cX1_tryFirst 11 = .ok (.if_icmp .lt 19, 3) := by decide +kernel
theorem dX1_tryFirst_14 : decode cX1_tryFirst 14 = .ok (.iload 4, 2) := by decide +kernel
theorem dX1_tryFirst_16 : decode cX1_tryFirst 16 = .ok (.aload_n 0, 1) := by decide +kernel
theorem dX1_tryFirst_17 : decode cX1_tryFirst 17 = .ok (.getfield 15, 3) := by decide +kernel
theorem dX1_tryFirst_20 : decode cX1_tryFirst 20 = .ok (.if_icmp .gt 10, 3) := by decide +kernel
theorem dX1_tryFirst_23 : decode cX1_tryFirst 23 = .ok (.iload 4, 2) := by decide +kernel
theorem dX1_tryFirst_25 : decode cX1_tryFirst 25 = .ok (.bipush 60, 2) := by decide +kernel
theorem dX1_tryFirst_27 : decode cX1_tryFirst 27 = .ok (.if_icmp .le 4, 3) := by decide +kernel
theorem dX1_tryFirst_30 : decode cX1_tryFirst 30 = .ok (.return_, 1) := by decide +kernel
theorem dX1_tryFirst_31 : decode cX1_tryFirst 31 = .ok (.aload_n 1, 1) := by decide +kernel
theorem dX1_tryFirst_32 : decode cX1_tryFirst 32 = .ok (.aload_n 0, 1) := by decide +kernel
theorem dX1_tryFirst_33 : decode cX1_tryFirst 33 = .ok (.getfield 19, 3) := by decide +kernel
theorem dX1_tryFirst_36 : decode cX1_tryFirst 36 = .ok (.iload 4, 2) := by decide +kernel
theorem dX1_tryFirst_38 : decode cX1_tryFirst 38 = .ok (.iconst 1, 1) := by decide +kernel
theorem dX1_tryFirst_39 : decode cX1_tryFirst 39 = .ok (.isub, 1) := by decide +kernel
theorem dX1_tryFirst_40 : decode cX1_tryFirst 40 = .ok (.iaload, 1) := by decide +kernel
theorem dX1_tryFirst_41 : decode cX1_tryFirst 41 = .ok (.iload_n 3, 1) := by decide +kernel
theorem dX1_tryFirst_42 : decode cX1_tryFirst 42 = .ok (.invokevirtual 46, 3) := by decide +kernel
theorem dX1_tryFirst_45 : decode cX1_tryFirst 45 = .ok (.aload_n 0, 1) := by decide +kernel
theorem dX1_tryFirst_46 : decode cX1_tryFirst 46 = .ok (.getfield 22, 3) := by decide +kernel
theorem dX1_tryFirst_49 : decode cX1_tryFirst 49 = .ok (.iload 4, 2) := by decide +kernel
theorem dX1_tryFirst_51 : decode cX1_tryFirst 51 = .ok (.iaload, 1) := by decide +kernel
theorem dX1_tryFirst_52 : decode cX1_tryFirst 52 = .ok (.iadd, 1) := by decide +kernel
theorem dX1_tryFirst_53 : decode cX1_tryFirst 53 = .ok (.istore 5, 2) := by decide +kernel
theorem dX1_tryFirst_55 : decode cX1_tryFirst 55 = .ok (.iconst 1, 1) := by decide +kernel
theorem dX1_tryFirst_56 : decode cX1_tryFirst 56 = .ok (.aload_n 0, 1) := by decide +kernel
theorem dX1_tryFirst_57 : decode cX1_tryFirst 57 = .ok (.getfield 25, 3) := by decide +kernel
theorem dX1_tryFirst_60 : decode cX1_tryFirst 60 = .ok (.iload 4, 2) := by decide +kernel
theorem dX1_tryFirst_62 : decode cX1_tryFirst 62 = .ok (.iaload, 1) := by decide +kernel
theorem dX1_tryFirst_63 : decode cX1_tryFirst 63 = .ok (.iadd, 1) := by decide +kernel
theorem dX1_tryFirst_64 : decode cX1_tryFirst 64 = .ok (.istore 6, 2) := by decide +kernel
theorem dX1_tryFirst_66 : decode cX1_tryFirst 66 = .ok (.iload 5, 2) := by decide +kernel
theorem dX1_tryFirst_68 : decode cX1_tryFirst 68 = .ok (.aload_n 0, 1) := by decide +kernel
theorem dX1_tryFirst_69 : decode cX1_tryFirst 69 = .ok (.getfield 22, 3) := by decide +kernel
theorem dX1_tryFirst_72 : decode cX1_tryFirst 72 = .ok (.iload_n 2, 1) := by decide +kernel
theorem dX1_tryFirst_73 : decode cX1_tryFirst 73 = .ok (.iaload, 1) := by decide +kernel
theorem dX1_tryFirst_74 : decode cX1_tryFirst 74 = .ok (.if_icmp .gt 25, 3) := by decide +kernel
theorem dX1_tryFirst_77 : decode cX1_tryFirst 77 = .ok (.iload 5, 2) := by decide +kernel
theorem dX1_tryFirst_79 : decode cX1_tryFirst 79 = .ok (.aload_n 0, 1) := by decide +kernel
theorem dX1_tryFirst_80 : decode cX1_tryFirst 80 = .ok (.getfield 22, 3) := by decide +kernel
theorem dX1_tryFirst_83 : decode cX1_tryFirst 83 = .ok (.iload_n 2, 1) := by decide +kernel
theorem dX1_tryFirst_84 : decode cX1_tryFirst 84 = .ok (.iaload, 1) := by decide +kernel
theorem dX1_tryFirst_85 : decode cX1_tryFirst 85 = .ok (.if_icmp .ne 18, 3) := by decide +kernel
theorem dX1_tryFirst_88 : decode cX1_tryFirst 88 = .ok (.iload 6, 2) := by decide +kernel
theorem dX1_tryFirst_90 : decode cX1_tryFirst 90 = .ok (.aload_n 0, 1) := by decide +kernel
theorem dX1_tryFirst_91 : decode cX1_tryFirst 91 = .ok (.getfield 25, 3) := by decide +kernel
theorem dX1_tryFirst_94 : decode cX1_tryFirst 94 = .ok (.iload_n 2, 1) := by decide +kernel
theorem dX1_tryFirst_95 : decode cX1_tryFirst 95 = .ok (.iaload, 1) := by decide +kernel
theorem dX1_tryFirst_96 : decode cX1_tryFirst 96 = .ok (.if_icmp .gt 7, 3) := by decide +kernel
theorem dX1_tryFirst_99 : decode cX1_tryFirst 99 = .ok (.iconst 1, 1) := by decide +kernel
theorem dX1_tryFirst_100 : decode cX1_tryFirst 100 = .ok (.goto 4, 3) := by decide +kernel
theorem dX1_tryFirst_103 : decode cX1_tryFirst 103 = .ok (.iconst 0, 1) := by decide +kernel
theorem dX1_tryFirst_104 : decode cX1_tryFirst 104 = .ok (.istore 7, 2) := by decide +kernel
theorem dX1_tryFirst_106 : decode cX1_tryFirst 106 = .ok (.iload 7, 2) := by decide +kernel
theorem dX1_tryFirst_108 : decode cX1_tryFirst 108 = .ok (.ifCond .eq 26, 3) := by decide +kernel
theorem dX1_tryFirst_111 : decode cX1_tryFirst 111 = .ok (.aload_n 0, 1) := by decide +kernel
theorem dX1_tryFirst_112 : decode cX1_tryFirst 112 = .ok (.getfield 22, 3) := by decide +kernel
theorem dX1_tryFirst_115 : decode cX1_tryFirst 115 = .ok (.iload_n 2, 1) := by decide +kernel
theorem dX1_tryFirst_116 : decode cX1_tryFirst 116 = .ok (.iload 5, 2) := by decide +kernel
theorem dX1_tryFirst_118 : decode cX1_tryFirst 118 = .ok (.iastore, 1) := by decide +kernel
theorem dX1_tryFirst_119 : decode cX1_tryFirst 119 = .ok (.aload_n 0, 1) := by decide +kernel
theorem dX1_tryFirst_120 : decode cX1_tryFirst 120 = .ok (.getfield 25, 3) := by decide +kernel
theorem dX1_tryFirst_123 : decode cX1_tryFirst 123 = .ok (.iload_n 2, 1) := by decide +kernel
theorem dX1_tryFirst_124 : decode cX1_tryFirst 124 = .ok (.iload 6, 2) := by decide +kernel
theorem dX1_tryFirst_126 : decode cX1_tryFirst 126 = .ok (.iastore, 1) := by decide +kernel
theorem dX1_tryFirst_127 : decode cX1_tryFirst 127 = .ok (.aload_n 0, 1) := by decide +kernel
theorem dX1_tryFirst_128 : decode cX1_tryFirst 128 = .ok (.getfield 28, 3) := by decide +kernel
theorem dX1_tryFirst_131 : decode cX1_tryFirst 131 = .ok (.iload_n 2, 1) := by decide +kernel
theorem dX1_tryFirst_132 : decode cX1_tryFirst 132 = .ok (.iload_n 3, 1) := by decide +kernel
theorem dX1_tryFirst_133 : decode cX1_tryFirst 133 = .ok (.iastore, 1) := by decide +kernel
theorem dX1_tryFirst_134 : decode cX1_tryFirst 134 = .ok (.return_, 1) := by decide +kernel
theorem dX1_lengthOfPart_0 : decode cX1_lengthOfPart 0 = .ok (.iconst 0, 1) := by decide +kernel
theorem dX1_lengthOfPart_1 : decode cX1_lengthOfPart 1 = .ok (.istore_n 2, 1) := by decide +kernel
theorem dX1_lengthOfPart_2 : decode cX1_lengthOfPart 2 = .ok (.iconst 0, 1) := by decide +kernel
theorem dX1_lengthOfPart_3 : decode cX1_lengthOfPart 3 = .ok (.istore_n 3, 1) := by decide +kernel
theorem dX1_lengthOfPart_4 : decode cX1_lengthOfPart 4 = .ok (.iload_n 3, 1) := by decide +kernel
theorem dX1_lengthOfPart_5 : decode cX1_lengthOfPart 5 = .ok (.iload_n 1, 1) := by decide +kernel
theorem dX1_lengthOfPart_6 : decode cX1_lengthOfPart 6 = .ok (.if_icmp .ge 32, 3) := by decide +kernel
theorem dX1_lengthOfPart_9 : decode cX1_lengthOfPart 9 = .ok (.iload_n 3, 1) := by decide +kernel
theorem dX1_lengthOfPart_10 : decode cX1_lengthOfPart 10 = .ok (.bipush 60, 2) := by decide +kernel
theorem dX1_lengthOfPart_12 : decode cX1_lengthOfPart 12 = .ok (.if_icmp .ge 26, 3) := by decide +kernel
theorem dX1_lengthOfPart_15 : decode cX1_lengthOfPart 15 = .ok (.iload_n 2, 1) := by decide +kernel
theorem dX1_lengthOfPart_16 : decode cX1_lengthOfPart 16 = .ok (.aload_n 0, 1) := by decide +kernel
theorem dX1_lengthOfPart_17 : decode cX1_lengthOfPart 17 = .ok (.getfield 15, 3) := by decide +kernel
theorem dX1_lengthOfPart_20 : decode cX1_lengthOfPart 20 = .ok (.if_icmp .ge 18, 3) := by decide +kernel
theorem dX1_lengthOfPart_23 : decode cX1_lengthOfPart 23 = .ok (.iload_n 2, 1) := by decide +kernel
theorem dX1_lengthOfPart_24 : decode cX1_lengthOfPart 24 = .ok (.aload_n 0, 1) := by decide +kernel
theorem dX1_lengthOfPart_25 : decode cX1_lengthOfPart 25 = .ok (.getfield 28, 3) := by decide +kernel
theorem dX1_lengthOfPart_28 : decode cX1_lengthOfPart 28 = .ok (.iload_n 2, 1) := by decide +kernel
theorem dX1_lengthOfPart_29 : decode cX1_lengthOfPart 29 = .ok (.iaload, 1) := by decide +kernel
theorem dX1_lengthOfPart_30 : decode cX1_lengthOfPart 30 = .ok (.iadd, 1) := by decide +kernel
theorem dX1_lengthOfPart_31 : decode cX1_lengthOfPart 31 = .ok (.istore_n 2, 1) := by decide +kernel
theorem dX1_lengthOfPart_32 : decode cX1_lengthOfPart 32 = .ok (.iinc 3 1, 3) := by decide +kernel
theorem dX1_lengthOfPart_35 : decode cX1_lengthOfPart 35 = .ok (.goto (-31), 3) := by decide +kernel
theorem dX1_lengthOfPart_38 : decode cX1_lengthOfPart 38 = .ok (.iload_n 1, 1) := by decide +kernel
theorem dX1_lengthOfPart_39 : decode cX1_lengthOfPart 39 = .ok (.ifCond .lt 28, 3) := by decide +kernel
theorem dX1_lengthOfPart_42 : decode cX1_lengthOfPart 42 = .ok (.iload_n 1, 1) := by decide +kernel
theorem dX1_lengthOfPart_43 : decode cX1_lengthOfPart 43 = .ok (.aload_n 0, 1) := by decide +kernel
theorem dX1_lengthOfPart_44 : decode cX1_lengthOfPart 44 = .ok (.invokevirtual 52, 3) := by decide +kernel
theorem dX1_lengthOfPart_47 : decode cX1_lengthOfPart 47 = .ok (.if_icmp .ge 20, 3) := by decide +kernel
theorem dX1_lengthOfPart_50 : decode cX1_lengthOfPart 50 = .ok (.iload_n 2, 1) := by decide +kernel
theorem dX1_lengthOfPart_51 : decode cX1_lengthOfPart 51 = .ok (.aload_n 0, 1) := by decide +kernel
theorem dX1_lengthOfPart_52 : decode cX1_lengthOfPart 52 = .ok (.getfield 15, 3) := by decide +kernel
theorem dX1_lengthOfPart_55 : decode cX1_lengthOfPart 55 = .ok (.if_icmp .ge 12, 3) := by decide +kernel
theorem dX1_lengthOfPart_58 : decode cX1_lengthOfPart 58 = .ok (.aload_n 0, 1) := by decide +kernel
theorem dX1_lengthOfPart_59 : decode cX1_lengthOfPart 59 = .ok (.getfield 28, 3) := by decide +kernel
theorem dX1_lengthOfPart_62 : decode cX1_lengthOfPart 62 = .ok (.iload_n 2, 1) := by decide +kernel
theorem dX1_lengthOfPart_63 : decode cX1_lengthOfPart 63 = .ok (.iaload, 1) := by decide +kernel
theorem dX1_lengthOfPart_64 : decode cX1_lengthOfPart 64 = .ok (.goto 4, 3) := by decide +kernel
theorem dX1_lengthOfPart_67 : decode cX1_lengthOfPart 67 = .ok (.iconst (-1), 1) := by decide +kernel
theorem dX1_lengthOfPart_68 : decode cX1_lengthOfPart 68 = .ok (.ireturn, 1) := by decide +kernel
theorem dX2_init_0 : decode cX2_init 0 = .ok (.aload_n 0, 1) := by decide +kernel
theorem dX2_init_1 : decode cX2_init 1 = .ok (.invokespecial 3, 3) := by decide +kernel
theorem dX2_init_4 : decode cX2_init 4 = .ok (.aload_n 0, 1) := by decide +kernel
theorem dX2_init_5 : decode cX2_init 5 = .ok (.bipush 12, 2) := by decide +kernel
theorem dX2_init_7 : decode cX2_init 7 = .ok (.newarray .int, 2) := by decide +kernel
theorem dX2_init_9 : decode cX2_init 9 = .ok (.putfield 9, 3) := by decide +kernel
theorem dX2_init_12 : decode cX2_init 12 = .ok (.aload_n 0, 1) := by decide +kernel
theorem dX2_init_13 : decode cX2_init 13 = .ok (.bipush 12, 2) := by decide +kernel
theorem dX2_init_15 : decode cX2_init 15 = .ok (.newarray .int, 2) := by decide +kernel
theorem dX2_init_17 : decode cX2_init 17 = .ok (.putfield 15, 3) := by decide +kernel
theorem dX2_init_20 : decode cX2_init 20 = .ok (.aload_n 0, 1) := by decide +kernel
theorem dX2_init_21 : decode cX2_init 21 = .ok (.iconst 0, 1) := by decide +kernel
theorem dX2_init_22 : decode cX2_init 22 = .ok (.putfield 18, 3) := by decide +kernel
theorem dX2_init_25 : decode cX2_init 25 = .ok (.aload_n 0, 1) := by decide +kernel
theorem dX2_init_26 : decode cX2_init 26 = .ok (.iconst 0, 1) := by decide +kernel
theorem dX2_init_27 : decode cX2_init 27 = .ok (.putfield 22, 3) := by decide +kernel
theorem dX2_init_30 : decode cX2_init 30 = .ok (.aload_n 0, 1) := by decide +kernel
theorem dX2_init_31 : decode cX2_init 31 = .ok (.iconst 0, 1) := by decide +kernel
theorem dX2_init_32 : decode cX2_init 32 = .ok (.putfield 25, 3) := by decide +kernel
theorem dX2_init_35 : decode cX2_init 35 = .ok (.aload_n 0, 1) := by decide +kernel
theorem dX2_init_36 : decode cX2_init 36 = .ok (.iconst 0, 1) := by decide +kernel
theorem dX2_init_37 : decode cX2_init 37 = .ok (.putfield 28, 3) := by decide +kernel
theorem dX2_init_40 : decode cX2_init 40 = .ok (.aload_n 0, 1) := by decide +kernel
theorem dX2_init_41 : decode cX2_init 41 = .ok (.iconst 0, 1) := by decide +kernel
theorem dX2_init_42 : decode cX2_init 42 = .ok (.putfield 31, 3) := by decide +kernel
theorem dX2_init_45 : decode cX2_init 45 = .ok (.return_, 1) := by decide +kernel
theorem dX2_clear_0 : decode cX2_clear 0 = .ok (.aload_n 0, 1) := by decide +kernel
theorem dX2_clear_1 : decode cX2_clear 1 = .ok (.iconst 0, 1) := by decide +kernel
theorem dX2_clear_2 : decode cX2_clear 2 = .ok (.putfield 18, 3) := by decide +kernel
theorem dX2_clear_5 : decode cX2_clear 5 = .ok (.aload_n 0, 1) := by decide +kernel
theorem dX2_clear_6 : decode cX2_clear 6 = .ok (.iconst 0, 1) := by decide +kernel
theorem dX2_clear_7 : decode cX2_clear 7 = .ok (.putfield 22, 3) := by decide +kernel
theorem dX2_clear_10 : decode cX2_clear 10 = .ok (.aload_n 0, 1) := by decide +kernel
theorem dX2_clear_11 : decode cX2_clear 11 = .ok (.iconst 0, 1) := by decide +kernel
theorem dX2_clear_12 : decode cX2_clear 12 = .ok (.putfield 25, 3) := by decide +kernel
theorem dX2_clear_15 : decode cX2_clear 15 = .ok (.aload_n 0, 1) := by decide +kernel
theorem dX2_clear_16 : decode cX2_clear 16 = .ok (.iconst 0, 1) := by decide +kernel
theorem dX2_clear_17 : decode cX2_clear 17 = .ok (.putfield 28, 3) := by decide +kernel
theorem dX2_clear_20 : decode cX2_clear 20 = .ok (.aload_n 0, 1) := by decide +kernel
theorem dX2_clear_21 : decode cX2_clear 21 = .ok (.iconst (-1), 1) := by decide +kernel
theorem dX2_clear_22 : decode cX2_clear 22 = .ok (.putfield 31, 3) := by decide +kernel
theorem dX2_clear_25 : decode cX2_clear 25 = .ok (.return_, 1) := by decide +kernel
theorem dX2_put_0 : decode cX2_put 0 = .ok (.aload_n 0, 1) := by decide +kernel
theorem dX2_put_1 : decode cX2_put 1 = .ok (.getfield 18, 3) := by decide +kernel
theorem dX2_put_4 : decode cX2_put 4 = .ok (.bipush 12, 2) := by decide +kernel
theorem dX2_put_6 : decode cX2_put 6 = .ok (.if_icmp .lt 5, 3) := by decide +kernel
theorem dX2_put_9 : decode cX2_put 9 = .ok (.iconst 0, 1) := by decide +kernel
theorem dX2_put_10 : decode cX2_put 10 = .ok (.ireturn, 1) := by decide +kernel
theorem dX2_put_11 : decode cX2_put 11 = .ok (.aload_n 0, 1) := by decide +kernel
theorem dX2_put_12 : decode cX2_put 12 = .ok (.getfield 9, 3) := by decide +kernel
theorem dX2_put_15 : decode cX2_put 15 = .ok (.aload_n 0, 1) := by decide +kernel
theorem dX2_put_16 : decode cX2_put 16 = .ok (.getfield 18, 3) := by decide +kernel
theorem dX2_put_19 : decode cX2_put 19 = .ok (.iload_n 1, 1) := by decide +kernel
theorem dX2_put_20 : decode cX2_put 20 = .ok (.iastore, 1) := by decide +kernel
theorem dX2_put_21 : decode cX2_put 21 = .ok (.aload_n 0, 1) := by decide +kernel
theorem dX2_put_22 : decode cX2_put 22 = .ok (.getfield 15, 3) := by decide +kernel
theorem dX2_put_25 : decode cX2_put 25 = .ok (.aload_n 0, 1) := by decide +kernel
theorem dX2_put_26 : decode cX2_put 26 = .ok (.getfield 18, 3) := by decide +kernel
theorem dX2_put_29 : decode cX2_put 29 = .ok (.iload_n 2, 1) := by decide +kernel
theorem dX2_put_30 : decode cX2_put 30 = .ok (.iastore, 1) := by decide +kernel
theorem dX2_put_31 : decode cX2_put 31 = .ok (.aload_n 0, 1) := by decide +kernel
theorem dX2_put_32 : decode cX2_put 32 = .ok (.dup, 1) := by decide +kernel
theorem dX2_put_33 : decode cX2_put 33 = .ok (.getfield 18, 3) := by decide +kernel
theorem dX2_put_36 : decode cX2_put 36 = .ok (.iconst 1, 1) := by decide +kernel
theorem dX2_put_37 : decode cX2_put 37 = .ok (.iadd, 1) := by decide +kernel
theorem dX2_put_38 : decode cX2_put 38 = .ok (.putfield 18, 3) := by decide +kernel
theorem dX2_put_41 : decode cX2_put 41 = .ok (.aload_n 0, 1) := by decide +kernel
theorem dX2_put_42 : decode cX2_put 42 = .ok (.dup, 1) := by decide +kernel
theorem dX2_put_43 : decode cX2_put 43 = .ok (.getfield 22, 3) := by decide +kernel
theorem dX2_put_46 : decode cX2_put 46 = .ok (.iload_n 2, 1) := by decide +kernel
theorem dX2_put_47 : decode cX2_put 47 = .ok (.iadd, 1) := by decide +kernel
theorem dX2_put_48 : decode cX2_put 48 = .ok (.putfield 22, 3) := by decide +kernel
theorem dX2_put_51 : decode cX2_put 51 = .ok (.iconst 1, 1) := by decide +kernel
theorem dX2_put_52 : decode cX2_put 52 = .ok (.ireturn, 1) := by decide +kernel
theorem dX2_choose_0 : decode cX2_choose 0 = .ok (.iconst 0, 1) := by decide +kernel
theorem dX2_choose_1 : decode cX2_choose 1 = .ok (.istore_n 2, 1) := by decide +kernel
theorem dX2_choose_2 : decode cX2_choose 2 = .ok (.iconst 0, 1) := by decide +kernel
theorem dX2_choose_3 : decode cX2_choose 3 = .ok (.istore_n 3, 1) := by decide +kernel
theorem dX2_choose_4 : decode cX2_choose 4 = .ok (.iconst 1, 1) := by decide +kernel
theorem dX2_choose_5 : decode cX2_choose 5 = .ok (.istore 4, 2) := by decide +kernel
theorem dX2_choose_7 : decode cX2_choose 7 = .ok (.iload 4, 2) := by decide +kernel
theorem dX2_choose_9 : decode cX2_choose 9 = .ok (.iconst 1, 1) := by decide +kernel
theorem dX2_choose_10 : decode cX2_choose 10 = .ok (.aload_n 0, 1) := by decide +kernel
theorem dX2_choose_11 : decode cX2_choose 11 = .ok (.getfield 18, 3) := by decide +kernel
theorem dX2_choose_14 : decode cX2_choose 14 = .ok (.ishl, 1) := by decide +kernel
theorem dX2_choose_15 : decode cX2_choose 15 = .ok (.if_icmp .ge 93, 3) := by decide +kernel
theorem dX2_choose_18 : decode cX2_choose 18 = .ok (.iconst 0, 1) := by decide +kernel
theorem dX2_choose_19 : decode cX2_choose 19 = .ok (.istore 5, 2) := by decide +kernel
theorem dX2_choose_21 : decode cX2_choose 21 = .ok (.iload 5, 2) := by decide +kernel
theorem dX2_choose_23 : decode cX2_choose 23 = .ok (.aload_n 0, 1) := by decide +kernel
theorem dX2_choose_24 : decode cX2_choose 24 = .ok (.getfield 18, 3) := by decide +kernel
theorem dX2_choose_27 : decode cX2_choose 27 = .ok (.iconst 1, 1) := by decide +kernel
theorem dX2_choose_28 : decode cX2_choose 28 = .ok (.isub, 1) := by decide +kernel
theorem dX2_choose_29 : decode cX2_choose 29 = .ok (.if_icmp .ge 31, 3) := by decide +kernel
theorem dX2_choose_32 : decode cX2_choose 32 = .ok (.iload 4, 2) := by decide +kernel
theorem dX2_choose_34 : decode cX2_choose 34 = .ok (.iload 5, 2) := by decide +kernel
theorem dX2_choose_36 : decode cX2_choose 36 = .ok (.ishr, 1) := by decide +kernel
theorem dX2_choose_37 : decode cX2_choose 37 = .ok (.iconst 1, 1) := by decide +kernel
theorem dX2_choose_38 : decode cX2_choose 38 = .ok (.iand, 1) := by decide +kernel
theorem dX2_choose_39 : decode cX2_choose 39 = .ok (.ifCond .ne 21, 3) := by decide +kernel
theorem dX2_choose_42 : decode cX2_choose 42 = .ok (.iload_n 2, 1) := by decide +kernel
theorem dX2_choose_43 : decode cX2_choose 43 = .ok (.aload_n 0, 1) := by decide +kernel
theorem dX2_choose_44 : decode cX2_choose 44 = .ok (.iload 5, 2) := by decide +kernel
theorem dX2_choose_46 : decode cX2_choose 46 = .ok (.invokevirtual 34, 3) := by decide +kernel
theorem dX2_choose_49 : decode cX2_choose 49 = .ok (.isub, 1) := by decide +kernel
theorem dX2_choose_50 : decode cX2_choose 50 = .ok (.istore_n 2, 1) := by decide +kernel
theorem dX2_choose_51 : decode cX2_choose 51 = .ok (.iinc 3 (-1), 3) := by decide +kernel
theorem dX2_choose_54 : decode cX2_choose 54 = .ok (.iinc 5 1, 3) := by decide +kernel
theorem dX2_choose_57 : decode cX2_choose 57 = .ok (.goto (-36), 3) := by decide +kernel
theorem dX2_choose_60 : decode cX2_choose 60 = .ok (.iload_n 2, 1) := by decide +kernel
theorem dX2_choose_61 : decode cX2_choose 61 = .ok (.aload_n 0, 1) := by decide +kernel
theorem dX2_choose_62 : decode cX2_choose 62 = .ok (.iload 5, 2) := by decide +kernel
theorem dX2_choose_64 : decode cX2_choose 64 = .ok (.invokevirtual 34, 3) := by decide +kernel
theorem dX2_choose_67 : decode cX2_choose 67 = .ok (.iadd, 1) := by decide +kernel
theorem dX2_choose_68 : decode cX2_choose 68 = .ok (.istore_n 2, 1) := by decide +kernel
theorem dX2_choose_69 : decode cX2_choose 69 = .ok (.iinc 3 1, 3) := by decide +kernel
theorem dX2_choose_72 : decode cX2_choose 72 = .ok (.iload_n 2, 1) := by decide +kernel
theorem dX2_choose_73 : decode cX2_choose 73 = .ok (.iload_n 1, 1) := by decide +kernel
theorem dX2_choose_74 : decode cX2_choose 74 = .ok (.if_icmp .lt 28, 3) := by decide +kernel
theorem dX2_choose_77 : decode cX2_choose 77 = .ok (.aload_n 0, 1) := by decide +kernel
theorem dX2_choose_78 : decode cX2_choose 78 = .ok (.iload_n 2, 1) := by decide +kernel
theorem dX2_choose_79 : decode cX2_choose 79 = .ok (.iload_n 3, 1) := by decide +kernel
theorem dX2_choose_80 : decode cX2_choose 80 = .ok (.invokevirtual 38, 3) := by decide +kernel
theorem dX2_choose_83 : decode cX2_choose 83 = .ok (.ifCond .eq 19, 3) := by decide +kernel
theorem dX2_choose_86 : decode cX2_choose 86 = .ok (.aload_n 0, 1) := by decide +kernel
theorem dX2_choose_87 : decode cX2_choose 87 = .ok (.iload 4, 2) := by decide +kernel
theorem dX2_choose_89 : decode cX2_choose 89 = .ok (.putfield 25, 3) := by decide +kernel
theorem dX2_choose_92 : decode cX2_choose 92 = .ok (.aload_n 0, 1) := by decide +kernel
theorem dX2_choose_93 : decode cX2_choose 93 = .ok (.iload_n 3, 1) := by decide +kernel
theorem dX2_choose_94 : decode cX2_choose 94 = .ok (.putfield 28, 3) := by decide +kernel
theorem dX2_choose_97 : decode cX2_choose 97 = .ok (.aload_n 0, 1) := by decide +kernel
theorem dX2_choose_98 : decode cX2_choose 98 = .ok (.iload_n 2, 1) := by decide +kernel
theorem dX2_choose_99 : decode cX2_choose 99 = .ok (.putfield 31, 3) := by decide +kernel
theorem dX2_choose_102 : decode cX2_choose 102 = .ok (.iinc 4 1, 3) := by decide +kernel
theorem dX2_choose_105 : decode cX2_choose 105 = .ok (.goto (-98), 3) := by decide +kernel
theorem dX2_choose_108 : decode cX2_choose 108 = .ok (.return_, 1) := by decide +kernel
theorem dX2_isBetter_0 : decode cX2_isBetter 0 = .ok (.aload_n 0, 1) := by decide +kernel
theorem dX2_isBetter_1 : decode cX2_isBetter 1 = .ok (.getfield 31, 3) := by decide +kernel
theorem dX2_isBetter_4 : decode cX2_isBetter 4 = .ok (.iconst (-1), 1) := by decide +kernel
theorem dX2_isBetter_5 : decode cX2_isBetter 5 = .ok (.if_icmp .eq 11, 3) := by decide +kernel
theorem dX2_isBetter_8 : decode cX2_isBetter 8 = .ok (.iload_n 1, 1) := by decide +kernel
theorem dX2_isBetter_9 : decode cX2_isBetter 9 = .ok (.aload_n 0, 1) := by decide +kernel
theorem dX2_isBetter_10 : decode cX2_isBetter 10 = .ok (.getfield 31, 3) := by decide +kernel
theorem dX2_isBetter_13 : decode cX2_isBetter 13 = .ok (.if_icmp .ge 5, 3) := by decide +kernel
theorem dX2_isBetter_16 : decode cX2_isBetter 16 = .ok (.iconst 1, 1) := by decide +kernel
theorem dX2_isBetter_17 : decode cX2_isBetter 17 = .ok (.ireturn, 1) := by decide +kernel
theorem dX2_isBetter_18 : decode cX2_isBetter 18 = .ok (.iload_n 1, 1) := by decide +kernel
theorem dX2_isBetter_19 : decode cX2_isBetter 19 = .ok (.aload_n 0, 1) := by decide +kernel
theorem dX2_isBetter_20 : decode cX2_isBetter 20 = .ok (.getfield 31, 3) := by decide +kernel
theorem dX2_isBetter_23 : decode cX2_isBetter 23 = .ok (.if_icmp .ne 15, 3) := by decide +kernel
theorem dX2_isBetter_26 : decode cX2_isBetter 26 = .ok (.iload_n 2, 1) := by decide +kernel
theorem dX2_isBetter_27 : decode cX2_isBetter 27 = .ok (.aload_n 0, 1) := by decide +kernel
theorem dX2_isBetter_28 : decode cX2_isBetter 28 = .ok (.getfield 28, 3) := by decide +kernel
theorem dX2_isBetter_31 : decode cX2_isBetter 31 = .ok (.if_icmp .ge 7, 3) := by decide +kernel
theorem dX2_isBetter_34 : decode cX2_isBetter 34 = .ok (.iconst 1, 1) := by decide +kernel
theorem dX2_isBetter_35 : decode cX2_isBetter 35 = .ok (.goto 4, 3) := by decide +kernel
theorem dX2_isBetter_38 : decode cX2_isBetter 38 = .ok (.iconst 0, 1) := by decide +kernel
theorem dX2_isBetter_39 : decode cX2_isBetter 39 = .ok (.ireturn, 1) := by decide +kernel
theorem dX2_worthAt_0 : decode cX2_worthAt 0 = .ok (.iload_n 1, 1) := by decide +kernel
theorem dX2_worthAt_1 : decode cX2_worthAt 1 = .ok (.ifCond .lt 26, 3) := by decide +kernel
theorem dX2_worthAt_4 : decode cX2_worthAt 4 = .ok (.iload_n 1, 1) := by decide +kernel
theorem dX2_worthAt_5 : decode cX2_worthAt 5 = .ok (.aload_n 0, 1) := by decide +kernel
theorem dX2_worthAt_6 : decode cX2_worthAt 6 = .ok (.getfield 18, 3) := by decide +kernel
theorem dX2_worthAt_9 : decode cX2_worthAt 9 = .ok (.if_icmp .ge 18, 3) := by decide +kernel
theorem dX2_worthAt_12 : decode cX2_worthAt 12 = .ok (.iload_n 1, 1) := by decide +kernel
theorem dX2_worthAt_13 : decode cX2_worthAt 13 = .ok (.bipush 12, 2) := by decide +kernel
theorem dX2_worthAt_15 : decode cX2_worthAt 15 = .ok (.if_icmp .ge 12, 3) := by decide +kernel
theorem dX2_worthAt_18 : decode cX2_worthAt 18 = .ok (.aload_n 0, 1) := by decide +kernel
theorem dX2_worthAt_19 : decode cX2_worthAt 19 = .ok (.getfield 15, 3) := by decide +kernel
theorem dX2_worthAt_22 : decode cX2_worthAt 22 = .ok (.iload_n 1, 1) := by decide +kernel
theorem dX2_worthAt_23 : decode cX2_worthAt 23 = .ok (.iaload, 1) := by decide +kernel
theorem dX2_worthAt_24 : decode cX2_worthAt 24 = .ok (.goto 4, 3) := by decide +kernel
theorem dX2_worthAt_27 : decode cX2_worthAt 27 = .ok (.iconst 0, 1) := by decide +kernel
theorem dX2_worthAt_28 : decode cX2_worthAt 28 = .ok (.ireturn, 1) := by decide +kernel
theorem dX2_chosenAt_0 : decode cX2_chosenAt 0 = .ok (.iload_n 1, 1) := by decide +kernel
theorem dX2_chosenAt_1 : decode cX2_chosenAt 1 = .ok (.ifCond .lt 17, 3) := by decide +kernel
theorem dX2_chosenAt_4 : decode cX2_chosenAt 4 = .ok (.iload_n 1, 1) := by decide +kernel
theorem dX2_chosenAt_5 : decode cX2_chosenAt 5 = .ok (.aload_n 0, 1) := by decide +kernel
theorem dX2_chosenAt_6 : decode cX2_chosenAt 6 = .ok (.getfield 18, 3) := by decide +kernel
theorem dX2_chosenAt_9 : decode cX2_chosenAt 9 = .ok (.if_icmp .ge 9, 3) := by decide +kernel
theorem dX2_chosenAt_12 : decode cX2_chosenAt 12 = .ok (.iload_n 1, 1) := by decide +kernel
theorem dX2_chosenAt_13 : decode cX2_chosenAt 13 = .ok (.bipush 12, 2) := by decide +kernel
theorem dX2_chosenAt_15 : decode cX2_chosenAt 15 = .ok (.if_icmp .lt 5, 3) := by decide +kernel
theorem dX2_chosenAt_18 : decode cX2_chosenAt 18 = .ok (.iconst (-1), 1) := by decide +kernel
theorem dX2_chosenAt_19 : decode cX2_chosenAt 19 = .ok (.ireturn, 1) := by decide +kernel
theorem dX2_chosenAt_20 : decode cX2_chosenAt 20 = .ok (.aload_n 0, 1) := by decide +kernel
theorem dX2_chosenAt_21 : decode cX2_chosenAt 21 = .ok (.getfield 25, 3) := by decide +kernel
theorem dX2_chosenAt_24 : decode cX2_chosenAt 24 = .ok (.iload_n 1, 1) := by decide +kernel
theorem dX2_chosenAt_25 : decode cX2_chosenAt 25 = .ok (.ishr, 1) := by decide +kernel
theorem dX2_chosenAt_26 : decode cX2_chosenAt 26 = .ok (.iconst 1, 1) := by decide +kernel
theorem dX2_chosenAt_27 : decode cX2_chosenAt 27 = .ok (.iand, 1) := by decide +kernel
theorem dX2_chosenAt_28 : decode cX2_chosenAt 28 = .ok (.iconst 1, 1) := by decide +kernel
theorem dX2_chosenAt_29 : decode cX2_chosenAt 29 = .ok (.if_icmp .ne 12, 3) := by decide +kernel
theorem dX2_chosenAt_32 : decode cX2_chosenAt 32 = .ok (.aload_n 0, 1) := by decide +kernel
theorem dX2_chosenAt_33 : decode cX2_chosenAt 33 = .ok (.getfield 9, 3) := by decide +kernel
theorem dX2_chosenAt_36 : decode cX2_chosenAt 36 = .ok (.iload_n 1, 1) := by decide +kernel
theorem dX2_chosenAt_37 : decode cX2_chosenAt 37 = .ok (.iaload, 1) := by decide +kernel
theorem dX2_chosenAt_38 : decode cX2_chosenAt 38 = .ok (.goto 4, 3) := by decide +kernel
theorem dX2_chosenAt_41 : decode cX2_chosenAt 41 = .ok (.iconst (-1), 1) := by decide +kernel
theorem dX2_chosenAt_42 : decode cX2_chosenAt 42 = .ok (.ireturn, 1) := by decide +kernel
theorem dX3_init_0 : decode cX3_init 0 = .ok (.aload_n 0, 1) := by decide +kernel
theorem dX3_init_1 : decode cX3_init 1 = .ok (.invokespecial 3, 3) := by decide +kernel
theorem dX3_init_4 : decode cX3_init 4 = .ok (.aload_n 0, 1) := by decide +kernel
theorem dX3_init_5 : decode cX3_init 5 = .ok (.getstatic 9, 3) := by decide +kernel
theorem dX3_init_8 : decode cX3_init 8 = .ok (.invokevirtual 13, 3) := by decide +kernel
theorem dX3_init_11 : decode cX3_init 11 = .ok (.checkcast 14, 3) := by decide +kernel
theorem dX3_init_14 : decode cX3_init 14 = .ok (.putfield 18, 3) := by decide +kernel
theorem dX3_init_17 : decode cX3_init 17 = .ok (.aload_n 0, 1) := by decide +kernel
theorem dX3_init_18 : decode cX3_init 18 = .ok (.getstatic 23, 3) := by decide +kernel
theorem dX3_init_21 : decode cX3_init 21 = .ok (.invokevirtual 13, 3) := by decide +kernel
theorem dX3_init_24 : decode cX3_init 24 = .ok (.checkcast 14, 3) := by decide +kernel
theorem dX3_init_27 : decode cX3_init 27 = .ok (.putfield 26, 3) := by decide +kernel
theorem dX3_init_30 : decode cX3_init 30 = .ok (.aload_n 0, 1) := by decide +kernel
theorem dX3_init_31 : decode cX3_init 31 = .ok (.getstatic 29, 3) := by decide +kernel
theorem dX3_init_34 : decode cX3_init 34 = .ok (.invokevirtual 13, 3) := by decide +kernel
theorem dX3_init_37 : decode cX3_init 37 = .ok (.checkcast 14, 3) := by decide +kernel
theorem dX3_init_40 : decode cX3_init 40 = .ok (.putfield 32, 3) := by decide +kernel
theorem dX3_init_43 : decode cX3_init 43 = .ok (.aload_n 0, 1) := by decide +kernel
theorem dX3_init_44 : decode cX3_init 44 = .ok (.iconst 5, 1) := by decide +kernel
theorem dX3_init_45 : decode cX3_init 45 = .ok (.newarray .int, 2) := by decide +kernel
theorem dX3_init_47 : decode cX3_init 47 = .ok (.putfield 35, 3) := by decide +kernel
theorem dX3_init_50 : decode cX3_init 50 = .ok (.aload_n 0, 1) := by decide +kernel
theorem dX3_init_51 : decode cX3_init 51 = .ok (.bipush 25, 2) := by decide +kernel
theorem dX3_init_53 : decode cX3_init 53 = .ok (.putfield 38, 3) := by decide +kernel
theorem dX3_init_56 : decode cX3_init 56 = .ok (.return_, 1) := by decide +kernel
theorem dX3_flowIn_0 : decode cX3_flowIn 0 = .ok (.iload_n 1, 1) := by decide +kernel
theorem dX3_flowIn_1 : decode cX3_flowIn 1 = .ok (.invokestatic 42, 3) := by decide +kernel
theorem dX3_flowIn_4 : decode cX3_flowIn 4 = .ok (.ifCond .eq 13, 3) := by decide +kernel
theorem dX3_flowIn_7 : decode cX3_flowIn 7 = .ok (.aload_n 0, 1) := by decide +kernel
theorem dX3_flowIn_8 : decode cX3_flowIn 8 = .ok (.getfield 35, 3) := by decide +kernel
theorem dX3_flowIn_11 : decode cX3_flowIn 11 = .ok (.iload_n 1, 1) := by decide +kernel
theorem dX3_flowIn_12 : decode cX3_flowIn 12 = .ok (.dup2, 1) := by decide +kernel
theorem dX3_flowIn_13 : decode cX3_flowIn 13 = .ok (.iaload, 1) := by decide +kernel
theorem dX3_flowIn_14 : decode cX3_flowIn 14 = .ok (.iload_n 2, 1) := by decide +kernel
theorem dX3_flowIn_15 : decode cX3_flowIn 15 = .ok (.iadd, 1) := by decide +kernel
theorem dX3_flowIn_16 : decode cX3_flowIn 16 = .ok (.iastore, 1) := by decide +kernel
theorem dX3_flowIn_17 : decode cX3_flowIn 17 = .ok (.return_, 1) := by decide +kernel
theorem dX3_allBeads_0 : decode cX3_allBeads 0 = .ok (.iconst 0, 1) := by decide +kernel
theorem dX3_allBeads_1 : decode cX3_allBeads 1 = .ok (.istore_n 1, 1) := by decide +kernel
theorem dX3_allBeads_2 : decode cX3_allBeads 2 = .ok (.iconst 0, 1) := by decide +kernel
theorem dX3_allBeads_3 : decode cX3_allBeads 3 = .ok (.istore_n 2, 1) := by decide +kernel
theorem dX3_allBeads_4 : decode cX3_allBeads 4 = .ok (.iload_n 2, 1) := by decide +kernel
theorem dX3_allBeads_5 : decode cX3_allBeads 5 = .ok (.iconst 5, 1) := by decide +kernel
theorem dX3_allBeads_6 : decode cX3_allBeads 6 = .ok (.if_icmp .ge 18, 3) := by decide +kernel
theorem dX3_allBeads_9 : decode cX3_allBeads 9 = .ok (.iload_n 1, 1) := by decide +kernel
theorem dX3_allBeads_10 : decode cX3_allBeads 10 = .ok (.aload_n 0, 1) := by decide +kernel
theorem dX3_allBeads_11 : decode cX3_allBeads 11 = .ok (.getfield 35, 3) := by decide +kernel
theorem dX3_allBeads_14 : decode cX3_allBeads 14 = .ok (.iload_n 2, 1) := by decide +kernel
theorem dX3_allBeads_15 : decode cX3_allBeads 15 = .ok (.iaload, 1) := by decide +kernel
theorem dX3_allBeads_16 : decode cX3_allBeads 16 = .ok (.iadd, 1) := by decide +kernel
theorem dX3_allBeads_17 : decode cX3_allBeads 17 = .ok (.istore_n 1, 1) := by decide +kernel
theorem dX3_allBeads_18 : decode cX3_allBeads 18 = .ok (.iinc 2 1, 3) := by decide +kernel
theorem dX3_allBeads_21 : decode cX3_allBeads 21 = .ok (.goto (-17), 3) := by decide +kernel
theorem dX3_allBeads_24 : decode cX3_allBeads 24 = .ok (.iload_n 1, 1) := by decide +kernel
theorem dX3_allBeads_25 : decode cX3_allBeads 25 = .ok (.ireturn, 1) := by decide +kernel
theorem dX3_rateNow_0 : decode cX3_rateNow 0 = .ok (.iload_n 1, 1) := by decide +kernel
theorem dX3_rateNow_1 : decode cX3_rateNow 1 = .ok (.invokestatic 42, 3) := by decide +kernel
theorem dX3_rateNow_4 : decode cX3_rateNow 4 = .ok (.ifCond .ne 5, 3) := by decide +kernel
theorem dX3_rateNow_7 : decode cX3_rateNow 7 = .ok (.iconst 0, 1) := by decide +kernel
theorem dX3_rateNow_8 : decode cX3_rateNow 8 = .ok (.ireturn, 1) := by decide +kernel
theorem dX3_rateNow_9 : decode cX3_rateNow 9 = .ok (.aload_n 0, 1) := by decide +kernel
theorem dX3_rateNow_10 : decode cX3_rateNow 10 = .ok (.getfield 32, 3) := by decide +kernel
theorem dX3_rateNow_13 : decode cX3_rateNow 13 = .ok (.iload_n 1, 1) := by decide +kernel
theorem dX3_rateNow_14 : decode cX3_rateNow 14 = .ok (.iaload, 1) := by decide +kernel
theorem dX3_rateNow_15 : decode cX3_rateNow 15 = .ok (.istore_n 2, 1) := by decide +kernel
theorem dX3_rateNow_16 : decode cX3_rateNow 16 = .ok (.iload_n 2, 1) := by decide +kernel
theorem dX3_rateNow_17 : decode cX3_rateNow 17 = .ok (.ifCond .le 14, 3) := by decide +kernel
theorem dX3_rateNow_20 : decode cX3_rateNow 20 = .ok (.aload_n 0, 1) := by decide +kernel
theorem dX3_rateNow_21 : decode cX3_rateNow 21 = .ok (.getfield 35, 3) := by decide +kernel
theorem dX3_rateNow_24 : decode cX3_rateNow 24 = .ok (.iload_n 1, 1) := by decide +kernel
theorem dX3_rateNow_25 : decode cX3_rateNow 25 = .ok (.iaload, 1) := by decide +kernel
theorem dX3_rateNow_26 : decode cX3_rateNow 26 = .ok (.iload_n 2, 1) := by decide +kernel
theorem dX3_rateNow_27 : decode cX3_rateNow 27 = .ok (.idiv, 1) := by decide +kernel
theorem dX3_rateNow_28 : decode cX3_rateNow 28 = .ok (.goto 4, 3) := by decide +kernel
theorem dX3_rateNow_31 : decode cX3_rateNow 31 = .ok (.iconst 0, 1) := by decide +kernel
theorem dX3_rateNow_32 : decode cX3_rateNow 32 = .ok (.istore_n 3, 1) := by decide +kernel
theorem dX3_rateNow_33 : decode cX3_rateNow 33 = .ok (.iconst 1, 1) := by decide +kernel
theorem dX3_rateNow_34 : decode cX3_rateNow 34 = .ok (.aload_n 0, 1) := by decide +kernel
theorem dX3_rateNow_35 : decode cX3_rateNow 35 = .ok (.getfield 18, 3) := by decide +kernel
theorem dX3_rateNow_38 : decode cX3_rateNow 38 = .ok (.iload_n 1, 1) := by decide +kernel
theorem dX3_rateNow_39 : decode cX3_rateNow 39 = .ok (.iaload, 1) := by decide +kernel
theorem dX3_rateNow_40 : decode cX3_rateNow 40 = .ok (.iload_n 3, 1) := by decide +kernel
theorem dX3_rateNow_41 : decode cX3_rateNow 41 = .ok (.isub, 1) := by decide +kernel
theorem dX3_rateNow_42 : decode cX3_rateNow 42 = .ok (.invokestatic 46, 3) := by decide +kernel
theorem dX3_rateNow_45 : decode cX3_rateNow 45 = .ok (.ireturn, 1) := by decide +kernel
theorem dX3_worthByLength_0 : decode cX3_worthByLength 0 = .ok (.iload_n 1, 1) := by decide +kernel
theorem dX3_worthByLength_1 : decode cX3_worthByLength 1 = .ok (.invokestatic 42, 3) := by decide +kernel
theorem dX3_worthByLength_4 : decode cX3_worthByLength 4 = .ok (.ifCond .ne 5, 3) := by decide +kernel
theorem dX3_worthByLength_7 : decode cX3_worthByLength 7 = .ok (.iconst 0, 1) := by decide +kernel
theorem dX3_worthByLength_8 : decode cX3_worthByLength 8 = .ok (.ireturn, 1) := by decide +kernel
theorem dX3_worthByLength_9 : decode cX3_worthByLength 9 = .ok (.iload_n 2, 1) := by decide +kernel
theorem dX3_worthByLength_10 : decode cX3_worthByLength 10 = .ok (.aload_n 0, 1) := by decide +kernel
theorem dX3_worthByLength_11 : decode cX3_worthByLength 11 = .ok (.iload_n 1, 1) := by decide +kernel
theorem dX3_worthByLength_12 : decode cX3_worthByLength 12 = .ok (.invokevirtual 52, 3) := by decide +kernel
theorem dX3_worthByLength_15 : decode cX3_worthByLength 15 = .ok (.imul, 1) := by decide +kernel
theorem dX3_worthByLength_16 : decode cX3_worthByLength 16 = .ok (.iload_n 2, 1) := by decide +kernel
theorem dX3_worthByLength_17 : decode cX3_worthByLength 17 = .ok (.bipush 10, 2) := by decide +kernel
theorem dX3_worthByLength_19 : decode cX3_worthByLength 19 = .ok (.idiv, 1) := by decide +kernel
theorem dX3_worthByLength_20 : decode cX3_worthByLength 20 = .ok (.aload_n 0, 1) := by decide +kernel
theorem dX3_worthByLength_21 : decode cX3_worthByLength 21 = .ok (.getfield 26, 3) := by decide +kernel
theorem dX3_worthByLength_24 : decode cX3_worthByLength 24 = .ok (.iload_n 1, 1) := by decide +kernel
theorem dX3_worthByLength_25 : decode cX3_worthByLength 25 = .ok (.iaload, 1) := by decide +kernel
theorem dX3_worthByLength_26 : decode cX3_worthByLength 26 = .ok (.imul, 1) := by decide +kernel
theorem dX3_worthByLength_27 : decode cX3_worthByLength 27 = .ok (.iadd, 1) := by decide +kernel
theorem dX3_worthByLength_28 : decode cX3_worthByLength 28 = .ok (.ireturn, 1) := by decide +kernel
theorem dX4_init_0 : decode cX4_init 0 = .ok (.aload_n 0, 1) := by decide +kernel
theorem dX4_init_1 : decode cX4_init 1 = .ok (.invokespecial 3, 3) := by decide +kernel
theorem dX4_init_4 : decode cX4_init 4 = .ok (.aload_n 0, 1) := by decide +kernel
theorem dX4_init_5 : decode cX4_init 5 = .ok (.bipush 80, 2) := by decide +kernel
theorem dX4_init_7 : decode cX4_init 7 = .ok (.newarray .int, 2) := by decide +kernel
theorem dX4_init_9 : decode cX4_init 9 = .ok (.putfield 9, 3) := by decide +kernel
theorem dX4_init_12 : decode cX4_init 12 = .ok (.aload_n 0, 1) := by decide +kernel
theorem dX4_init_13 : decode cX4_init 13 = .ok (.bipush 80, 2) := by decide +kernel
theorem dX4_init_15 : decode cX4_init 15 = .ok (.newarray .int, 2) := by decide +kernel
theorem dX4_init_17 : decode cX4_init 17 = .ok (.putfield 15, 3) := by decide +kernel
theorem dX4_init_20 : decode cX4_init 20 = .ok (.aload_n 0, 1) := by decide +kernel
theorem dX4_init_21 : decode cX4_init 21 = .ok (.iconst 0, 1) := by decide +kernel
theorem dX4_init_22 : decode cX4_init 22 = .ok (.putfield 18, 3) := by decide +kernel
theorem dX4_init_25 : decode cX4_init 25 = .ok (.aload_n 0, 1) := by decide +kernel
theorem dX4_init_26 : decode cX4_init 26 = .ok (.iconst 0, 1) := by decide +kernel
theorem dX4_init_27 : decode cX4_init 27 = .ok (.putfield 22, 3) := by decide +kernel
theorem dX4_init_30 : decode cX4_init 30 = .ok (.aload_n 0, 1) := by decide +kernel
theorem dX4_init_31 : decode cX4_init 31 = .ok (.iload_n 1, 1) := by decide +kernel
theorem dX4_init_32 : decode cX4_init 32 = .ok (.putfield 25, 3) := by decide +kernel
theorem dX4_init_35 : decode cX4_init 35 = .ok (.return_, 1) := by decide +kernel
theorem dX4_has_0 : decode cX4_has 0 = .ok (.iload_n 1, 1) := by decide +kernel
theorem dX4_has_1 : decode cX4_has 1 = .ok (.ifCond .lt 21, 3) := by decide +kernel
theorem dX4_has_4 : decode cX4_has 4 = .ok (.iload_n 1, 1) := by decide +kernel
theorem dX4_has_5 : decode cX4_has 5 = .ok (.aload_n 0, 1) := by decide +kernel
theorem dX4_has_6 : decode cX4_has 6 = .ok (.getfield 18, 3) := by decide +kernel
theorem dX4_has_9 : decode cX4_has 9 = .ok (.if_icmp .ge 13, 3) := by decide +kernel
theorem dX4_has_12 : decode cX4_has 12 = .ok (.iload_n 1, 1) := by decide +kernel
theorem dX4_has_13 : decode cX4_has 13 = .ok (.bipush 80, 2) := by decide +kernel
theorem dX4_has_15 : decode cX4_has 15 = .ok (.if_icmp .ge 7, 3) := by decide +kernel
theorem dX4_has_18 : decode cX4_has 18 = .ok (.iconst 1, 1) := by decide +kernel
theorem dX4_has_19 : decode cX4_has 19 = .ok (.goto 4, 3) := by decide +kernel
theorem dX4_has_22 : decode cX4_has 22 = .ok (.iconst 0, 1) := by decide +kernel
theorem dX4_has_23 : decode cX4_has 23 = .ok (.ireturn, 1) := by decide +kernel
theorem dX4_gradeAt_0 : decode cX4_gradeAt 0 = .ok (.aload_n 0, 1) := by decide +kernel
theorem dX4_gradeAt_1 : decode cX4_gradeAt 1 = .ok (.iload_n 1, 1) := by decide +kernel
theorem dX4_gradeAt_2 : decode cX4_gradeAt 2 = .ok (.invokevirtual 28, 3) := by decide +kernel
theorem dX4_gradeAt_5 : decode cX4_gradeAt 5 = .ok (.ifCond .eq 12, 3) := by decide +kernel
theorem dX4_gradeAt_8 : decode cX4_gradeAt 8 = .ok (.aload_n 0, 1) := by decide +kernel
theorem dX4_gradeAt_9 : decode cX4_gradeAt 9 = .ok (.getfield 9, 3) := by decide +kernel
theorem dX4_gradeAt_12 : decode cX4_gradeAt 12 = .ok (.iload_n 1, 1) := by decide +kernel
theorem dX4_gradeAt_13 : decode cX4_gradeAt 13 = .ok (.iaload, 1) := by decide +kernel
theorem dX4_gradeAt_14 : decode cX4_gradeAt 14 = .ok (.goto 4, 3) := by decide +kernel
theorem dX4_gradeAt_17 : decode cX4_gradeAt 17 = .ok (.iconst (-1), 1) := by decide +kernel
theorem dX4_gradeAt_18 : decode cX4_gradeAt 18 = .ok (.ireturn, 1) := by decide +kernel
theorem dX4_makerAt_0 : decode cX4_makerAt 0 = .ok (.aload_n 0, 1) := by decide +kernel
theorem dX4_makerAt_1 : decode cX4_makerAt 1 = .ok (.iload_n 1, 1) := by decide +kernel
theorem dX4_makerAt_2 : decode cX4_makerAt 2 = .ok (.invokevirtual 28, 3) := by decide +kernel
theorem dX4_makerAt_5 : decode cX4_makerAt 5 = .ok (.ifCond .eq 12, 3) := by decide +kernel
theorem dX4_makerAt_8 : decode cX4_makerAt 8 = .ok (.aload_n 0, 1) := by decide +kernel
theorem dX4_makerAt_9 : decode cX4_makerAt 9 = .ok (.getfield 15, 3) := by decide +kernel
theorem dX4_makerAt_12 : decode cX4_makerAt 12 = .ok (.iload_n 1, 1) := by decide +kernel
theorem dX4_makerAt_13 : decode cX4_makerAt 13 = .ok (.iaload, 1) := by decide +kernel
theorem dX4_makerAt_14 : decode cX4_makerAt 14 = .ok (.goto 4, 3) := by decide +kernel
theorem dX4_makerAt_17 : decode cX4_makerAt 17 = .ok (.iconst (-1), 1) := by decide +kernel
theorem dX4_makerAt_18 : decode cX4_makerAt 18 = .ok (.ireturn, 1) := by decide +kernel
theorem dX4_append_0 : decode cX4_append 0 = .ok (.iconst 0, 1) := by decide +kernel
theorem dX4_append_1 : decode cX4_append 1 = .ok (.istore 4, 2) := by decide +kernel
theorem dX4_append_3 : decode cX4_append 3 = .ok (.iload 4, 2) := by decide +kernel
theorem dX4_append_5 : decode cX4_append 5 = .ok (.iload_n 3, 1) := by decide +kernel
theorem dX4_append_6 : decode cX4_append 6 = .ok (.if_icmp .ge 48, 3) := by decide +kernel
theorem dX4_append_9 : decode cX4_append 9 = .ok (.aload_n 0, 1) := by decide +kernel
theorem dX4_append_10 : decode cX4_append 10 = .ok (.getfield 18, 3) := by decide +kernel
theorem dX4_append_13 : decode cX4_append 13 = .ok (.bipush 80, 2) := by decide +kernel
theorem dX4_append_15 : decode cX4_append 15 = .ok (.if_icmp .ge 39, 3) := by decide +kernel
theorem dX4_append_18 : decode cX4_append 18 = .ok (.aload_n 0, 1) := by decide +kernel
theorem dX4_append_19 : decode cX4_append 19 = .ok (.getfield 9, 3) := by decide +kernel
theorem dX4_append_22 : decode cX4_append 22 = .ok (.aload_n 0, 1) := by decide +kernel
theorem dX4_append_23 : decode cX4_append 23 = .ok (.getfield 18, 3) := by decide +kernel
theorem dX4_append_26 : decode cX4_append 26 = .ok (.iload_n 1, 1) := by decide +kernel
theorem dX4_append_27 : decode cX4_append 27 = .ok (.iastore, 1) := by decide +kernel
theorem dX4_append_28 : decode cX4_append 28 = .ok (.aload_n 0, 1) := by decide +kernel
theorem dX4_append_29 : decode cX4_append 29 = .ok (.getfield 15, 3) := by decide +kernel
theorem dX4_append_32 : decode cX4_append 32 = .ok (.aload_n 0, 1) := by decide +kernel
theorem dX4_append_33 : decode cX4_append 33 = .ok (.getfield 18, 3) := by decide +kernel
theorem dX4_append_36 : decode cX4_append 36 = .ok (.iload_n 2, 1) := by decide +kernel
theorem dX4_append_37 : decode cX4_append 37 = .ok (.iastore, 1) := by decide +kernel
theorem dX4_append_38 : decode cX4_append 38 = .ok (.aload_n 0, 1) := by decide +kernel
theorem dX4_append_39 : decode cX4_append 39 = .ok (.dup, 1) := by decide +kernel
theorem dX4_append_40 : decode cX4_append 40 = .ok (.getfield 18, 3) := by decide +kernel
theorem dX4_append_43 : decode cX4_append 43 = .ok (.iconst 1, 1) := by decide +kernel
theorem dX4_append_44 : decode cX4_append 44 = .ok (.iadd, 1) := by decide +kernel
theorem dX4_append_45 : decode cX4_append 45 = .ok (.putfield 18, 3) := by decide +kernel
theorem dX4_append_48 : decode cX4_append 48 = .ok (.iinc 4 1, 3) := by decide +kernel
theorem dX4_append_51 : decode cX4_append 51 = .ok (.goto (-48), 3) := by decide +kernel
theorem dX4_append_54 : decode cX4_append 54 = .ok (.return_, 1) := by decide +kernel
theorem dX4_appendFrom_0 : decode cX4_appendFrom 0 = .ok (.iload_n 2, 1) := by decide +kernel
theorem dX4_appendFrom_1 : decode cX4_appendFrom 1 = .ok (.istore_n 3, 1) := by decide +kernel
theorem dX4_appendFrom_2 : decode cX4_appendFrom 2 = .ok (.iload_n 3, 1) := by decide +kernel
theorem dX4_appendFrom_3 : decode cX4_appendFrom 3 = .ok (.aload_n 1, 1) := by decide +kernel
theorem dX4_appendFrom_4 : decode cX4_appendFrom 4 = .ok (.getfield 18, 3) := by decide +kernel
theorem dX4_appendFrom_7 : decode cX4_appendFrom 7 = .ok (.if_icmp .ge 24, 3) := by decide +kernel
theorem dX4_appendFrom_10 : decode cX4_appendFrom 10 = .ok (.aload_n 0, 1) := by decide +kernel
theorem dX4_appendFrom_11 : decode cX4_appendFrom 11 = .ok (.aload_n 1, 1) := by decide +kernel
theorem dX4_appendFrom_12 : decode cX4_appendFrom 12 = .ok (.iload_n 3, 1) := by decide +kernel
theorem dX4_appendFrom_13 : decode cX4_appendFrom 13 = .ok (.invokevirtual 32, 3) := by decide +kernel
theorem dX4_appendFrom_16 : decode cX4_appendFrom 16 = .ok (.aload_n 1, 1) := by decide +kernel
theorem dX4_appendFrom_17 : decode cX4_appendFrom 17 = .ok (.iload_n 3, 1) := by decide +kernel
theorem dX4_appendFrom_18 : decode cX4_appendFrom 18 = .ok (.invokevirtual 36, 3) := by decide +kernel
theorem dX4_appendFrom_21 : decode cX4_appendFrom 21 = .ok (.iconst 1, 1) := by decide +kernel
theorem dX4_appendFrom_22 : decode cX4_appendFrom 22 = .ok (.invokevirtual 39, 3) := by decide +kernel
theorem dX4_appendFrom_25 : decode cX4_appendFrom 25 = .ok (.iinc 3 1, 3) := by decide +kernel
theorem dX4_appendFrom_28 : decode cX4_appendFrom 28 = .ok (.goto (-26), 3) := by decide +kernel
theorem dX4_appendFrom_31 : decode cX4_appendFrom 31 = .ok (.return_, 1) := by decide +kernel
theorem dX4_reverse_0 : decode cX4_reverse 0 = .ok (.iconst 0, 1) := by decide +kernel
theorem dX4_reverse_1 : decode cX4_reverse 1 = .ok (.istore_n 1, 1) := by decide +kernel
theorem dX4_reverse_2 : decode cX4_reverse 2 = .ok (.aload_n 0, 1) := by decide +kernel
theorem dX4_reverse_3 : decode cX4_reverse 3 = .ok (.getfield 18, 3) := by decide +kernel
theorem dX4_reverse_6 : decode cX4_reverse 6 = .ok (.iconst 1, 1) := by decide +kernel
theorem dX4_reverse_7 : decode cX4_reverse 7 = .ok (.isub, 1) := by decide +kernel
theorem dX4_reverse_8 : decode cX4_reverse 8 = .ok (.istore_n 2, 1) := by decide +kernel
theorem dX4_reverse_9 : decode cX4_reverse 9 = .ok (.iload_n 1, 1) := by decide +kernel
theorem dX4_reverse_10 : decode cX4_reverse 10 = .ok (.iload_n 2, 1) := by decide +kernel
theorem dX4_reverse_11 : decode cX4_reverse 11 = .ok (.if_icmp .ge 26, 3) := by decide +kernel
theorem dX4_reverse_14 : decode cX4_reverse 14 = .ok (.aload_n 0, 1) := by decide +kernel
theorem dX4_reverse_15 : decode cX4_reverse 15 = .ok (.iload_n 2, 1) := by decide +kernel
theorem dX4_reverse_16 : decode cX4_reverse 16 = .ok (.invokevirtual 28, 3) := by decide +kernel
theorem dX4_reverse_19 : decode cX4_reverse 19 = .ok (.ifCond .eq 18, 3) := by decide +kernel
theorem dX4_reverse_22 : decode cX4_reverse 22 = .ok (.aload_n 0, 1) := by decide +kernel
theorem dX4_reverse_23 : decode cX4_reverse 23 = .ok (.iload_n 1, 1) := by decide +kernel
theorem dX4_reverse_24 : decode cX4_reverse 24 = .ok (.iload_n 2, 1) := by decide +kernel
theorem dX4_reverse_25 : decode cX4_reverse 25 = .ok (.invokevirtual 43, 3) := by decide +kernel
theorem dX4_reverse_28 : decode cX4_reverse 28 = .ok (.iinc 1 1, 3) := by decide +kernel
theorem dX4_reverse_31 : decode cX4_reverse 31 = .ok (.iinc 2 (-1), 3) := by decide +kernel
theorem dX4_reverse_34 : decode cX4_reverse 34 = .ok (.goto (-25), 3) := by decide +kernel
theorem dX4_reverse_37 : decode cX4_reverse 37 = .ok (.return_, 1) := by decide +kernel
theorem dX4_exchange_0 : decode cX4_exchange 0 = .ok (.aload_n 0, 1) := by decide +kernel
theorem dX4_exchange_1 : decode cX4_exchange 1 = .ok (.iload_n 1, 1) := by decide +kernel
theorem dX4_exchange_2 : decode cX4_exchange 2 = .ok (.invokevirtual 28, 3) := by decide +kernel
theorem dX4_exchange_5 : decode cX4_exchange 5 = .ok (.ifCond .eq 11, 3) := by decide +kernel
theorem dX4_exchange_8 : decode cX4_exchange 8 = .ok (.aload_n 0, 1) := by decide +kernel
theorem dX4_exchange_9 : decode cX4_exchange 9 = .ok (.iload_n 2, 1) := by decide +kernel
theorem dX4_exchange_10 : decode cX4_exchange 10 = .ok (.invokevirtual 28, 3) := by decide +kernel
theorem dX4_exchange_13 : decode cX4_exchange 13 = .ok (.ifCond .ne 4, 3) := by decide +kernel
theorem dX4_exchange_16 : decode cX4_exchange 16 = .ok (.return_, 1) := by decide +kernel
theorem dX4_exchange_17 : decode cX4_exchange 17 = .ok (.aload_n 0, 1) := by decide +kernel
theorem dX4_exchange_18 : decode cX4_exchange 18 = .ok (.getfield 9, 3) := by decide +kernel
theorem dX4_exchange_21 : decode cX4_exchange 21 = .ok (.iload_n 1, 1) := by decide +kernel
theorem dX4_exchange_22 : decode cX4_exchange 22 = .ok (.iaload, 1) := by decide +kernel
theorem dX4_exchange_23 : decode cX4_exchange 23 = .ok (.istore_n 3, 1) := by decide +kernel
theorem dX4_exchange_24 : decode cX4_exchange 24 = .ok (.aload_n 0, 1) := by decide +kernel
theorem dX4_exchange_25 : decode cX4_exchange 25 = .ok (.getfield 15, 3) := by decide +kernel
theorem dX4_exchange_28 : decode cX4_exchange 28 = .ok (.iload_n 1, 1) := by decide +kernel
theorem dX4_exchange_29 : decode cX4_exchange 29 = .ok (.iaload, 1) := by decide +kernel
theorem dX4_exchange_30 : decode cX4_exchange 30 = .ok (.istore 4, 2) := by decide +kernel
theorem dX4_exchange_32 : decode cX4_exchange 32 = .ok (.aload_n 0, 1) := by decide +kernel
theorem dX4_exchange_33 : decode cX4_exchange 33 = .ok (.getfield 9, 3) := by decide +kernel
theorem dX4_exchange_36 : decode cX4_exchange 36 = .ok (.iload_n 1, 1) := by decide +kernel
theorem dX4_exchange_37 : decode cX4_exchange 37 = .ok (.aload_n 0, 1) := by decide +kernel
theorem dX4_exchange_38 : decode cX4_exchange 38 = .ok (.getfield 9, 3) := by decide +kernel
theorem dX4_exchange_41 : decode cX4_exchange 41 = .ok (.iload_n 2, 1) := by decide +kernel
theorem dX4_exchange_42 : decode cX4_exchange 42 = .ok (.iaload, 1) := by decide +kernel
theorem dX4_exchange_43 : decode cX4_exchange 43 = .ok (.iastore, 1) := by decide +kernel
theorem dX4_exchange_44 : decode cX4_exchange 44 = .ok (.aload_n 0, 1) := by decide +kernel
theorem dX4_exchange_45 : decode cX4_exchange 45 = .ok (.getfield 15, 3) := by decide +kernel
theorem dX4_exchange_48 : decode cX4_exchange 48 = .ok (.iload_n 1, 1) := by decide +kernel
theorem dX4_exchange_49 : decode cX4_exchange 49 = .ok (.aload_n 0, 1) := by decide +kernel
theorem dX4_exchange_50 : decode cX4_exchange 50 = .ok (.getfield 15, 3) := by decide +kernel
theorem dX4_exchange_53 : decode cX4_exchange 53 = .ok (.iload_n 2, 1) := by decide +kernel
theorem dX4_exchange_54 : decode cX4_exchange 54 = .ok (.iaload, 1) := by decide +kernel
theorem dX4_exchange_55 : decode cX4_exchange 55 = .ok (.iastore, 1) := by decide +kernel
theorem dX4_exchange_56 : decode cX4_exchange 56 = .ok (.aload_n 0, 1) := by decide +kernel
theorem dX4_exchange_57 : decode cX4_exchange 57 = .ok (.getfield 9, 3) := by decide +kernel
theorem dX4_exchange_60 : decode cX4_exchange 60 = .ok (.iload_n 2, 1) := by decide +kernel
theorem dX4_exchange_61 : decode cX4_exchange 61 = .ok (.iload_n 3, 1) := by decide +kernel
theorem dX4_exchange_62 : decode cX4_exchange 62 = .ok (.iastore, 1) := by decide +kernel
theorem dX4_exchange_63 : decode cX4_exchange 63 = .ok (.aload_n 0, 1) := by decide +kernel
theorem dX4_exchange_64 : decode cX4_exchange 64 = .ok (.getfield 15, 3) := by decide +kernel
theorem dX4_exchange_67 : decode cX4_exchange 67 = .ok (.iload_n 2, 1) := by decide +kernel
theorem dX4_exchange_68 : decode cX4_exchange 68 = .ok (.iload 4, 2) := by decide +kernel
theorem dX4_exchange_70 : decode cX4_exchange 70 = .ok (.iastore, 1) := by decide +kernel
theorem dX4_exchange_71 : decode cX4_exchange 71 = .ok (.return_, 1) := by decide +kernel
theorem dX4_leastGrade_0 : decode cX4_leastGrade 0 = .ok (.aload_n 0, 1) := by decide +kernel
theorem dX4_leastGrade_1 : decode cX4_leastGrade 1 = .ok (.iconst 0, 1) := by decide +kernel
theorem dX4_leastGrade_2 : decode cX4_leastGrade 2 = .ok (.aload_n 0, 1) := by decide +kernel
theorem dX4_leastGrade_3 : decode cX4_leastGrade 3 = .ok (.getfield 18, 3) := by decide +kernel
theorem dX4_leastGrade_6 : decode cX4_leastGrade 6 = .ok (.invokevirtual 47, 3) := by decide +kernel
theorem dX4_leastGrade_9 : decode cX4_leastGrade 9 = .ok (.ireturn, 1) := by decide +kernel
theorem dX4_leastGradeWithin_0 : decode cX4_leastGradeWithin 0 = .ok (.iconst (-1), 1) := by decide +kernel
theorem dX4_leastGradeWithin_1 : decode cX4_leastGradeWithin 1 = .ok (.istore_n 3, 1) := by decide +kernel
theorem dX4_leastGradeWithin_2 : decode cX4_leastGradeWithin 2 = .ok (.iload_n 1, 1) := by decide +kernel
theorem dX4_leastGradeWithin_3 : decode cX4_leastGradeWithin 3 = .ok (.istore 4, 2) := by decide +kernel
theorem dX4_leastGradeWithin_5 : decode cX4_leastGradeWithin 5 = .ok (.iload 4, 2) := by decide +kernel
theorem dX4_leastGradeWithin_7 : decode cX4_leastGradeWithin 7 = .ok (.iload_n 1, 1) := by decide +kernel
theorem dX4_leastGradeWithin_8 : decode cX4_leastGradeWithin 8 = .ok (.iload_n 2, 1) := by decide +kernel
theorem dX4_leastGradeWithin_9 : decode cX4_leastGradeWithin 9 = .ok (.iadd, 1) := by decide +kernel
theorem dX4_leastGradeWithin_10 : decode cX4_leastGradeWithin 10 = .ok (.if_icmp .ge 42, 3) := by decide +kernel
theorem dX4_leastGradeWithin_13 : decode cX4_leastGradeWithin 13 = .ok (.aload_n 0, 1) := by decide +kernel
theorem dX4_leastGradeWithin_14 : decode cX4_leastGradeWithin 14 = .ok (.iload 4, 2) := by decide +kernel
theorem dX4_leastGradeWithin_16 : decode cX4_leastGradeWithin 16 = .ok (.invokevirtual 28, 3) := by decide +kernel
theorem dX4_leastGradeWithin_19 : decode cX4_leastGradeWithin 19 = .ok (.ifCond .eq 33, 3) := by decide +kernel
theorem dX4_leastGradeWithin_22 : decode cX4_leastGradeWithin 22 = .ok (.iload_n 3, 1) := by decide +kernel
theorem dX4_leastGradeWithin_23 : decode cX4_leastGradeWithin 23 = .ok (.iconst (-1), 1) := by decide +kernel
theorem dX4_leastGradeWithin_24 : decode cX4_leastGradeWithin 24 = .ok (.if_icmp .eq 14, 3) := by decide +kernel
theorem dX4_leastGradeWithin_27 : decode cX4_leastGradeWithin 27 = .ok (.aload_n 0, 1) := by decide +kernel
theorem dX4_leastGradeWithin_28 : decode cX4_leastGradeWithin 28 = .ok (.getfield 9, 3) := by decide +kernel
theorem dX4_leastGradeWithin_31 : decode cX4_leastGradeWithin 31 = .ok (.iload 4, 2) := by decide +kernel
theorem dX4_leastGradeWithin_33 : decode cX4_leastGradeWithin 33 = .ok (.iaload, 1) := by decide +kernel
theorem dX4_leastGradeWithin_34 : decode cX4_leastGradeWithin 34 = .ok (.iload_n 3, 1) := by decide +kernel
theorem dX4_leastGradeWithin_35 : decode cX4_leastGradeWithin 35 = .ok (.if_icmp .ge 11, 3) := by decide +kernel
theorem dX4_leastGradeWithin_38 : decode cX4_leastGradeWithin 38 = .ok (.aload_n 0, 1) := by decide +kernel
theorem dX4_leastGradeWithin_39 : decode cX4_leastGradeWithin 39 = .ok (.getfield 9, 3) := by decide +kernel
theorem dX4_leastGradeWithin_42 : decode cX4_leastGradeWithin 42 = .ok (.iload 4, 2) := by decide +kernel
theorem dX4_leastGradeWithin_44 : decode cX4_leastGradeWithin 44 = .ok (.iaload, 1) := by decide +kernel
theorem dX4_leastGradeWithin_45 : decode cX4_leastGradeWithin 45 = .ok (.istore_n 3, 1) := by decide +kernel
theorem dX4_leastGradeWithin_46 : decode cX4_leastGradeWithin 46 = .ok (.iinc 4 1, 3) := by decide +kernel
theorem dX4_leastGradeWithin_49 : decode cX4_leastGradeWithin 49 = .ok (.goto (-44), 3) := by decide +kernel
theorem dX4_leastGradeWithin_52 : decode cX4_leastGradeWithin 52 = .ok (.iload_n 3, 1) := by decide +kernel
theorem dX4_leastGradeWithin_53 : decode cX4_leastGradeWithin 53 = .ok (.ireturn, 1) := by decide +kernel
theorem dX4_spans_0 : decode cX4_spans 0 = .ok (.aload_n 0, 1) := by decide +kernel
theorem dX4_spans_1 : decode cX4_spans 1 = .ok (.getfield 18, 3) := by decide +kernel
theorem dX4_spans_4 : decode cX4_spans 4 = .ok (.bipush 10, 2) := by decide +kernel
theorem dX4_spans_6 : decode cX4_spans 6 = .ok (.idiv, 1) := by decide +kernel
theorem dX4_spans_7 : decode cX4_spans 7 = .ok (.ireturn, 1) := by decide +kernel
theorem dX4_makerCount_0 : decode cX4_makerCount 0 = .ok (.iconst 0, 1) := by decide +kernel
theorem dX4_makerCount_1 : decode cX4_makerCount 1 = .ok (.istore_n 1, 1) := by decide +kernel
theorem dX4_makerCount_2 : decode cX4_makerCount 2 = .ok (.iconst 0, 1) := by decide +kernel
theorem dX4_makerCount_3 : decode cX4_makerCount 3 = .ok (.istore_n 2, 1) := by decide +kernel
theorem dX4_makerCount_4 : decode cX4_makerCount 4 = .ok (.iload_n 2, 1) := by decide +kernel
theorem dX4_makerCount_5 : decode cX4_makerCount 5 = .ok (.aload_n 0, 1) := by decide +kernel
theorem dX4_makerCount_6 : decode cX4_makerCount 6 = .ok (.getfield 18, 3) := by decide +kernel
theorem dX4_makerCount_9 : decode cX4_makerCount 9 = .ok (.if_icmp .ge 19, 3) := by decide +kernel
theorem dX4_makerCount_12 : decode cX4_makerCount 12 = .ok (.iload_n 1, 1) := by decide +kernel
theorem dX4_makerCount_13 : decode cX4_makerCount 13 = .ok (.iconst 1, 1) := by decide +kernel
theorem dX4_makerCount_14 : decode cX4_makerCount 14 = .ok (.aload_n 0, 1) := by decide +kernel
theorem dX4_makerCount_15 : decode cX4_makerCount 15 = .ok (.iload_n 2, 1) := by decide +kernel
theorem dX4_makerCount_16 : decode cX4_makerCount 16 = .ok (.invokevirtual 36, 3) := by decide +kernel
theorem dX4_makerCount_19 : decode cX4_makerCount 19 = .ok (.ishl, 1) := by decide +kernel
theorem dX4_makerCount_20 : decode cX4_makerCount 20 = .ok (.ior, 1) := by decide +kernel
theorem dX4_makerCount_21 : decode cX4_makerCount 21 = .ok (.istore_n 1, 1) := by decide +kernel
theorem dX4_makerCount_22 : decode cX4_makerCount 22 = .ok (.iinc 2 1, 3) := by decide +kernel
theorem dX4_makerCount_25 : decode cX4_makerCount 25 = .ok (.goto (-21), 3) := by decide +kernel
theorem dX4_makerCount_28 : decode cX4_makerCount 28 = .ok (.iload_n 1, 1) := by decide +kernel
theorem dX4_makerCount_29 : decode cX4_makerCount 29 = .ok (.invokestatic 51, 3) := by decide +kernel
theorem dX4_makerCount_32 : decode cX4_makerCount 32 = .ok (.ireturn, 1) := by decide +kernel
theorem dX4_tallyMakersBelow_0 : decode cX4_tallyMakersBelow 0 = .ok (.iconst 0, 1) := by decide +kernel
theorem dX4_tallyMakersBelow_1 : decode cX4_tallyMakersBelow 1 = .ok (.istore_n 3, 1) := by decide +kernel
theorem dX4_tallyMakersBelow_2 : decode cX4_tallyMakersBelow 2 = .ok (.iload_n 3, 1) := by decide +kernel
theorem dX4_tallyMakersBelow_3 : decode cX4_tallyMakersBelow 3 = .ok (.aload_n 0, 1) := by decide +kernel
theorem dX4_tallyMakersBelow_4 : decode cX4_tallyMakersBelow 4 = .ok (.getfield 18, 3) := by decide +kernel
theorem dX4_tallyMakersBelow_7 : decode cX4_tallyMakersBelow 7 = .ok (.if_icmp .ge 45, 3) := by decide +kernel
theorem dX4_tallyMakersBelow_10 : decode cX4_tallyMakersBelow 10 = .ok (.aload_n 0, 1) := by decide +kernel
theorem dX4_tallyMakersBelow_11 : decode cX4_tallyMakersBelow 11 = .ok (.iload_n 3, 1) := by decide +kernel
theorem dX4_tallyMakersBelow_12 : decode cX4_tallyMakersBelow 12 = .ok (.invokevirtual 36, 3) := by decide +kernel
theorem dX4_tallyMakersBelow_15 : decode cX4_tallyMakersBelow 15 = .ok (.istore 4, 2) := by decide +kernel
theorem dX4_tallyMakersBelow_17 : decode cX4_tallyMakersBelow 17 = .ok (.aload_n 0, 1) := by decide +kernel
theorem dX4_tallyMakersBelow_18 : decode cX4_tallyMakersBelow 18 = .ok (.iload_n 3, 1) := by decide +kernel
theorem dX4_tallyMakersBelow_19 : decode cX4_tallyMakersBelow 19 = .ok (.invokevirtual 32, 3) := by decide +kernel
theorem dX4_tallyMakersBelow_22 : decode cX4_tallyMakersBelow 22 = .ok (.iload_n 1, 1) := by decide +kernel
theorem dX4_tallyMakersBelow_23 : decode cX4_tallyMakersBelow 23 = .ok (.if_icmp .ge 23, 3) := by decide +kernel
theorem dX4_tallyMakersBelow_26 : decode cX4_tallyMakersBelow 26 = .ok (.iload 4, 2) := by decide +kernel
theorem dX4_tallyMakersBelow_28 : decode cX4_tallyMakersBelow 28 = .ok (.ifCond .lt 18, 3) := by decide +kernel
theorem dX4_tallyMakersBelow_31 : decode cX4_tallyMakersBelow 31 = .ok (.iload 4, 2) := by decide +kernel
theorem dX4_tallyMakersBelow_33 : decode cX4_tallyMakersBelow 33 = .ok (.aload_n 2, 1) := by decide +kernel
theorem dX4_tallyMakersBelow_34 : decode cX4_tallyMakersBelow 34 = .ok (.arraylength, 1) := by decide +kernel
theorem dX4_tallyMakersBelow_35 : decode cX4_tallyMakersBelow 35 = .ok (.if_icmp .ge 11, 3) := by decide +kernel
theorem dX4_tallyMakersBelow_38 : decode cX4_tallyMakersBelow 38 = .ok (.aload_n 2, 1) := by decide +kernel
theorem dX4_tallyMakersBelow_39 : decode cX4_tallyMakersBelow 39 = .ok (.iload 4, 2) := by decide +kernel
theorem dX4_tallyMakersBelow_41 : decode cX4_tallyMakersBelow 41 = .ok (.dup2, 1) := by decide +kernel
theorem dX4_tallyMakersBelow_42 : decode cX4_tallyMakersBelow 42 = .ok (.iaload, 1) := by decide +kernel
theorem dX4_tallyMakersBelow_43 : decode cX4_tallyMakersBelow 43 = .ok (.iconst 1, 1) := by decide +kernel
theorem dX4_tallyMakersBelow_44 : decode cX4_tallyMakersBelow 44 = .ok (.iadd, 1) := by decide +kernel
theorem dX4_tallyMakersBelow_45 : decode cX4_tallyMakersBelow 45 = .ok (.iastore, 1) := by decide +kernel
theorem dX4_tallyMakersBelow_46 : decode cX4_tallyMakersBelow 46 = .ok (.iinc 3 1, 3) := by decide +kernel
theorem dX4_tallyMakersBelow_49 : decode cX4_tallyMakersBelow 49 = .ok (.goto (-47), 3) := by decide +kernel
theorem dX4_tallyMakersBelow_52 : decode cX4_tallyMakersBelow 52 = .ok (.return_, 1) := by decide +kernel
theorem dX5_init_0 : decode cX5_init 0 = .ok (.aload_n 0, 1) := by decide +kernel
theorem dX5_init_1 : decode cX5_init 1 = .ok (.invokespecial 3, 3) := by decide +kernel
theorem dX5_init_4 : decode cX5_init 4 = .ok (.aload_n 0, 1) := by decide +kernel
theorem dX5_init_5 : decode cX5_init 5 = .ok (.sipush 200, 3) := by decide +kernel
theorem dX5_init_8 : decode cX5_init 8 = .ok (.newarray .int, 2) := by decide +kernel
theorem dX5_init_10 : decode cX5_init 10 = .ok (.putfield 9, 3) := by decide +kernel
theorem dX5_init_13 : decode cX5_init 13 = .ok (.aload_n 0, 1) := by decide +kernel
theorem dX5_init_14 : decode cX5_init 14 = .ok (.sipush 200, 3) := by decide +kernel
theorem dX5_init_17 : decode cX5_init 17 = .ok (.newarray .int, 2) := by decide +kernel
theorem dX5_init_19 : decode cX5_init 19 = .ok (.putfield 15, 3) := by decide +kernel
theorem dX5_init_22 : decode cX5_init 22 = .ok (.aload_n 0, 1) := by decide +kernel
theorem dX5_init_23 : decode cX5_init 23 = .ok (.sipush 200, 3) := by decide +kernel
theorem dX5_init_26 : decode cX5_init 26 = .ok (.newarray .int, 2) := by decide +kernel
theorem dX5_init_28 : decode cX5_init 28 = .ok (.putfield 18, 3) := by decide +kernel
theorem dX5_init_31 : decode cX5_init 31 = .ok (.aload_n 0, 1) := by decide +kernel
theorem dX5_init_32 : decode cX5_init 32 = .ok (.sipush 200, 3) := by decide +kernel
theorem dX5_init_35 : decode cX5_init 35 = .ok (.newarray .int, 2) := by decide +kernel
theorem dX5_init_37 : decode cX5_init 37 = .ok (.putfield 21, 3) := by decide +kernel
theorem dX5_init_40 : decode cX5_init 40 = .ok (.aload_n 0, 1) := by decide +kernel
theorem dX5_init_41 : decode cX5_init 41 = .ok (.iconst 0, 1) := by decide +kernel
theorem dX5_init_42 : decode cX5_init 42 = .ok (.putfield 24, 3) := by decide +kernel
theorem dX5_init_45 : decode cX5_init 45 = .ok (.return_, 1) := by decide +kernel
theorem dX5_hasRoom_0 : decode cX5_hasRoom 0 = .ok (.aload_n 0, 1) := by decide +kernel
theorem dX5_hasRoom_1 : decode cX5_hasRoom 1 = .ok (.getfield 24, 3) := by decide +kernel
theorem dX5_hasRoom_4 : decode cX5_hasRoom 4 = .ok (.iload_n 1, 1) := by decide +kernel
theorem dX5_hasRoom_5 : decode cX5_hasRoom 5 = .ok (.iadd, 1) := by decide +kernel
theorem dX5_hasRoom_6 : decode cX5_hasRoom 6 = .ok (.sipush 200, 3) := by decide +kernel
theorem dX5_hasRoom_9 : decode cX5_hasRoom 9 = .ok (.if_icmp .gt 7, 3) := by decide +kernel
theorem dX5_hasRoom_12 : decode cX5_hasRoom 12 = .ok (.iconst 1, 1) := by decide +kernel
theorem dX5_hasRoom_13 : decode cX5_hasRoom 13 = .ok (.goto 4, 3) := by decide +kernel
theorem dX5_hasRoom_16 : decode cX5_hasRoom 16 = .ok (.iconst 0, 1) := by decide +kernel
theorem dX5_hasRoom_17 : decode cX5_hasRoom 17 = .ok (.ireturn, 1) := by decide +kernel
theorem dX5_tell_0 : decode cX5_tell 0 = .ok (.aload_n 0, 1) := by decide +kernel
theorem dX5_tell_1 : decode cX5_tell 1 = .ok (.getfield 24, 3) := by decide +kernel
theorem dX5_tell_4 : decode cX5_tell 4 = .ok (.sipush 200, 3) := by decide +kernel
theorem dX5_tell_7 : decode cX5_tell 7 = .ok (.if_icmp .lt 4, 3) := by decide +kernel
theorem dX5_tell_10 : decode cX5_tell 10 = .ok (.return_, 1) := by decide +kernel
theorem dX5_tell_11 : decode cX5_tell 11 = .ok (.aload_n 0, 1) := by decide +kernel
theorem dX5_tell_12 : decode cX5_tell 12 = .ok (.getfield 9, 3) := by decide +kernel
theorem dX5_tell_15 : decode cX5_tell 15 = .ok (.aload_n 0, 1) := by decide +kernel
theorem dX5_tell_16 : decode cX5_tell 16 = .ok (.getfield 24, 3) := by decide +kernel
theorem dX5_tell_19 : decode cX5_tell 19 = .ok (.iload_n 1, 1) := by decide +kernel
theorem dX5_tell_20 : decode cX5_tell 20 = .ok (.iastore, 1) := by decide +kernel
theorem dX5_tell_21 : decode cX5_tell 21 = .ok (.aload_n 0, 1) := by decide +kernel
theorem dX5_tell_22 : decode cX5_tell 22 = .ok (.getfield 15, 3) := by decide +kernel
theorem dX5_tell_25 : decode cX5_tell 25 = .ok (.aload_n 0, 1) := by decide +kernel
theorem dX5_tell_26 : decode cX5_tell 26 = .ok (.getfield 24, 3) := by decide +kernel
theorem dX5_tell_29 : decode cX5_tell 29 = .ok (.iload_n 2, 1) := by decide +kernel
theorem dX5_tell_30 : decode cX5_tell 30 = .ok (.iastore, 1) := by decide +kernel
theorem dX5_tell_31 : decode cX5_tell 31 = .ok (.aload_n 0, 1) := by decide +kernel
theorem dX5_tell_32 : decode cX5_tell 32 = .ok (.getfield 18, 3) := by decide +kernel
theorem dX5_tell_35 : decode cX5_tell 35 = .ok (.aload_n 0, 1) := by decide +kernel
theorem dX5_tell_36 : decode cX5_tell 36 = .ok (.getfield 24, 3) := by decide +kernel
theorem dX5_tell_39 : decode cX5_tell 39 = .ok (.iload_n 3, 1) := by decide +kernel
theorem dX5_tell_40 : decode cX5_tell 40 = .ok (.iastore, 1) := by decide +kernel
theorem dX5_tell_41 : decode cX5_tell 41 = .ok (.aload_n 0, 1) := by decide +kernel
theorem dX5_tell_42 : decode cX5_tell 42 = .ok (.getfield 21, 3) := by decide +kernel
theorem dX5_tell_45 : decode cX5_tell 45 = .ok (.aload_n 0, 1) := by decide +kernel
theorem dX5_tell_46 : decode cX5_tell 46 = .ok (.getfield 24, 3) := by decide +kernel
theorem dX5_tell_49 : decode cX5_tell 49 = .ok (.iload 4, 2) := by decide +kernel
theorem dX5_tell_51 : decode cX5_tell 51 = .ok (.iastore, 1) := by decide +kernel
theorem dX5_tell_52 : decode cX5_tell 52 = .ok (.aload_n 0, 1) := by decide +kernel
theorem dX5_tell_53 : decode cX5_tell 53 = .ok (.dup, 1) := by decide +kernel
theorem dX5_tell_54 : decode cX5_tell 54 = .ok (.getfield 24, 3) := by decide +kernel
theorem dX5_tell_57 : decode cX5_tell 57 = .ok (.iconst 1, 1) := by decide +kernel
theorem dX5_tell_58 : decode cX5_tell 58 = .ok (.iadd, 1) := by decide +kernel
theorem dX5_tell_59 : decode cX5_tell 59 = .ok (.putfield 24, 3) := by decide +kernel
theorem dX5_tell_62 : decode cX5_tell 62 = .ok (.return_, 1) := by decide +kernel
theorem dX5_placeOf_0 : decode cX5_placeOf 0 = .ok (.iconst 0, 1) := by decide +kernel
theorem dX5_placeOf_1 : decode cX5_placeOf 1 = .ok (.istore_n 3, 1) := by decide +kernel
theorem dX5_placeOf_2 : decode cX5_placeOf 2 = .ok (.iconst 0, 1) := by decide +kernel
theorem dX5_placeOf_3 : decode cX5_placeOf 3 = .ok (.istore 4, 2) := by decide +kernel
theorem dX5_placeOf_5 : decode cX5_placeOf 5 = .ok (.iload 4, 2) := by decide +kernel
theorem dX5_placeOf_7 : decode cX5_placeOf 7 = .ok (.aload_n 0, 1) := by decide +kernel
theorem dX5_placeOf_8 : decode cX5_placeOf 8 = .ok (.getfield 24, 3) := by decide +kernel
theorem dX5_placeOf_11 : decode cX5_placeOf 11 = .ok (.if_icmp .ge 39, 3) := by decide +kernel
theorem dX5_placeOf_14 : decode cX5_placeOf 14 = .ok (.iload 4, 2) := by decide +kernel
theorem dX5_placeOf_16 : decode cX5_placeOf 16 = .ok (.sipush 200, 3) := by decide +kernel
theorem dX5_placeOf_19 : decode cX5_placeOf 19 = .ok (.if_icmp .ge 31, 3) := by decide +kernel
theorem dX5_placeOf_22 : decode cX5_placeOf 22 = .ok (.aload_n 0, 1) := by decide +kernel
theorem dX5_placeOf_23 : decode cX5_placeOf 23 = .ok (.getfield 9, 3) := by decide +kernel
theorem dX5_placeOf_26 : decode cX5_placeOf 26 = .ok (.iload 4, 2) := by decide +kernel
theorem dX5_placeOf_28 : decode cX5_placeOf 28 = .ok (.iaload, 1) := by decide +kernel
theorem dX5_placeOf_29 : decode cX5_placeOf 29 = .ok (.iload_n 1, 1) := by decide +kernel
theorem dX5_placeOf_30 : decode cX5_placeOf 30 = .ok (.if_icmp .ne 14, 3) := by decide +kernel
theorem dX5_placeOf_33 : decode cX5_placeOf 33 = .ok (.iload_n 3, 1) := by decide +kernel
theorem dX5_placeOf_34 : decode cX5_placeOf 34 = .ok (.iload_n 2, 1) := by decide +kernel
theorem dX5_placeOf_35 : decode cX5_placeOf 35 = .ok (.if_icmp .ne 6, 3) := by decide +kernel
theorem dX5_placeOf_38 : decode cX5_placeOf 38 = .ok (.iload 4, 2) := by decide +kernel
theorem dX5_placeOf_40 : decode cX5_placeOf 40 = .ok (.ireturn, 1) := by decide +kernel
theorem dX5_placeOf_41 : decode cX5_placeOf 41 = .ok (.iinc 3 1, 3) := by decide +kernel
theorem dX5_placeOf_44 : decode cX5_placeOf 44 = .ok (.iinc 4 1, 3) := by decide +kernel
theorem dX5_placeOf_47 : decode cX5_placeOf 47 = .ok (.goto (-42), 3) := by decide +kernel
theorem dX5_placeOf_50 : decode cX5_placeOf 50 = .ok (.iconst (-1), 1) := by decide +kernel
theorem dX5_placeOf_51 : decode cX5_placeOf 51 = .ok (.ireturn, 1) := by decide +kernel
theorem dX5_about_0 : decode cX5_about 0 = .ok (.iload_n 1, 1) := by decide +kernel
theorem dX5_about_1 : decode cX5_about 1 = .ok (.ifCond .lt 18, 3) := by decide +kernel
theorem dX5_about_4 : decode cX5_about 4 = .ok (.iload_n 1, 1) := by decide +kernel
theorem dX5_about_5 : decode cX5_about 5 = .ok (.aload_n 0, 1) := by decide +kernel
theorem dX5_about_6 : decode cX5_about 6 = .ok (.getfield 24, 3) := by decide +kernel
theorem dX5_about_9 : decode cX5_about 9 = .ok (.if_icmp .ge 10, 3) := by decide +kernel
theorem dX5_about_12 : decode cX5_about 12 = .ok (.iload_n 1, 1) := by decide +kernel
theorem dX5_about_13 : decode cX5_about 13 = .ok (.sipush 200, 3) := by decide +kernel
theorem dX5_about_16 : decode cX5_about 16 = .ok (.if_icmp .lt 5, 3) := by decide +kernel
theorem dX5_about_19 : decode cX5_about 19 = .ok (.iconst (-1), 1) := by decide +kernel
theorem dX5_about_20 : decode cX5_about 20 = .ok (.ireturn, 1) := by decide +kernel
theorem dX5_about_21 : decode cX5_about 21 = .ok (.iload_n 2, 1) := by decide +kernel
theorem dX5_about_22 : decode cX5_about 22 = .ok (.tableswitch 47 0 2 #[26, 33, 40], 26) := by decide +kernel
theorem dX5_about_48 : decode cX5_about 48 = .ok (.aload_n 0, 1) := by decide +kernel
theorem dX5_about_49 : decode cX5_about 49 = .ok (.getfield 15, 3) := by decide +kernel
theorem dX5_about_52 : decode cX5_about 52 = .ok (.iload_n 1, 1) := by decide +kernel
theorem dX5_about_53 : decode cX5_about 53 = .ok (.iaload, 1) := by decide +kernel
theorem dX5_about_54 : decode cX5_about 54 = .ok (.ireturn, 1) := by decide +kernel
theorem dX5_about_55 : decode cX5_about 55 = .ok (.aload_n 0, 1) := by decide +kernel
theorem dX5_about_56 : decode cX5_about 56 = .ok (.getfield 18, 3) := by decide +kernel
theorem dX5_about_59 : decode cX5_about 59 = .ok (.iload_n 1, 1) := by decide +kernel
theorem dX5_about_60 : decode cX5_about 60 = .ok (.iaload, 1) := by decide +kernel
theorem dX5_about_61 : decode cX5_about 61 = .ok (.ireturn, 1) := by decide +kernel
theorem dX5_about_62 : decode cX5_about 62 = .ok (.aload_n 0, 1) := by decide +kernel
theorem dX5_about_63 : decode cX5_about 63 = .ok (.getfield 21, 3) := by decide +kernel
theorem dX5_about_66 : decode cX5_about 66 = .ok (.iload_n 1, 1) := by decide +kernel
theorem dX5_about_67 : decode cX5_about 67 = .ok (.iaload, 1) := by decide +kernel
theorem dX5_about_68 : decode cX5_about 68 = .ok (.ireturn, 1) := by decide +kernel
theorem dX5_about_69 : decode cX5_about 69 = .ok (.iconst (-1), 1) := by decide +kernel
theorem dX5_about_70 : decode cX5_about 70 = .ok (.ireturn, 1) := by decide +kernel
theorem dJ6_bitCount_0f7a4_0 : decode cJ6_bitCount_0f7a4 0 = .ok (.iload_n 0, 1) := by decide +kernel
theorem dJ6_bitCount_0f7a4_1 : decode cJ6_bitCount_0f7a4 1 = .ok (.iload_n 0, 1) := by decide +kernel
theorem dJ6_bitCount_0f7a4_2 : decode cJ6_bitCount_0f7a4 2 = .ok (.iconst 1, 1) := by decide +kernel
theorem dJ6_bitCount_0f7a4_3 : decode cJ6_bitCount_0f7a4 3 = .ok (.iushr, 1) := by decide +kernel
theorem dJ6_bitCount_0f7a4_4 : decode cJ6_bitCount_0f7a4 4 = .ok (.ldc_w 265, 3) := by decide +kernel
theorem dJ6_bitCount_0f7a4_7 : decode cJ6_bitCount_0f7a4 7 = .ok (.iand, 1) := by decide +kernel
theorem dJ6_bitCount_0f7a4_8 : decode cJ6_bitCount_0f7a4 8 = .ok (.isub, 1) := by decide +kernel
theorem dJ6_bitCount_0f7a4_9 : decode cJ6_bitCount_0f7a4 9 = .ok (.istore_n 0, 1) := by decide +kernel
theorem dJ6_bitCount_0f7a4_10 : decode cJ6_bitCount_0f7a4 10 = .ok (.iload_n 0, 1) := by decide +kernel
theorem dJ6_bitCount_0f7a4_11 : decode cJ6_bitCount_0f7a4 11 = .ok (.ldc_w 266, 3) := by decide +kernel
theorem dJ6_bitCount_0f7a4_14 : decode cJ6_bitCount_0f7a4 14 = .ok (.iand, 1) := by decide +kernel
theorem dJ6_bitCount_0f7a4_15 : decode cJ6_bitCount_0f7a4 15 = .ok (.iload_n 0, 1) := by decide +kernel
theorem dJ6_bitCount_0f7a4_16 : decode cJ6_bitCount_0f7a4 16 = .ok (.iconst 2, 1) := by decide +kernel
theorem dJ6_bitCount_0f7a4_17 : decode cJ6_bitCount_0f7a4 17 = .ok (.iushr, 1) := by decide +kernel
theorem dJ6_bitCount_0f7a4_18 : decode cJ6_bitCount_0f7a4 18 = .ok (.ldc_w 266, 3) := by decide +kernel
theorem dJ6_bitCount_0f7a4_21 : decode cJ6_bitCount_0f7a4 21 = .ok (.iand, 1) := by decide +kernel
theorem dJ6_bitCount_0f7a4_22 : decode cJ6_bitCount_0f7a4 22 = .ok (.iadd, 1) := by decide +kernel
theorem dJ6_bitCount_0f7a4_23 : decode cJ6_bitCount_0f7a4 23 = .ok (.istore_n 0, 1) := by decide +kernel
theorem dJ6_bitCount_0f7a4_24 : decode cJ6_bitCount_0f7a4 24 = .ok (.iload_n 0, 1) := by decide +kernel
theorem dJ6_bitCount_0f7a4_25 : decode cJ6_bitCount_0f7a4 25 = .ok (.iload_n 0, 1) := by decide +kernel
theorem dJ6_bitCount_0f7a4_26 : decode cJ6_bitCount_0f7a4 26 = .ok (.iconst 4, 1) := by decide +kernel
theorem dJ6_bitCount_0f7a4_27 : decode cJ6_bitCount_0f7a4 27 = .ok (.iushr, 1) := by decide +kernel
theorem dJ6_bitCount_0f7a4_28 : decode cJ6_bitCount_0f7a4 28 = .ok (.iadd, 1) := by decide +kernel
theorem dJ6_bitCount_0f7a4_29 : decode cJ6_bitCount_0f7a4 29 = .ok (.ldc_w 267, 3) := by decide +kernel
theorem dJ6_bitCount_0f7a4_32 : decode cJ6_bitCount_0f7a4 32 = .ok (.iand, 1) := by decide +kernel
theorem dJ6_bitCount_0f7a4_33 : decode cJ6_bitCount_0f7a4 33 = .ok (.istore_n 0, 1) := by decide +kernel
theorem dJ6_bitCount_0f7a4_34 : decode cJ6_bitCount_0f7a4 34 = .ok (.iload_n 0, 1) := by decide +kernel
theorem dJ6_bitCount_0f7a4_35 : decode cJ6_bitCount_0f7a4 35 = .ok (.iload_n 0, 1) := by decide +kernel
theorem dJ6_bitCount_0f7a4_36 : decode cJ6_bitCount_0f7a4 36 = .ok (.bipush 8, 2) := by decide +kernel
theorem dJ6_bitCount_0f7a4_38 : decode cJ6_bitCount_0f7a4 38 = .ok (.iushr, 1) := by decide +kernel
theorem dJ6_bitCount_0f7a4_39 : decode cJ6_bitCount_0f7a4 39 = .ok (.iadd, 1) := by decide +kernel
theorem dJ6_bitCount_0f7a4_40 : decode cJ6_bitCount_0f7a4 40 = .ok (.istore_n 0, 1) := by decide +kernel
theorem dJ6_bitCount_0f7a4_41 : decode cJ6_bitCount_0f7a4 41 = .ok (.iload_n 0, 1) := by decide +kernel
theorem dJ6_bitCount_0f7a4_42 : decode cJ6_bitCount_0f7a4 42 = .ok (.iload_n 0, 1) := by decide +kernel
theorem dJ6_bitCount_0f7a4_43 : decode cJ6_bitCount_0f7a4 43 = .ok (.bipush 16, 2) := by decide +kernel
theorem dJ6_bitCount_0f7a4_45 : decode cJ6_bitCount_0f7a4 45 = .ok (.iushr, 1) := by decide +kernel
theorem dJ6_bitCount_0f7a4_46 : decode cJ6_bitCount_0f7a4 46 = .ok (.iadd, 1) := by decide +kernel
theorem dJ6_bitCount_0f7a4_47 : decode cJ6_bitCount_0f7a4 47 = .ok (.istore_n 0, 1) := by decide +kernel
theorem dJ6_bitCount_0f7a4_48 : decode cJ6_bitCount_0f7a4 48 = .ok (.iload_n 0, 1) := by decide +kernel
theorem dJ6_bitCount_0f7a4_49 : decode cJ6_bitCount_0f7a4 49 = .ok (.bipush 63, 2) := by decide +kernel
theorem dJ6_bitCount_0f7a4_51 : decode cJ6_bitCount_0f7a4 51 = .ok (.iand, 1) := by decide +kernel
theorem dJ6_bitCount_0f7a4_52 : decode cJ6_bitCount_0f7a4 52 = .ok (.ireturn, 1) := by decide +kernel
theorem dJ9_max_7cf53_0 : decode cJ9_max_7cf53 0 = .ok (.iload_n 0, 1) := by decide +kernel
theorem dJ9_max_7cf53_1 : decode cJ9_max_7cf53 1 = .ok (.iload_n 1, 1) := by decide +kernel
theorem dJ9_max_7cf53_2 : decode cJ9_max_7cf53 2 = .ok (.if_icmp .lt 7, 3) := by decide +kernel
theorem dJ9_max_7cf53_5 : decode cJ9_max_7cf53 5 = .ok (.iload_n 0, 1) := by decide +kernel
theorem dJ9_max_7cf53_6 : decode cJ9_max_7cf53 6 = .ok (.goto 4, 3) := by decide +kernel
theorem dJ9_max_7cf53_9 : decode cJ9_max_7cf53 9 = .ok (.iload_n 1, 1) := by decide +kernel
theorem dJ9_max_7cf53_10 : decode cJ9_max_7cf53 10 = .ok (.ireturn, 1) := by decide +kernel
theorem dJ9_min_7cf53_0 : decode cJ9_min_7cf53 0 = .ok (.iload_n 0, 1) := by decide +kernel
theorem dJ9_min_7cf53_1 : decode cJ9_min_7cf53 1 = .ok (.iload_n 1, 1) := by decide +kernel
theorem dJ9_min_7cf53_2 : decode cJ9_min_7cf53 2 = .ok (.if_icmp .gt 7, 3) := by decide +kernel
theorem dJ9_min_7cf53_5 : decode cJ9_min_7cf53 5 = .ok (.iload_n 0, 1) := by decide +kernel
theorem dJ9_min_7cf53_6 : decode cJ9_min_7cf53 6 = .ok (.goto 4, 3) := by decide +kernel
theorem dJ9_min_7cf53_9 : decode cJ9_min_7cf53 9 = .ok (.iload_n 1, 1) := by decide +kernel
theorem dJ9_min_7cf53_10 : decode cJ9_min_7cf53 10 = .ok (.ireturn, 1) := by decide +kernel
