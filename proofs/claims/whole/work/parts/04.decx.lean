theorem dX6_init_0 : decode cX6_init 0 = .ok (.aload_n 0, 1) := by decide +kernel
theorem dX6_init_1 : decode cX6_init 1 = .ok (.invokespecial 1, 3) := by decide +kernel
theorem dX6_init_4 : decode cX6_init 4 = .ok (.aload_n 0, 1) := by decide +kernel
theorem dX6_init_5 : decode cX6_init 5 = .ok (.bipush 40, 2) := by decide +kernel
theorem dX6_init_7 : decode cX6_init 7 = .ok (.anewarray 9, 3) := by decide +kernel
theorem dX6_init_10 : decode cX6_init 10 = .ok (.putfield 11, 3) := by decide +kernel
theorem dX6_init_13 : decode cX6_init 13 = .ok (.aload_n 0, 1) := by decide +kernel
theorem dX6_init_14 : decode cX6_init 14 = .ok (.iconst 0, 1) := by decide +kernel
theorem dX6_init_15 : decode cX6_init 15 = .ok (.putfield 15, 3) := by decide +kernel
theorem dX6_init_18 : decode cX6_init 18 = .ok (.aload_n 0, 1) := by decide +kernel
theorem dX6_init_19 : decode cX6_init 19 = .ok (.bipush 10, 2) := by decide +kernel
theorem dX6_init_21 : decode cX6_init 21 = .ok (.newarray .int, 2) := by decide +kernel
theorem dX6_init_23 : decode cX6_init 23 = .ok (.putfield 19, 3) := by decide +kernel
theorem dX6_init_26 : decode cX6_init 26 = .ok (.aload_n 0, 1) := by decide +kernel
theorem dX6_init_27 : decode cX6_init 27 = .ok (.new 23, 3) := by decide +kernel
theorem dX6_init_30 : decode cX6_init 30 = .ok (.dup, 1) := by decide +kernel
theorem dX6_init_31 : decode cX6_init 31 = .ok (.invokespecial 25, 3) := by decide +kernel
theorem dX6_init_34 : decode cX6_init 34 = .ok (.putfield 26, 3) := by decide +kernel
theorem dX6_init_37 : decode cX6_init 37 = .ok (.aload_n 0, 1) := by decide +kernel
theorem dX6_init_38 : decode cX6_init 38 = .ok (.new 30, 3) := by decide +kernel
theorem dX6_init_41 : decode cX6_init 41 = .ok (.dup, 1) := by decide +kernel
theorem dX6_init_42 : decode cX6_init 42 = .ok (.invokespecial 32, 3) := by decide +kernel
theorem dX6_init_45 : decode cX6_init 45 = .ok (.putfield 33, 3) := by decide +kernel
theorem dX6_init_48 : decode cX6_init 48 = .ok (.aload_n 0, 1) := by decide +kernel
theorem dX6_init_49 : decode cX6_init 49 = .ok (.new 37, 3) := by decide +kernel
theorem dX6_init_52 : decode cX6_init 52 = .ok (.dup, 1) := by decide +kernel
theorem dX6_init_53 : decode cX6_init 53 = .ok (.invokespecial 39, 3) := by decide +kernel
theorem dX6_init_56 : decode cX6_init 56 = .ok (.putfield 40, 3) := by decide +kernel
theorem dX6_init_59 : decode cX6_init 59 = .ok (.aload_n 0, 1) := by decide +kernel
theorem dX6_init_60 : decode cX6_init 60 = .ok (.bipush 60, 2) := by decide +kernel
theorem dX6_init_62 : decode cX6_init 62 = .ok (.anewarray 44, 3) := by decide +kernel
theorem dX6_init_65 : decode cX6_init 65 = .ok (.putfield 46, 3) := by decide +kernel
theorem dX6_init_68 : decode cX6_init 68 = .ok (.aload_n 0, 1) := by decide +kernel
theorem dX6_init_69 : decode cX6_init 69 = .ok (.iconst 0, 1) := by decide +kernel
theorem dX6_init_70 : decode cX6_init 70 = .ok (.putfield 50, 3) := by decide +kernel
theorem dX6_init_73 : decode cX6_init 73 = .ok (.aload_n 0, 1) := by decide +kernel
theorem dX6_init_74 : decode cX6_init 74 = .ok (.new 53, 3) := by decide +kernel
theorem dX6_init_77 : decode cX6_init 77 = .ok (.dup, 1) := by decide +kernel
theorem dX6_init_78 : decode cX6_init 78 = .ok (.invokespecial 55, 3) := by decide +kernel
theorem dX6_init_81 : decode cX6_init 81 = .ok (.putfield 56, 3) := by decide +kernel
theorem dX6_init_84 : decode cX6_init 84 = .ok (.aload_n 0, 1) := by decide +kernel
theorem dX6_init_85 : decode cX6_init 85 = .ok (.iconst 1, 1) := by decide +kernel
theorem dX6_init_86 : decode cX6_init 86 = .ok (.putfield 60, 3) := by decide +kernel
theorem dX6_init_89 : decode cX6_init 89 = .ok (.aload_n 0, 1) := by decide +kernel
theorem dX6_init_90 : decode cX6_init 90 = .ok (.bipush 10, 2) := by decide +kernel
theorem dX6_init_92 : decode cX6_init 92 = .ok (.putfield 63, 3) := by decide +kernel
theorem dX6_init_95 : decode cX6_init 95 = .ok (.aload_n 0, 1) := by decide +kernel
theorem dX6_init_96 : decode cX6_init 96 = .ok (.iconst 0, 1) := by decide +kernel
theorem dX6_init_97 : decode cX6_init 97 = .ok (.putfield 66, 3) := by decide +kernel
theorem dX6_init_100 : decode cX6_init 100 = .ok (.return_, 1) := by decide +kernel
theorem dX6_string_0 : decode cX6_string 0 = .ok (.iload_n 1, 1) := by decide +kernel
theorem dX6_string_1 : decode cX6_string 1 = .ok (.invokestatic 69, 3) := by decide +kernel
theorem dX6_string_4 : decode cX6_string 4 = .ok (.ifCond .eq 22, 3) := by decide +kernel
theorem dX6_string_7 : decode cX6_string 7 = .ok (.iload_n 2, 1) := by decide +kernel
theorem dX6_string_8 : decode cX6_string 8 = .ok (.iload_n 3, 1) := by decide +kernel
theorem dX6_string_9 : decode cX6_string 9 = .ok (.iload 4, 2) := by decide +kernel
theorem dX6_string_11 : decode cX6_string 11 = .ok (.invokestatic 73, 3) := by decide +kernel
theorem dX6_string_14 : decode cX6_string 14 = .ok (.ifCond .eq 12, 3) := by decide +kernel
theorem dX6_string_17 : decode cX6_string 17 = .ok (.aload_n 0, 1) := by decide +kernel
theorem dX6_string_18 : decode cX6_string 18 = .ok (.getfield 15, 3) := by decide +kernel
theorem dX6_string_21 : decode cX6_string 21 = .ok (.bipush 40, 2) := by decide +kernel
theorem dX6_string_23 : decode cX6_string 23 = .ok (.if_icmp .lt 5, 3) := by decide +kernel
theorem dX6_string_26 : decode cX6_string 26 = .ok (.iconst (-1), 1) := by decide +kernel
theorem dX6_string_27 : decode cX6_string 27 = .ok (.ireturn, 1) := by decide +kernel
theorem dX6_string_28 : decode cX6_string 28 = .ok (.new 9, 3) := by decide +kernel
theorem dX6_string_31 : decode cX6_string 31 = .ok (.dup, 1) := by decide +kernel
theorem dX6_string_32 : decode cX6_string 32 = .ok (.iload_n 1, 1) := by decide +kernel
theorem dX6_string_33 : decode cX6_string 33 = .ok (.invokespecial 77, 3) := by decide +kernel
theorem dX6_string_36 : decode cX6_string 36 = .ok (.astore 5, 2) := by decide +kernel
theorem dX6_string_38 : decode cX6_string 38 = .ok (.aload 5, 2) := by decide +kernel
theorem dX6_string_40 : decode cX6_string 40 = .ok (.iload_n 2, 1) := by decide +kernel
theorem dX6_string_41 : decode cX6_string 41 = .ok (.iload_n 3, 1) := by decide +kernel
theorem dX6_string_42 : decode cX6_string 42 = .ok (.iload 4, 2) := by decide +kernel
theorem dX6_string_44 : decode cX6_string 44 = .ok (.invokevirtual 80, 3) := by decide +kernel
theorem dX6_string_47 : decode cX6_string 47 = .ok (.aload_n 0, 1) := by decide +kernel
theorem dX6_string_48 : decode cX6_string 48 = .ok (.getfield 26, 3) := by decide +kernel
theorem dX6_string_51 : decode cX6_string 51 = .ok (.iload_n 2, 1) := by decide +kernel
theorem dX6_string_52 : decode cX6_string 52 = .ok (.iload 4, 2) := by decide +kernel
theorem dX6_string_54 : decode cX6_string 54 = .ok (.invokevirtual 84, 3) := by decide +kernel
theorem dX6_string_57 : decode cX6_string 57 = .ok (.aload_n 0, 1) := by decide +kernel
theorem dX6_string_58 : decode cX6_string 58 = .ok (.aload 5, 2) := by decide +kernel
theorem dX6_string_60 : decode cX6_string 60 = .ok (.invokevirtual 88, 3) := by decide +kernel
theorem dX6_string_63 : decode cX6_string 63 = .ok (.ireturn, 1) := by decide +kernel
theorem dX6_add_0 : decode cX6_add 0 = .ok (.aload_n 0, 1) := by decide +kernel
theorem dX6_add_1 : decode cX6_add 1 = .ok (.iload_n 1, 1) := by decide +kernel
theorem dX6_add_2 : decode cX6_add 2 = .ok (.invokevirtual 92, 3) := by decide +kernel
theorem dX6_add_5 : decode cX6_add 5 = .ok (.astore 5, 2) := by decide +kernel
theorem dX6_add_7 : decode cX6_add 7 = .ok (.aload 5, 2) := by decide +kernel
theorem dX6_add_9 : decode cX6_add 9 = .ok (.ifnull 26, 3) := by decide +kernel
theorem dX6_add_12 : decode cX6_add 12 = .ok (.iload_n 2, 1) := by decide +kernel
theorem dX6_add_13 : decode cX6_add 13 = .ok (.iload_n 3, 1) := by decide +kernel
theorem dX6_add_14 : decode cX6_add 14 = .ok (.iload 4, 2) := by decide +kernel
theorem dX6_add_16 : decode cX6_add 16 = .ok (.invokestatic 73, 3) := by decide +kernel
theorem dX6_add_19 : decode cX6_add 19 = .ok (.ifCond .eq 16, 3) := by decide +kernel
theorem dX6_add_22 : decode cX6_add 22 = .ok (.aload 5, 2) := by decide +kernel
theorem dX6_add_24 : decode cX6_add 24 = .ok (.getfield 96, 3) := by decide +kernel
theorem dX6_add_27 : decode cX6_add 27 = .ok (.iload 4, 2) := by decide +kernel
theorem dX6_add_29 : decode cX6_add 29 = .ok (.iadd, 1) := by decide +kernel
theorem dX6_add_30 : decode cX6_add 30 = .ok (.bipush 80, 2) := by decide +kernel
theorem dX6_add_32 : decode cX6_add 32 = .ok (.if_icmp .le 5, 3) := by decide +kernel
theorem dX6_add_35 : decode cX6_add 35 = .ok (.iconst (-1), 1) := by decide +kernel
theorem dX6_add_36 : decode cX6_add 36 = .ok (.ireturn, 1) := by decide +kernel
theorem dX6_add_37 : decode cX6_add 37 = .ok (.aload 5, 2) := by decide +kernel
theorem dX6_add_39 : decode cX6_add 39 = .ok (.iload_n 2, 1) := by decide +kernel
theorem dX6_add_40 : decode cX6_add 40 = .ok (.iload_n 3, 1) := by decide +kernel
theorem dX6_add_41 : decode cX6_add 41 = .ok (.iload 4, 2) := by decide +kernel
theorem dX6_add_43 : decode cX6_add 43 = .ok (.invokevirtual 80, 3) := by decide +kernel
theorem dX6_add_46 : decode cX6_add 46 = .ok (.aload_n 0, 1) := by decide +kernel
theorem dX6_add_47 : decode cX6_add 47 = .ok (.getfield 26, 3) := by decide +kernel
theorem dX6_add_50 : decode cX6_add 50 = .ok (.iload_n 2, 1) := by decide +kernel
theorem dX6_add_51 : decode cX6_add 51 = .ok (.iload 4, 2) := by decide +kernel
theorem dX6_add_53 : decode cX6_add 53 = .ok (.invokevirtual 84, 3) := by decide +kernel
theorem dX6_add_56 : decode cX6_add 56 = .ok (.aload 5, 2) := by decide +kernel
theorem dX6_add_58 : decode cX6_add 58 = .ok (.getfield 96, 3) := by decide +kernel
theorem dX6_add_61 : decode cX6_add 61 = .ok (.ireturn, 1) := by decide +kernel
theorem dX6_cut_0 : decode cX6_cut 0 = .ok (.aload_n 0, 1) := by decide +kernel
theorem dX6_cut_1 : decode cX6_cut 1 = .ok (.iload_n 1, 1) := by decide +kernel
theorem dX6_cut_2 : decode cX6_cut 2 = .ok (.invokevirtual 92, 3) := by decide +kernel
theorem dX6_cut_5 : decode cX6_cut 5 = .ok (.astore_n 3, 1) := by decide +kernel
theorem dX6_cut_6 : decode cX6_cut 6 = .ok (.aload_n 3, 1) := by decide +kernel
theorem dX6_cut_7 : decode cX6_cut 7 = .ok (.ifnull 25, 3) := by decide +kernel
theorem dX6_cut_10 : decode cX6_cut 10 = .ok (.iload_n 2, 1) := by decide +kernel
theorem dX6_cut_11 : decode cX6_cut 11 = .ok (.iconst 1, 1) := by decide +kernel
theorem dX6_cut_12 : decode cX6_cut 12 = .ok (.if_icmp .lt 20, 3) := by decide +kernel
theorem dX6_cut_15 : decode cX6_cut 15 = .ok (.iload_n 2, 1) := by decide +kernel
theorem dX6_cut_16 : decode cX6_cut 16 = .ok (.aload_n 3, 1) := by decide +kernel
theorem dX6_cut_17 : decode cX6_cut 17 = .ok (.getfield 96, 3) := by decide +kernel
theorem dX6_cut_20 : decode cX6_cut 20 = .ok (.if_icmp .ge 12, 3) := by decide +kernel
theorem dX6_cut_23 : decode cX6_cut 23 = .ok (.aload_n 0, 1) := by decide +kernel
theorem dX6_cut_24 : decode cX6_cut 24 = .ok (.getfield 15, 3) := by decide +kernel
theorem dX6_cut_27 : decode cX6_cut 27 = .ok (.bipush 40, 2) := by decide +kernel
theorem dX6_cut_29 : decode cX6_cut 29 = .ok (.if_icmp .lt 5, 3) := by decide +kernel
theorem dX6_cut_32 : decode cX6_cut 32 = .ok (.iconst (-1), 1) := by decide +kernel
theorem dX6_cut_33 : decode cX6_cut 33 = .ok (.ireturn, 1) := by decide +kernel
theorem dX6_cut_34 : decode cX6_cut 34 = .ok (.aload_n 0, 1) := by decide +kernel
theorem dX6_cut_35 : decode cX6_cut 35 = .ok (.getfield 33, 3) := by decide +kernel
theorem dX6_cut_38 : decode cX6_cut 38 = .ok (.aload_n 3, 1) := by decide +kernel
theorem dX6_cut_39 : decode cX6_cut 39 = .ok (.invokestatic 99, 3) := by decide +kernel
theorem dX6_cut_42 : decode cX6_cut 42 = .ok (.invokevirtual 102, 3) := by decide +kernel
theorem dX6_cut_45 : decode cX6_cut 45 = .ok (.ifCond .ne 5, 3) := by decide +kernel
theorem dX6_cut_48 : decode cX6_cut 48 = .ok (.iconst (-1), 1) := by decide +kernel
theorem dX6_cut_49 : decode cX6_cut 49 = .ok (.ireturn, 1) := by decide +kernel
theorem dX6_cut_50 : decode cX6_cut 50 = .ok (.new 9, 3) := by decide +kernel
theorem dX6_cut_53 : decode cX6_cut 53 = .ok (.dup, 1) := by decide +kernel
theorem dX6_cut_54 : decode cX6_cut 54 = .ok (.aload_n 3, 1) := by decide +kernel
theorem dX6_cut_55 : decode cX6_cut 55 = .ok (.getfield 105, 3) := by decide +kernel
theorem dX6_cut_58 : decode cX6_cut 58 = .ok (.invokespecial 77, 3) := by decide +kernel
theorem dX6_cut_61 : decode cX6_cut 61 = .ok (.astore 4, 2) := by decide +kernel
theorem dX6_cut_63 : decode cX6_cut 63 = .ok (.aload 4, 2) := by decide +kernel
theorem dX6_cut_65 : decode cX6_cut 65 = .ok (.aload_n 3, 1) := by decide +kernel
theorem dX6_cut_66 : decode cX6_cut 66 = .ok (.iload_n 2, 1) := by decide +kernel
theorem dX6_cut_67 : decode cX6_cut 67 = .ok (.invokevirtual 108, 3) := by decide +kernel
theorem dX6_cut_70 : decode cX6_cut 70 = .ok (.aload_n 3, 1) := by decide +kernel
theorem dX6_cut_71 : decode cX6_cut 71 = .ok (.iload_n 2, 1) := by decide +kernel
theorem dX6_cut_72 : decode cX6_cut 72 = .ok (.putfield 96, 3) := by decide +kernel
theorem dX6_cut_75 : decode cX6_cut 75 = .ok (.aload_n 3, 1) := by decide +kernel
theorem dX6_cut_76 : decode cX6_cut 76 = .ok (.getfield 112, 3) := by decide +kernel
theorem dX6_cut_79 : decode cX6_cut 79 = .ok (.ifCond .eq 10, 3) := by decide +kernel
theorem dX6_cut_82 : decode cX6_cut 82 = .ok (.aload_n 0, 1) := by decide +kernel
theorem dX6_cut_83 : decode cX6_cut 83 = .ok (.aload_n 3, 1) := by decide +kernel
theorem dX6_cut_84 : decode cX6_cut 84 = .ok (.aload 4, 2) := by decide +kernel
theorem dX6_cut_86 : decode cX6_cut 86 = .ok (.invokevirtual 115, 3) := by decide +kernel
theorem dX6_cut_89 : decode cX6_cut 89 = .ok (.aload_n 0, 1) := by decide +kernel
theorem dX6_cut_90 : decode cX6_cut 90 = .ok (.aload 4, 2) := by decide +kernel
theorem dX6_cut_92 : decode cX6_cut 92 = .ok (.invokevirtual 88, 3) := by decide +kernel
theorem dX6_cut_95 : decode cX6_cut 95 = .ok (.ireturn, 1) := by decide +kernel
theorem dX6_join_0 : decode cX6_join 0 = .ok (.aload_n 0, 1) := by decide +kernel
theorem dX6_join_1 : decode cX6_join 1 = .ok (.iload_n 1, 1) := by decide +kernel
theorem dX6_join_2 : decode cX6_join 2 = .ok (.invokevirtual 92, 3) := by decide +kernel
theorem dX6_join_5 : decode cX6_join 5 = .ok (.astore_n 3, 1) := by decide +kernel
theorem dX6_join_6 : decode cX6_join 6 = .ok (.aload_n 0, 1) := by decide +kernel
theorem dX6_join_7 : decode cX6_join 7 = .ok (.iload_n 2, 1) := by decide +kernel
theorem dX6_join_8 : decode cX6_join 8 = .ok (.invokevirtual 92, 3) := by decide +kernel
theorem dX6_join_11 : decode cX6_join 11 = .ok (.astore 4, 2) := by decide +kernel
theorem dX6_join_13 : decode cX6_join 13 = .ok (.aload_n 3, 1) := by decide +kernel
theorem dX6_join_14 : decode cX6_join 14 = .ok (.ifnull 25, 3) := by decide +kernel
theorem dX6_join_17 : decode cX6_join 17 = .ok (.aload 4, 2) := by decide +kernel
theorem dX6_join_19 : decode cX6_join 19 = .ok (.ifnull 20, 3) := by decide +kernel
theorem dX6_join_22 : decode cX6_join 22 = .ok (.iload_n 1, 1) := by decide +kernel
theorem dX6_join_23 : decode cX6_join 23 = .ok (.iload_n 2, 1) := by decide +kernel
theorem dX6_join_24 : decode cX6_join 24 = .ok (.if_icmp .eq 15, 3) := by decide +kernel
theorem dX6_join_27 : decode cX6_join 27 = .ok (.aload_n 3, 1) := by decide +kernel
theorem dX6_join_28 : decode cX6_join 28 = .ok (.getfield 105, 3) := by decide +kernel
theorem dX6_join_31 : decode cX6_join 31 = .ok (.aload 4, 2) := by decide +kernel
theorem dX6_join_33 : decode cX6_join 33 = .ok (.getfield 105, 3) := by decide +kernel
theorem dX6_join_36 : decode cX6_join 36 = .ok (.if_icmp .eq 5, 3) := by decide +kernel
theorem dX6_join_39 : decode cX6_join 39 = .ok (.iconst (-1), 1) := by decide +kernel
theorem dX6_join_40 : decode cX6_join 40 = .ok (.ireturn, 1) := by decide +kernel
theorem dX6_join_41 : decode cX6_join 41 = .ok (.aload_n 3, 1) := by decide +kernel
theorem dX6_join_42 : decode cX6_join 42 = .ok (.getfield 96, 3) := by decide +kernel
theorem dX6_join_45 : decode cX6_join 45 = .ok (.aload 4, 2) := by decide +kernel
theorem dX6_join_47 : decode cX6_join 47 = .ok (.getfield 96, 3) := by decide +kernel
theorem dX6_join_50 : decode cX6_join 50 = .ok (.iadd, 1) := by decide +kernel
theorem dX6_join_51 : decode cX6_join 51 = .ok (.bipush 80, 2) := by decide +kernel
theorem dX6_join_53 : decode cX6_join 53 = .ok (.if_icmp .gt 23, 3) := by decide +kernel
theorem dX6_join_56 : decode cX6_join 56 = .ok (.aload_n 0, 1) := by decide +kernel
theorem dX6_join_57 : decode cX6_join 57 = .ok (.getfield 33, 3) := by decide +kernel
theorem dX6_join_60 : decode cX6_join 60 = .ok (.aload_n 3, 1) := by decide +kernel
theorem dX6_join_61 : decode cX6_join 61 = .ok (.invokestatic 99, 3) := by decide +kernel
theorem dX6_join_64 : decode cX6_join 64 = .ok (.aload 4, 2) := by decide +kernel
theorem dX6_join_66 : decode cX6_join 66 = .ok (.invokestatic 99, 3) := by decide +kernel
theorem dX6_join_69 : decode cX6_join 69 = .ok (.iadd, 1) := by decide +kernel
theorem dX6_join_70 : decode cX6_join 70 = .ok (.invokevirtual 102, 3) := by decide +kernel
theorem dX6_join_73 : decode cX6_join 73 = .ok (.ifCond .ne 5, 3) := by decide +kernel
theorem dX6_join_76 : decode cX6_join 76 = .ok (.iconst (-1), 1) := by decide +kernel
theorem dX6_join_77 : decode cX6_join 77 = .ok (.ireturn, 1) := by decide +kernel
theorem dX6_join_78 : decode cX6_join 78 = .ok (.aload_n 3, 1) := by decide +kernel
theorem dX6_join_79 : decode cX6_join 79 = .ok (.aload 4, 2) := by decide +kernel
theorem dX6_join_81 : decode cX6_join 81 = .ok (.iconst 0, 1) := by decide +kernel
theorem dX6_join_82 : decode cX6_join 82 = .ok (.invokevirtual 108, 3) := by decide +kernel
theorem dX6_join_85 : decode cX6_join 85 = .ok (.aload 4, 2) := by decide +kernel
theorem dX6_join_87 : decode cX6_join 87 = .ok (.iconst 0, 1) := by decide +kernel
theorem dX6_join_88 : decode cX6_join 88 = .ok (.putfield 96, 3) := by decide +kernel
theorem dX6_join_91 : decode cX6_join 91 = .ok (.aload_n 0, 1) := by decide +kernel
theorem dX6_join_92 : decode cX6_join 92 = .ok (.aload_n 3, 1) := by decide +kernel
theorem dX6_join_93 : decode cX6_join 93 = .ok (.aload 4, 2) := by decide +kernel
theorem dX6_join_95 : decode cX6_join 95 = .ok (.invokevirtual 119, 3) := by decide +kernel
theorem dX6_join_98 : decode cX6_join 98 = .ok (.aload_n 3, 1) := by decide +kernel
theorem dX6_join_99 : decode cX6_join 99 = .ok (.getfield 96, 3) := by decide +kernel
theorem dX6_join_102 : decode cX6_join 102 = .ok (.ireturn, 1) := by decide +kernel
theorem dX6_turn_0 : decode cX6_turn 0 = .ok (.aload_n 0, 1) := by decide +kernel
theorem dX6_turn_1 : decode cX6_turn 1 = .ok (.iload_n 1, 1) := by decide +kernel
theorem dX6_turn_2 : decode cX6_turn 2 = .ok (.invokevirtual 92, 3) := by decide +kernel
theorem dX6_turn_5 : decode cX6_turn 5 = .ok (.astore_n 2, 1) := by decide +kernel
theorem dX6_turn_6 : decode cX6_turn 6 = .ok (.aload_n 2, 1) := by decide +kernel
theorem dX6_turn_7 : decode cX6_turn 7 = .ok (.ifnonnull 5, 3) := by decide +kernel
theorem dX6_turn_10 : decode cX6_turn 10 = .ok (.iconst 0, 1) := by decide +kernel
theorem dX6_turn_11 : decode cX6_turn 11 = .ok (.ireturn, 1) := by decide +kernel
theorem dX6_turn_12 : decode cX6_turn 12 = .ok (.aload_n 2, 1) := by decide +kernel
theorem dX6_turn_13 : decode cX6_turn 13 = .ok (.invokevirtual 122, 3) := by decide +kernel
theorem dX6_turn_16 : decode cX6_turn 16 = .ok (.iconst 1, 1) := by decide +kernel
theorem dX6_turn_17 : decode cX6_turn 17 = .ok (.ireturn, 1) := by decide +kernel
theorem dX6_name_0 : decode cX6_name 0 = .ok (.aload_n 0, 1) := by decide +kernel
theorem dX6_name_1 : decode cX6_name 1 = .ok (.iload_n 1, 1) := by decide +kernel
theorem dX6_name_2 : decode cX6_name 2 = .ok (.invokevirtual 92, 3) := by decide +kernel
theorem dX6_name_5 : decode cX6_name 5 = .ok (.astore_n 3, 1) := by decide +kernel
theorem dX6_name_6 : decode cX6_name 6 = .ok (.aload_n 3, 1) := by decide +kernel
theorem dX6_name_7 : decode cX6_name 7 = .ok (.ifnull 19, 3) := by decide +kernel
theorem dX6_name_10 : decode cX6_name 10 = .ok (.iload_n 2, 1) := by decide +kernel
theorem dX6_name_11 : decode cX6_name 11 = .ok (.invokestatic 125, 3) := by decide +kernel
theorem dX6_name_14 : decode cX6_name 14 = .ok (.ifCond .eq 12, 3) := by decide +kernel
theorem dX6_name_17 : decode cX6_name 17 = .ok (.aload_n 0, 1) := by decide +kernel
theorem dX6_name_18 : decode cX6_name 18 = .ok (.iload_n 2, 1) := by decide +kernel
theorem dX6_name_19 : decode cX6_name 19 = .ok (.invokevirtual 128, 3) := by decide +kernel
theorem dX6_name_22 : decode cX6_name 22 = .ok (.iconst (-1), 1) := by decide +kernel
theorem dX6_name_23 : decode cX6_name 23 = .ok (.if_icmp .eq 5, 3) := by decide +kernel
theorem dX6_name_26 : decode cX6_name 26 = .ok (.iconst 0, 1) := by decide +kernel
theorem dX6_name_27 : decode cX6_name 27 = .ok (.ireturn, 1) := by decide +kernel
theorem dX6_name_28 : decode cX6_name 28 = .ok (.aload_n 0, 1) := by decide +kernel
theorem dX6_name_29 : decode cX6_name 29 = .ok (.getfield 33, 3) := by decide +kernel
theorem dX6_name_32 : decode cX6_name 32 = .ok (.aload_n 3, 1) := by decide +kernel
theorem dX6_name_33 : decode cX6_name 33 = .ok (.invokestatic 99, 3) := by decide +kernel
theorem dX6_name_36 : decode cX6_name 36 = .ok (.iconst 1, 1) := by decide +kernel
theorem dX6_name_37 : decode cX6_name 37 = .ok (.iadd, 1) := by decide +kernel
theorem dX6_name_38 : decode cX6_name 38 = .ok (.invokevirtual 102, 3) := by decide +kernel
theorem dX6_name_41 : decode cX6_name 41 = .ok (.ifCond .ne 5, 3) := by decide +kernel
theorem dX6_name_44 : decode cX6_name 44 = .ok (.iconst 0, 1) := by decide +kernel
theorem dX6_name_45 : decode cX6_name 45 = .ok (.ireturn, 1) := by decide +kernel
theorem dX6_name_46 : decode cX6_name 46 = .ok (.aload_n 0, 1) := by decide +kernel
theorem dX6_name_47 : decode cX6_name 47 = .ok (.aload_n 3, 1) := by decide +kernel
theorem dX6_name_48 : decode cX6_name 48 = .ok (.invokevirtual 132, 3) := by decide +kernel
theorem dX6_name_51 : decode cX6_name 51 = .ok (.aload_n 3, 1) := by decide +kernel
theorem dX6_name_52 : decode cX6_name 52 = .ok (.iload_n 2, 1) := by decide +kernel
theorem dX6_name_53 : decode cX6_name 53 = .ok (.putfield 112, 3) := by decide +kernel
theorem dX6_name_56 : decode cX6_name 56 = .ok (.aload_n 0, 1) := by decide +kernel
theorem dX6_name_57 : decode cX6_name 57 = .ok (.getfield 33, 3) := by decide +kernel
theorem dX6_name_60 : decode cX6_name 60 = .ok (.iload_n 2, 1) := by decide +kernel
theorem dX6_name_61 : decode cX6_name 61 = .ok (.iconst 1, 1) := by decide +kernel
theorem dX6_name_62 : decode cX6_name 62 = .ok (.aload_n 3, 1) := by decide +kernel
theorem dX6_name_63 : decode cX6_name 63 = .ok (.getfield 105, 3) := by decide +kernel
theorem dX6_name_66 : decode cX6_name 66 = .ok (.aload_n 0, 1) := by decide +kernel
theorem dX6_name_67 : decode cX6_name 67 = .ok (.getfield 66, 3) := by decide +kernel
theorem dX6_name_70 : decode cX6_name 70 = .ok (.invokevirtual 136, 3) := by decide +kernel
theorem dX6_name_73 : decode cX6_name 73 = .ok (.iconst 1, 1) := by decide +kernel
theorem dX6_name_74 : decode cX6_name 74 = .ok (.ireturn, 1) := by decide +kernel
theorem dX6_give_0 : decode cX6_give 0 = .ok (.aload_n 0, 1) := by decide +kernel
theorem dX6_give_1 : decode cX6_give 1 = .ok (.iload_n 1, 1) := by decide +kernel
theorem dX6_give_2 : decode cX6_give 2 = .ok (.invokevirtual 92, 3) := by decide +kernel
theorem dX6_give_5 : decode cX6_give 5 = .ok (.astore_n 3, 1) := by decide +kernel
theorem dX6_give_6 : decode cX6_give 6 = .ok (.aload_n 3, 1) := by decide +kernel
theorem dX6_give_7 : decode cX6_give 7 = .ok (.ifnull 32, 3) := by decide +kernel
theorem dX6_give_10 : decode cX6_give 10 = .ok (.iload_n 2, 1) := by decide +kernel
theorem dX6_give_11 : decode cX6_give 11 = .ok (.invokestatic 69, 3) := by decide +kernel
theorem dX6_give_14 : decode cX6_give 14 = .ok (.ifCond .eq 25, 3) := by decide +kernel
theorem dX6_give_17 : decode cX6_give 17 = .ok (.aload_n 3, 1) := by decide +kernel
theorem dX6_give_18 : decode cX6_give 18 = .ok (.getfield 105, 3) := by decide +kernel
theorem dX6_give_21 : decode cX6_give 21 = .ok (.iload_n 2, 1) := by decide +kernel
theorem dX6_give_22 : decode cX6_give 22 = .ok (.if_icmp .eq 17, 3) := by decide +kernel
theorem dX6_give_25 : decode cX6_give 25 = .ok (.aload_n 0, 1) := by decide +kernel
theorem dX6_give_26 : decode cX6_give 26 = .ok (.getfield 33, 3) := by decide +kernel
theorem dX6_give_29 : decode cX6_give 29 = .ok (.aload_n 3, 1) := by decide +kernel
theorem dX6_give_30 : decode cX6_give 30 = .ok (.invokestatic 99, 3) := by decide +kernel
theorem dX6_give_33 : decode cX6_give 33 = .ok (.invokevirtual 102, 3) := by decide +kernel
theorem dX6_give_36 : decode cX6_give 36 = .ok (.ifCond .ne 5, 3) := by decide +kernel
theorem dX6_give_39 : decode cX6_give 39 = .ok (.iconst 0, 1) := by decide +kernel
theorem dX6_give_40 : decode cX6_give 40 = .ok (.ireturn, 1) := by decide +kernel
theorem dX6_give_41 : decode cX6_give 41 = .ok (.aload_n 0, 1) := by decide +kernel
theorem dX6_give_42 : decode cX6_give 42 = .ok (.aload_n 3, 1) := by decide +kernel
theorem dX6_give_43 : decode cX6_give 43 = .ok (.iload_n 2, 1) := by decide +kernel
theorem dX6_give_44 : decode cX6_give 44 = .ok (.invokevirtual 140, 3) := by decide +kernel
theorem dX6_give_47 : decode cX6_give 47 = .ok (.iconst 1, 1) := by decide +kernel
theorem dX6_give_48 : decode cX6_give 48 = .ok (.ireturn, 1) := by decide +kernel
theorem dX6_of_0 : decode cX6_of 0 = .ok (.aload_n 0, 1) := by decide +kernel
theorem dX6_of_1 : decode cX6_of 1 = .ok (.iload_n 1, 1) := by decide +kernel
theorem dX6_of_2 : decode cX6_of 2 = .ok (.invokevirtual 143, 3) := by decide +kernel
theorem dX6_of_5 : decode cX6_of 5 = .ok (.astore_n 3, 1) := by decide +kernel
theorem dX6_of_6 : decode cX6_of 6 = .ok (.aload_n 3, 1) := by decide +kernel
theorem dX6_of_7 : decode cX6_of 7 = .ok (.ifnull 13, 3) := by decide +kernel
theorem dX6_of_10 : decode cX6_of 10 = .ok (.iload_n 2, 1) := by decide +kernel
theorem dX6_of_11 : decode cX6_of 11 = .ok (.ifCond .lt 9, 3) := by decide +kernel
theorem dX6_of_14 : decode cX6_of 14 = .ok (.iload_n 2, 1) := by decide +kernel
theorem dX6_of_15 : decode cX6_of 15 = .ok (.bipush 6, 2) := by decide +kernel
theorem dX6_of_17 : decode cX6_of 17 = .ok (.if_icmp .le 11, 3) := by decide +kernel
theorem dX6_of_20 : decode cX6_of 20 = .ok (.new 146, 3) := by decide +kernel
theorem dX6_of_23 : decode cX6_of 23 = .ok (.dup, 1) := by decide +kernel
theorem dX6_of_24 : decode cX6_of 24 = .ok (.invokespecial 148, 3) := by decide +kernel
theorem dX6_of_27 : decode cX6_of 27 = .ok (.athrow, 1) := by decide +kernel
theorem dX6_of_28 : decode cX6_of 28 = .ok (.iload_n 2, 1) := by decide +kernel
theorem dX6_of_29 : decode cX6_of 29 = .ok (.tableswitch 70 0 5 #[39, 44, 49, 54, 59, 65], 39) := by decide +kernel
theorem dX6_of_68 : decode cX6_of 68 = .ok (.aload_n 3, 1) := by decide +kernel
theorem dX6_of_69 : decode cX6_of 69 = .ok (.getfield 96, 3) := by decide +kernel
theorem dX6_of_72 : decode cX6_of 72 = .ok (.ireturn, 1) := by decide +kernel
theorem dX6_of_73 : decode cX6_of 73 = .ok (.aload_n 3, 1) := by decide +kernel
theorem dX6_of_74 : decode cX6_of 74 = .ok (.getfield 105, 3) := by decide +kernel
theorem dX6_of_77 : decode cX6_of 77 = .ok (.ireturn, 1) := by decide +kernel
theorem dX6_of_78 : decode cX6_of 78 = .ok (.aload_n 3, 1) := by decide +kernel
theorem dX6_of_79 : decode cX6_of 79 = .ok (.getfield 112, 3) := by decide +kernel
theorem dX6_of_82 : decode cX6_of 82 = .ok (.ireturn, 1) := by decide +kernel
theorem dX6_of_83 : decode cX6_of 83 = .ok (.aload_n 3, 1) := by decide +kernel
theorem dX6_of_84 : decode cX6_of 84 = .ok (.invokevirtual 149, 3) := by decide +kernel
theorem dX6_of_87 : decode cX6_of 87 = .ok (.ireturn, 1) := by decide +kernel
theorem dX6_of_88 : decode cX6_of 88 = .ok (.aload_n 0, 1) := by decide +kernel
theorem dX6_of_89 : decode cX6_of 89 = .ok (.aload_n 3, 1) := by decide +kernel
theorem dX6_of_90 : decode cX6_of 90 = .ok (.invokevirtual 153, 3) := by decide +kernel
theorem dX6_of_93 : decode cX6_of 93 = .ok (.ireturn, 1) := by decide +kernel
theorem dX6_of_94 : decode cX6_of 94 = .ok (.aload_n 3, 1) := by decide +kernel
theorem dX6_of_95 : decode cX6_of 95 = .ok (.invokevirtual 156, 3) := by decide +kernel
theorem dX6_of_98 : decode cX6_of 98 = .ok (.ireturn, 1) := by decide +kernel
theorem dX6_of_99 : decode cX6_of 99 = .ok (.aload_n 3, 1) := by decide +kernel
theorem dX6_of_100 : decode cX6_of 100 = .ok (.invokevirtual 159, 3) := by decide +kernel
theorem dX6_of_103 : decode cX6_of 103 = .ok (.ireturn, 1) := by decide +kernel
theorem dX6_bead_0 : decode cX6_bead 0 = .ok (.aload_n 0, 1) := by decide +kernel
theorem dX6_bead_1 : decode cX6_bead 1 = .ok (.iload_n 1, 1) := by decide +kernel
theorem dX6_bead_2 : decode cX6_bead 2 = .ok (.invokevirtual 143, 3) := by decide +kernel
theorem dX6_bead_5 : decode cX6_bead 5 = .ok (.astore 4, 2) := by decide +kernel
theorem dX6_bead_7 : decode cX6_bead 7 = .ok (.aload 4, 2) := by decide +kernel
theorem dX6_bead_9 : decode cX6_bead 9 = .ok (.ifnonnull 5, 3) := by decide +kernel
theorem dX6_bead_12 : decode cX6_bead 12 = .ok (.iconst (-1), 1) := by decide +kernel
theorem dX6_bead_13 : decode cX6_bead 13 = .ok (.ireturn, 1) := by decide +kernel
theorem dX6_bead_14 : decode cX6_bead 14 = .ok (.iload_n 3, 1) := by decide +kernel
theorem dX6_bead_15 : decode cX6_bead 15 = .ok (.lookupswitch 39 #[(0, 25), (1, 32)], 25) := by decide +kernel
theorem dX6_bead_40 : decode cX6_bead 40 = .ok (.aload 4, 2) := by decide +kernel
theorem dX6_bead_42 : decode cX6_bead 42 = .ok (.iload_n 2, 1) := by decide +kernel
theorem dX6_bead_43 : decode cX6_bead 43 = .ok (.invokevirtual 162, 3) := by decide +kernel
theorem dX6_bead_46 : decode cX6_bead 46 = .ok (.ireturn, 1) := by decide +kernel
theorem dX6_bead_47 : decode cX6_bead 47 = .ok (.aload 4, 2) := by decide +kernel
theorem dX6_bead_49 : decode cX6_bead 49 = .ok (.iload_n 2, 1) := by decide +kernel
theorem dX6_bead_50 : decode cX6_bead 50 = .ok (.invokevirtual 165, 3) := by decide +kernel
theorem dX6_bead_53 : decode cX6_bead 53 = .ok (.ireturn, 1) := by decide +kernel
theorem dX6_bead_54 : decode cX6_bead 54 = .ok (.iconst (-1), 1) := by decide +kernel
theorem dX6_bead_55 : decode cX6_bead 55 = .ok (.ireturn, 1) := by decide +kernel
theorem dX6_named_0 : decode cX6_named 0 = .ok (.iload_n 1, 1) := by decide +kernel
theorem dX6_named_1 : decode cX6_named 1 = .ok (.invokestatic 125, 3) := by decide +kernel
theorem dX6_named_4 : decode cX6_named 4 = .ok (.ifCond .ne 5, 3) := by decide +kernel
theorem dX6_named_7 : decode cX6_named 7 = .ok (.iconst (-1), 1) := by decide +kernel
theorem dX6_named_8 : decode cX6_named 8 = .ok (.ireturn, 1) := by decide +kernel
theorem dX6_named_9 : decode cX6_named 9 = .ok (.iconst 0, 1) := by decide +kernel
theorem dX6_named_10 : decode cX6_named 10 = .ok (.istore_n 2, 1) := by decide +kernel
theorem dX6_named_11 : decode cX6_named 11 = .ok (.iload_n 2, 1) := by decide +kernel
theorem dX6_named_12 : decode cX6_named 12 = .ok (.aload_n 0, 1) := by decide +kernel
theorem dX6_named_13 : decode cX6_named 13 = .ok (.getfield 15, 3) := by decide +kernel
theorem dX6_named_16 : decode cX6_named 16 = .ok (.if_icmp .ge 29, 3) := by decide +kernel
theorem dX6_named_19 : decode cX6_named 19 = .ok (.aload_n 0, 1) := by decide +kernel
theorem dX6_named_20 : decode cX6_named 20 = .ok (.iload_n 2, 1) := by decide +kernel
theorem dX6_named_21 : decode cX6_named 21 = .ok (.invokevirtual 143, 3) := by decide +kernel
theorem dX6_named_24 : decode cX6_named 24 = .ok (.astore_n 3, 1) := by decide +kernel
theorem dX6_named_25 : decode cX6_named 25 = .ok (.aload_n 3, 1) := by decide +kernel
theorem dX6_named_26 : decode cX6_named 26 = .ok (.ifnull 13, 3) := by decide +kernel
theorem dX6_named_29 : decode cX6_named 29 = .ok (.aload_n 3, 1) := by decide +kernel
theorem dX6_named_30 : decode cX6_named 30 = .ok (.getfield 112, 3) := by decide +kernel
theorem dX6_named_33 : decode cX6_named 33 = .ok (.iload_n 1, 1) := by decide +kernel
theorem dX6_named_34 : decode cX6_named 34 = .ok (.if_icmp .ne 5, 3) := by decide +kernel
theorem dX6_named_37 : decode cX6_named 37 = .ok (.iload_n 2, 1) := by decide +kernel
theorem dX6_named_38 : decode cX6_named 38 = .ok (.ireturn, 1) := by decide +kernel
theorem dX6_named_39 : decode cX6_named 39 = .ok (.iinc 2 1, 3) := by decide +kernel
theorem dX6_named_42 : decode cX6_named 42 = .ok (.goto (-31), 3) := by decide +kernel
theorem dX6_named_45 : decode cX6_named 45 = .ok (.iconst (-1), 1) := by decide +kernel
theorem dX6_named_46 : decode cX6_named 46 = .ok (.ireturn, 1) := by decide +kernel
theorem dX6_tale_0 : decode cX6_tale 0 = .ok (.iload_n 1, 1) := by decide +kernel
theorem dX6_tale_1 : decode cX6_tale 1 = .ok (.invokestatic 125, 3) := by decide +kernel
theorem dX6_tale_4 : decode cX6_tale 4 = .ok (.ifCond .ne 5, 3) := by decide +kernel
theorem dX6_tale_7 : decode cX6_tale 7 = .ok (.iconst (-1), 1) := by decide +kernel
theorem dX6_tale_8 : decode cX6_tale 8 = .ok (.ireturn, 1) := by decide +kernel
theorem dX6_tale_9 : decode cX6_tale 9 = .ok (.aload_n 0, 1) := by decide +kernel
theorem dX6_tale_10 : decode cX6_tale 10 = .ok (.getfield 33, 3) := by decide +kernel
theorem dX6_tale_13 : decode cX6_tale 13 = .ok (.aload_n 0, 1) := by decide +kernel
theorem dX6_tale_14 : decode cX6_tale 14 = .ok (.getfield 33, 3) := by decide +kernel
theorem dX6_tale_17 : decode cX6_tale 17 = .ok (.iload_n 1, 1) := by decide +kernel
theorem dX6_tale_18 : decode cX6_tale 18 = .ok (.iload_n 2, 1) := by decide +kernel
theorem dX6_tale_19 : decode cX6_tale 19 = .ok (.invokevirtual 168, 3) := by decide +kernel
theorem dX6_tale_22 : decode cX6_tale 22 = .ok (.iload_n 3, 1) := by decide +kernel
theorem dX6_tale_23 : decode cX6_tale 23 = .ok (.invokevirtual 172, 3) := by decide +kernel
theorem dX6_tale_26 : decode cX6_tale 26 = .ok (.ireturn, 1) := by decide +kernel
theorem dX6_set_0 : decode cX6_set 0 = .ok (.iload_n 1, 1) := by decide +kernel
theorem dX6_set_1 : decode cX6_set 1 = .ok (.tableswitch 107 0 5 #[39, 55, 72, 89, 95, 101], 39) := by decide +kernel
theorem dX6_set_40 : decode cX6_set 40 = .ok (.aload_n 0, 1) := by decide +kernel
theorem dX6_set_41 : decode cX6_set 41 = .ok (.getfield 26, 3) := by decide +kernel
theorem dX6_set_44 : decode cX6_set 44 = .ok (.getfield 175, 3) := by decide +kernel
theorem dX6_set_47 : decode cX6_set 47 = .ok (.iload_n 2, 1) := by decide +kernel
theorem dX6_set_48 : decode cX6_set 48 = .ok (.iload_n 3, 1) := by decide +kernel
theorem dX6_set_49 : decode cX6_set 49 = .ok (.iconst 1, 1) := by decide +kernel
theorem dX6_set_50 : decode cX6_set 50 = .ok (.bipush 100, 2) := by decide +kernel
theorem dX6_set_52 : decode cX6_set 52 = .ok (.invokestatic 178, 3) := by decide +kernel
theorem dX6_set_55 : decode cX6_set 55 = .ok (.ireturn, 1) := by decide +kernel
theorem dX6_set_56 : decode cX6_set 56 = .ok (.aload_n 0, 1) := by decide +kernel
theorem dX6_set_57 : decode cX6_set 57 = .ok (.getfield 26, 3) := by decide +kernel
theorem dX6_set_60 : decode cX6_set 60 = .ok (.getfield 182, 3) := by decide +kernel
theorem dX6_set_63 : decode cX6_set 63 = .ok (.iload_n 2, 1) := by decide +kernel
theorem dX6_set_64 : decode cX6_set 64 = .ok (.iload_n 3, 1) := by decide +kernel
theorem dX6_set_65 : decode cX6_set 65 = .ok (.iconst 0, 1) := by decide +kernel
theorem dX6_set_66 : decode cX6_set 66 = .ok (.sipush 500, 3) := by decide +kernel
theorem dX6_set_69 : decode cX6_set 69 = .ok (.invokestatic 178, 3) := by decide +kernel
theorem dX6_set_72 : decode cX6_set 72 = .ok (.ireturn, 1) := by decide +kernel
theorem dX6_set_73 : decode cX6_set 73 = .ok (.aload_n 0, 1) := by decide +kernel
theorem dX6_set_74 : decode cX6_set 74 = .ok (.getfield 26, 3) := by decide +kernel
theorem dX6_set_77 : decode cX6_set 77 = .ok (.getfield 185, 3) := by decide +kernel
theorem dX6_set_80 : decode cX6_set 80 = .ok (.iload_n 2, 1) := by decide +kernel
theorem dX6_set_81 : decode cX6_set 81 = .ok (.iload_n 3, 1) := by decide +kernel
theorem dX6_set_82 : decode cX6_set 82 = .ok (.iconst 1, 1) := by decide +kernel
theorem dX6_set_83 : decode cX6_set 83 = .ok (.sipush 1000, 3) := by decide +kernel
theorem dX6_set_86 : decode cX6_set 86 = .ok (.invokestatic 178, 3) := by decide +kernel
theorem dX6_set_89 : decode cX6_set 89 = .ok (.ireturn, 1) := by decide +kernel
theorem dX6_set_90 : decode cX6_set 90 = .ok (.aload_n 0, 1) := by decide +kernel
theorem dX6_set_91 : decode cX6_set 91 = .ok (.iload_n 3, 1) := by decide +kernel
theorem dX6_set_92 : decode cX6_set 92 = .ok (.invokevirtual 188, 3) := by decide +kernel
theorem dX6_set_95 : decode cX6_set 95 = .ok (.ireturn, 1) := by decide +kernel
theorem dX6_set_96 : decode cX6_set 96 = .ok (.aload_n 0, 1) := by decide +kernel
theorem dX6_set_97 : decode cX6_set 97 = .ok (.iload_n 3, 1) := by decide +kernel
theorem dX6_set_98 : decode cX6_set 98 = .ok (.invokevirtual 191, 3) := by decide +kernel
theorem dX6_set_101 : decode cX6_set 101 = .ok (.ireturn, 1) := by decide +kernel
theorem dX6_set_102 : decode cX6_set 102 = .ok (.aload_n 0, 1) := by decide +kernel
theorem dX6_set_103 : decode cX6_set 103 = .ok (.iload_n 3, 1) := by decide +kernel
theorem dX6_set_104 : decode cX6_set 104 = .ok (.invokevirtual 194, 3) := by decide +kernel
theorem dX6_set_107 : decode cX6_set 107 = .ok (.ireturn, 1) := by decide +kernel
theorem dX6_set_108 : decode cX6_set 108 = .ok (.iconst (-1), 1) := by decide +kernel
theorem dX6_set_109 : decode cX6_set 109 = .ok (.ireturn, 1) := by decide +kernel
theorem dX6_rate_0 : decode cX6_rate 0 = .ok (.iload_n 1, 1) := by decide +kernel
theorem dX6_rate_1 : decode cX6_rate 1 = .ok (.invokestatic 197, 3) := by decide +kernel
theorem dX6_rate_4 : decode cX6_rate 4 = .ok (.ifCond .eq 14, 3) := by decide +kernel
theorem dX6_rate_7 : decode cX6_rate 7 = .ok (.aload_n 0, 1) := by decide +kernel
theorem dX6_rate_8 : decode cX6_rate 8 = .ok (.getfield 26, 3) := by decide +kernel
theorem dX6_rate_11 : decode cX6_rate 11 = .ok (.iload_n 1, 1) := by decide +kernel
theorem dX6_rate_12 : decode cX6_rate 12 = .ok (.invokevirtual 200, 3) := by decide +kernel
theorem dX6_rate_15 : decode cX6_rate 15 = .ok (.goto 4, 3) := by decide +kernel
theorem dX6_rate_18 : decode cX6_rate 18 = .ok (.iconst (-1), 1) := by decide +kernel
theorem dX6_rate_19 : decode cX6_rate 19 = .ok (.ireturn, 1) := by decide +kernel
theorem dX6_rich_0 : decode cX6_rich 0 = .ok (.iload_n 1, 1) := by decide +kernel
theorem dX6_rich_1 : decode cX6_rich 1 = .ok (.invokestatic 69, 3) := by decide +kernel
theorem dX6_rich_4 : decode cX6_rich 4 = .ok (.ifCond .ne 5, 3) := by decide +kernel
theorem dX6_rich_7 : decode cX6_rich 7 = .ok (.iconst (-1), 1) := by decide +kernel
theorem dX6_rich_8 : decode cX6_rich 8 = .ok (.ireturn, 1) := by decide +kernel
theorem dX6_rich_9 : decode cX6_rich 9 = .ok (.iconst 0, 1) := by decide +kernel
theorem dX6_rich_10 : decode cX6_rich 10 = .ok (.istore_n 2, 1) := by decide +kernel
theorem dX6_rich_11 : decode cX6_rich 11 = .ok (.iconst 0, 1) := by decide +kernel
theorem dX6_rich_12 : decode cX6_rich 12 = .ok (.istore_n 3, 1) := by decide +kernel
theorem dX6_rich_13 : decode cX6_rich 13 = .ok (.iload_n 3, 1) := by decide +kernel
theorem dX6_rich_14 : decode cX6_rich 14 = .ok (.aload_n 0, 1) := by decide +kernel
theorem dX6_rich_15 : decode cX6_rich 15 = .ok (.getfield 15, 3) := by decide +kernel
theorem dX6_rich_18 : decode cX6_rich 18 = .ok (.if_icmp .ge 39, 3) := by decide +kernel
theorem dX6_rich_21 : decode cX6_rich 21 = .ok (.aload_n 0, 1) := by decide +kernel
theorem dX6_rich_22 : decode cX6_rich 22 = .ok (.iload_n 3, 1) := by decide +kernel
theorem dX6_rich_23 : decode cX6_rich 23 = .ok (.invokevirtual 143, 3) := by decide +kernel
theorem dX6_rich_26 : decode cX6_rich 26 = .ok (.astore 4, 2) := by decide +kernel
theorem dX6_rich_28 : decode cX6_rich 28 = .ok (.aload 4, 2) := by decide +kernel
theorem dX6_rich_30 : decode cX6_rich 30 = .ok (.ifnull 21, 3) := by decide +kernel
theorem dX6_rich_33 : decode cX6_rich 33 = .ok (.aload 4, 2) := by decide +kernel
theorem dX6_rich_35 : decode cX6_rich 35 = .ok (.getfield 105, 3) := by decide +kernel
theorem dX6_rich_38 : decode cX6_rich 38 = .ok (.iload_n 1, 1) := by decide +kernel
theorem dX6_rich_39 : decode cX6_rich 39 = .ok (.if_icmp .ne 12, 3) := by decide +kernel
theorem dX6_rich_42 : decode cX6_rich 42 = .ok (.iload_n 2, 1) := by decide +kernel
theorem dX6_rich_43 : decode cX6_rich 43 = .ok (.aload_n 0, 1) := by decide +kernel
theorem dX6_rich_44 : decode cX6_rich 44 = .ok (.aload 4, 2) := by decide +kernel
theorem dX6_rich_46 : decode cX6_rich 46 = .ok (.invokevirtual 153, 3) := by decide +kernel
theorem dX6_rich_49 : decode cX6_rich 49 = .ok (.iadd, 1) := by decide +kernel
theorem dX6_rich_50 : decode cX6_rich 50 = .ok (.istore_n 2, 1) := by decide +kernel
theorem dX6_rich_51 : decode cX6_rich 51 = .ok (.iinc 3 1, 3) := by decide +kernel
theorem dX6_rich_54 : decode cX6_rich 54 = .ok (.goto (-41), 3) := by decide +kernel
theorem dX6_rich_57 : decode cX6_rich 57 = .ok (.iload_n 2, 1) := by decide +kernel
theorem dX6_rich_58 : decode cX6_rich 58 = .ok (.ireturn, 1) := by decide +kernel
theorem dX6_drawn_0 : decode cX6_drawn 0 = .ok (.aload_n 0, 1) := by decide +kernel
theorem dX6_drawn_1 : decode cX6_drawn 1 = .ok (.iload_n 1, 1) := by decide +kernel
theorem dX6_drawn_2 : decode cX6_drawn 2 = .ok (.invokevirtual 143, 3) := by decide +kernel
theorem dX6_drawn_5 : decode cX6_drawn 5 = .ok (.astore 4, 2) := by decide +kernel
theorem dX6_drawn_7 : decode cX6_drawn 7 = .ok (.aload 4, 2) := by decide +kernel
theorem dX6_drawn_9 : decode cX6_drawn 9 = .ok (.ifnull 32, 3) := by decide +kernel
theorem dX6_drawn_12 : decode cX6_drawn 12 = .ok (.iload_n 2, 1) := by decide +kernel
theorem dX6_drawn_13 : decode cX6_drawn 13 = .ok (.ifCond .lt 28, 3) := by decide +kernel
theorem dX6_drawn_16 : decode cX6_drawn 16 = .ok (.iload_n 2, 1) := by decide +kernel
theorem dX6_drawn_17 : decode cX6_drawn 17 = .ok (.aload 4, 2) := by decide +kernel
theorem dX6_drawn_19 : decode cX6_drawn 19 = .ok (.getfield 96, 3) := by decide +kernel
theorem dX6_drawn_22 : decode cX6_drawn 22 = .ok (.if_icmp .ge 19, 3) := by decide +kernel
theorem dX6_drawn_25 : decode cX6_drawn 25 = .ok (.iload_n 3, 1) := by decide +kernel
theorem dX6_drawn_26 : decode cX6_drawn 26 = .ok (.iconst 1, 1) := by decide +kernel
theorem dX6_drawn_27 : decode cX6_drawn 27 = .ok (.if_icmp .lt 14, 3) := by decide +kernel
theorem dX6_drawn_30 : decode cX6_drawn 30 = .ok (.iload_n 3, 1) := by decide +kernel
theorem dX6_drawn_31 : decode cX6_drawn 31 = .ok (.aload 4, 2) := by decide +kernel
theorem dX6_drawn_33 : decode cX6_drawn 33 = .ok (.getfield 96, 3) := by decide +kernel
theorem dX6_drawn_36 : decode cX6_drawn 36 = .ok (.iload_n 2, 1) := by decide +kernel
theorem dX6_drawn_37 : decode cX6_drawn 37 = .ok (.isub, 1) := by decide +kernel
theorem dX6_drawn_38 : decode cX6_drawn 38 = .ok (.if_icmp .le 5, 3) := by decide +kernel
theorem dX6_drawn_41 : decode cX6_drawn 41 = .ok (.iconst (-1), 1) := by decide +kernel
theorem dX6_drawn_42 : decode cX6_drawn 42 = .ok (.ireturn, 1) := by decide +kernel
theorem dX6_drawn_43 : decode cX6_drawn 43 = .ok (.aload 4, 2) := by decide +kernel
theorem dX6_drawn_45 : decode cX6_drawn 45 = .ok (.iload_n 2, 1) := by decide +kernel
theorem dX6_drawn_46 : decode cX6_drawn 46 = .ok (.iload_n 3, 1) := by decide +kernel
theorem dX6_drawn_47 : decode cX6_drawn 47 = .ok (.invokevirtual 203, 3) := by decide +kernel
theorem dX6_drawn_50 : decode cX6_drawn 50 = .ok (.ireturn, 1) := by decide +kernel
theorem dX6_cheat_0 : decode cX6_cheat 0 = .ok (.aload_n 0, 1) := by decide +kernel
theorem dX6_cheat_1 : decode cX6_cheat 1 = .ok (.iload_n 1, 1) := by decide +kernel
theorem dX6_cheat_2 : decode cX6_cheat 2 = .ok (.invokevirtual 143, 3) := by decide +kernel
theorem dX6_cheat_5 : decode cX6_cheat 5 = .ok (.astore_n 3, 1) := by decide +kernel
theorem dX6_cheat_6 : decode cX6_cheat 6 = .ok (.aload_n 3, 1) := by decide +kernel
theorem dX6_cheat_7 : decode cX6_cheat 7 = .ok (.ifnonnull 5, 3) := by decide +kernel
theorem dX6_cheat_10 : decode cX6_cheat 10 = .ok (.iconst (-1), 1) := by decide +kernel
theorem dX6_cheat_11 : decode cX6_cheat 11 = .ok (.ireturn, 1) := by decide +kernel
theorem dX6_cheat_12 : decode cX6_cheat 12 = .ok (.iconst 0, 1) := by decide +kernel
theorem dX6_cheat_13 : decode cX6_cheat 13 = .ok (.istore 4, 2) := by decide +kernel
theorem dX6_cheat_15 : decode cX6_cheat 15 = .ok (.iload 4, 2) := by decide +kernel
theorem dX6_cheat_17 : decode cX6_cheat 17 = .ok (.aload_n 3, 1) := by decide +kernel
theorem dX6_cheat_18 : decode cX6_cheat 18 = .ok (.getfield 96, 3) := by decide +kernel
theorem dX6_cheat_21 : decode cX6_cheat 21 = .ok (.if_icmp .ge 22, 3) := by decide +kernel
theorem dX6_cheat_24 : decode cX6_cheat 24 = .ok (.aload_n 3, 1) := by decide +kernel
theorem dX6_cheat_25 : decode cX6_cheat 25 = .ok (.iload 4, 2) := by decide +kernel
theorem dX6_cheat_27 : decode cX6_cheat 27 = .ok (.invokevirtual 162, 3) := by decide +kernel
theorem dX6_cheat_30 : decode cX6_cheat 30 = .ok (.iload_n 2, 1) := by decide +kernel
theorem dX6_cheat_31 : decode cX6_cheat 31 = .ok (.if_icmp .ge 6, 3) := by decide +kernel
theorem dX6_cheat_34 : decode cX6_cheat 34 = .ok (.iload 4, 2) := by decide +kernel
theorem dX6_cheat_36 : decode cX6_cheat 36 = .ok (.ireturn, 1) := by decide +kernel
theorem dX6_cheat_37 : decode cX6_cheat 37 = .ok (.iinc 4 1, 3) := by decide +kernel
theorem dX6_cheat_40 : decode cX6_cheat 40 = .ok (.goto (-25), 3) := by decide +kernel
theorem dX6_cheat_43 : decode cX6_cheat 43 = .ok (.iconst (-1), 1) := by decide +kernel
theorem dX6_cheat_44 : decode cX6_cheat 44 = .ok (.ireturn, 1) := by decide +kernel
theorem dX6_blame_0 : decode cX6_blame 0 = .ok (.iload_n 1, 1) := by decide +kernel
theorem dX6_blame_1 : decode cX6_blame 1 = .ok (.invokestatic 197, 3) := by decide +kernel
theorem dX6_blame_4 : decode cX6_blame 4 = .ok (.ifCond .ne 5, 3) := by decide +kernel
theorem dX6_blame_7 : decode cX6_blame 7 = .ok (.iconst (-1), 1) := by decide +kernel
theorem dX6_blame_8 : decode cX6_blame 8 = .ok (.ireturn, 1) := by decide +kernel
theorem dX6_blame_9 : decode cX6_blame 9 = .ok (.aload_n 0, 1) := by decide +kernel
theorem dX6_blame_10 : decode cX6_blame 10 = .ok (.iload_n 1, 1) := by decide +kernel
theorem dX6_blame_11 : decode cX6_blame 11 = .ok (.invokevirtual 206, 3) := by decide +kernel
theorem dX6_blame_14 : decode cX6_blame 14 = .ok (.iconst (-1), 1) := by decide +kernel
theorem dX6_blame_15 : decode cX6_blame 15 = .ok (.istore_n 2, 1) := by decide +kernel
theorem dX6_blame_16 : decode cX6_blame 16 = .ok (.iconst 0, 1) := by decide +kernel
theorem dX6_blame_17 : decode cX6_blame 17 = .ok (.istore_n 3, 1) := by decide +kernel
theorem dX6_blame_18 : decode cX6_blame 18 = .ok (.iconst 0, 1) := by decide +kernel
theorem dX6_blame_19 : decode cX6_blame 19 = .ok (.istore 4, 2) := by decide +kernel
theorem dX6_blame_21 : decode cX6_blame 21 = .ok (.iload 4, 2) := by decide +kernel
theorem dX6_blame_23 : decode cX6_blame 23 = .ok (.bipush 10, 2) := by decide +kernel
theorem dX6_blame_25 : decode cX6_blame 25 = .ok (.if_icmp .ge 31, 3) := by decide +kernel
theorem dX6_blame_28 : decode cX6_blame 28 = .ok (.aload_n 0, 1) := by decide +kernel
theorem dX6_blame_29 : decode cX6_blame 29 = .ok (.getfield 19, 3) := by decide +kernel
theorem dX6_blame_32 : decode cX6_blame 32 = .ok (.iload 4, 2) := by decide +kernel
theorem dX6_blame_34 : decode cX6_blame 34 = .ok (.iaload, 1) := by decide +kernel
theorem dX6_blame_35 : decode cX6_blame 35 = .ok (.iload_n 3, 1) := by decide +kernel
theorem dX6_blame_36 : decode cX6_blame 36 = .ok (.if_icmp .le 14, 3) := by decide +kernel
theorem dX6_blame_39 : decode cX6_blame 39 = .ok (.aload_n 0, 1) := by decide +kernel
theorem dX6_blame_40 : decode cX6_blame 40 = .ok (.getfield 19, 3) := by decide +kernel
theorem dX6_blame_43 : decode cX6_blame 43 = .ok (.iload 4, 2) := by decide +kernel
theorem dX6_blame_45 : decode cX6_blame 45 = .ok (.iaload, 1) := by decide +kernel
theorem dX6_blame_46 : decode cX6_blame 46 = .ok (.istore_n 3, 1) := by decide +kernel
theorem dX6_blame_47 : decode cX6_blame 47 = .ok (.iload 4, 2) := by decide +kernel
theorem dX6_blame_49 : decode cX6_blame 49 = .ok (.istore_n 2, 1) := by decide +kernel
theorem dX6_blame_50 : decode cX6_blame 50 = .ok (.iinc 4 1, 3) := by decide +kernel
theorem dX6_blame_53 : decode cX6_blame 53 = .ok (.goto (-32), 3) := by decide +kernel
theorem dX6_blame_56 : decode cX6_blame 56 = .ok (.iload_n 2, 1) := by decide +kernel
theorem dX6_blame_57 : decode cX6_blame 57 = .ok (.ireturn, 1) := by decide +kernel
theorem dX6_serves_0 : decode cX6_serves 0 = .ok (.aload_n 0, 1) := by decide +kernel
theorem dX6_serves_1 : decode cX6_serves 1 = .ok (.iload_n 1, 1) := by decide +kernel
theorem dX6_serves_2 : decode cX6_serves 2 = .ok (.iload_n 2, 1) := by decide +kernel
theorem dX6_serves_3 : decode cX6_serves 3 = .ok (.invokevirtual 209, 3) := by decide +kernel
theorem dX6_serves_6 : decode cX6_serves 6 = .ok (.ireturn, 1) := by decide +kernel
theorem dX6_pay_0 : decode cX6_pay 0 = .ok (.iload_n 2, 1) := by decide +kernel
theorem dX6_pay_1 : decode cX6_pay 1 = .ok (.invokestatic 69, 3) := by decide +kernel
theorem dX6_pay_4 : decode cX6_pay 4 = .ok (.ifCond .eq 8, 3) := by decide +kernel
theorem dX6_pay_7 : decode cX6_pay 7 = .ok (.iload_n 1, 1) := by decide +kernel
theorem dX6_pay_8 : decode cX6_pay 8 = .ok (.iload_n 2, 1) := by decide +kernel
theorem dX6_pay_9 : decode cX6_pay 9 = .ok (.if_icmp .ne 5, 3) := by decide +kernel
theorem dX6_pay_12 : decode cX6_pay 12 = .ok (.iconst (-1), 1) := by decide +kernel
theorem dX6_pay_13 : decode cX6_pay 13 = .ok (.ireturn, 1) := by decide +kernel
theorem dX6_pay_14 : decode cX6_pay 14 = .ok (.aload_n 0, 1) := by decide +kernel
theorem dX6_pay_15 : decode cX6_pay 15 = .ok (.iload_n 1, 1) := by decide +kernel
theorem dX6_pay_16 : decode cX6_pay 16 = .ok (.iload_n 3, 1) := by decide +kernel
theorem dX6_pay_17 : decode cX6_pay 17 = .ok (.invokevirtual 209, 3) := by decide +kernel
theorem dX6_pay_20 : decode cX6_pay 20 = .ok (.istore 4, 2) := by decide +kernel
theorem dX6_pay_22 : decode cX6_pay 22 = .ok (.iload 4, 2) := by decide +kernel
theorem dX6_pay_24 : decode cX6_pay 24 = .ok (.ifCond .ge 6, 3) := by decide +kernel
theorem dX6_pay_27 : decode cX6_pay 27 = .ok (.iload 4, 2) := by decide +kernel
theorem dX6_pay_29 : decode cX6_pay 29 = .ok (.ireturn, 1) := by decide +kernel
theorem dX6_pay_30 : decode cX6_pay 30 = .ok (.aload_n 0, 1) := by decide +kernel
theorem dX6_pay_31 : decode cX6_pay 31 = .ok (.getfield 33, 3) := by decide +kernel
theorem dX6_pay_34 : decode cX6_pay 34 = .ok (.aload_n 0, 1) := by decide +kernel
theorem dX6_pay_35 : decode cX6_pay 35 = .ok (.invokevirtual 212, 3) := by decide +kernel
theorem dX6_pay_38 : decode cX6_pay 38 = .ok (.invokevirtual 102, 3) := by decide +kernel
theorem dX6_pay_41 : decode cX6_pay 41 = .ok (.ifCond .ne 5, 3) := by decide +kernel
theorem dX6_pay_44 : decode cX6_pay 44 = .ok (.iconst (-1), 1) := by decide +kernel
theorem dX6_pay_45 : decode cX6_pay 45 = .ok (.ireturn, 1) := by decide +kernel
theorem dX6_pay_46 : decode cX6_pay 46 = .ok (.aload_n 0, 1) := by decide +kernel
theorem dX6_pay_47 : decode cX6_pay 47 = .ok (.iload_n 2, 1) := by decide +kernel
theorem dX6_pay_48 : decode cX6_pay 48 = .ok (.invokevirtual 215, 3) := by decide +kernel
theorem dX6_pay_51 : decode cX6_pay 51 = .ok (.iload 4, 2) := by decide +kernel
theorem dX6_pay_53 : decode cX6_pay 53 = .ok (.iload_n 3, 1) := by decide +kernel
theorem dX6_pay_54 : decode cX6_pay 54 = .ok (.isub, 1) := by decide +kernel
theorem dX6_pay_55 : decode cX6_pay 55 = .ok (.ireturn, 1) := by decide +kernel
theorem dX6_owe_0 : decode cX6_owe 0 = .ok (.iload_n 1, 1) := by decide +kernel
theorem dX6_owe_1 : decode cX6_owe 1 = .ok (.invokestatic 69, 3) := by decide +kernel
theorem dX6_owe_4 : decode cX6_owe 4 = .ok (.ifCond .eq 23, 3) := by decide +kernel
theorem dX6_owe_7 : decode cX6_owe 7 = .ok (.iload_n 2, 1) := by decide +kernel
theorem dX6_owe_8 : decode cX6_owe 8 = .ok (.invokestatic 69, 3) := by decide +kernel
theorem dX6_owe_11 : decode cX6_owe 11 = .ok (.ifCond .eq 16, 3) := by decide +kernel
theorem dX6_owe_14 : decode cX6_owe 14 = .ok (.iload_n 1, 1) := by decide +kernel
theorem dX6_owe_15 : decode cX6_owe 15 = .ok (.iload_n 2, 1) := by decide +kernel
theorem dX6_owe_16 : decode cX6_owe 16 = .ok (.if_icmp .eq 11, 3) := by decide +kernel
theorem dX6_owe_19 : decode cX6_owe 19 = .ok (.iload 4, 2) := by decide +kernel
theorem dX6_owe_21 : decode cX6_owe 21 = .ok (.invokestatic 197, 3) := by decide +kernel
theorem dX6_owe_24 : decode cX6_owe 24 = .ok (.ifCond .ne 5, 3) := by decide +kernel
theorem dX6_owe_27 : decode cX6_owe 27 = .ok (.iconst (-1), 1) := by decide +kernel
theorem dX6_owe_28 : decode cX6_owe 28 = .ok (.ireturn, 1) := by decide +kernel
theorem dX6_owe_29 : decode cX6_owe 29 = .ok (.iload_n 3, 1) := by decide +kernel
theorem dX6_owe_30 : decode cX6_owe 30 = .ok (.iconst 1, 1) := by decide +kernel
theorem dX6_owe_31 : decode cX6_owe 31 = .ok (.if_icmp .lt 18, 3) := by decide +kernel
theorem dX6_owe_34 : decode cX6_owe 34 = .ok (.iload_n 3, 1) := by decide +kernel
theorem dX6_owe_35 : decode cX6_owe 35 = .ok (.bipush 99, 2) := by decide +kernel
theorem dX6_owe_37 : decode cX6_owe 37 = .ok (.if_icmp .gt 12, 3) := by decide +kernel
theorem dX6_owe_40 : decode cX6_owe 40 = .ok (.aload_n 0, 1) := by decide +kernel
theorem dX6_owe_41 : decode cX6_owe 41 = .ok (.getfield 50, 3) := by decide +kernel
theorem dX6_owe_44 : decode cX6_owe 44 = .ok (.bipush 60, 2) := by decide +kernel
theorem dX6_owe_46 : decode cX6_owe 46 = .ok (.if_icmp .lt 5, 3) := by decide +kernel
theorem dX6_owe_49 : decode cX6_owe 49 = .ok (.iconst (-1), 1) := by decide +kernel
theorem dX6_owe_50 : decode cX6_owe 50 = .ok (.ireturn, 1) := by decide +kernel
theorem dX6_owe_51 : decode cX6_owe 51 = .ok (.aload_n 0, 1) := by decide +kernel
theorem dX6_owe_52 : decode cX6_owe 52 = .ok (.getfield 46, 3) := by decide +kernel
theorem dX6_owe_55 : decode cX6_owe 55 = .ok (.aload_n 0, 1) := by decide +kernel
theorem dX6_owe_56 : decode cX6_owe 56 = .ok (.getfield 50, 3) := by decide +kernel
theorem dX6_owe_59 : decode cX6_owe 59 = .ok (.new 44, 3) := by decide +kernel
theorem dX6_owe_62 : decode cX6_owe 62 = .ok (.dup, 1) := by decide +kernel
theorem dX6_owe_63 : decode cX6_owe 63 = .ok (.iload_n 1, 1) := by decide +kernel
theorem dX6_owe_64 : decode cX6_owe 64 = .ok (.iload_n 2, 1) := by decide +kernel
theorem dX6_owe_65 : decode cX6_owe 65 = .ok (.iload_n 3, 1) := by decide +kernel
theorem dX6_owe_66 : decode cX6_owe 66 = .ok (.iload 4, 2) := by decide +kernel
theorem dX6_owe_68 : decode cX6_owe 68 = .ok (.invokespecial 218, 3) := by decide +kernel
theorem dX6_owe_71 : decode cX6_owe 71 = .ok (.aastore, 1) := by decide +kernel
theorem dX6_owe_72 : decode cX6_owe 72 = .ok (.aload_n 0, 1) := by decide +kernel
theorem dX6_owe_73 : decode cX6_owe 73 = .ok (.dup, 1) := by decide +kernel
theorem dX6_owe_74 : decode cX6_owe 74 = .ok (.getfield 50, 3) := by decide +kernel
theorem dX6_owe_77 : decode cX6_owe 77 = .ok (.iconst 1, 1) := by decide +kernel
theorem dX6_owe_78 : decode cX6_owe 78 = .ok (.iadd, 1) := by decide +kernel
theorem dX6_owe_79 : decode cX6_owe 79 = .ok (.putfield 50, 3) := by decide +kernel
theorem dX6_owe_82 : decode cX6_owe 82 = .ok (.aload_n 0, 1) := by decide +kernel
theorem dX6_owe_83 : decode cX6_owe 83 = .ok (.getfield 50, 3) := by decide +kernel
theorem dX6_owe_86 : decode cX6_owe 86 = .ok (.iconst 1, 1) := by decide +kernel
theorem dX6_owe_87 : decode cX6_owe 87 = .ok (.isub, 1) := by decide +kernel
theorem dX6_owe_88 : decode cX6_owe 88 = .ok (.ireturn, 1) := by decide +kernel
theorem dX6_settle_0 : decode cX6_settle 0 = .ok (.aload_n 0, 1) := by decide +kernel
theorem dX6_settle_1 : decode cX6_settle 1 = .ok (.iload_n 1, 1) := by decide +kernel
theorem dX6_settle_2 : decode cX6_settle 2 = .ok (.invokevirtual 220, 3) := by decide +kernel
theorem dX6_settle_5 : decode cX6_settle 5 = .ok (.astore_n 3, 1) := by decide +kernel
theorem dX6_settle_6 : decode cX6_settle 6 = .ok (.aload_n 0, 1) := by decide +kernel
theorem dX6_settle_7 : decode cX6_settle 7 = .ok (.iload_n 2, 1) := by decide +kernel
theorem dX6_settle_8 : decode cX6_settle 8 = .ok (.invokevirtual 92, 3) := by decide +kernel
theorem dX6_settle_11 : decode cX6_settle 11 = .ok (.astore 4, 2) := by decide +kernel
theorem dX6_settle_13 : decode cX6_settle 13 = .ok (.aload_n 3, 1) := by decide +kernel
theorem dX6_settle_14 : decode cX6_settle 14 = .ok (.ifnull 27, 3) := by decide +kernel
theorem dX6_settle_17 : decode cX6_settle 17 = .ok (.aload 4, 2) := by decide +kernel
theorem dX6_settle_19 : decode cX6_settle 19 = .ok (.ifnull 22, 3) := by decide +kernel
theorem dX6_settle_22 : decode cX6_settle 22 = .ok (.aload_n 3, 1) := by decide +kernel
theorem dX6_settle_23 : decode cX6_settle 23 = .ok (.invokevirtual 224, 3) := by decide +kernel
theorem dX6_settle_26 : decode cX6_settle 26 = .ok (.ifCond .ne 15, 3) := by decide +kernel
theorem dX6_settle_29 : decode cX6_settle 29 = .ok (.aload 4, 2) := by decide +kernel
theorem dX6_settle_31 : decode cX6_settle 31 = .ok (.getfield 105, 3) := by decide +kernel
theorem dX6_settle_34 : decode cX6_settle 34 = .ok (.aload_n 3, 1) := by decide +kernel
theorem dX6_settle_35 : decode cX6_settle 35 = .ok (.getfield 228, 3) := by decide +kernel
theorem dX6_settle_38 : decode cX6_settle 38 = .ok (.if_icmp .eq 5, 3) := by decide +kernel
theorem dX6_settle_41 : decode cX6_settle 41 = .ok (.iconst 0, 1) := by decide +kernel
theorem dX6_settle_42 : decode cX6_settle 42 = .ok (.ireturn, 1) := by decide +kernel
theorem dX6_settle_43 : decode cX6_settle 43 = .ok (.aload 4, 2) := by decide +kernel
theorem dX6_settle_45 : decode cX6_settle 45 = .ok (.invokevirtual 156, 3) := by decide +kernel
theorem dX6_settle_48 : decode cX6_settle 48 = .ok (.aload_n 3, 1) := by decide +kernel
theorem dX6_settle_49 : decode cX6_settle 49 = .ok (.getfield 231, 3) := by decide +kernel
theorem dX6_settle_52 : decode cX6_settle 52 = .ok (.if_icmp .lt 30, 3) := by decide +kernel
theorem dX6_settle_55 : decode cX6_settle 55 = .ok (.aload 4, 2) := by decide +kernel
theorem dX6_settle_57 : decode cX6_settle 57 = .ok (.invokevirtual 149, 3) := by decide +kernel
theorem dX6_settle_60 : decode cX6_settle 60 = .ok (.aload_n 3, 1) := by decide +kernel
theorem dX6_settle_61 : decode cX6_settle 61 = .ok (.getfield 233, 3) := by decide +kernel
theorem dX6_settle_64 : decode cX6_settle 64 = .ok (.if_icmp .lt 18, 3) := by decide +kernel
theorem dX6_settle_67 : decode cX6_settle 67 = .ok (.aload_n 0, 1) := by decide +kernel
theorem dX6_settle_68 : decode cX6_settle 68 = .ok (.getfield 33, 3) := by decide +kernel
theorem dX6_settle_71 : decode cX6_settle 71 = .ok (.aload 4, 2) := by decide +kernel
theorem dX6_settle_73 : decode cX6_settle 73 = .ok (.invokestatic 99, 3) := by decide +kernel
theorem dX6_settle_76 : decode cX6_settle 76 = .ok (.invokevirtual 102, 3) := by decide +kernel
theorem dX6_settle_79 : decode cX6_settle 79 = .ok (.ifCond .ne 5, 3) := by decide +kernel
theorem dX6_settle_82 : decode cX6_settle 82 = .ok (.iconst 0, 1) := by decide +kernel
theorem dX6_settle_83 : decode cX6_settle 83 = .ok (.ireturn, 1) := by decide +kernel
theorem dX6_settle_84 : decode cX6_settle 84 = .ok (.aload_n 0, 1) := by decide +kernel
theorem dX6_settle_85 : decode cX6_settle 85 = .ok (.aload 4, 2) := by decide +kernel
theorem dX6_settle_87 : decode cX6_settle 87 = .ok (.aload_n 3, 1) := by decide +kernel
theorem dX6_settle_88 : decode cX6_settle 88 = .ok (.getfield 236, 3) := by decide +kernel
theorem dX6_settle_91 : decode cX6_settle 91 = .ok (.invokevirtual 140, 3) := by decide +kernel
theorem dX6_settle_94 : decode cX6_settle 94 = .ok (.aload_n 3, 1) := by decide +kernel
theorem dX6_settle_95 : decode cX6_settle 95 = .ok (.iconst 0, 1) := by decide +kernel
theorem dX6_settle_96 : decode cX6_settle 96 = .ok (.putfield 231, 3) := by decide +kernel
theorem dX6_settle_99 : decode cX6_settle 99 = .ok (.aload_n 3, 1) := by decide +kernel
theorem dX6_settle_100 : decode cX6_settle 100 = .ok (.aload_n 0, 1) := by decide +kernel
theorem dX6_settle_101 : decode cX6_settle 101 = .ok (.getfield 66, 3) := by decide +kernel
theorem dX6_settle_104 : decode cX6_settle 104 = .ok (.putfield 239, 3) := by decide +kernel
theorem dX6_settle_107 : decode cX6_settle 107 = .ok (.iconst 1, 1) := by decide +kernel
theorem dX6_settle_108 : decode cX6_settle 108 = .ok (.ireturn, 1) := by decide +kernel
theorem dX6_debt_0 : decode cX6_debt 0 = .ok (.aload_n 0, 1) := by decide +kernel
theorem dX6_debt_1 : decode cX6_debt 1 = .ok (.iload_n 1, 1) := by decide +kernel
theorem dX6_debt_2 : decode cX6_debt 2 = .ok (.invokevirtual 220, 3) := by decide +kernel
theorem dX6_debt_5 : decode cX6_debt 5 = .ok (.astore_n 3, 1) := by decide +kernel
theorem dX6_debt_6 : decode cX6_debt 6 = .ok (.aload_n 3, 1) := by decide +kernel
theorem dX6_debt_7 : decode cX6_debt 7 = .ok (.ifnonnull 5, 3) := by decide +kernel
theorem dX6_debt_10 : decode cX6_debt 10 = .ok (.iconst (-1), 1) := by decide +kernel
theorem dX6_debt_11 : decode cX6_debt 11 = .ok (.ireturn, 1) := by decide +kernel
theorem dX6_debt_12 : decode cX6_debt 12 = .ok (.iload_n 2, 1) := by decide +kernel
theorem dX6_debt_13 : decode cX6_debt 13 = .ok (.tableswitch 60 0 4 #[35, 40, 45, 50, 55], 35) := by decide +kernel
theorem dX6_debt_48 : decode cX6_debt 48 = .ok (.aload_n 3, 1) := by decide +kernel
theorem dX6_debt_49 : decode cX6_debt 49 = .ok (.getfield 228, 3) := by decide +kernel
theorem dX6_debt_52 : decode cX6_debt 52 = .ok (.ireturn, 1) := by decide +kernel
theorem dX6_debt_53 : decode cX6_debt 53 = .ok (.aload_n 3, 1) := by decide +kernel
theorem dX6_debt_54 : decode cX6_debt 54 = .ok (.getfield 236, 3) := by decide +kernel
theorem dX6_debt_57 : decode cX6_debt 57 = .ok (.ireturn, 1) := by decide +kernel
theorem dX6_debt_58 : decode cX6_debt 58 = .ok (.aload_n 3, 1) := by decide +kernel
theorem dX6_debt_59 : decode cX6_debt 59 = .ok (.getfield 231, 3) := by decide +kernel
theorem dX6_debt_62 : decode cX6_debt 62 = .ok (.ireturn, 1) := by decide +kernel
theorem dX6_debt_63 : decode cX6_debt 63 = .ok (.aload_n 3, 1) := by decide +kernel
theorem dX6_debt_64 : decode cX6_debt 64 = .ok (.getfield 233, 3) := by decide +kernel
theorem dX6_debt_67 : decode cX6_debt 67 = .ok (.ireturn, 1) := by decide +kernel
theorem dX6_debt_68 : decode cX6_debt 68 = .ok (.aload_n 3, 1) := by decide +kernel
theorem dX6_debt_69 : decode cX6_debt 69 = .ok (.getfield 239, 3) := by decide +kernel
theorem dX6_debt_72 : decode cX6_debt 72 = .ok (.ireturn, 1) := by decide +kernel
theorem dX6_debt_73 : decode cX6_debt 73 = .ok (.iconst (-1), 1) := by decide +kernel
theorem dX6_debt_74 : decode cX6_debt 74 = .ok (.ireturn, 1) := by decide +kernel
theorem dX6_year_0 : decode cX6_year 0 = .ok (.aload_n 0, 1) := by decide +kernel
theorem dX6_year_1 : decode cX6_year 1 = .ok (.getfield 66, 3) := by decide +kernel
theorem dX6_year_4 : decode cX6_year 4 = .ok (.bipush 100, 2) := by decide +kernel
theorem dX6_year_6 : decode cX6_year 6 = .ok (.if_icmp .lt 5, 3) := by decide +kernel
theorem dX6_year_9 : decode cX6_year 9 = .ok (.iconst (-1), 1) := by decide +kernel
theorem dX6_year_10 : decode cX6_year 10 = .ok (.ireturn, 1) := by decide +kernel
theorem dX6_year_11 : decode cX6_year 11 = .ok (.aload_n 0, 1) := by decide +kernel
theorem dX6_year_12 : decode cX6_year 12 = .ok (.dup, 1) := by decide +kernel
theorem dX6_year_13 : decode cX6_year 13 = .ok (.getfield 66, 3) := by decide +kernel
theorem dX6_year_16 : decode cX6_year 16 = .ok (.iconst 1, 1) := by decide +kernel
theorem dX6_year_17 : decode cX6_year 17 = .ok (.iadd, 1) := by decide +kernel
theorem dX6_year_18 : decode cX6_year 18 = .ok (.putfield 66, 3) := by decide +kernel
theorem dX6_year_21 : decode cX6_year 21 = .ok (.iconst 0, 1) := by decide +kernel
theorem dX6_year_22 : decode cX6_year 22 = .ok (.istore_n 1, 1) := by decide +kernel
theorem dX6_year_23 : decode cX6_year 23 = .ok (.iload_n 1, 1) := by decide +kernel
theorem dX6_year_24 : decode cX6_year 24 = .ok (.aload_n 0, 1) := by decide +kernel
theorem dX6_year_25 : decode cX6_year 25 = .ok (.getfield 50, 3) := by decide +kernel
theorem dX6_year_28 : decode cX6_year 28 = .ok (.if_icmp .ge 27, 3) := by decide +kernel
theorem dX6_year_31 : decode cX6_year 31 = .ok (.aload_n 0, 1) := by decide +kernel
theorem dX6_year_32 : decode cX6_year 32 = .ok (.iload_n 1, 1) := by decide +kernel
theorem dX6_year_33 : decode cX6_year 33 = .ok (.invokevirtual 220, 3) := by decide +kernel
theorem dX6_year_36 : decode cX6_year 36 = .ok (.astore_n 2, 1) := by decide +kernel
theorem dX6_year_37 : decode cX6_year 37 = .ok (.aload_n 2, 1) := by decide +kernel
theorem dX6_year_38 : decode cX6_year 38 = .ok (.ifnull 11, 3) := by decide +kernel
theorem dX6_year_41 : decode cX6_year 41 = .ok (.aload_n 2, 1) := by decide +kernel
theorem dX6_year_42 : decode cX6_year 42 = .ok (.aload_n 0, 1) := by decide +kernel
theorem dX6_year_43 : decode cX6_year 43 = .ok (.getfield 63, 3) := by decide +kernel
theorem dX6_year_46 : decode cX6_year 46 = .ok (.invokevirtual 242, 3) := by decide +kernel
theorem dX6_year_49 : decode cX6_year 49 = .ok (.iinc 1 1, 3) := by decide +kernel
theorem dX6_year_52 : decode cX6_year 52 = .ok (.goto (-29), 3) := by decide +kernel
theorem dX6_year_55 : decode cX6_year 55 = .ok (.aload_n 0, 1) := by decide +kernel
theorem dX6_year_56 : decode cX6_year 56 = .ok (.getfield 66, 3) := by decide +kernel
theorem dX6_year_59 : decode cX6_year 59 = .ok (.ireturn, 1) := by decide +kernel
theorem dX6_count_0 : decode cX6_count 0 = .ok (.iload_n 1, 1) := by decide +kernel
theorem dX6_count_1 : decode cX6_count 1 = .ok (.tableswitch 96 0 7 #[47, 52, 57, 62, 67, 72, 80, 88], 47) := by decide +kernel
theorem dX6_count_48 : decode cX6_count 48 = .ok (.aload_n 0, 1) := by decide +kernel
theorem dX6_count_49 : decode cX6_count 49 = .ok (.getfield 15, 3) := by decide +kernel
theorem dX6_count_52 : decode cX6_count 52 = .ok (.ireturn, 1) := by decide +kernel
theorem dX6_count_53 : decode cX6_count 53 = .ok (.aload_n 0, 1) := by decide +kernel
theorem dX6_count_54 : decode cX6_count 54 = .ok (.invokevirtual 245, 3) := by decide +kernel
theorem dX6_count_57 : decode cX6_count 57 = .ok (.ireturn, 1) := by decide +kernel
theorem dX6_count_58 : decode cX6_count 58 = .ok (.aload_n 0, 1) := by decide +kernel
theorem dX6_count_59 : decode cX6_count 59 = .ok (.getfield 50, 3) := by decide +kernel
theorem dX6_count_62 : decode cX6_count 62 = .ok (.ireturn, 1) := by decide +kernel
theorem dX6_count_63 : decode cX6_count 63 = .ok (.aload_n 0, 1) := by decide +kernel
theorem dX6_count_64 : decode cX6_count 64 = .ok (.invokevirtual 248, 3) := by decide +kernel
theorem dX6_count_67 : decode cX6_count 67 = .ok (.ireturn, 1) := by decide +kernel
theorem dX6_count_68 : decode cX6_count 68 = .ok (.aload_n 0, 1) := by decide +kernel
theorem dX6_count_69 : decode cX6_count 69 = .ok (.getfield 66, 3) := by decide +kernel
theorem dX6_count_72 : decode cX6_count 72 = .ok (.ireturn, 1) := by decide +kernel
theorem dX6_count_73 : decode cX6_count 73 = .ok (.aload_n 0, 1) := by decide +kernel
theorem dX6_count_74 : decode cX6_count 74 = .ok (.getfield 33, 3) := by decide +kernel
theorem dX6_count_77 : decode cX6_count 77 = .ok (.getfield 251, 3) := by decide +kernel
theorem dX6_count_80 : decode cX6_count 80 = .ok (.ireturn, 1) := by decide +kernel
theorem dX6_count_81 : decode cX6_count 81 = .ok (.aload_n 0, 1) := by decide +kernel
theorem dX6_count_82 : decode cX6_count 82 = .ok (.getfield 26, 3) := by decide +kernel
theorem dX6_count_85 : decode cX6_count 85 = .ok (.invokevirtual 254, 3) := by decide +kernel
theorem dX6_count_88 : decode cX6_count 88 = .ok (.ireturn, 1) := by decide +kernel
theorem dX6_count_89 : decode cX6_count 89 = .ok (.aload_n 0, 1) := by decide +kernel
theorem dX6_count_90 : decode cX6_count 90 = .ok (.getfield 56, 3) := by decide +kernel
theorem dX6_count_93 : decode cX6_count 93 = .ok (.getfield 257, 3) := by decide +kernel
theorem dX6_count_96 : decode cX6_count 96 = .ok (.ireturn, 1) := by decide +kernel
theorem dX6_count_97 : decode cX6_count 97 = .ok (.iconst (-1), 1) := by decide +kernel
theorem dX6_count_98 : decode cX6_count 98 = .ok (.ireturn, 1) := by decide +kernel
theorem dX6_heap_0 : decode cX6_heap 0 = .ok (.aload_n 0, 1) := by decide +kernel
theorem dX6_heap_1 : decode cX6_heap 1 = .ok (.getfield 56, 3) := by decide +kernel
theorem dX6_heap_4 : decode cX6_heap 4 = .ok (.iload_n 1, 1) := by decide +kernel
theorem dX6_heap_5 : decode cX6_heap 5 = .ok (.iload_n 2, 1) := by decide +kernel
theorem dX6_heap_6 : decode cX6_heap 6 = .ok (.invokevirtual 258, 3) := by decide +kernel
theorem dX6_heap_9 : decode cX6_heap 9 = .ok (.ireturn, 1) := by decide +kernel
theorem dX6_strung_0 : decode cX6_strung 0 = .ok (.aload_n 0, 1) := by decide +kernel
theorem dX6_strung_1 : decode cX6_strung 1 = .ok (.getfield 56, 3) := by decide +kernel
theorem dX6_strung_4 : decode cX6_strung 4 = .ok (.aload_n 0, 1) := by decide +kernel
theorem dX6_strung_5 : decode cX6_strung 5 = .ok (.getfield 26, 3) := by decide +kernel
theorem dX6_strung_8 : decode cX6_strung 8 = .ok (.invokevirtual 262, 3) := by decide +kernel
theorem dX6_strung_11 : decode cX6_strung 11 = .ok (.aload_n 0, 1) := by decide +kernel
theorem dX6_strung_12 : decode cX6_strung 12 = .ok (.getfield 56, 3) := by decide +kernel
theorem dX6_strung_15 : decode cX6_strung 15 = .ok (.invokevirtual 266, 3) := by decide +kernel
theorem dX6_strung_18 : decode cX6_strung 18 = .ok (.ireturn, 1) := by decide +kernel
theorem dX6_strings_0 : decode cX6_strings 0 = .ok (.aload_n 0, 1) := by decide +kernel
theorem dX6_strings_1 : decode cX6_strings 1 = .ok (.getfield 56, 3) := by decide +kernel
theorem dX6_strings_4 : decode cX6_strings 4 = .ok (.aload_n 0, 1) := by decide +kernel
theorem dX6_strings_5 : decode cX6_strings 5 = .ok (.getfield 26, 3) := by decide +kernel
theorem dX6_strings_8 : decode cX6_strings 8 = .ok (.invokevirtual 262, 3) := by decide +kernel
theorem dX6_strings_11 : decode cX6_strings 11 = .ok (.aload_n 0, 1) := by decide +kernel
theorem dX6_strings_12 : decode cX6_strings 12 = .ok (.getfield 56, 3) := by decide +kernel
theorem dX6_strings_15 : decode cX6_strings 15 = .ok (.invokevirtual 269, 3) := by decide +kernel
theorem dX6_strings_18 : decode cX6_strings 18 = .ok (.ireturn, 1) := by decide +kernel
theorem dX6_part_0 : decode cX6_part 0 = .ok (.aload_n 0, 1) := by decide +kernel
theorem dX6_part_1 : decode cX6_part 1 = .ok (.getfield 56, 3) := by decide +kernel
theorem dX6_part_4 : decode cX6_part 4 = .ok (.aload_n 0, 1) := by decide +kernel
theorem dX6_part_5 : decode cX6_part 5 = .ok (.getfield 26, 3) := by decide +kernel
theorem dX6_part_8 : decode cX6_part 8 = .ok (.invokevirtual 262, 3) := by decide +kernel
theorem dX6_part_11 : decode cX6_part 11 = .ok (.aload_n 0, 1) := by decide +kernel
theorem dX6_part_12 : decode cX6_part 12 = .ok (.getfield 56, 3) := by decide +kernel
theorem dX6_part_15 : decode cX6_part 15 = .ok (.iload_n 1, 1) := by decide +kernel
theorem dX6_part_16 : decode cX6_part 16 = .ok (.invokevirtual 272, 3) := by decide +kernel
theorem dX6_part_19 : decode cX6_part 19 = .ok (.ireturn, 1) := by decide +kernel
theorem dX6_isOwner_0 : decode cX6_isOwner 0 = .ok (.iload_n 0, 1) := by decide +kernel
theorem dX6_isOwner_1 : decode cX6_isOwner 1 = .ok (.ifCond .lt 13, 3) := by decide +kernel
theorem dX6_isOwner_4 : decode cX6_isOwner 4 = .ok (.iload_n 0, 1) := by decide +kernel
theorem dX6_isOwner_5 : decode cX6_isOwner 5 = .ok (.bipush 10, 2) := by decide +kernel
theorem dX6_isOwner_7 : decode cX6_isOwner 7 = .ok (.if_icmp .ge 7, 3) := by decide +kernel
theorem dX6_isOwner_10 : decode cX6_isOwner 10 = .ok (.iconst 1, 1) := by decide +kernel
theorem dX6_isOwner_11 : decode cX6_isOwner 11 = .ok (.goto 4, 3) := by decide +kernel
theorem dX6_isOwner_14 : decode cX6_isOwner 14 = .ok (.iconst 0, 1) := by decide +kernel
theorem dX6_isOwner_15 : decode cX6_isOwner 15 = .ok (.ireturn, 1) := by decide +kernel
theorem dX6_isGrade_0 : decode cX6_isGrade 0 = .ok (.iload_n 0, 1) := by decide +kernel
theorem dX6_isGrade_1 : decode cX6_isGrade 1 = .ok (.ifCond .lt 12, 3) := by decide +kernel
theorem dX6_isGrade_4 : decode cX6_isGrade 4 = .ok (.iload_n 0, 1) := by decide +kernel
theorem dX6_isGrade_5 : decode cX6_isGrade 5 = .ok (.iconst 5, 1) := by decide +kernel
theorem dX6_isGrade_6 : decode cX6_isGrade 6 = .ok (.if_icmp .ge 7, 3) := by decide +kernel
theorem dX6_isGrade_9 : decode cX6_isGrade 9 = .ok (.iconst 1, 1) := by decide +kernel
theorem dX6_isGrade_10 : decode cX6_isGrade 10 = .ok (.goto 4, 3) := by decide +kernel
theorem dX6_isGrade_13 : decode cX6_isGrade 13 = .ok (.iconst 0, 1) := by decide +kernel
theorem dX6_isGrade_14 : decode cX6_isGrade 14 = .ok (.ireturn, 1) := by decide +kernel
theorem dX6_isName_0 : decode cX6_isName 0 = .ok (.iload_n 0, 1) := by decide +kernel
theorem dX6_isName_1 : decode cX6_isName 1 = .ok (.ifCond .le 13, 3) := by decide +kernel
theorem dX6_isName_4 : decode cX6_isName 4 = .ok (.iload_n 0, 1) := by decide +kernel
theorem dX6_isName_5 : decode cX6_isName 5 = .ok (.bipush 99, 2) := by decide +kernel
theorem dX6_isName_7 : decode cX6_isName 7 = .ok (.if_icmp .gt 7, 3) := by decide +kernel
theorem dX6_isName_10 : decode cX6_isName 10 = .ok (.iconst 1, 1) := by decide +kernel
theorem dX6_isName_11 : decode cX6_isName 11 = .ok (.goto 4, 3) := by decide +kernel
theorem dX6_isName_14 : decode cX6_isName 14 = .ok (.iconst 0, 1) := by decide +kernel
theorem dX6_isName_15 : decode cX6_isName 15 = .ok (.ireturn, 1) := by decide +kernel
theorem dX6_areBeads_0 : decode cX6_areBeads 0 = .ok (.iload_n 0, 1) := by decide +kernel
theorem dX6_areBeads_1 : decode cX6_areBeads 1 = .ok (.invokestatic 197, 3) := by decide +kernel
theorem dX6_areBeads_4 : decode cX6_areBeads 4 = .ok (.ifCond .eq 28, 3) := by decide +kernel
theorem dX6_areBeads_7 : decode cX6_areBeads 7 = .ok (.iload_n 1, 1) := by decide +kernel
theorem dX6_areBeads_8 : decode cX6_areBeads 8 = .ok (.ifCond .lt 24, 3) := by decide +kernel
theorem dX6_areBeads_11 : decode cX6_areBeads 11 = .ok (.iload_n 1, 1) := by decide +kernel
theorem dX6_areBeads_12 : decode cX6_areBeads 12 = .ok (.bipush 10, 2) := by decide +kernel
theorem dX6_areBeads_14 : decode cX6_areBeads 14 = .ok (.if_icmp .ge 18, 3) := by decide +kernel
theorem dX6_areBeads_17 : decode cX6_areBeads 17 = .ok (.iload_n 2, 1) := by decide +kernel
theorem dX6_areBeads_18 : decode cX6_areBeads 18 = .ok (.iconst 1, 1) := by decide +kernel
theorem dX6_areBeads_19 : decode cX6_areBeads 19 = .ok (.if_icmp .lt 13, 3) := by decide +kernel
theorem dX6_areBeads_22 : decode cX6_areBeads 22 = .ok (.iload_n 2, 1) := by decide +kernel
theorem dX6_areBeads_23 : decode cX6_areBeads 23 = .ok (.bipush 80, 2) := by decide +kernel
theorem dX6_areBeads_25 : decode cX6_areBeads 25 = .ok (.if_icmp .gt 7, 3) := by decide +kernel
theorem dX6_areBeads_28 : decode cX6_areBeads 28 = .ok (.iconst 1, 1) := by decide +kernel
theorem dX6_areBeads_29 : decode cX6_areBeads 29 = .ok (.goto 4, 3) := by decide +kernel
theorem dX6_areBeads_32 : decode cX6_areBeads 32 = .ok (.iconst 0, 1) := by decide +kernel
theorem dX6_areBeads_33 : decode cX6_areBeads 33 = .ok (.ireturn, 1) := by decide +kernel
theorem dX6_strandAt_0 : decode cX6_strandAt 0 = .ok (.iload_n 1, 1) := by decide +kernel
theorem dX6_strandAt_1 : decode cX6_strandAt 1 = .ok (.ifCond .lt 20, 3) := by decide +kernel
theorem dX6_strandAt_4 : decode cX6_strandAt 4 = .ok (.iload_n 1, 1) := by decide +kernel
theorem dX6_strandAt_5 : decode cX6_strandAt 5 = .ok (.aload_n 0, 1) := by decide +kernel
theorem dX6_strandAt_6 : decode cX6_strandAt 6 = .ok (.getfield 15, 3) := by decide +kernel
theorem dX6_strandAt_9 : decode cX6_strandAt 9 = .ok (.if_icmp .ge 12, 3) := by decide +kernel
theorem dX6_strandAt_12 : decode cX6_strandAt 12 = .ok (.iload_n 1, 1) := by decide +kernel
theorem dX6_strandAt_13 : decode cX6_strandAt 13 = .ok (.aload_n 0, 1) := by decide +kernel
theorem dX6_strandAt_14 : decode cX6_strandAt 14 = .ok (.getfield 11, 3) := by decide +kernel
theorem dX6_strandAt_17 : decode cX6_strandAt 17 = .ok (.arraylength, 1) := by decide +kernel
theorem dX6_strandAt_18 : decode cX6_strandAt 18 = .ok (.if_icmp .lt 5, 3) := by decide +kernel
theorem dX6_strandAt_21 : decode cX6_strandAt 21 = .ok (.aconst_null, 1) := by decide +kernel
theorem dX6_strandAt_22 : decode cX6_strandAt 22 = .ok (.areturn, 1) := by decide +kernel
theorem dX6_strandAt_23 : decode cX6_strandAt 23 = .ok (.aload_n 0, 1) := by decide +kernel
theorem dX6_strandAt_24 : decode cX6_strandAt 24 = .ok (.getfield 11, 3) := by decide +kernel
theorem dX6_strandAt_27 : decode cX6_strandAt 27 = .ok (.iload_n 1, 1) := by decide +kernel
theorem dX6_strandAt_28 : decode cX6_strandAt 28 = .ok (.aaload, 1) := by decide +kernel
theorem dX6_strandAt_29 : decode cX6_strandAt 29 = .ok (.areturn, 1) := by decide +kernel
theorem dX6_livingStrand_0 : decode cX6_livingStrand 0 = .ok (.aload_n 0, 1) := by decide +kernel
theorem dX6_livingStrand_1 : decode cX6_livingStrand 1 = .ok (.iload_n 1, 1) := by decide +kernel
theorem dX6_livingStrand_2 : decode cX6_livingStrand 2 = .ok (.invokevirtual 143, 3) := by decide +kernel
theorem dX6_livingStrand_5 : decode cX6_livingStrand 5 = .ok (.astore_n 2, 1) := by decide +kernel
theorem dX6_livingStrand_6 : decode cX6_livingStrand 6 = .ok (.aload_n 2, 1) := by decide +kernel
theorem dX6_livingStrand_7 : decode cX6_livingStrand 7 = .ok (.ifnull 10, 3) := by decide +kernel
theorem dX6_livingStrand_10 : decode cX6_livingStrand 10 = .ok (.aload_n 2, 1) := by decide +kernel
theorem dX6_livingStrand_11 : decode cX6_livingStrand 11 = .ok (.getfield 96, 3) := by decide +kernel
theorem dX6_livingStrand_14 : decode cX6_livingStrand 14 = .ok (.ifCond .ne 7, 3) := by decide +kernel
theorem dX6_livingStrand_17 : decode cX6_livingStrand 17 = .ok (.aconst_null, 1) := by decide +kernel
theorem dX6_livingStrand_18 : decode cX6_livingStrand 18 = .ok (.goto 4, 3) := by decide +kernel
theorem dX6_livingStrand_21 : decode cX6_livingStrand 21 = .ok (.aload_n 2, 1) := by decide +kernel
theorem dX6_livingStrand_22 : decode cX6_livingStrand 22 = .ok (.areturn, 1) := by decide +kernel
theorem dX6_keepStrand_0 : decode cX6_keepStrand 0 = .ok (.aload_n 0, 1) := by decide +kernel
theorem dX6_keepStrand_1 : decode cX6_keepStrand 1 = .ok (.getfield 15, 3) := by decide +kernel
theorem dX6_keepStrand_4 : decode cX6_keepStrand 4 = .ok (.aload_n 0, 1) := by decide +kernel
theorem dX6_keepStrand_5 : decode cX6_keepStrand 5 = .ok (.getfield 11, 3) := by decide +kernel
theorem dX6_keepStrand_8 : decode cX6_keepStrand 8 = .ok (.arraylength, 1) := by decide +kernel
theorem dX6_keepStrand_9 : decode cX6_keepStrand 9 = .ok (.if_icmp .lt 5, 3) := by decide +kernel
theorem dX6_keepStrand_12 : decode cX6_keepStrand 12 = .ok (.iconst (-1), 1) := by decide +kernel
theorem dX6_keepStrand_13 : decode cX6_keepStrand 13 = .ok (.ireturn, 1) := by decide +kernel
theorem dX6_keepStrand_14 : decode cX6_keepStrand 14 = .ok (.aload_n 0, 1) := by decide +kernel
theorem dX6_keepStrand_15 : decode cX6_keepStrand 15 = .ok (.getfield 11, 3) := by decide +kernel
theorem dX6_keepStrand_18 : decode cX6_keepStrand 18 = .ok (.aload_n 0, 1) := by decide +kernel
theorem dX6_keepStrand_19 : decode cX6_keepStrand 19 = .ok (.getfield 15, 3) := by decide +kernel
theorem dX6_keepStrand_22 : decode cX6_keepStrand 22 = .ok (.aload_n 1, 1) := by decide +kernel
theorem dX6_keepStrand_23 : decode cX6_keepStrand 23 = .ok (.aastore, 1) := by decide +kernel
theorem dX6_keepStrand_24 : decode cX6_keepStrand 24 = .ok (.aload_n 0, 1) := by decide +kernel
theorem dX6_keepStrand_25 : decode cX6_keepStrand 25 = .ok (.dup, 1) := by decide +kernel
theorem dX6_keepStrand_26 : decode cX6_keepStrand 26 = .ok (.getfield 15, 3) := by decide +kernel
theorem dX6_keepStrand_29 : decode cX6_keepStrand 29 = .ok (.iconst 1, 1) := by decide +kernel
theorem dX6_keepStrand_30 : decode cX6_keepStrand 30 = .ok (.iadd, 1) := by decide +kernel
theorem dX6_keepStrand_31 : decode cX6_keepStrand 31 = .ok (.putfield 15, 3) := by decide +kernel
theorem dX6_keepStrand_34 : decode cX6_keepStrand 34 = .ok (.aload_n 0, 1) := by decide +kernel
theorem dX6_keepStrand_35 : decode cX6_keepStrand 35 = .ok (.getfield 15, 3) := by decide +kernel
theorem dX6_keepStrand_38 : decode cX6_keepStrand 38 = .ok (.iconst 1, 1) := by decide +kernel
theorem dX6_keepStrand_39 : decode cX6_keepStrand 39 = .ok (.isub, 1) := by decide +kernel
theorem dX6_keepStrand_40 : decode cX6_keepStrand 40 = .ok (.ireturn, 1) := by decide +kernel
theorem dX6_debtAt_0 : decode cX6_debtAt 0 = .ok (.iload_n 1, 1) := by decide +kernel
theorem dX6_debtAt_1 : decode cX6_debtAt 1 = .ok (.ifCond .lt 20, 3) := by decide +kernel
theorem dX6_debtAt_4 : decode cX6_debtAt 4 = .ok (.iload_n 1, 1) := by decide +kernel
theorem dX6_debtAt_5 : decode cX6_debtAt 5 = .ok (.aload_n 0, 1) := by decide +kernel
theorem dX6_debtAt_6 : decode cX6_debtAt 6 = .ok (.getfield 50, 3) := by decide +kernel
theorem dX6_debtAt_9 : decode cX6_debtAt 9 = .ok (.if_icmp .ge 12, 3) := by decide +kernel
theorem dX6_debtAt_12 : decode cX6_debtAt 12 = .ok (.iload_n 1, 1) := by decide +kernel
theorem dX6_debtAt_13 : decode cX6_debtAt 13 = .ok (.aload_n 0, 1) := by decide +kernel
theorem dX6_debtAt_14 : decode cX6_debtAt 14 = .ok (.getfield 46, 3) := by decide +kernel
theorem dX6_debtAt_17 : decode cX6_debtAt 17 = .ok (.arraylength, 1) := by decide +kernel
theorem dX6_debtAt_18 : decode cX6_debtAt 18 = .ok (.if_icmp .lt 5, 3) := by decide +kernel
theorem dX6_debtAt_21 : decode cX6_debtAt 21 = .ok (.aconst_null, 1) := by decide +kernel
theorem dX6_debtAt_22 : decode cX6_debtAt 22 = .ok (.areturn, 1) := by decide +kernel
theorem dX6_debtAt_23 : decode cX6_debtAt 23 = .ok (.aload_n 0, 1) := by decide +kernel
theorem dX6_debtAt_24 : decode cX6_debtAt 24 = .ok (.getfield 46, 3) := by decide +kernel
theorem dX6_debtAt_27 : decode cX6_debtAt 27 = .ok (.iload_n 1, 1) := by decide +kernel
theorem dX6_debtAt_28 : decode cX6_debtAt 28 = .ok (.aaload, 1) := by decide +kernel
theorem dX6_debtAt_29 : decode cX6_debtAt 29 = .ok (.areturn, 1) := by decide +kernel
theorem dX6_goneCount_0 : decode cX6_goneCount 0 = .ok (.iconst 0, 1) := by decide +kernel
theorem dX6_goneCount_1 : decode cX6_goneCount 1 = .ok (.istore_n 1, 1) := by decide +kernel
theorem dX6_goneCount_2 : decode cX6_goneCount 2 = .ok (.iconst 0, 1) := by decide +kernel
theorem dX6_goneCount_3 : decode cX6_goneCount 3 = .ok (.istore_n 2, 1) := by decide +kernel
theorem dX6_goneCount_4 : decode cX6_goneCount 4 = .ok (.iload_n 2, 1) := by decide +kernel
theorem dX6_goneCount_5 : decode cX6_goneCount 5 = .ok (.aload_n 0, 1) := by decide +kernel
theorem dX6_goneCount_6 : decode cX6_goneCount 6 = .ok (.getfield 15, 3) := by decide +kernel
theorem dX6_goneCount_9 : decode cX6_goneCount 9 = .ok (.if_icmp .ge 20, 3) := by decide +kernel
theorem dX6_goneCount_12 : decode cX6_goneCount 12 = .ok (.aload_n 0, 1) := by decide +kernel
theorem dX6_goneCount_13 : decode cX6_goneCount 13 = .ok (.iload_n 2, 1) := by decide +kernel
theorem dX6_goneCount_14 : decode cX6_goneCount 14 = .ok (.invokevirtual 92, 3) := by decide +kernel
theorem dX6_goneCount_17 : decode cX6_goneCount 17 = .ok (.ifnonnull 6, 3) := by decide +kernel
theorem dX6_goneCount_20 : decode cX6_goneCount 20 = .ok (.iinc 1 1, 3) := by decide +kernel
theorem dX6_goneCount_23 : decode cX6_goneCount 23 = .ok (.iinc 2 1, 3) := by decide +kernel
theorem dX6_goneCount_26 : decode cX6_goneCount 26 = .ok (.goto (-22), 3) := by decide +kernel
theorem dX6_goneCount_29 : decode cX6_goneCount 29 = .ok (.iload_n 1, 1) := by decide +kernel
theorem dX6_goneCount_30 : decode cX6_goneCount 30 = .ok (.ireturn, 1) := by decide +kernel
theorem dX6_paidCount_0 : decode cX6_paidCount 0 = .ok (.iconst 0, 1) := by decide +kernel
theorem dX6_paidCount_1 : decode cX6_paidCount 1 = .ok (.istore_n 1, 1) := by decide +kernel
theorem dX6_paidCount_2 : decode cX6_paidCount 2 = .ok (.iconst 0, 1) := by decide +kernel
theorem dX6_paidCount_3 : decode cX6_paidCount 3 = .ok (.istore_n 2, 1) := by decide +kernel
theorem dX6_paidCount_4 : decode cX6_paidCount 4 = .ok (.iload_n 2, 1) := by decide +kernel
theorem dX6_paidCount_5 : decode cX6_paidCount 5 = .ok (.aload_n 0, 1) := by decide +kernel
theorem dX6_paidCount_6 : decode cX6_paidCount 6 = .ok (.getfield 50, 3) := by decide +kernel
theorem dX6_paidCount_9 : decode cX6_paidCount 9 = .ok (.if_icmp .ge 29, 3) := by decide +kernel
theorem dX6_paidCount_12 : decode cX6_paidCount 12 = .ok (.aload_n 0, 1) := by decide +kernel
theorem dX6_paidCount_13 : decode cX6_paidCount 13 = .ok (.iload_n 2, 1) := by decide +kernel
theorem dX6_paidCount_14 : decode cX6_paidCount 14 = .ok (.invokevirtual 220, 3) := by decide +kernel
theorem dX6_paidCount_17 : decode cX6_paidCount 17 = .ok (.astore_n 3, 1) := by decide +kernel
theorem dX6_paidCount_18 : decode cX6_paidCount 18 = .ok (.aload_n 3, 1) := by decide +kernel
theorem dX6_paidCount_19 : decode cX6_paidCount 19 = .ok (.ifnull 13, 3) := by decide +kernel
theorem dX6_paidCount_22 : decode cX6_paidCount 22 = .ok (.aload_n 3, 1) := by decide +kernel
theorem dX6_paidCount_23 : decode cX6_paidCount 23 = .ok (.invokevirtual 224, 3) := by decide +kernel
theorem dX6_paidCount_26 : decode cX6_paidCount 26 = .ok (.ifCond .eq 6, 3) := by decide +kernel
theorem dX6_paidCount_29 : decode cX6_paidCount 29 = .ok (.iinc 1 1, 3) := by decide +kernel
theorem dX6_paidCount_32 : decode cX6_paidCount 32 = .ok (.iinc 2 1, 3) := by decide +kernel
theorem dX6_paidCount_35 : decode cX6_paidCount 35 = .ok (.goto (-31), 3) := by decide +kernel
theorem dX6_paidCount_38 : decode cX6_paidCount 38 = .ok (.iload_n 1, 1) := by decide +kernel
theorem dX6_paidCount_39 : decode cX6_paidCount 39 = .ok (.ireturn, 1) := by decide +kernel
theorem dX6_tallyMakersBelow_0 : decode cX6_tallyMakersBelow 0 = .ok (.iconst 0, 1) := by decide +kernel
theorem dX6_tallyMakersBelow_1 : decode cX6_tallyMakersBelow 1 = .ok (.istore_n 2, 1) := by decide +kernel
theorem dX6_tallyMakersBelow_2 : decode cX6_tallyMakersBelow 2 = .ok (.iload_n 2, 1) := by decide +kernel
theorem dX6_tallyMakersBelow_3 : decode cX6_tallyMakersBelow 3 = .ok (.bipush 10, 2) := by decide +kernel
theorem dX6_tallyMakersBelow_5 : decode cX6_tallyMakersBelow 5 = .ok (.if_icmp .ge 16, 3) := by decide +kernel
theorem dX6_tallyMakersBelow_8 : decode cX6_tallyMakersBelow 8 = .ok (.aload_n 0, 1) := by decide +kernel
theorem dX6_tallyMakersBelow_9 : decode cX6_tallyMakersBelow 9 = .ok (.getfield 19, 3) := by decide +kernel
theorem dX6_tallyMakersBelow_12 : decode cX6_tallyMakersBelow 12 = .ok (.iload_n 2, 1) := by decide +kernel
theorem dX6_tallyMakersBelow_13 : decode cX6_tallyMakersBelow 13 = .ok (.iconst 0, 1) := by decide +kernel
theorem dX6_tallyMakersBelow_14 : decode cX6_tallyMakersBelow 14 = .ok (.iastore, 1) := by decide +kernel
theorem dX6_tallyMakersBelow_15 : decode cX6_tallyMakersBelow 15 = .ok (.iinc 2 1, 3) := by decide +kernel
theorem dX6_tallyMakersBelow_18 : decode cX6_tallyMakersBelow 18 = .ok (.goto (-16), 3) := by decide +kernel
theorem dX6_tallyMakersBelow_21 : decode cX6_tallyMakersBelow 21 = .ok (.iconst 0, 1) := by decide +kernel
theorem dX6_tallyMakersBelow_22 : decode cX6_tallyMakersBelow 22 = .ok (.istore_n 2, 1) := by decide +kernel
theorem dX6_tallyMakersBelow_23 : decode cX6_tallyMakersBelow 23 = .ok (.iload_n 2, 1) := by decide +kernel
theorem dX6_tallyMakersBelow_24 : decode cX6_tallyMakersBelow 24 = .ok (.aload_n 0, 1) := by decide +kernel
theorem dX6_tallyMakersBelow_25 : decode cX6_tallyMakersBelow 25 = .ok (.getfield 15, 3) := by decide +kernel
theorem dX6_tallyMakersBelow_28 : decode cX6_tallyMakersBelow 28 = .ok (.if_icmp .ge 28, 3) := by decide +kernel
theorem dX6_tallyMakersBelow_31 : decode cX6_tallyMakersBelow 31 = .ok (.aload_n 0, 1) := by decide +kernel
theorem dX6_tallyMakersBelow_32 : decode cX6_tallyMakersBelow 32 = .ok (.iload_n 2, 1) := by decide +kernel
theorem dX6_tallyMakersBelow_33 : decode cX6_tallyMakersBelow 33 = .ok (.invokevirtual 143, 3) := by decide +kernel
theorem dX6_tallyMakersBelow_36 : decode cX6_tallyMakersBelow 36 = .ok (.astore_n 3, 1) := by decide +kernel
theorem dX6_tallyMakersBelow_37 : decode cX6_tallyMakersBelow 37 = .ok (.aload_n 3, 1) := by decide +kernel
theorem dX6_tallyMakersBelow_38 : decode cX6_tallyMakersBelow 38 = .ok (.ifnull 12, 3) := by decide +kernel
theorem dX6_tallyMakersBelow_41 : decode cX6_tallyMakersBelow 41 = .ok (.aload_n 3, 1) := by decide +kernel
theorem dX6_tallyMakersBelow_42 : decode cX6_tallyMakersBelow 42 = .ok (.iload_n 1, 1) := by decide +kernel
theorem dX6_tallyMakersBelow_43 : decode cX6_tallyMakersBelow 43 = .ok (.aload_n 0, 1) := by decide +kernel
theorem dX6_tallyMakersBelow_44 : decode cX6_tallyMakersBelow 44 = .ok (.getfield 19, 3) := by decide +kernel
theorem dX6_tallyMakersBelow_47 : decode cX6_tallyMakersBelow 47 = .ok (.invokevirtual 275, 3) := by decide +kernel
theorem dX6_tallyMakersBelow_50 : decode cX6_tallyMakersBelow 50 = .ok (.iinc 2 1, 3) := by decide +kernel
theorem dX6_tallyMakersBelow_53 : decode cX6_tallyMakersBelow 53 = .ok (.goto (-30), 3) := by decide +kernel
theorem dX6_tallyMakersBelow_56 : decode cX6_tallyMakersBelow 56 = .ok (.return_, 1) := by decide +kernel
theorem dX6_nameCount_0 : decode cX6_nameCount 0 = .ok (.aload_n 0, 1) := by decide +kernel
theorem dX6_nameCount_1 : decode cX6_nameCount 1 = .ok (.getfield 112, 3) := by decide +kernel
theorem dX6_nameCount_4 : decode cX6_nameCount 4 = .ok (.ifCond .ne 7, 3) := by decide +kernel
theorem dX6_nameCount_7 : decode cX6_nameCount 7 = .ok (.iconst 0, 1) := by decide +kernel
theorem dX6_nameCount_8 : decode cX6_nameCount 8 = .ok (.goto 4, 3) := by decide +kernel
theorem dX6_nameCount_11 : decode cX6_nameCount 11 = .ok (.iconst 1, 1) := by decide +kernel
theorem dX6_nameCount_12 : decode cX6_nameCount 12 = .ok (.ireturn, 1) := by decide +kernel
theorem dX6_loseName_0 : decode cX6_loseName 0 = .ok (.aload_n 1, 1) := by decide +kernel
theorem dX6_loseName_1 : decode cX6_loseName 1 = .ok (.getfield 112, 3) := by decide +kernel
theorem dX6_loseName_4 : decode cX6_loseName 4 = .ok (.ifCond .eq 25, 3) := by decide +kernel
theorem dX6_loseName_7 : decode cX6_loseName 7 = .ok (.aload_n 0, 1) := by decide +kernel
theorem dX6_loseName_8 : decode cX6_loseName 8 = .ok (.getfield 33, 3) := by decide +kernel
theorem dX6_loseName_11 : decode cX6_loseName 11 = .ok (.aload_n 1, 1) := by decide +kernel
theorem dX6_loseName_12 : decode cX6_loseName 12 = .ok (.getfield 112, 3) := by decide +kernel
theorem dX6_loseName_15 : decode cX6_loseName 15 = .ok (.iconst 5, 1) := by decide +kernel
theorem dX6_loseName_16 : decode cX6_loseName 16 = .ok (.iconst 0, 1) := by decide +kernel
theorem dX6_loseName_17 : decode cX6_loseName 17 = .ok (.aload_n 0, 1) := by decide +kernel
theorem dX6_loseName_18 : decode cX6_loseName 18 = .ok (.getfield 66, 3) := by decide +kernel
theorem dX6_loseName_21 : decode cX6_loseName 21 = .ok (.invokevirtual 136, 3) := by decide +kernel
theorem dX6_loseName_24 : decode cX6_loseName 24 = .ok (.aload_n 1, 1) := by decide +kernel
theorem dX6_loseName_25 : decode cX6_loseName 25 = .ok (.iconst 0, 1) := by decide +kernel
theorem dX6_loseName_26 : decode cX6_loseName 26 = .ok (.putfield 112, 3) := by decide +kernel
theorem dX6_loseName_29 : decode cX6_loseName 29 = .ok (.return_, 1) := by decide +kernel
theorem dX6_settleNameOfCut_0 : decode cX6_settleNameOfCut 0 = .ok (.aload_n 0, 1) := by decide +kernel
theorem dX6_settleNameOfCut_1 : decode cX6_settleNameOfCut 1 = .ok (.getfield 60, 3) := by decide +kernel
theorem dX6_settleNameOfCut_4 : decode cX6_settleNameOfCut 4 = .ok (.ifCond .ne 9, 3) := by decide +kernel
theorem dX6_settleNameOfCut_7 : decode cX6_settleNameOfCut 7 = .ok (.aload_n 0, 1) := by decide +kernel
theorem dX6_settleNameOfCut_8 : decode cX6_settleNameOfCut 8 = .ok (.aload_n 1, 1) := by decide +kernel
theorem dX6_settleNameOfCut_9 : decode cX6_settleNameOfCut 9 = .ok (.invokevirtual 132, 3) := by decide +kernel
theorem dX6_settleNameOfCut_12 : decode cX6_settleNameOfCut 12 = .ok (.return_, 1) := by decide +kernel
theorem dX6_settleNameOfCut_13 : decode cX6_settleNameOfCut 13 = .ok (.aload_n 2, 1) := by decide +kernel
theorem dX6_settleNameOfCut_14 : decode cX6_settleNameOfCut 14 = .ok (.getfield 96, 3) := by decide +kernel
theorem dX6_settleNameOfCut_17 : decode cX6_settleNameOfCut 17 = .ok (.aload_n 1, 1) := by decide +kernel
theorem dX6_settleNameOfCut_18 : decode cX6_settleNameOfCut 18 = .ok (.getfield 96, 3) := by decide +kernel
theorem dX6_settleNameOfCut_21 : decode cX6_settleNameOfCut 21 = .ok (.if_icmp .le 7, 3) := by decide +kernel
theorem dX6_settleNameOfCut_24 : decode cX6_settleNameOfCut 24 = .ok (.aload_n 2, 1) := by decide +kernel
theorem dX6_settleNameOfCut_25 : decode cX6_settleNameOfCut 25 = .ok (.goto 4, 3) := by decide +kernel
theorem dX6_settleNameOfCut_28 : decode cX6_settleNameOfCut 28 = .ok (.aload_n 1, 1) := by decide +kernel
theorem dX6_settleNameOfCut_29 : decode cX6_settleNameOfCut 29 = .ok (.astore_n 3, 1) := by decide +kernel
theorem dX6_settleNameOfCut_30 : decode cX6_settleNameOfCut 30 = .ok (.aload_n 1, 1) := by decide +kernel
theorem dX6_settleNameOfCut_31 : decode cX6_settleNameOfCut 31 = .ok (.getfield 112, 3) := by decide +kernel
theorem dX6_settleNameOfCut_34 : decode cX6_settleNameOfCut 34 = .ok (.istore 4, 2) := by decide +kernel
theorem dX6_settleNameOfCut_36 : decode cX6_settleNameOfCut 36 = .ok (.aload_n 1, 1) := by decide +kernel
theorem dX6_settleNameOfCut_37 : decode cX6_settleNameOfCut 37 = .ok (.iconst 0, 1) := by decide +kernel
theorem dX6_settleNameOfCut_38 : decode cX6_settleNameOfCut 38 = .ok (.putfield 112, 3) := by decide +kernel
theorem dX6_settleNameOfCut_41 : decode cX6_settleNameOfCut 41 = .ok (.aload_n 3, 1) := by decide +kernel
theorem dX6_settleNameOfCut_42 : decode cX6_settleNameOfCut 42 = .ok (.iload 4, 2) := by decide +kernel
theorem dX6_settleNameOfCut_44 : decode cX6_settleNameOfCut 44 = .ok (.putfield 112, 3) := by decide +kernel
theorem dX6_settleNameOfCut_47 : decode cX6_settleNameOfCut 47 = .ok (.aload_n 0, 1) := by decide +kernel
theorem dX6_settleNameOfCut_48 : decode cX6_settleNameOfCut 48 = .ok (.getfield 33, 3) := by decide +kernel
theorem dX6_settleNameOfCut_51 : decode cX6_settleNameOfCut 51 = .ok (.iload 4, 2) := by decide +kernel
theorem dX6_settleNameOfCut_53 : decode cX6_settleNameOfCut 53 = .ok (.iconst 3, 1) := by decide +kernel
theorem dX6_settleNameOfCut_54 : decode cX6_settleNameOfCut 54 = .ok (.aload_n 3, 1) := by decide +kernel
theorem dX6_settleNameOfCut_55 : decode cX6_settleNameOfCut 55 = .ok (.getfield 96, 3) := by decide +kernel
theorem dX6_settleNameOfCut_58 : decode cX6_settleNameOfCut 58 = .ok (.aload_n 0, 1) := by decide +kernel
theorem dX6_settleNameOfCut_59 : decode cX6_settleNameOfCut 59 = .ok (.getfield 66, 3) := by decide +kernel
theorem dX6_settleNameOfCut_62 : decode cX6_settleNameOfCut 62 = .ok (.invokevirtual 136, 3) := by decide +kernel
theorem dX6_settleNameOfCut_65 : decode cX6_settleNameOfCut 65 = .ok (.return_, 1) := by decide +kernel
theorem dX6_settleNameOfJoined_0 : decode cX6_settleNameOfJoined 0 = .ok (.aload_n 1, 1) := by decide +kernel
theorem dX6_settleNameOfJoined_1 : decode cX6_settleNameOfJoined 1 = .ok (.getfield 112, 3) := by decide +kernel
theorem dX6_settleNameOfJoined_4 : decode cX6_settleNameOfJoined 4 = .ok (.ifCond .ne 19, 3) := by decide +kernel
theorem dX6_settleNameOfJoined_7 : decode cX6_settleNameOfJoined 7 = .ok (.aload_n 1, 1) := by decide +kernel
theorem dX6_settleNameOfJoined_8 : decode cX6_settleNameOfJoined 8 = .ok (.aload_n 2, 1) := by decide +kernel
theorem dX6_settleNameOfJoined_9 : decode cX6_settleNameOfJoined 9 = .ok (.getfield 112, 3) := by decide +kernel
theorem dX6_settleNameOfJoined_12 : decode cX6_settleNameOfJoined 12 = .ok (.putfield 112, 3) := by decide +kernel
theorem dX6_settleNameOfJoined_15 : decode cX6_settleNameOfJoined 15 = .ok (.aload_n 2, 1) := by decide +kernel
theorem dX6_settleNameOfJoined_16 : decode cX6_settleNameOfJoined 16 = .ok (.iconst 0, 1) := by decide +kernel
theorem dX6_settleNameOfJoined_17 : decode cX6_settleNameOfJoined 17 = .ok (.putfield 112, 3) := by decide +kernel
theorem dX6_settleNameOfJoined_20 : decode cX6_settleNameOfJoined 20 = .ok (.goto 8, 3) := by decide +kernel
theorem dX6_settleNameOfJoined_23 : decode cX6_settleNameOfJoined 23 = .ok (.aload_n 0, 1) := by decide +kernel
theorem dX6_settleNameOfJoined_24 : decode cX6_settleNameOfJoined 24 = .ok (.aload_n 2, 1) := by decide +kernel
theorem dX6_settleNameOfJoined_25 : decode cX6_settleNameOfJoined 25 = .ok (.invokevirtual 132, 3) := by decide +kernel
theorem dX6_settleNameOfJoined_28 : decode cX6_settleNameOfJoined 28 = .ok (.aload_n 1, 1) := by decide +kernel
theorem dX6_settleNameOfJoined_29 : decode cX6_settleNameOfJoined 29 = .ok (.getfield 112, 3) := by decide +kernel
theorem dX6_settleNameOfJoined_32 : decode cX6_settleNameOfJoined 32 = .ok (.ifCond .eq 23, 3) := by decide +kernel
theorem dX6_settleNameOfJoined_35 : decode cX6_settleNameOfJoined 35 = .ok (.aload_n 0, 1) := by decide +kernel
theorem dX6_settleNameOfJoined_36 : decode cX6_settleNameOfJoined 36 = .ok (.getfield 33, 3) := by decide +kernel
theorem dX6_settleNameOfJoined_39 : decode cX6_settleNameOfJoined 39 = .ok (.aload_n 1, 1) := by decide +kernel
theorem dX6_settleNameOfJoined_40 : decode cX6_settleNameOfJoined 40 = .ok (.getfield 112, 3) := by decide +kernel
theorem dX6_settleNameOfJoined_43 : decode cX6_settleNameOfJoined 43 = .ok (.iconst 4, 1) := by decide +kernel
theorem dX6_settleNameOfJoined_44 : decode cX6_settleNameOfJoined 44 = .ok (.aload_n 1, 1) := by decide +kernel
theorem dX6_settleNameOfJoined_45 : decode cX6_settleNameOfJoined 45 = .ok (.getfield 96, 3) := by decide +kernel
theorem dX6_settleNameOfJoined_48 : decode cX6_settleNameOfJoined 48 = .ok (.aload_n 0, 1) := by decide +kernel
theorem dX6_settleNameOfJoined_49 : decode cX6_settleNameOfJoined 49 = .ok (.getfield 66, 3) := by decide +kernel
theorem dX6_settleNameOfJoined_52 : decode cX6_settleNameOfJoined 52 = .ok (.invokevirtual 136, 3) := by decide +kernel
theorem dX6_settleNameOfJoined_55 : decode cX6_settleNameOfJoined 55 = .ok (.return_, 1) := by decide +kernel
theorem dX6_handOver_0 : decode cX6_handOver 0 = .ok (.aload_n 1, 1) := by decide +kernel
theorem dX6_handOver_1 : decode cX6_handOver 1 = .ok (.iload_n 2, 1) := by decide +kernel
theorem dX6_handOver_2 : decode cX6_handOver 2 = .ok (.putfield 105, 3) := by decide +kernel
theorem dX6_handOver_5 : decode cX6_handOver 5 = .ok (.aload_n 1, 1) := by decide +kernel
theorem dX6_handOver_6 : decode cX6_handOver 6 = .ok (.getfield 112, 3) := by decide +kernel
theorem dX6_handOver_9 : decode cX6_handOver 9 = .ok (.ifCond .eq 20, 3) := by decide +kernel
theorem dX6_handOver_12 : decode cX6_handOver 12 = .ok (.aload_n 0, 1) := by decide +kernel
theorem dX6_handOver_13 : decode cX6_handOver 13 = .ok (.getfield 33, 3) := by decide +kernel
theorem dX6_handOver_16 : decode cX6_handOver 16 = .ok (.aload_n 1, 1) := by decide +kernel
theorem dX6_handOver_17 : decode cX6_handOver 17 = .ok (.getfield 112, 3) := by decide +kernel
theorem dX6_handOver_20 : decode cX6_handOver 20 = .ok (.iconst 2, 1) := by decide +kernel
theorem dX6_handOver_21 : decode cX6_handOver 21 = .ok (.iload_n 2, 1) := by decide +kernel
theorem dX6_handOver_22 : decode cX6_handOver 22 = .ok (.aload_n 0, 1) := by decide +kernel
theorem dX6_handOver_23 : decode cX6_handOver 23 = .ok (.getfield 66, 3) := by decide +kernel
theorem dX6_handOver_26 : decode cX6_handOver 26 = .ok (.invokevirtual 136, 3) := by decide +kernel
theorem dX6_handOver_29 : decode cX6_handOver 29 = .ok (.return_, 1) := by decide +kernel
theorem dX6_worthOf_0 : decode cX6_worthOf 0 = .ok (.aload_n 1, 1) := by decide +kernel
theorem dX6_worthOf_1 : decode cX6_worthOf 1 = .ok (.getfield 96, 3) := by decide +kernel
theorem dX6_worthOf_4 : decode cX6_worthOf 4 = .ok (.ifCond .ne 5, 3) := by decide +kernel
theorem dX6_worthOf_7 : decode cX6_worthOf 7 = .ok (.iconst 0, 1) := by decide +kernel
theorem dX6_worthOf_8 : decode cX6_worthOf 8 = .ok (.ireturn, 1) := by decide +kernel
theorem dX6_worthOf_9 : decode cX6_worthOf 9 = .ok (.aload_n 1, 1) := by decide +kernel
theorem dX6_worthOf_10 : decode cX6_worthOf 10 = .ok (.getfield 112, 3) := by decide +kernel
theorem dX6_worthOf_13 : decode cX6_worthOf 13 = .ok (.ifCond .ne 7, 3) := by decide +kernel
theorem dX6_worthOf_16 : decode cX6_worthOf 16 = .ok (.iconst 0, 1) := by decide +kernel
theorem dX6_worthOf_17 : decode cX6_worthOf 17 = .ok (.goto 10, 3) := by decide +kernel
theorem dX6_worthOf_20 : decode cX6_worthOf 20 = .ok (.aload_n 0, 1) := by decide +kernel
theorem dX6_worthOf_21 : decode cX6_worthOf 21 = .ok (.getfield 26, 3) := by decide +kernel
theorem dX6_worthOf_24 : decode cX6_worthOf 24 = .ok (.getfield 278, 3) := by decide +kernel
theorem dX6_worthOf_27 : decode cX6_worthOf 27 = .ok (.istore_n 2, 1) := by decide +kernel
theorem dX6_worthOf_28 : decode cX6_worthOf 28 = .ok (.aload_n 0, 1) := by decide +kernel
theorem dX6_worthOf_29 : decode cX6_worthOf 29 = .ok (.getfield 26, 3) := by decide +kernel
theorem dX6_worthOf_32 : decode cX6_worthOf 32 = .ok (.aload_n 1, 1) := by decide +kernel
theorem dX6_worthOf_33 : decode cX6_worthOf 33 = .ok (.invokevirtual 149, 3) := by decide +kernel
theorem dX6_worthOf_36 : decode cX6_worthOf 36 = .ok (.aload_n 1, 1) := by decide +kernel
theorem dX6_worthOf_37 : decode cX6_worthOf 37 = .ok (.getfield 96, 3) := by decide +kernel
theorem dX6_worthOf_40 : decode cX6_worthOf 40 = .ok (.invokevirtual 281, 3) := by decide +kernel
theorem dX6_worthOf_43 : decode cX6_worthOf 43 = .ok (.iload_n 2, 1) := by decide +kernel
theorem dX6_worthOf_44 : decode cX6_worthOf 44 = .ok (.iadd, 1) := by decide +kernel
theorem dX6_worthOf_45 : decode cX6_worthOf 45 = .ok (.ireturn, 1) := by decide +kernel
theorem dX6_replaced_0 : decode cX6_replaced 0 = .ok (.iload_n 1, 1) := by decide +kernel
theorem dX6_replaced_1 : decode cX6_replaced 1 = .ok (.ifCond .lt 20, 3) := by decide +kernel
theorem dX6_replaced_4 : decode cX6_replaced 4 = .ok (.iload_n 1, 1) := by decide +kernel
theorem dX6_replaced_5 : decode cX6_replaced 5 = .ok (.aload_n 0, 1) := by decide +kernel
theorem dX6_replaced_6 : decode cX6_replaced 6 = .ok (.arraylength, 1) := by decide +kernel
theorem dX6_replaced_7 : decode cX6_replaced 7 = .ok (.if_icmp .ge 14, 3) := by decide +kernel
theorem dX6_replaced_10 : decode cX6_replaced 10 = .ok (.iload_n 2, 1) := by decide +kernel
theorem dX6_replaced_11 : decode cX6_replaced 11 = .ok (.iload_n 3, 1) := by decide +kernel
theorem dX6_replaced_12 : decode cX6_replaced 12 = .ok (.if_icmp .lt 9, 3) := by decide +kernel
theorem dX6_replaced_15 : decode cX6_replaced 15 = .ok (.iload_n 2, 1) := by decide +kernel
theorem dX6_replaced_16 : decode cX6_replaced 16 = .ok (.iload 4, 2) := by decide +kernel
theorem dX6_replaced_18 : decode cX6_replaced 18 = .ok (.if_icmp .le 5, 3) := by decide +kernel
theorem dX6_replaced_21 : decode cX6_replaced 21 = .ok (.iconst (-1), 1) := by decide +kernel
theorem dX6_replaced_22 : decode cX6_replaced 22 = .ok (.ireturn, 1) := by decide +kernel
theorem dX6_replaced_23 : decode cX6_replaced 23 = .ok (.aload_n 0, 1) := by decide +kernel
theorem dX6_replaced_24 : decode cX6_replaced 24 = .ok (.iload_n 1, 1) := by decide +kernel
theorem dX6_replaced_25 : decode cX6_replaced 25 = .ok (.iaload, 1) := by decide +kernel
theorem dX6_replaced_26 : decode cX6_replaced 26 = .ok (.istore 5, 2) := by decide +kernel
theorem dX6_replaced_28 : decode cX6_replaced 28 = .ok (.aload_n 0, 1) := by decide +kernel
theorem dX6_replaced_29 : decode cX6_replaced 29 = .ok (.iload_n 1, 1) := by decide +kernel
theorem dX6_replaced_30 : decode cX6_replaced 30 = .ok (.iload_n 2, 1) := by decide +kernel
theorem dX6_replaced_31 : decode cX6_replaced 31 = .ok (.iastore, 1) := by decide +kernel
theorem dX6_replaced_32 : decode cX6_replaced 32 = .ok (.iload 5, 2) := by decide +kernel
theorem dX6_replaced_34 : decode cX6_replaced 34 = .ok (.ireturn, 1) := by decide +kernel
theorem dX6_replacedFame_0 : decode cX6_replacedFame 0 = .ok (.iload_n 1, 1) := by decide +kernel
theorem dX6_replacedFame_1 : decode cX6_replacedFame 1 = .ok (.ifCond .lt 10, 3) := by decide +kernel
theorem dX6_replacedFame_4 : decode cX6_replacedFame 4 = .ok (.iload_n 1, 1) := by decide +kernel
theorem dX6_replacedFame_5 : decode cX6_replacedFame 5 = .ok (.sipush 500, 3) := by decide +kernel
theorem dX6_replacedFame_8 : decode cX6_replacedFame 8 = .ok (.if_icmp .le 5, 3) := by decide +kernel
theorem dX6_replacedFame_11 : decode cX6_replacedFame 11 = .ok (.iconst (-1), 1) := by decide +kernel
theorem dX6_replacedFame_12 : decode cX6_replacedFame 12 = .ok (.ireturn, 1) := by decide +kernel
theorem dX6_replacedFame_13 : decode cX6_replacedFame 13 = .ok (.aload_n 0, 1) := by decide +kernel
theorem dX6_replacedFame_14 : decode cX6_replacedFame 14 = .ok (.getfield 26, 3) := by decide +kernel
theorem dX6_replacedFame_17 : decode cX6_replacedFame 17 = .ok (.getfield 278, 3) := by decide +kernel
theorem dX6_replacedFame_20 : decode cX6_replacedFame 20 = .ok (.istore_n 2, 1) := by decide +kernel
theorem dX6_replacedFame_21 : decode cX6_replacedFame 21 = .ok (.aload_n 0, 1) := by decide +kernel
theorem dX6_replacedFame_22 : decode cX6_replacedFame 22 = .ok (.getfield 26, 3) := by decide +kernel
theorem dX6_replacedFame_25 : decode cX6_replacedFame 25 = .ok (.iload_n 1, 1) := by decide +kernel
theorem dX6_replacedFame_26 : decode cX6_replacedFame 26 = .ok (.putfield 278, 3) := by decide +kernel
theorem dX6_replacedFame_29 : decode cX6_replacedFame 29 = .ok (.iload_n 2, 1) := by decide +kernel
theorem dX6_replacedFame_30 : decode cX6_replacedFame 30 = .ok (.ireturn, 1) := by decide +kernel
theorem dX6_replacedCustom_0 : decode cX6_replacedCustom 0 = .ok (.iload_n 1, 1) := by decide +kernel
theorem dX6_replacedCustom_1 : decode cX6_replacedCustom 1 = .ok (.ifCond .lt 8, 3) := by decide +kernel
theorem dX6_replacedCustom_4 : decode cX6_replacedCustom 4 = .ok (.iload_n 1, 1) := by decide +kernel
theorem dX6_replacedCustom_5 : decode cX6_replacedCustom 5 = .ok (.iconst 1, 1) := by decide +kernel
theorem dX6_replacedCustom_6 : decode cX6_replacedCustom 6 = .ok (.if_icmp .le 5, 3) := by decide +kernel
theorem dX6_replacedCustom_9 : decode cX6_replacedCustom 9 = .ok (.iconst (-1), 1) := by decide +kernel
theorem dX6_replacedCustom_10 : decode cX6_replacedCustom 10 = .ok (.ireturn, 1) := by decide +kernel
theorem dX6_replacedCustom_11 : decode cX6_replacedCustom 11 = .ok (.aload_n 0, 1) := by decide +kernel
theorem dX6_replacedCustom_12 : decode cX6_replacedCustom 12 = .ok (.getfield 60, 3) := by decide +kernel
theorem dX6_replacedCustom_15 : decode cX6_replacedCustom 15 = .ok (.istore_n 2, 1) := by decide +kernel
theorem dX6_replacedCustom_16 : decode cX6_replacedCustom 16 = .ok (.aload_n 0, 1) := by decide +kernel
theorem dX6_replacedCustom_17 : decode cX6_replacedCustom 17 = .ok (.iload_n 1, 1) := by decide +kernel
theorem dX6_replacedCustom_18 : decode cX6_replacedCustom 18 = .ok (.putfield 60, 3) := by decide +kernel
theorem dX6_replacedCustom_21 : decode cX6_replacedCustom 21 = .ok (.iload_n 2, 1) := by decide +kernel
theorem dX6_replacedCustom_22 : decode cX6_replacedCustom 22 = .ok (.ireturn, 1) := by decide +kernel
theorem dX6_replacedInterest_0 : decode cX6_replacedInterest 0 = .ok (.iload_n 1, 1) := by decide +kernel
theorem dX6_replacedInterest_1 : decode cX6_replacedInterest 1 = .ok (.ifCond .lt 9, 3) := by decide +kernel
theorem dX6_replacedInterest_4 : decode cX6_replacedInterest 4 = .ok (.iload_n 1, 1) := by decide +kernel
theorem dX6_replacedInterest_5 : decode cX6_replacedInterest 5 = .ok (.bipush 50, 2) := by decide +kernel
theorem dX6_replacedInterest_7 : decode cX6_replacedInterest 7 = .ok (.if_icmp .le 5, 3) := by decide +kernel
theorem dX6_replacedInterest_10 : decode cX6_replacedInterest 10 = .ok (.iconst (-1), 1) := by decide +kernel
theorem dX6_replacedInterest_11 : decode cX6_replacedInterest 11 = .ok (.ireturn, 1) := by decide +kernel
theorem dX6_replacedInterest_12 : decode cX6_replacedInterest 12 = .ok (.aload_n 0, 1) := by decide +kernel
theorem dX6_replacedInterest_13 : decode cX6_replacedInterest 13 = .ok (.getfield 63, 3) := by decide +kernel
theorem dX6_replacedInterest_16 : decode cX6_replacedInterest 16 = .ok (.istore_n 2, 1) := by decide +kernel
theorem dX6_replacedInterest_17 : decode cX6_replacedInterest 17 = .ok (.aload_n 0, 1) := by decide +kernel
theorem dX6_replacedInterest_18 : decode cX6_replacedInterest 18 = .ok (.iload_n 1, 1) := by decide +kernel
theorem dX6_replacedInterest_19 : decode cX6_replacedInterest 19 = .ok (.putfield 63, 3) := by decide +kernel
theorem dX6_replacedInterest_22 : decode cX6_replacedInterest 22 = .ok (.iload_n 2, 1) := by decide +kernel
theorem dX6_replacedInterest_23 : decode cX6_replacedInterest 23 = .ok (.ireturn, 1) := by decide +kernel
theorem dX6_choosePayment_0 : decode cX6_choosePayment 0 = .ok (.iload_n 1, 1) := by decide +kernel
theorem dX6_choosePayment_1 : decode cX6_choosePayment 1 = .ok (.invokestatic 69, 3) := by decide +kernel
theorem dX6_choosePayment_4 : decode cX6_choosePayment 4 = .ok (.ifCond .eq 23, 3) := by decide +kernel
theorem dX6_choosePayment_7 : decode cX6_choosePayment 7 = .ok (.iload_n 2, 1) := by decide +kernel
theorem dX6_choosePayment_8 : decode cX6_choosePayment 8 = .ok (.iconst 1, 1) := by decide +kernel
theorem dX6_choosePayment_9 : decode cX6_choosePayment 9 = .ok (.if_icmp .lt 18, 3) := by decide +kernel
theorem dX6_choosePayment_12 : decode cX6_choosePayment 12 = .ok (.iload_n 2, 1) := by decide +kernel
theorem dX6_choosePayment_13 : decode cX6_choosePayment 13 = .ok (.ldc_w 284, 3) := by decide +kernel
theorem dX6_choosePayment_16 : decode cX6_choosePayment 16 = .ok (.if_icmp .gt 11, 3) := by decide +kernel
theorem dX6_choosePayment_19 : decode cX6_choosePayment 19 = .ok (.aload_n 0, 1) := by decide +kernel
theorem dX6_choosePayment_20 : decode cX6_choosePayment 20 = .ok (.iload_n 1, 1) := by decide +kernel
theorem dX6_choosePayment_21 : decode cX6_choosePayment 21 = .ok (.invokevirtual 285, 3) := by decide +kernel
theorem dX6_choosePayment_24 : decode cX6_choosePayment 24 = .ok (.ifCond .ne 5, 3) := by decide +kernel
theorem dX6_choosePayment_27 : decode cX6_choosePayment 27 = .ok (.iconst (-1), 1) := by decide +kernel
theorem dX6_choosePayment_28 : decode cX6_choosePayment 28 = .ok (.ireturn, 1) := by decide +kernel
theorem dX6_choosePayment_29 : decode cX6_choosePayment 29 = .ok (.aload_n 0, 1) := by decide +kernel
theorem dX6_choosePayment_30 : decode cX6_choosePayment 30 = .ok (.getfield 40, 3) := by decide +kernel
theorem dX6_choosePayment_33 : decode cX6_choosePayment 33 = .ok (.getfield 288, 3) := by decide +kernel
theorem dX6_choosePayment_36 : decode cX6_choosePayment 36 = .ok (.iload_n 2, 1) := by decide +kernel
theorem dX6_choosePayment_37 : decode cX6_choosePayment 37 = .ok (.if_icmp .ge 6, 3) := by decide +kernel
theorem dX6_choosePayment_40 : decode cX6_choosePayment 40 = .ok (.bipush (-2), 2) := by decide +kernel
theorem dX6_choosePayment_42 : decode cX6_choosePayment 42 = .ok (.ireturn, 1) := by decide +kernel
theorem dX6_choosePayment_43 : decode cX6_choosePayment 43 = .ok (.aload_n 0, 1) := by decide +kernel
theorem dX6_choosePayment_44 : decode cX6_choosePayment 44 = .ok (.getfield 40, 3) := by decide +kernel
theorem dX6_choosePayment_47 : decode cX6_choosePayment 47 = .ok (.iload_n 2, 1) := by decide +kernel
theorem dX6_choosePayment_48 : decode cX6_choosePayment 48 = .ok (.invokevirtual 291, 3) := by decide +kernel
theorem dX6_choosePayment_51 : decode cX6_choosePayment 51 = .ok (.aload_n 0, 1) := by decide +kernel
theorem dX6_choosePayment_52 : decode cX6_choosePayment 52 = .ok (.getfield 40, 3) := by decide +kernel
theorem dX6_choosePayment_55 : decode cX6_choosePayment 55 = .ok (.getfield 294, 3) := by decide +kernel
theorem dX6_choosePayment_58 : decode cX6_choosePayment 58 = .ok (.ireturn, 1) := by decide +kernel
theorem dX6_fillPurse_0 : decode cX6_fillPurse 0 = .ok (.aload_n 0, 1) := by decide +kernel
theorem dX6_fillPurse_1 : decode cX6_fillPurse 1 = .ok (.getfield 40, 3) := by decide +kernel
theorem dX6_fillPurse_4 : decode cX6_fillPurse 4 = .ok (.invokevirtual 297, 3) := by decide +kernel
theorem dX6_fillPurse_7 : decode cX6_fillPurse 7 = .ok (.iconst 0, 1) := by decide +kernel
theorem dX6_fillPurse_8 : decode cX6_fillPurse 8 = .ok (.istore_n 2, 1) := by decide +kernel
theorem dX6_fillPurse_9 : decode cX6_fillPurse 9 = .ok (.iload_n 2, 1) := by decide +kernel
theorem dX6_fillPurse_10 : decode cX6_fillPurse 10 = .ok (.aload_n 0, 1) := by decide +kernel
theorem dX6_fillPurse_11 : decode cX6_fillPurse 11 = .ok (.getfield 15, 3) := by decide +kernel
theorem dX6_fillPurse_14 : decode cX6_fillPurse 14 = .ok (.if_icmp .ge 45, 3) := by decide +kernel
theorem dX6_fillPurse_17 : decode cX6_fillPurse 17 = .ok (.aload_n 0, 1) := by decide +kernel
theorem dX6_fillPurse_18 : decode cX6_fillPurse 18 = .ok (.iload_n 2, 1) := by decide +kernel
theorem dX6_fillPurse_19 : decode cX6_fillPurse 19 = .ok (.invokevirtual 92, 3) := by decide +kernel
theorem dX6_fillPurse_22 : decode cX6_fillPurse 22 = .ok (.astore_n 3, 1) := by decide +kernel
theorem dX6_fillPurse_23 : decode cX6_fillPurse 23 = .ok (.aload_n 3, 1) := by decide +kernel
theorem dX6_fillPurse_24 : decode cX6_fillPurse 24 = .ok (.ifnull 29, 3) := by decide +kernel
theorem dX6_fillPurse_27 : decode cX6_fillPurse 27 = .ok (.aload_n 3, 1) := by decide +kernel
theorem dX6_fillPurse_28 : decode cX6_fillPurse 28 = .ok (.getfield 105, 3) := by decide +kernel
theorem dX6_fillPurse_31 : decode cX6_fillPurse 31 = .ok (.iload_n 1, 1) := by decide +kernel
theorem dX6_fillPurse_32 : decode cX6_fillPurse 32 = .ok (.if_icmp .ne 21, 3) := by decide +kernel
theorem dX6_fillPurse_35 : decode cX6_fillPurse 35 = .ok (.aload_n 0, 1) := by decide +kernel
theorem dX6_fillPurse_36 : decode cX6_fillPurse 36 = .ok (.getfield 40, 3) := by decide +kernel
theorem dX6_fillPurse_39 : decode cX6_fillPurse 39 = .ok (.iload_n 2, 1) := by decide +kernel
theorem dX6_fillPurse_40 : decode cX6_fillPurse 40 = .ok (.aload_n 0, 1) := by decide +kernel
theorem dX6_fillPurse_41 : decode cX6_fillPurse 41 = .ok (.aload_n 3, 1) := by decide +kernel
theorem dX6_fillPurse_42 : decode cX6_fillPurse 42 = .ok (.invokevirtual 153, 3) := by decide +kernel
theorem dX6_fillPurse_45 : decode cX6_fillPurse 45 = .ok (.invokevirtual 300, 3) := by decide +kernel
theorem dX6_fillPurse_48 : decode cX6_fillPurse 48 = .ok (.ifCond .ne 5, 3) := by decide +kernel
theorem dX6_fillPurse_51 : decode cX6_fillPurse 51 = .ok (.iconst 0, 1) := by decide +kernel
theorem dX6_fillPurse_52 : decode cX6_fillPurse 52 = .ok (.ireturn, 1) := by decide +kernel
theorem dX6_fillPurse_53 : decode cX6_fillPurse 53 = .ok (.iinc 2 1, 3) := by decide +kernel
theorem dX6_fillPurse_56 : decode cX6_fillPurse 56 = .ok (.goto (-47), 3) := by decide +kernel
theorem dX6_fillPurse_59 : decode cX6_fillPurse 59 = .ok (.iconst 1, 1) := by decide +kernel
theorem dX6_fillPurse_60 : decode cX6_fillPurse 60 = .ok (.ireturn, 1) := by decide +kernel
theorem dX6_chosenNames_0 : decode cX6_chosenNames 0 = .ok (.iconst 0, 1) := by decide +kernel
theorem dX6_chosenNames_1 : decode cX6_chosenNames 1 = .ok (.istore_n 1, 1) := by decide +kernel
theorem dX6_chosenNames_2 : decode cX6_chosenNames 2 = .ok (.iconst 0, 1) := by decide +kernel
theorem dX6_chosenNames_3 : decode cX6_chosenNames 3 = .ok (.istore_n 2, 1) := by decide +kernel
theorem dX6_chosenNames_4 : decode cX6_chosenNames 4 = .ok (.iload_n 2, 1) := by decide +kernel
theorem dX6_chosenNames_5 : decode cX6_chosenNames 5 = .ok (.aload_n 0, 1) := by decide +kernel
theorem dX6_chosenNames_6 : decode cX6_chosenNames 6 = .ok (.getfield 40, 3) := by decide +kernel
theorem dX6_chosenNames_9 : decode cX6_chosenNames 9 = .ok (.getfield 301, 3) := by decide +kernel
theorem dX6_chosenNames_12 : decode cX6_chosenNames 12 = .ok (.if_icmp .ge 33, 3) := by decide +kernel
theorem dX6_chosenNames_15 : decode cX6_chosenNames 15 = .ok (.aload_n 0, 1) := by decide +kernel
theorem dX6_chosenNames_16 : decode cX6_chosenNames 16 = .ok (.aload_n 0, 1) := by decide +kernel
theorem dX6_chosenNames_17 : decode cX6_chosenNames 17 = .ok (.getfield 40, 3) := by decide +kernel
theorem dX6_chosenNames_20 : decode cX6_chosenNames 20 = .ok (.iload_n 2, 1) := by decide +kernel
theorem dX6_chosenNames_21 : decode cX6_chosenNames 21 = .ok (.invokevirtual 302, 3) := by decide +kernel
theorem dX6_chosenNames_24 : decode cX6_chosenNames 24 = .ok (.invokevirtual 143, 3) := by decide +kernel
theorem dX6_chosenNames_27 : decode cX6_chosenNames 27 = .ok (.astore_n 3, 1) := by decide +kernel
theorem dX6_chosenNames_28 : decode cX6_chosenNames 28 = .ok (.aload_n 3, 1) := by decide +kernel
theorem dX6_chosenNames_29 : decode cX6_chosenNames 29 = .ok (.ifnull 10, 3) := by decide +kernel
theorem dX6_chosenNames_32 : decode cX6_chosenNames 32 = .ok (.iload_n 1, 1) := by decide +kernel
theorem dX6_chosenNames_33 : decode cX6_chosenNames 33 = .ok (.aload_n 3, 1) := by decide +kernel
theorem dX6_chosenNames_34 : decode cX6_chosenNames 34 = .ok (.invokestatic 99, 3) := by decide +kernel
theorem dX6_chosenNames_37 : decode cX6_chosenNames 37 = .ok (.iadd, 1) := by decide +kernel
theorem dX6_chosenNames_38 : decode cX6_chosenNames 38 = .ok (.istore_n 1, 1) := by decide +kernel
theorem dX6_chosenNames_39 : decode cX6_chosenNames 39 = .ok (.iinc 2 1, 3) := by decide +kernel
theorem dX6_chosenNames_42 : decode cX6_chosenNames 42 = .ok (.goto (-38), 3) := by decide +kernel
theorem dX6_chosenNames_45 : decode cX6_chosenNames 45 = .ok (.iload_n 1, 1) := by decide +kernel
theorem dX6_chosenNames_46 : decode cX6_chosenNames 46 = .ok (.ireturn, 1) := by decide +kernel
theorem dX6_handOverChosen_0 : decode cX6_handOverChosen 0 = .ok (.iconst 0, 1) := by decide +kernel
theorem dX6_handOverChosen_1 : decode cX6_handOverChosen 1 = .ok (.istore_n 2, 1) := by decide +kernel
theorem dX6_handOverChosen_2 : decode cX6_handOverChosen 2 = .ok (.iload_n 2, 1) := by decide +kernel
theorem dX6_handOverChosen_3 : decode cX6_handOverChosen 3 = .ok (.aload_n 0, 1) := by decide +kernel
theorem dX6_handOverChosen_4 : decode cX6_handOverChosen 4 = .ok (.getfield 40, 3) := by decide +kernel
theorem dX6_handOverChosen_7 : decode cX6_handOverChosen 7 = .ok (.getfield 301, 3) := by decide +kernel
theorem dX6_handOverChosen_10 : decode cX6_handOverChosen 10 = .ok (.if_icmp .ge 32, 3) := by decide +kernel
theorem dX6_handOverChosen_13 : decode cX6_handOverChosen 13 = .ok (.aload_n 0, 1) := by decide +kernel
theorem dX6_handOverChosen_14 : decode cX6_handOverChosen 14 = .ok (.aload_n 0, 1) := by decide +kernel
theorem dX6_handOverChosen_15 : decode cX6_handOverChosen 15 = .ok (.getfield 40, 3) := by decide +kernel
theorem dX6_handOverChosen_18 : decode cX6_handOverChosen 18 = .ok (.iload_n 2, 1) := by decide +kernel
theorem dX6_handOverChosen_19 : decode cX6_handOverChosen 19 = .ok (.invokevirtual 302, 3) := by decide +kernel
theorem dX6_handOverChosen_22 : decode cX6_handOverChosen 22 = .ok (.invokevirtual 143, 3) := by decide +kernel
theorem dX6_handOverChosen_25 : decode cX6_handOverChosen 25 = .ok (.astore_n 3, 1) := by decide +kernel
theorem dX6_handOverChosen_26 : decode cX6_handOverChosen 26 = .ok (.aload_n 3, 1) := by decide +kernel
theorem dX6_handOverChosen_27 : decode cX6_handOverChosen 27 = .ok (.ifnull 9, 3) := by decide +kernel
theorem dX6_handOverChosen_30 : decode cX6_handOverChosen 30 = .ok (.aload_n 0, 1) := by decide +kernel
theorem dX6_handOverChosen_31 : decode cX6_handOverChosen 31 = .ok (.aload_n 3, 1) := by decide +kernel
theorem dX6_handOverChosen_32 : decode cX6_handOverChosen 32 = .ok (.iload_n 1, 1) := by decide +kernel
theorem dX6_handOverChosen_33 : decode cX6_handOverChosen 33 = .ok (.invokevirtual 140, 3) := by decide +kernel
theorem dX6_handOverChosen_36 : decode cX6_handOverChosen 36 = .ok (.iinc 2 1, 3) := by decide +kernel
theorem dX6_handOverChosen_39 : decode cX6_handOverChosen 39 = .ok (.goto (-37), 3) := by decide +kernel
theorem dX6_handOverChosen_42 : decode cX6_handOverChosen 42 = .ok (.return_, 1) := by decide +kernel
