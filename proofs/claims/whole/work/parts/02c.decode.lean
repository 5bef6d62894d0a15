theorem dX3_begin_1 : decode cX3_begin 1 = .ok (.iconst 1, 1) := by decide +kernel
theorem dX3_begin_2 : decode cX3_begin 2 = .ok (.if_icmp .lt 9, 3) := by decide +kernel
theorem dX3_begin_5 : decode cX3_begin 5 = .ok (.iload_n 1, 1) := by decide +kernel
theorem dX3_begin_6 : decode cX3_begin 6 = .ok (.bipush 10, 2) := by decide +kernel
theorem dX3_begin_8 : decode cX3_begin 8 = .ok (.if_icmp .le 6, 3) := by decide +kernel
theorem dX3_begin_11 : decode cX3_begin 11 = .ok (.bipush (-2), 2) := by decide +kernel
theorem dX3_begin_13 : decode cX3_begin 13 = .ok (.ireturn, 1) := by decide +kernel
theorem dX3_begin_14 : decode cX3_begin 14 = .ok (.aload_n 0, 1) := by decide +kernel
theorem dX3_begin_15 : decode cX3_begin 15 = .ok (.getfield 10, 3) := by decide +kernel
theorem dX3_begin_18 : decode cX3_begin 18 = .ok (.invokevirtual 25, 3) := by decide +kernel
theorem dX3_begin_21 : decode cX3_begin 21 = .ok (.istore_n 2, 1) := by decide +kernel
theorem dX3_begin_22 : decode cX3_begin 22 = .ok (.aload_n 0, 1) := by decide +kernel
theorem dX3_begin_23 : decode cX3_begin 23 = .ok (.getfield 10, 3) := by decide +kernel
theorem dX3_begin_26 : decode cX3_begin 26 = .ok (.iload_n 1, 1) := by decide +kernel
theorem dX3_begin_27 : decode cX3_begin 27 = .ok (.putfield 29, 3) := by decide +kernel
theorem dX3_begin_30 : decode cX3_begin 30 = .ok (.aload_n 0, 1) := by decide +kernel
theorem dX3_begin_31 : decode cX3_begin 31 = .ok (.getfield 10, 3) := by decide +kernel
theorem dX3_begin_34 : decode cX3_begin 34 = .ok (.iconst 0, 1) := by decide +kernel
theorem dX3_begin_35 : decode cX3_begin 35 = .ok (.putfield 33, 3) := by decide +kernel
theorem dX3_begin_38 : decode cX3_begin 38 = .ok (.aload_n 0, 1) := by decide +kernel
theorem dX3_begin_39 : decode cX3_begin 39 = .ok (.invokevirtual 36, 3) := by decide +kernel
theorem dX3_begin_42 : decode cX3_begin 42 = .ok (.iload_n 2, 1) := by decide +kernel
theorem dX3_begin_43 : decode cX3_begin 43 = .ok (.ireturn, 1) := by decide +kernel
theorem dX3_join_0 : decode cX3_join 0 = .ok (.aload_n 0, 1) := by decide +kernel
theorem dX3_join_1 : decode cX3_join 1 = .ok (.getfield 10, 3) := by decide +kernel
theorem dX3_join_4 : decode cX3_join 4 = .ok (.iload_n 1, 1) := by decide +kernel
theorem dX3_join_5 : decode cX3_join 5 = .ok (.invokevirtual 39, 3) := by decide +kernel
theorem dX3_join_8 : decode cX3_join 8 = .ok (.ifCond .eq 19, 3) := by decide +kernel
theorem dX3_join_11 : decode cX3_join 11 = .ok (.aload_n 0, 1) := by decide +kernel
theorem dX3_join_12 : decode cX3_join 12 = .ok (.getfield 10, 3) := by decide +kernel
theorem dX3_join_15 : decode cX3_join 15 = .ok (.iload_n 2, 1) := by decide +kernel
theorem dX3_join_16 : decode cX3_join 16 = .ok (.invokevirtual 39, 3) := by decide +kernel
theorem dX3_join_19 : decode cX3_join 19 = .ok (.ifCond .eq 8, 3) := by decide +kernel
theorem dX3_join_22 : decode cX3_join 22 = .ok (.iload_n 1, 1) := by decide +kernel
theorem dX3_join_23 : decode cX3_join 23 = .ok (.iload_n 2, 1) := by decide +kernel
theorem dX3_join_24 : decode cX3_join 24 = .ok (.if_icmp .ne 6, 3) := by decide +kernel
theorem dX3_join_27 : decode cX3_join 27 = .ok (.bipush (-2), 2) := by decide +kernel
theorem dX3_join_29 : decode cX3_join 29 = .ok (.ireturn, 1) := by decide +kernel
theorem dX3_join_30 : decode cX3_join 30 = .ok (.aload_n 0, 1) := by decide +kernel
theorem dX3_join_31 : decode cX3_join 31 = .ok (.getfield 10, 3) := by decide +kernel
theorem dX3_join_34 : decode cX3_join 34 = .ok (.invokevirtual 43, 3) := by decide +kernel
theorem dX3_join_37 : decode cX3_join 37 = .ok (.istore_n 3, 1) := by decide +kernel
theorem dX3_join_38 : decode cX3_join 38 = .ok (.iload_n 3, 1) := by decide +kernel
theorem dX3_join_39 : decode cX3_join 39 = .ok (.iconst (-1), 1) := by decide +kernel
theorem dX3_join_40 : decode cX3_join 40 = .ok (.if_icmp .ne 6, 3) := by decide +kernel
theorem dX3_join_43 : decode cX3_join 43 = .ok (.bipush (-3), 2) := by decide +kernel
theorem dX3_join_45 : decode cX3_join 45 = .ok (.ireturn, 1) := by decide +kernel
theorem dX3_join_46 : decode cX3_join 46 = .ok (.aload_n 0, 1) := by decide +kernel
theorem dX3_join_47 : decode cX3_join 47 = .ok (.getfield 10, 3) := by decide +kernel
theorem dX3_join_50 : decode cX3_join 50 = .ok (.getfield 46, 3) := by decide +kernel
theorem dX3_join_53 : decode cX3_join 53 = .ok (.iload_n 3, 1) := by decide +kernel
theorem dX3_join_54 : decode cX3_join 54 = .ok (.iload_n 1, 1) := by decide +kernel
theorem dX3_join_55 : decode cX3_join 55 = .ok (.iload_n 2, 1) := by decide +kernel
theorem dX3_join_56 : decode cX3_join 56 = .ok (.invokestatic 50, 3) := by decide +kernel
theorem dX3_join_59 : decode cX3_join 59 = .ok (.iastore, 1) := by decide +kernel
theorem dX3_join_60 : decode cX3_join 60 = .ok (.aload_n 0, 1) := by decide +kernel
theorem dX3_join_61 : decode cX3_join 61 = .ok (.getfield 10, 3) := by decide +kernel
theorem dX3_join_64 : decode cX3_join 64 = .ok (.getfield 56, 3) := by decide +kernel
theorem dX3_join_67 : decode cX3_join 67 = .ok (.iload_n 3, 1) := by decide +kernel
theorem dX3_join_68 : decode cX3_join 68 = .ok (.iload_n 1, 1) := by decide +kernel
theorem dX3_join_69 : decode cX3_join 69 = .ok (.iload_n 2, 1) := by decide +kernel
theorem dX3_join_70 : decode cX3_join 70 = .ok (.invokestatic 59, 3) := by decide +kernel
theorem dX3_join_73 : decode cX3_join 73 = .ok (.iastore, 1) := by decide +kernel
theorem dX3_join_74 : decode cX3_join 74 = .ok (.aload_n 0, 1) := by decide +kernel
theorem dX3_join_75 : decode cX3_join 75 = .ok (.getfield 10, 3) := by decide +kernel
theorem dX3_join_78 : decode cX3_join 78 = .ok (.dup, 1) := by decide +kernel
theorem dX3_join_79 : decode cX3_join 79 = .ok (.getfield 33, 3) := by decide +kernel
theorem dX3_join_82 : decode cX3_join 82 = .ok (.iconst 1, 1) := by decide +kernel
theorem dX3_join_83 : decode cX3_join 83 = .ok (.iload_n 3, 1) := by decide +kernel
theorem dX3_join_84 : decode cX3_join 84 = .ok (.ishl, 1) := by decide +kernel
theorem dX3_join_85 : decode cX3_join 85 = .ok (.ior, 1) := by decide +kernel
theorem dX3_join_86 : decode cX3_join 86 = .ok (.putfield 33, 3) := by decide +kernel
theorem dX3_join_89 : decode cX3_join 89 = .ok (.aload_n 0, 1) := by decide +kernel
theorem dX3_join_90 : decode cX3_join 90 = .ok (.invokevirtual 36, 3) := by decide +kernel
theorem dX3_join_93 : decode cX3_join 93 = .ok (.iload_n 3, 1) := by decide +kernel
theorem dX3_join_94 : decode cX3_join 94 = .ok (.ireturn, 1) := by decide +kernel
theorem dX3_cut_0 : decode cX3_cut 0 = .ok (.aload_n 0, 1) := by decide +kernel
theorem dX3_cut_1 : decode cX3_cut 1 = .ok (.getfield 10, 3) := by decide +kernel
theorem dX3_cut_4 : decode cX3_cut 4 = .ok (.iload_n 1, 1) := by decide +kernel
theorem dX3_cut_5 : decode cX3_cut 5 = .ok (.invokevirtual 62, 3) := by decide +kernel
theorem dX3_cut_8 : decode cX3_cut 8 = .ok (.ifCond .ne 5, 3) := by decide +kernel
theorem dX3_cut_11 : decode cX3_cut 11 = .ok (.iconst (-1), 1) := by decide +kernel
theorem dX3_cut_12 : decode cX3_cut 12 = .ok (.ireturn, 1) := by decide +kernel
theorem dX3_cut_13 : decode cX3_cut 13 = .ok (.aload_n 0, 1) := by decide +kernel
theorem dX3_cut_14 : decode cX3_cut 14 = .ok (.getfield 10, 3) := by decide +kernel
theorem dX3_cut_17 : decode cX3_cut 17 = .ok (.dup, 1) := by decide +kernel
theorem dX3_cut_18 : decode cX3_cut 18 = .ok (.getfield 33, 3) := by decide +kernel
theorem dX3_cut_21 : decode cX3_cut 21 = .ok (.iconst 1, 1) := by decide +kernel
theorem dX3_cut_22 : decode cX3_cut 22 = .ok (.iload_n 1, 1) := by decide +kernel
theorem dX3_cut_23 : decode cX3_cut 23 = .ok (.ishl, 1) := by decide +kernel
theorem dX3_cut_24 : decode cX3_cut 24 = .ok (.iconst (-1), 1) := by decide +kernel
theorem dX3_cut_25 : decode cX3_cut 25 = .ok (.ixor, 1) := by decide +kernel
theorem dX3_cut_26 : decode cX3_cut 26 = .ok (.iand, 1) := by decide +kernel
theorem dX3_cut_27 : decode cX3_cut 27 = .ok (.putfield 33, 3) := by decide +kernel
theorem dX3_cut_30 : decode cX3_cut 30 = .ok (.aload_n 0, 1) := by decide +kernel
theorem dX3_cut_31 : decode cX3_cut 31 = .ok (.invokevirtual 36, 3) := by decide +kernel
theorem dX3_cut_34 : decode cX3_cut 34 = .ok (.aload_n 0, 1) := by decide +kernel
theorem dX3_cut_35 : decode cX3_cut 35 = .ok (.getfield 10, 3) := by decide +kernel
theorem dX3_cut_38 : decode cX3_cut 38 = .ok (.getfield 46, 3) := by decide +kernel
theorem dX3_cut_41 : decode cX3_cut 41 = .ok (.iload_n 1, 1) := by decide +kernel
theorem dX3_cut_42 : decode cX3_cut 42 = .ok (.iaload, 1) := by decide +kernel
theorem dX3_cut_43 : decode cX3_cut 43 = .ok (.bipush 10, 2) := by decide +kernel
theorem dX3_cut_45 : decode cX3_cut 45 = .ok (.imul, 1) := by decide +kernel
theorem dX3_cut_46 : decode cX3_cut 46 = .ok (.aload_n 0, 1) := by decide +kernel
theorem dX3_cut_47 : decode cX3_cut 47 = .ok (.getfield 10, 3) := by decide +kernel
theorem dX3_cut_50 : decode cX3_cut 50 = .ok (.getfield 56, 3) := by decide +kernel
theorem dX3_cut_53 : decode cX3_cut 53 = .ok (.iload_n 1, 1) := by decide +kernel
theorem dX3_cut_54 : decode cX3_cut 54 = .ok (.iaload, 1) := by decide +kernel
theorem dX3_cut_55 : decode cX3_cut 55 = .ok (.iadd, 1) := by decide +kernel
theorem dX3_cut_56 : decode cX3_cut 56 = .ok (.ireturn, 1) := by decide +kernel
theorem dX3_most_0 : decode cX3_most 0 = .ok (.iload_n 1, 1) := by decide +kernel
theorem dX3_most_1 : decode cX3_most 1 = .ok (.invokestatic 65, 3) := by decide +kernel
theorem dX3_most_4 : decode cX3_most 4 = .ok (.ifCond .eq 14, 3) := by decide +kernel
theorem dX3_most_7 : decode cX3_most 7 = .ok (.aload_n 0, 1) := by decide +kernel
theorem dX3_most_8 : decode cX3_most 8 = .ok (.iload_n 1, 1) := by decide +kernel
theorem dX3_most_9 : decode cX3_most 9 = .ok (.invokevirtual 68, 3) := by decide +kernel
theorem dX3_most_12 : decode cX3_most 12 = .ok (.getfield 72, 3) := by decide +kernel
theorem dX3_most_15 : decode cX3_most 15 = .ok (.goto 5, 3) := by decide +kernel
theorem dX3_most_18 : decode cX3_most 18 = .ok (.bipush (-2), 2) := by decide +kernel
theorem dX3_most_20 : decode cX3_most 20 = .ok (.ireturn, 1) := by decide +kernel
theorem dX3_held_0 : decode cX3_held 0 = .ok (.iload_n 1, 1) := by decide +kernel
theorem dX3_held_1 : decode cX3_held 1 = .ok (.invokestatic 65, 3) := by decide +kernel
theorem dX3_held_4 : decode cX3_held 4 = .ok (.ifCond .ne 6, 3) := by decide +kernel
theorem dX3_held_7 : decode cX3_held 7 = .ok (.bipush (-2), 2) := by decide +kernel
theorem dX3_held_9 : decode cX3_held 9 = .ok (.ireturn, 1) := by decide +kernel
theorem dX3_held_10 : decode cX3_held 10 = .ok (.aload_n 0, 1) := by decide +kernel
theorem dX3_held_11 : decode cX3_held 11 = .ok (.getfield 10, 3) := by decide +kernel
theorem dX3_held_14 : decode cX3_held 14 = .ok (.iload_n 2, 1) := by decide +kernel
theorem dX3_held_15 : decode cX3_held 15 = .ok (.invokevirtual 62, 3) := by decide +kernel
theorem dX3_held_18 : decode cX3_held 18 = .ok (.ifCond .ne 5, 3) := by decide +kernel
theorem dX3_held_21 : decode cX3_held 21 = .ok (.iconst (-1), 1) := by decide +kernel
theorem dX3_held_22 : decode cX3_held 22 = .ok (.ireturn, 1) := by decide +kernel
theorem dX3_held_23 : decode cX3_held 23 = .ok (.aload_n 0, 1) := by decide +kernel
theorem dX3_held_24 : decode cX3_held 24 = .ok (.iload_n 1, 1) := by decide +kernel
theorem dX3_held_25 : decode cX3_held 25 = .ok (.invokevirtual 68, 3) := by decide +kernel
theorem dX3_held_28 : decode cX3_held 28 = .ok (.getfield 75, 3) := by decide +kernel
theorem dX3_held_31 : decode cX3_held 31 = .ok (.iload_n 2, 1) := by decide +kernel
theorem dX3_held_32 : decode cX3_held 32 = .ok (.iaload, 1) := by decide +kernel
theorem dX3_held_33 : decode cX3_held 33 = .ok (.iconst (-1), 1) := by decide +kernel
theorem dX3_held_34 : decode cX3_held 34 = .ok (.if_icmp .eq 7, 3) := by decide +kernel
theorem dX3_held_37 : decode cX3_held 37 = .ok (.iconst 1, 1) := by decide +kernel
theorem dX3_held_38 : decode cX3_held 38 = .ok (.goto 4, 3) := by decide +kernel
theorem dX3_held_41 : decode cX3_held 41 = .ok (.iconst 0, 1) := by decide +kernel
theorem dX3_held_42 : decode cX3_held 42 = .ok (.ireturn, 1) := by decide +kernel
theorem dX3_forest_0 : decode cX3_forest 0 = .ok (.iload_n 1, 1) := by decide +kernel
theorem dX3_forest_1 : decode cX3_forest 1 = .ok (.invokestatic 65, 3) := by decide +kernel
theorem dX3_forest_4 : decode cX3_forest 4 = .ok (.ifCond .ne 6, 3) := by decide +kernel
theorem dX3_forest_7 : decode cX3_forest 7 = .ok (.bipush (-2), 2) := by decide +kernel
theorem dX3_forest_9 : decode cX3_forest 9 = .ok (.ireturn, 1) := by decide +kernel
theorem dX3_forest_10 : decode cX3_forest 10 = .ok (.aload_n 0, 1) := by decide +kernel
theorem dX3_forest_11 : decode cX3_forest 11 = .ok (.getfield 10, 3) := by decide +kernel
theorem dX3_forest_14 : decode cX3_forest 14 = .ok (.iload_n 2, 1) := by decide +kernel
theorem dX3_forest_15 : decode cX3_forest 15 = .ok (.invokevirtual 62, 3) := by decide +kernel
theorem dX3_forest_18 : decode cX3_forest 18 = .ok (.ifCond .ne 5, 3) := by decide +kernel
theorem dX3_forest_21 : decode cX3_forest 21 = .ok (.iconst (-1), 1) := by decide +kernel
theorem dX3_forest_22 : decode cX3_forest 22 = .ok (.ireturn, 1) := by decide +kernel
theorem dX3_forest_23 : decode cX3_forest 23 = .ok (.aload_n 0, 1) := by decide +kernel
theorem dX3_forest_24 : decode cX3_forest 24 = .ok (.iload_n 1, 1) := by decide +kernel
theorem dX3_forest_25 : decode cX3_forest 25 = .ok (.invokevirtual 68, 3) := by decide +kernel
theorem dX3_forest_28 : decode cX3_forest 28 = .ok (.astore_n 3, 1) := by decide +kernel
theorem dX3_forest_29 : decode cX3_forest 29 = .ok (.aload_n 3, 1) := by decide +kernel
theorem dX3_forest_30 : decode cX3_forest 30 = .ok (.aload_n 0, 1) := by decide +kernel
theorem dX3_forest_31 : decode cX3_forest 31 = .ok (.getfield 10, 3) := by decide +kernel
theorem dX3_forest_34 : decode cX3_forest 34 = .ok (.invokevirtual 78, 3) := by decide +kernel
theorem dX3_forest_37 : decode cX3_forest 37 = .ok (.aload_n 3, 1) := by decide +kernel
theorem dX3_forest_38 : decode cX3_forest 38 = .ok (.getfield 75, 3) := by decide +kernel
theorem dX3_forest_41 : decode cX3_forest 41 = .ok (.iload_n 2, 1) := by decide +kernel
theorem dX3_forest_42 : decode cX3_forest 42 = .ok (.iaload, 1) := by decide +kernel
theorem dX3_forest_43 : decode cX3_forest 43 = .ok (.ireturn, 1) := by decide +kernel
theorem dX3_why_0 : decode cX3_why 0 = .ok (.iload_n 1, 1) := by decide +kernel
theorem dX3_why_1 : decode cX3_why 1 = .ok (.invokestatic 65, 3) := by decide +kernel
theorem dX3_why_4 : decode cX3_why 4 = .ok (.ifCond .ne 6, 3) := by decide +kernel
theorem dX3_why_7 : decode cX3_why 7 = .ok (.bipush (-2), 2) := by decide +kernel
theorem dX3_why_9 : decode cX3_why 9 = .ok (.ireturn, 1) := by decide +kernel
theorem dX3_why_10 : decode cX3_why 10 = .ok (.aload_n 0, 1) := by decide +kernel
theorem dX3_why_11 : decode cX3_why 11 = .ok (.getfield 10, 3) := by decide +kernel
theorem dX3_why_14 : decode cX3_why 14 = .ok (.iload_n 2, 1) := by decide +kernel
theorem dX3_why_15 : decode cX3_why 15 = .ok (.invokevirtual 62, 3) := by decide +kernel
theorem dX3_why_18 : decode cX3_why 18 = .ok (.ifCond .eq 19, 3) := by decide +kernel
theorem dX3_why_21 : decode cX3_why 21 = .ok (.iload_n 3, 1) := by decide +kernel
theorem dX3_why_22 : decode cX3_why 22 = .ok (.iconst (-1), 1) := by decide +kernel
theorem dX3_why_23 : decode cX3_why 23 = .ok (.if_icmp .eq 16, 3) := by decide +kernel
theorem dX3_why_26 : decode cX3_why 26 = .ok (.aload_n 0, 1) := by decide +kernel
theorem dX3_why_27 : decode cX3_why 27 = .ok (.getfield 10, 3) := by decide +kernel
theorem dX3_why_30 : decode cX3_why 30 = .ok (.iload_n 3, 1) := by decide +kernel
theorem dX3_why_31 : decode cX3_why 31 = .ok (.invokevirtual 62, 3) := by decide +kernel
theorem dX3_why_34 : decode cX3_why 34 = .ok (.ifCond .ne 5, 3) := by decide +kernel
theorem dX3_why_37 : decode cX3_why 37 = .ok (.iconst (-1), 1) := by decide +kernel
theorem dX3_why_38 : decode cX3_why 38 = .ok (.ireturn, 1) := by decide +kernel
theorem dX3_why_39 : decode cX3_why 39 = .ok (.aload_n 0, 1) := by decide +kernel
theorem dX3_why_40 : decode cX3_why 40 = .ok (.iload_n 1, 1) := by decide +kernel
theorem dX3_why_41 : decode cX3_why 41 = .ok (.invokevirtual 68, 3) := by decide +kernel
theorem dX3_why_44 : decode cX3_why 44 = .ok (.astore 4, 2) := by decide +kernel
theorem dX3_why_46 : decode cX3_why 46 = .ok (.aload 4, 2) := by decide +kernel
theorem dX3_why_48 : decode cX3_why 48 = .ok (.getfield 75, 3) := by decide +kernel
theorem dX3_why_51 : decode cX3_why 51 = .ok (.iload_n 2, 1) := by decide +kernel
theorem dX3_why_52 : decode cX3_why 52 = .ok (.iaload, 1) := by decide +kernel
theorem dX3_why_53 : decode cX3_why 53 = .ok (.iconst (-1), 1) := by decide +kernel
theorem dX3_why_54 : decode cX3_why 54 = .ok (.if_icmp .eq 5, 3) := by decide +kernel
theorem dX3_why_57 : decode cX3_why 57 = .ok (.iconst (-1), 1) := by decide +kernel
theorem dX3_why_58 : decode cX3_why 58 = .ok (.ireturn, 1) := by decide +kernel
theorem dX3_why_59 : decode cX3_why 59 = .ok (.aload 4, 2) := by decide +kernel
theorem dX3_why_61 : decode cX3_why 61 = .ok (.aload_n 0, 1) := by decide +kernel
theorem dX3_why_62 : decode cX3_why 62 = .ok (.getfield 10, 3) := by decide +kernel
theorem dX3_why_65 : decode cX3_why 65 = .ok (.iload_n 2, 1) := by decide +kernel
theorem dX3_why_66 : decode cX3_why 66 = .ok (.invokevirtual 82, 3) := by decide +kernel
theorem dX3_why_69 : decode cX3_why 69 = .ok (.istore 5, 2) := by decide +kernel
theorem dX3_why_71 : decode cX3_why 71 = .ok (.iload_n 3, 1) := by decide +kernel
theorem dX3_why_72 : decode cX3_why 72 = .ok (.iconst (-1), 1) := by decide +kernel
theorem dX3_why_73 : decode cX3_why 73 = .ok (.if_icmp .ne 11, 3) := by decide +kernel
theorem dX3_why_76 : decode cX3_why 76 = .ok (.iload 5, 2) := by decide +kernel
theorem dX3_why_78 : decode cX3_why 78 = .ok (.invokestatic 86, 3) := by decide +kernel
theorem dX3_why_81 : decode cX3_why 81 = .ok (.goto 9, 3) := by decide +kernel
theorem dX3_why_84 : decode cX3_why 84 = .ok (.iload 5, 2) := by decide +kernel
theorem dX3_why_86 : decode cX3_why 86 = .ok (.iload_n 3, 1) := by decide +kernel
theorem dX3_why_87 : decode cX3_why 87 = .ok (.ishr, 1) := by decide +kernel
theorem dX3_why_88 : decode cX3_why 88 = .ok (.iconst 1, 1) := by decide +kernel
theorem dX3_why_89 : decode cX3_why 89 = .ok (.iand, 1) := by decide +kernel
theorem dX3_why_90 : decode cX3_why 90 = .ok (.ireturn, 1) := by decide +kernel
theorem dX3_tight_0 : decode cX3_tight 0 = .ok (.iload_n 1, 1) := by decide +kernel
theorem dX3_tight_1 : decode cX3_tight 1 = .ok (.invokestatic 65, 3) := by decide +kernel
theorem dX3_tight_4 : decode cX3_tight 4 = .ok (.ifCond .eq 25, 3) := by decide +kernel
theorem dX3_tight_7 : decode cX3_tight 7 = .ok (.aload_n 0, 1) := by decide +kernel
theorem dX3_tight_8 : decode cX3_tight 8 = .ok (.getfield 10, 3) := by decide +kernel
theorem dX3_tight_11 : decode cX3_tight 11 = .ok (.iload_n 2, 1) := by decide +kernel
theorem dX3_tight_12 : decode cX3_tight 12 = .ok (.invokevirtual 39, 3) := by decide +kernel
theorem dX3_tight_15 : decode cX3_tight 15 = .ok (.ifCond .eq 14, 3) := by decide +kernel
theorem dX3_tight_18 : decode cX3_tight 18 = .ok (.aload_n 0, 1) := by decide +kernel
theorem dX3_tight_19 : decode cX3_tight 19 = .ok (.getfield 10, 3) := by decide +kernel
theorem dX3_tight_22 : decode cX3_tight 22 = .ok (.iload_n 3, 1) := by decide +kernel
theorem dX3_tight_23 : decode cX3_tight 23 = .ok (.invokevirtual 39, 3) := by decide +kernel
theorem dX3_tight_26 : decode cX3_tight 26 = .ok (.ifCond .ne 6, 3) := by decide +kernel
theorem dX3_tight_29 : decode cX3_tight 29 = .ok (.bipush (-2), 2) := by decide +kernel
theorem dX3_tight_31 : decode cX3_tight 31 = .ok (.ireturn, 1) := by decide +kernel
theorem dX3_tight_32 : decode cX3_tight 32 = .ok (.aload_n 0, 1) := by decide +kernel
theorem dX3_tight_33 : decode cX3_tight 33 = .ok (.iload_n 1, 1) := by decide +kernel
theorem dX3_tight_34 : decode cX3_tight 34 = .ok (.invokevirtual 68, 3) := by decide +kernel
theorem dX3_tight_37 : decode cX3_tight 37 = .ok (.aload_n 0, 1) := by decide +kernel
theorem dX3_tight_38 : decode cX3_tight 38 = .ok (.getfield 10, 3) := by decide +kernel
theorem dX3_tight_41 : decode cX3_tight 41 = .ok (.iload_n 2, 1) := by decide +kernel
theorem dX3_tight_42 : decode cX3_tight 42 = .ok (.iload_n 3, 1) := by decide +kernel
theorem dX3_tight_43 : decode cX3_tight 43 = .ok (.invokevirtual 92, 3) := by decide +kernel
theorem dX3_tight_46 : decode cX3_tight 46 = .ok (.ifCond .eq 7, 3) := by decide +kernel
theorem dX3_tight_49 : decode cX3_tight 49 = .ok (.iconst 0, 1) := by decide +kernel
theorem dX3_tight_50 : decode cX3_tight 50 = .ok (.goto 4, 3) := by decide +kernel
theorem dX3_tight_53 : decode cX3_tight 53 = .ok (.iconst 1, 1) := by decide +kernel
theorem dX3_tight_54 : decode cX3_tight 54 = .ok (.ireturn, 1) := by decide +kernel
theorem dX3_classes_0 : decode cX3_classes 0 = .ok (.iload_n 1, 1) := by decide +kernel
theorem dX3_classes_1 : decode cX3_classes 1 = .ok (.invokestatic 65, 3) := by decide +kernel
theorem dX3_classes_4 : decode cX3_classes 4 = .ok (.ifCond .ne 6, 3) := by decide +kernel
theorem dX3_classes_7 : decode cX3_classes 7 = .ok (.bipush (-2), 2) := by decide +kernel
theorem dX3_classes_9 : decode cX3_classes 9 = .ok (.ireturn, 1) := by decide +kernel
theorem dX3_classes_10 : decode cX3_classes 10 = .ok (.aload_n 0, 1) := by decide +kernel
theorem dX3_classes_11 : decode cX3_classes 11 = .ok (.iload_n 1, 1) := by decide +kernel
theorem dX3_classes_12 : decode cX3_classes 12 = .ok (.invokevirtual 68, 3) := by decide +kernel
theorem dX3_classes_15 : decode cX3_classes 15 = .ok (.astore_n 2, 1) := by decide +kernel
theorem dX3_classes_16 : decode cX3_classes 16 = .ok (.iconst 0, 1) := by decide +kernel
theorem dX3_classes_17 : decode cX3_classes 17 = .ok (.istore_n 3, 1) := by decide +kernel
theorem dX3_classes_18 : decode cX3_classes 18 = .ok (.iconst 0, 1) := by decide +kernel
theorem dX3_classes_19 : decode cX3_classes 19 = .ok (.istore 4, 2) := by decide +kernel
theorem dX3_classes_21 : decode cX3_classes 21 = .ok (.iload 4, 2) := by decide +kernel
theorem dX3_classes_23 : decode cX3_classes 23 = .ok (.aload_n 0, 1) := by decide +kernel
theorem dX3_classes_24 : decode cX3_classes 24 = .ok (.getfield 10, 3) := by decide +kernel
theorem dX3_classes_27 : decode cX3_classes 27 = .ok (.getfield 29, 3) := by decide +kernel
theorem dX3_classes_30 : decode cX3_classes 30 = .ok (.if_icmp .ge 25, 3) := by decide +kernel
theorem dX3_classes_33 : decode cX3_classes 33 = .ok (.aload_n 2, 1) := by decide +kernel
theorem dX3_classes_34 : decode cX3_classes 34 = .ok (.aload_n 0, 1) := by decide +kernel
theorem dX3_classes_35 : decode cX3_classes 35 = .ok (.getfield 10, 3) := by decide +kernel
theorem dX3_classes_38 : decode cX3_classes 38 = .ok (.iload 4, 2) := by decide +kernel
theorem dX3_classes_40 : decode cX3_classes 40 = .ok (.invokevirtual 96, 3) := by decide +kernel
theorem dX3_classes_43 : decode cX3_classes 43 = .ok (.ifCond .eq 6, 3) := by decide +kernel
theorem dX3_classes_46 : decode cX3_classes 46 = .ok (.iinc 3 1, 3) := by decide +kernel
theorem dX3_classes_49 : decode cX3_classes 49 = .ok (.iinc 4 1, 3) := by decide +kernel
theorem dX3_classes_52 : decode cX3_classes 52 = .ok (.goto (-31), 3) := by decide +kernel
theorem dX3_classes_55 : decode cX3_classes 55 = .ok (.iload_n 3, 1) := by decide +kernel
theorem dX3_classes_56 : decode cX3_classes 56 = .ok (.ireturn, 1) := by decide +kernel
theorem dX3_crossing_0 : decode cX3_crossing 0 = .ok (.iload_n 1, 1) := by decide +kernel
theorem dX3_crossing_1 : decode cX3_crossing 1 = .ok (.invokestatic 65, 3) := by decide +kernel
theorem dX3_crossing_4 : decode cX3_crossing 4 = .ok (.ifCond .ne 6, 3) := by decide +kernel
theorem dX3_crossing_7 : decode cX3_crossing 7 = .ok (.bipush (-2), 2) := by decide +kernel
theorem dX3_crossing_9 : decode cX3_crossing 9 = .ok (.ireturn, 1) := by decide +kernel
theorem dX3_crossing_10 : decode cX3_crossing 10 = .ok (.aload_n 0, 1) := by decide +kernel
theorem dX3_crossing_11 : decode cX3_crossing 11 = .ok (.iload_n 1, 1) := by decide +kernel
theorem dX3_crossing_12 : decode cX3_crossing 12 = .ok (.invokevirtual 68, 3) := by decide +kernel
theorem dX3_crossing_15 : decode cX3_crossing 15 = .ok (.astore_n 2, 1) := by decide +kernel
theorem dX3_crossing_16 : decode cX3_crossing 16 = .ok (.iconst 0, 1) := by decide +kernel
theorem dX3_crossing_17 : decode cX3_crossing 17 = .ok (.istore_n 3, 1) := by decide +kernel
theorem dX3_crossing_18 : decode cX3_crossing 18 = .ok (.iconst 0, 1) := by decide +kernel
theorem dX3_crossing_19 : decode cX3_crossing 19 = .ok (.istore 4, 2) := by decide +kernel
theorem dX3_crossing_21 : decode cX3_crossing 21 = .ok (.iload 4, 2) := by decide +kernel
theorem dX3_crossing_23 : decode cX3_crossing 23 = .ok (.bipush 24, 2) := by decide +kernel
theorem dX3_crossing_25 : decode cX3_crossing 25 = .ok (.if_icmp .ge 55, 3) := by decide +kernel
theorem dX3_crossing_28 : decode cX3_crossing 28 = .ok (.aload_n 0, 1) := by decide +kernel
theorem dX3_crossing_29 : decode cX3_crossing 29 = .ok (.getfield 10, 3) := by decide +kernel
theorem dX3_crossing_32 : decode cX3_crossing 32 = .ok (.iload 4, 2) := by decide +kernel
theorem dX3_crossing_34 : decode cX3_crossing 34 = .ok (.invokevirtual 62, 3) := by decide +kernel
theorem dX3_crossing_37 : decode cX3_crossing 37 = .ok (.ifCond .eq 37, 3) := by decide +kernel
theorem dX3_crossing_40 : decode cX3_crossing 40 = .ok (.aload_n 2, 1) := by decide +kernel
theorem dX3_crossing_41 : decode cX3_crossing 41 = .ok (.aload_n 0, 1) := by decide +kernel
theorem dX3_crossing_42 : decode cX3_crossing 42 = .ok (.getfield 10, 3) := by decide +kernel
theorem dX3_crossing_45 : decode cX3_crossing 45 = .ok (.aload_n 0, 1) := by decide +kernel
theorem dX3_crossing_46 : decode cX3_crossing 46 = .ok (.getfield 10, 3) := by decide +kernel
theorem dX3_crossing_49 : decode cX3_crossing 49 = .ok (.getfield 46, 3) := by decide +kernel
theorem dX3_crossing_52 : decode cX3_crossing 52 = .ok (.iload 4, 2) := by decide +kernel
theorem dX3_crossing_54 : decode cX3_crossing 54 = .ok (.iaload, 1) := by decide +kernel
theorem dX3_crossing_55 : decode cX3_crossing 55 = .ok (.aload_n 0, 1) := by decide +kernel
theorem dX3_crossing_56 : decode cX3_crossing 56 = .ok (.getfield 10, 3) := by decide +kernel
theorem dX3_crossing_59 : decode cX3_crossing 59 = .ok (.getfield 56, 3) := by decide +kernel
theorem dX3_crossing_62 : decode cX3_crossing 62 = .ok (.iload 4, 2) := by decide +kernel
theorem dX3_crossing_64 : decode cX3_crossing 64 = .ok (.iaload, 1) := by decide +kernel
theorem dX3_crossing_65 : decode cX3_crossing 65 = .ok (.invokevirtual 92, 3) := by decide +kernel
theorem dX3_crossing_68 : decode cX3_crossing 68 = .ok (.ifCond .eq 6, 3) := by decide +kernel
theorem dX3_crossing_71 : decode cX3_crossing 71 = .ok (.iinc 3 1, 3) := by decide +kernel
theorem dX3_crossing_74 : decode cX3_crossing 74 = .ok (.iinc 4 1, 3) := by decide +kernel
theorem dX3_crossing_77 : decode cX3_crossing 77 = .ok (.goto (-56), 3) := by decide +kernel
theorem dX3_crossing_80 : decode cX3_crossing 80 = .ok (.iload_n 3, 1) := by decide +kernel
theorem dX3_crossing_81 : decode cX3_crossing 81 = .ok (.ireturn, 1) := by decide +kernel
theorem dX3_arboricity_0 : decode cX3_arboricity 0 = .ok (.aload_n 0, 1) := by decide +kernel
theorem dX3_arboricity_1 : decode cX3_arboricity 1 = .ok (.getfield 10, 3) := by decide +kernel
theorem dX3_arboricity_4 : decode cX3_arboricity 4 = .ok (.invokevirtual 25, 3) := by decide +kernel
theorem dX3_arboricity_7 : decode cX3_arboricity 7 = .ok (.istore_n 1, 1) := by decide +kernel
theorem dX3_arboricity_8 : decode cX3_arboricity 8 = .ok (.iconst 0, 1) := by decide +kernel
theorem dX3_arboricity_9 : decode cX3_arboricity 9 = .ok (.istore_n 2, 1) := by decide +kernel
theorem dX3_arboricity_10 : decode cX3_arboricity 10 = .ok (.iload_n 2, 1) := by decide +kernel
theorem dX3_arboricity_11 : decode cX3_arboricity 11 = .ok (.bipush 6, 2) := by decide +kernel
theorem dX3_arboricity_13 : decode cX3_arboricity 13 = .ok (.if_icmp .gt 23, 3) := by decide +kernel
theorem dX3_arboricity_16 : decode cX3_arboricity 16 = .ok (.aload_n 0, 1) := by decide +kernel
theorem dX3_arboricity_17 : decode cX3_arboricity 17 = .ok (.iload_n 2, 1) := by decide +kernel
theorem dX3_arboricity_18 : decode cX3_arboricity 18 = .ok (.invokevirtual 68, 3) := by decide +kernel
theorem dX3_arboricity_21 : decode cX3_arboricity 21 = .ok (.getfield 72, 3) := by decide +kernel
theorem dX3_arboricity_24 : decode cX3_arboricity 24 = .ok (.iload_n 1, 1) := by decide +kernel
theorem dX3_arboricity_25 : decode cX3_arboricity 25 = .ok (.if_icmp .ne 5, 3) := by decide +kernel
theorem dX3_arboricity_28 : decode cX3_arboricity 28 = .ok (.iload_n 2, 1) := by decide +kernel
theorem dX3_arboricity_29 : decode cX3_arboricity 29 = .ok (.ireturn, 1) := by decide +kernel
theorem dX3_arboricity_30 : decode cX3_arboricity 30 = .ok (.iinc 2 1, 3) := by decide +kernel
theorem dX3_arboricity_33 : decode cX3_arboricity 33 = .ok (.goto (-23), 3) := by decide +kernel
theorem dX3_arboricity_36 : decode cX3_arboricity 36 = .ok (.iconst (-1), 1) := by decide +kernel
theorem dX3_arboricity_37 : decode cX3_arboricity 37 = .ok (.ireturn, 1) := by decide +kernel
theorem dX3_dense_0 : decode cX3_dense 0 = .ok (.aload_n 0, 1) := by decide +kernel
theorem dX3_dense_1 : decode cX3_dense 1 = .ok (.invokevirtual 100, 3) := by decide +kernel
theorem dX3_dense_4 : decode cX3_dense 4 = .ok (.istore_n 1, 1) := by decide +kernel
theorem dX3_dense_5 : decode cX3_dense 5 = .ok (.iload_n 1, 1) := by decide +kernel
theorem dX3_dense_6 : decode cX3_dense 6 = .ok (.iconst (-1), 1) := by decide +kernel
theorem dX3_dense_7 : decode cX3_dense 7 = .ok (.if_icmp .ne 5, 3) := by decide +kernel
theorem dX3_dense_10 : decode cX3_dense 10 = .ok (.iconst (-1), 1) := by decide +kernel
theorem dX3_dense_11 : decode cX3_dense 11 = .ok (.ireturn, 1) := by decide +kernel
theorem dX3_dense_12 : decode cX3_dense 12 = .ok (.iload_n 1, 1) := by decide +kernel
theorem dX3_dense_13 : decode cX3_dense 13 = .ok (.ifCond .ne 5, 3) := by decide +kernel
theorem dX3_dense_16 : decode cX3_dense 16 = .ok (.iconst 0, 1) := by decide +kernel
theorem dX3_dense_17 : decode cX3_dense 17 = .ok (.ireturn, 1) := by decide +kernel
theorem dX3_dense_18 : decode cX3_dense 18 = .ok (.aload_n 0, 1) := by decide +kernel
theorem dX3_dense_19 : decode cX3_dense 19 = .ok (.iload_n 1, 1) := by decide +kernel
theorem dX3_dense_20 : decode cX3_dense 20 = .ok (.iconst 1, 1) := by decide +kernel
theorem dX3_dense_21 : decode cX3_dense 21 = .ok (.isub, 1) := by decide +kernel
theorem dX3_dense_22 : decode cX3_dense 22 = .ok (.invokevirtual 68, 3) := by decide +kernel
theorem dX3_dense_25 : decode cX3_dense 25 = .ok (.astore_n 2, 1) := by decide +kernel
theorem dX3_dense_26 : decode cX3_dense 26 = .ok (.iconst 0, 1) := by decide +kernel
theorem dX3_dense_27 : decode cX3_dense 27 = .ok (.istore_n 3, 1) := by decide +kernel
theorem dX3_dense_28 : decode cX3_dense 28 = .ok (.iload_n 3, 1) := by decide +kernel
theorem dX3_dense_29 : decode cX3_dense 29 = .ok (.bipush 24, 2) := by decide +kernel
theorem dX3_dense_31 : decode cX3_dense 31 = .ok (.if_icmp .ge 47, 3) := by decide +kernel
theorem dX3_dense_34 : decode cX3_dense 34 = .ok (.aload_n 0, 1) := by decide +kernel
theorem dX3_dense_35 : decode cX3_dense 35 = .ok (.getfield 10, 3) := by decide +kernel
theorem dX3_dense_38 : decode cX3_dense 38 = .ok (.iload_n 3, 1) := by decide +kernel
theorem dX3_dense_39 : decode cX3_dense 39 = .ok (.invokevirtual 62, 3) := by decide +kernel
theorem dX3_dense_42 : decode cX3_dense 42 = .ok (.ifCond .eq 30, 3) := by decide +kernel
theorem dX3_dense_45 : decode cX3_dense 45 = .ok (.aload_n 2, 1) := by decide +kernel
theorem dX3_dense_46 : decode cX3_dense 46 = .ok (.getfield 75, 3) := by decide +kernel
theorem dX3_dense_49 : decode cX3_dense 49 = .ok (.iload_n 3, 1) := by decide +kernel
theorem dX3_dense_50 : decode cX3_dense 50 = .ok (.iaload, 1) := by decide +kernel
theorem dX3_dense_51 : decode cX3_dense 51 = .ok (.iconst (-1), 1) := by decide +kernel
theorem dX3_dense_52 : decode cX3_dense 52 = .ok (.if_icmp .ne 20, 3) := by decide +kernel
theorem dX3_dense_55 : decode cX3_dense 55 = .ok (.aload_n 0, 1) := by decide +kernel
theorem dX3_dense_56 : decode cX3_dense 56 = .ok (.getfield 10, 3) := by decide +kernel
theorem dX3_dense_59 : decode cX3_dense 59 = .ok (.aload_n 2, 1) := by decide +kernel
theorem dX3_dense_60 : decode cX3_dense 60 = .ok (.aload_n 0, 1) := by decide +kernel
theorem dX3_dense_61 : decode cX3_dense 61 = .ok (.getfield 10, 3) := by decide +kernel
theorem dX3_dense_64 : decode cX3_dense 64 = .ok (.iload_n 3, 1) := by decide +kernel
theorem dX3_dense_65 : decode cX3_dense 65 = .ok (.invokevirtual 82, 3) := by decide +kernel
theorem dX3_dense_68 : decode cX3_dense 68 = .ok (.invokevirtual 103, 3) := by decide +kernel
theorem dX3_dense_71 : decode cX3_dense 71 = .ok (.ireturn, 1) := by decide +kernel
theorem dX3_dense_72 : decode cX3_dense 72 = .ok (.iinc 3 1, 3) := by decide +kernel
theorem dX3_dense_75 : decode cX3_dense 75 = .ok (.goto (-47), 3) := by decide +kernel
theorem dX3_dense_78 : decode cX3_dense 78 = .ok (.iconst 0, 1) := by decide +kernel
theorem dX3_dense_79 : decode cX3_dense 79 = .ok (.ireturn, 1) := by decide +kernel
theorem dX3_spanning_0 : decode cX3_spanning 0 = .ok (.bipush 6, 2) := by decide +kernel
theorem dX3_spanning_2 : decode cX3_spanning 2 = .ok (.istore_n 1, 1) := by decide +kernel
theorem dX3_spanning_3 : decode cX3_spanning 3 = .ok (.iload_n 1, 1) := by decide +kernel
theorem dX3_spanning_4 : decode cX3_spanning 4 = .ok (.ifCond .le 33, 3) := by decide +kernel
theorem dX3_spanning_7 : decode cX3_spanning 7 = .ok (.aload_n 0, 1) := by decide +kernel
theorem dX3_spanning_8 : decode cX3_spanning 8 = .ok (.iload_n 1, 1) := by decide +kernel
theorem dX3_spanning_9 : decode cX3_spanning 9 = .ok (.invokevirtual 68, 3) := by decide +kernel
theorem dX3_spanning_12 : decode cX3_spanning 12 = .ok (.getfield 72, 3) := by decide +kernel
theorem dX3_spanning_15 : decode cX3_spanning 15 = .ok (.iload_n 1, 1) := by decide +kernel
theorem dX3_spanning_16 : decode cX3_spanning 16 = .ok (.aload_n 0, 1) := by decide +kernel
theorem dX3_spanning_17 : decode cX3_spanning 17 = .ok (.getfield 10, 3) := by decide +kernel
theorem dX3_spanning_20 : decode cX3_spanning 20 = .ok (.getfield 29, 3) := by decide +kernel
theorem dX3_spanning_23 : decode cX3_spanning 23 = .ok (.iconst 1, 1) := by decide +kernel
theorem dX3_spanning_24 : decode cX3_spanning 24 = .ok (.isub, 1) := by decide +kernel
theorem dX3_spanning_25 : decode cX3_spanning 25 = .ok (.imul, 1) := by decide +kernel
theorem dX3_spanning_26 : decode cX3_spanning 26 = .ok (.if_icmp .ne 5, 3) := by decide +kernel
theorem dX3_spanning_29 : decode cX3_spanning 29 = .ok (.iload_n 1, 1) := by decide +kernel
theorem dX3_spanning_30 : decode cX3_spanning 30 = .ok (.ireturn, 1) := by decide +kernel
theorem dX3_spanning_31 : decode cX3_spanning 31 = .ok (.iinc 1 (-1), 3) := by decide +kernel
theorem dX3_spanning_34 : decode cX3_spanning 34 = .ok (.goto (-31), 3) := by decide +kernel
theorem dX3_spanning_37 : decode cX3_spanning 37 = .ok (.iconst 0, 1) := by decide +kernel
theorem dX3_spanning_38 : decode cX3_spanning 38 = .ok (.ireturn, 1) := by decide +kernel
theorem dX3_told_0 : decode cX3_told 0 = .ok (.iload_n 2, 1) := by decide +kernel
theorem dX3_told_1 : decode cX3_told 1 = .ok (.tableswitch 110 0 4 #[35, 60, 85, 93, 101], 35) := by decide +kernel
theorem dX3_told_36 : decode cX3_told 36 = .ok (.aload_n 0, 1) := by decide +kernel
theorem dX3_told_37 : decode cX3_told 37 = .ok (.getfield 10, 3) := by decide +kernel
theorem dX3_told_40 : decode cX3_told 40 = .ok (.iload_n 1, 1) := by decide +kernel
theorem dX3_told_41 : decode cX3_told 41 = .ok (.invokevirtual 62, 3) := by decide +kernel
theorem dX3_told_44 : decode cX3_told 44 = .ok (.ifCond .eq 15, 3) := by decide +kernel
theorem dX3_told_47 : decode cX3_told 47 = .ok (.aload_n 0, 1) := by decide +kernel
theorem dX3_told_48 : decode cX3_told 48 = .ok (.getfield 10, 3) := by decide +kernel
theorem dX3_told_51 : decode cX3_told 51 = .ok (.getfield 46, 3) := by decide +kernel
theorem dX3_told_54 : decode cX3_told 54 = .ok (.iload_n 1, 1) := by decide +kernel
theorem dX3_told_55 : decode cX3_told 55 = .ok (.iaload, 1) := by decide +kernel
theorem dX3_told_56 : decode cX3_told 56 = .ok (.goto 4, 3) := by decide +kernel
theorem dX3_told_59 : decode cX3_told 59 = .ok (.iconst (-1), 1) := by decide +kernel
theorem dX3_told_60 : decode cX3_told 60 = .ok (.ireturn, 1) := by decide +kernel
theorem dX3_told_61 : decode cX3_told 61 = .ok (.aload_n 0, 1) := by decide +kernel
theorem dX3_told_62 : decode cX3_told 62 = .ok (.getfield 10, 3) := by decide +kernel
theorem dX3_told_65 : decode cX3_told 65 = .ok (.iload_n 1, 1) := by decide +kernel
theorem dX3_told_66 : decode cX3_told 66 = .ok (.invokevirtual 62, 3) := by decide +kernel
theorem dX3_told_69 : decode cX3_told 69 = .ok (.ifCond .eq 15, 3) := by decide +kernel
theorem dX3_told_72 : decode cX3_told 72 = .ok (.aload_n 0, 1) := by decide +kernel
theorem dX3_told_73 : decode cX3_told 73 = .ok (.getfield 10, 3) := by decide +kernel
theorem dX3_told_76 : decode cX3_told 76 = .ok (.getfield 56, 3) := by decide +kernel
theorem dX3_told_79 : decode cX3_told 79 = .ok (.iload_n 1, 1) := by decide +kernel
theorem dX3_told_80 : decode cX3_told 80 = .ok (.iaload, 1) := by decide +kernel
theorem dX3_told_81 : decode cX3_told 81 = .ok (.goto 4, 3) := by decide +kernel
theorem dX3_told_84 : decode cX3_told 84 = .ok (.iconst (-1), 1) := by decide +kernel
theorem dX3_told_85 : decode cX3_told 85 = .ok (.ireturn, 1) := by decide +kernel
theorem dX3_told_86 : decode cX3_told 86 = .ok (.aload_n 0, 1) := by decide +kernel
theorem dX3_told_87 : decode cX3_told 87 = .ok (.getfield 10, 3) := by decide +kernel
theorem dX3_told_90 : decode cX3_told 90 = .ok (.invokevirtual 25, 3) := by decide +kernel
theorem dX3_told_93 : decode cX3_told 93 = .ok (.ireturn, 1) := by decide +kernel
theorem dX3_told_94 : decode cX3_told 94 = .ok (.aload_n 0, 1) := by decide +kernel
theorem dX3_told_95 : decode cX3_told 95 = .ok (.getfield 10, 3) := by decide +kernel
theorem dX3_told_98 : decode cX3_told 98 = .ok (.getfield 29, 3) := by decide +kernel
theorem dX3_told_101 : decode cX3_told 101 = .ok (.ireturn, 1) := by decide +kernel
theorem dX3_told_102 : decode cX3_told 102 = .ok (.aload_n 0, 1) := by decide +kernel
theorem dX3_told_103 : decode cX3_told 103 = .ok (.getfield 10, 3) := by decide +kernel
theorem dX3_told_106 : decode cX3_told 106 = .ok (.iload_n 1, 1) := by decide +kernel
theorem dX3_told_107 : decode cX3_told 107 = .ok (.invokevirtual 106, 3) := by decide +kernel
theorem dX3_told_110 : decode cX3_told 110 = .ok (.ireturn, 1) := by decide +kernel
theorem dX3_told_111 : decode cX3_told 111 = .ok (.bipush (-2), 2) := by decide +kernel
theorem dX3_told_113 : decode cX3_told 113 = .ok (.ireturn, 1) := by decide +kernel
theorem dX3_isForestCount_0 : decode cX3_isForestCount 0 = .ok (.iload_n 0, 1) := by decide +kernel
theorem dX3_isForestCount_1 : decode cX3_isForestCount 1 = .ok (.ifCond .lt 13, 3) := by decide +kernel
theorem dX3_isForestCount_4 : decode cX3_isForestCount 4 = .ok (.iload_n 0, 1) := by decide +kernel
theorem dX3_isForestCount_5 : decode cX3_isForestCount 5 = .ok (.bipush 6, 2) := by decide +kernel
theorem dX3_isForestCount_7 : decode cX3_isForestCount 7 = .ok (.if_icmp .gt 7, 3) := by decide +kernel
theorem dX3_isForestCount_10 : decode cX3_isForestCount 10 = .ok (.iconst 1, 1) := by decide +kernel
theorem dX3_isForestCount_11 : decode cX3_isForestCount 11 = .ok (.goto 4, 3) := by decide +kernel
theorem dX3_isForestCount_14 : decode cX3_isForestCount 14 = .ok (.iconst 0, 1) := by decide +kernel
theorem dX3_isForestCount_15 : decode cX3_isForestCount 15 = .ok (.ireturn, 1) := by decide +kernel
theorem dX3_forgetPackings_0 : decode cX3_forgetPackings 0 = .ok (.iconst 0, 1) := by decide +kernel
theorem dX3_forgetPackings_1 : decode cX3_forgetPackings 1 = .ok (.istore_n 1, 1) := by decide +kernel
theorem dX3_forgetPackings_2 : decode cX3_forgetPackings 2 = .ok (.iload_n 1, 1) := by decide +kernel
theorem dX3_forgetPackings_3 : decode cX3_forgetPackings 3 = .ok (.bipush 6, 2) := by decide +kernel
theorem dX3_forgetPackings_5 : decode cX3_forgetPackings 5 = .ok (.if_icmp .gt 19, 3) := by decide +kernel
theorem dX3_forgetPackings_8 : decode cX3_forgetPackings 8 = .ok (.aload_n 0, 1) := by decide +kernel
theorem dX3_forgetPackings_9 : decode cX3_forgetPackings 9 = .ok (.getfield 18, 3) := by decide +kernel
theorem dX3_forgetPackings_12 : decode cX3_forgetPackings 12 = .ok (.iload_n 1, 1) := by decide +kernel
theorem dX3_forgetPackings_13 : decode cX3_forgetPackings 13 = .ok (.aaload, 1) := by decide +kernel
theorem dX3_forgetPackings_14 : decode cX3_forgetPackings 14 = .ok (.iconst 0, 1) := by decide +kernel
theorem dX3_forgetPackings_15 : decode cX3_forgetPackings 15 = .ok (.putfield 109, 3) := by decide +kernel
theorem dX3_forgetPackings_18 : decode cX3_forgetPackings 18 = .ok (.iinc 1 1, 3) := by decide +kernel
theorem dX3_forgetPackings_21 : decode cX3_forgetPackings 21 = .ok (.goto (-19), 3) := by decide +kernel
theorem dX3_forgetPackings_24 : decode cX3_forgetPackings 24 = .ok (.return_, 1) := by decide +kernel
theorem dX3_packed_0 : decode cX3_packed 0 = .ok (.aload_n 0, 1) := by decide +kernel
theorem dX3_packed_1 : decode cX3_packed 1 = .ok (.getfield 18, 3) := by decide +kernel
theorem dX3_packed_4 : decode cX3_packed 4 = .ok (.iload_n 1, 1) := by decide +kernel
theorem dX3_packed_5 : decode cX3_packed 5 = .ok (.aaload, 1) := by decide +kernel
theorem dX3_packed_6 : decode cX3_packed 6 = .ok (.astore_n 2, 1) := by decide +kernel
theorem dX3_packed_7 : decode cX3_packed 7 = .ok (.aload_n 2, 1) := by decide +kernel
theorem dX3_packed_8 : decode cX3_packed 8 = .ok (.getfield 109, 3) := by decide +kernel
theorem dX3_packed_11 : decode cX3_packed 11 = .ok (.ifCond .ne 11, 3) := by decide +kernel
theorem dX3_packed_14 : decode cX3_packed 14 = .ok (.aload_n 2, 1) := by decide +kernel
theorem dX3_packed_15 : decode cX3_packed 15 = .ok (.aload_n 0, 1) := by decide +kernel
theorem dX3_packed_16 : decode cX3_packed 16 = .ok (.getfield 10, 3) := by decide +kernel
theorem dX3_packed_19 : decode cX3_packed 19 = .ok (.invokevirtual 113, 3) := by decide +kernel
theorem dX3_packed_22 : decode cX3_packed 22 = .ok (.aload_n 2, 1) := by decide +kernel
theorem dX3_packed_23 : decode cX3_packed 23 = .ok (.areturn, 1) := by decide +kernel
theorem dX4_init_0 : decode cX4_init 0 = .ok (.aload_n 0, 1) := by decide +kernel
theorem dX4_init_1 : decode cX4_init 1 = .ok (.invokespecial 1, 3) := by decide +kernel
theorem dX4_init_4 : decode cX4_init 4 = .ok (.aload_n 0, 1) := by decide +kernel
theorem dX4_init_5 : decode cX4_init 5 = .ok (.iconst 1, 1) := by decide +kernel
theorem dX4_init_6 : decode cX4_init 6 = .ok (.putfield 7, 3) := by decide +kernel
theorem dX4_init_9 : decode cX4_init 9 = .ok (.aload_n 0, 1) := by decide +kernel
theorem dX4_init_10 : decode cX4_init 10 = .ok (.bipush 48, 2) := by decide +kernel
theorem dX4_init_12 : decode cX4_init 12 = .ok (.newarray .int, 2) := by decide +kernel
theorem dX4_init_14 : decode cX4_init 14 = .ok (.putfield 13, 3) := by decide +kernel
theorem dX4_init_17 : decode cX4_init 17 = .ok (.aload_n 0, 1) := by decide +kernel
theorem dX4_init_18 : decode cX4_init 18 = .ok (.bipush 24, 2) := by decide +kernel
theorem dX4_init_20 : decode cX4_init 20 = .ok (.newarray .boolean, 2) := by decide +kernel
theorem dX4_init_22 : decode cX4_init 22 = .ok (.putfield 17, 3) := by decide +kernel
theorem dX4_init_25 : decode cX4_init 25 = .ok (.aload_n 0, 1) := by decide +kernel
theorem dX4_init_26 : decode cX4_init 26 = .ok (.bipush 24, 2) := by decide +kernel
theorem dX4_init_28 : decode cX4_init 28 = .ok (.newarray .int, 2) := by decide +kernel
theorem dX4_init_30 : decode cX4_init 30 = .ok (.putfield 21, 3) := by decide +kernel
theorem dX4_init_33 : decode cX4_init 33 = .ok (.aload_n 0, 1) := by decide +kernel
theorem dX4_init_34 : decode cX4_init 34 = .ok (.bipush 24, 2) := by decide +kernel
theorem dX4_init_36 : decode cX4_init 36 = .ok (.newarray .boolean, 2) := by decide +kernel
theorem dX4_init_38 : decode cX4_init 38 = .ok (.putfield 24, 3) := by decide +kernel
theorem dX4_init_41 : decode cX4_init 41 = .ok (.aload_n 0, 1) := by decide +kernel
theorem dX4_init_42 : decode cX4_init 42 = .ok (.bipush 24, 2) := by decide +kernel
theorem dX4_init_44 : decode cX4_init 44 = .ok (.newarray .int, 2) := by decide +kernel
theorem dX4_init_46 : decode cX4_init 46 = .ok (.putfield 27, 3) := by decide +kernel
theorem dX4_init_49 : decode cX4_init 49 = .ok (.aload_n 0, 1) := by decide +kernel
theorem dX4_init_50 : decode cX4_init 50 = .ok (.bipush 24, 2) := by decide +kernel
theorem dX4_init_52 : decode cX4_init 52 = .ok (.newarray .int, 2) := by decide +kernel
theorem dX4_init_54 : decode cX4_init 54 = .ok (.putfield 30, 3) := by decide +kernel
theorem dX4_init_57 : decode cX4_init 57 = .ok (.aload_n 0, 1) := by decide +kernel
theorem dX4_init_58 : decode cX4_init 58 = .ok (.bipush 24, 2) := by decide +kernel
theorem dX4_init_60 : decode cX4_init 60 = .ok (.newarray .int, 2) := by decide +kernel
theorem dX4_init_62 : decode cX4_init 62 = .ok (.putfield 33, 3) := by decide +kernel
theorem dX4_init_65 : decode cX4_init 65 = .ok (.aload_n 0, 1) := by decide +kernel
theorem dX4_init_66 : decode cX4_init 66 = .ok (.bipush 10, 2) := by decide +kernel
theorem dX4_init_68 : decode cX4_init 68 = .ok (.newarray .int, 2) := by decide +kernel
theorem dX4_init_70 : decode cX4_init 70 = .ok (.putfield 36, 3) := by decide +kernel
theorem dX4_init_73 : decode cX4_init 73 = .ok (.aload_n 0, 1) := by decide +kernel
theorem dX4_init_74 : decode cX4_init 74 = .ok (.bipush 24, 2) := by decide +kernel
theorem dX4_init_76 : decode cX4_init 76 = .ok (.newarray .int, 2) := by decide +kernel
theorem dX4_init_78 : decode cX4_init 78 = .ok (.putfield 39, 3) := by decide +kernel
theorem dX4_init_81 : decode cX4_init 81 = .ok (.aload_n 0, 1) := by decide +kernel
theorem dX4_init_82 : decode cX4_init 82 = .ok (.iconst 1, 1) := by decide +kernel
theorem dX4_init_83 : decode cX4_init 83 = .ok (.putfield 7, 3) := by decide +kernel
theorem dX4_init_86 : decode cX4_init 86 = .ok (.return_, 1) := by decide +kernel
theorem dX4_in_0 : decode cX4_in 0 = .ok (.iload_n 0, 1) := by decide +kernel
theorem dX4_in_1 : decode cX4_in 1 = .ok (.iload_n 1, 1) := by decide +kernel
theorem dX4_in_2 : decode cX4_in 2 = .ok (.if_icmp .lt 12, 3) := by decide +kernel
theorem dX4_in_5 : decode cX4_in 5 = .ok (.iload_n 0, 1) := by decide +kernel
theorem dX4_in_6 : decode cX4_in 6 = .ok (.iload_n 2, 1) := by decide +kernel
theorem dX4_in_7 : decode cX4_in 7 = .ok (.if_icmp .gt 7, 3) := by decide +kernel
theorem dX4_in_10 : decode cX4_in 10 = .ok (.iconst 1, 1) := by decide +kernel
theorem dX4_in_11 : decode cX4_in 11 = .ok (.goto 4, 3) := by decide +kernel
theorem dX4_in_14 : decode cX4_in 14 = .ok (.iconst 0, 1) := by decide +kernel
theorem dX4_in_15 : decode cX4_in 15 = .ok (.ireturn, 1) := by decide +kernel
theorem dX4_has_0 : decode cX4_has 0 = .ok (.iload_n 1, 1) := by decide +kernel
theorem dX4_has_1 : decode cX4_has 1 = .ok (.iconst 0, 1) := by decide +kernel
theorem dX4_has_2 : decode cX4_has 2 = .ok (.bipush 23, 2) := by decide +kernel
theorem dX4_has_4 : decode cX4_has 4 = .ok (.invokestatic 42, 3) := by decide +kernel
theorem dX4_has_7 : decode cX4_has 7 = .ok (.ifCond .eq 16, 3) := by decide +kernel
theorem dX4_has_10 : decode cX4_has 10 = .ok (.aload_n 0, 1) := by decide +kernel
theorem dX4_has_11 : decode cX4_has 11 = .ok (.getfield 17, 3) := by decide +kernel
theorem dX4_has_14 : decode cX4_has 14 = .ok (.iload_n 1, 1) := by decide +kernel
theorem dX4_has_15 : decode cX4_has 15 = .ok (.baload, 1) := by decide +kernel
theorem dX4_has_16 : decode cX4_has 16 = .ok (.ifCond .eq 7, 3) := by decide +kernel
theorem dX4_has_19 : decode cX4_has 19 = .ok (.iconst 1, 1) := by decide +kernel
theorem dX4_has_20 : decode cX4_has 20 = .ok (.goto 4, 3) := by decide +kernel
theorem dX4_has_23 : decode cX4_has 23 = .ok (.iconst 0, 1) := by decide +kernel
theorem dX4_has_24 : decode cX4_has 24 = .ok (.ireturn, 1) := by decide +kernel
theorem dX4_isK_0 : decode cX4_isK 0 = .ok (.iload_n 0, 1) := by decide +kernel
theorem dX4_isK_1 : decode cX4_isK 1 = .ok (.iconst 0, 1) := by decide +kernel
theorem dX4_isK_2 : decode cX4_isK 2 = .ok (.bipush 6, 2) := by decide +kernel
theorem dX4_isK_4 : decode cX4_isK 4 = .ok (.invokestatic 42, 3) := by decide +kernel
theorem dX4_isK_7 : decode cX4_isK 7 = .ok (.ireturn, 1) := by decide +kernel
theorem dX4_many_0 : decode cX4_many 0 = .ok (.iconst 0, 1) := by decide +kernel
theorem dX4_many_1 : decode cX4_many 1 = .ok (.istore_n 1, 1) := by decide +kernel
theorem dX4_many_2 : decode cX4_many 2 = .ok (.iconst 0, 1) := by decide +kernel
theorem dX4_many_3 : decode cX4_many 3 = .ok (.istore_n 2, 1) := by decide +kernel
theorem dX4_many_4 : decode cX4_many 4 = .ok (.iload_n 2, 1) := by decide +kernel
theorem dX4_many_5 : decode cX4_many 5 = .ok (.bipush 24, 2) := by decide +kernel
theorem dX4_many_7 : decode cX4_many 7 = .ok (.if_icmp .ge 26, 3) := by decide +kernel
theorem dX4_many_10 : decode cX4_many 10 = .ok (.aload_n 0, 1) := by decide +kernel
theorem dX4_many_11 : decode cX4_many 11 = .ok (.getfield 17, 3) := by decide +kernel
theorem dX4_many_14 : decode cX4_many 14 = .ok (.iload_n 2, 1) := by decide +kernel
theorem dX4_many_15 : decode cX4_many 15 = .ok (.baload, 1) := by decide +kernel
theorem dX4_many_16 : decode cX4_many 16 = .ok (.ifCond .eq 9, 3) := by decide +kernel
theorem dX4_many_19 : decode cX4_many 19 = .ok (.iload_n 1, 1) := by decide +kernel
theorem dX4_many_20 : decode cX4_many 20 = .ok (.iconst 1, 1) := by decide +kernel
theorem dX4_many_21 : decode cX4_many 21 = .ok (.iadd, 1) := by decide +kernel
theorem dX4_many_22 : decode cX4_many 22 = .ok (.goto 4, 3) := by decide +kernel
theorem dX4_many_25 : decode cX4_many 25 = .ok (.iload_n 1, 1) := by decide +kernel
theorem dX4_many_26 : decode cX4_many 26 = .ok (.istore_n 1, 1) := by decide +kernel
theorem dX4_many_27 : decode cX4_many 27 = .ok (.iinc 2 1, 3) := by decide +kernel
theorem dX4_many_30 : decode cX4_many 30 = .ok (.goto (-26), 3) := by decide +kernel
theorem dX4_many_33 : decode cX4_many 33 = .ok (.iload_n 1, 1) := by decide +kernel
theorem dX4_many_34 : decode cX4_many 34 = .ok (.ireturn, 1) := by decide +kernel
theorem dX4_begin_0 : decode cX4_begin 0 = .ok (.iload_n 1, 1) := by decide +kernel
theorem dX4_begin_1 : decode cX4_begin 1 = .ok (.iconst 1, 1) := by decide +kernel
theorem dX4_begin_2 : decode cX4_begin 2 = .ok (.bipush 10, 2) := by decide +kernel
theorem dX4_begin_4 : decode cX4_begin 4 = .ok (.invokestatic 42, 3) := by decide +kernel
theorem dX4_begin_7 : decode cX4_begin 7 = .ok (.ifCond .ne 6, 3) := by decide +kernel
theorem dX4_begin_10 : decode cX4_begin 10 = .ok (.bipush (-2), 2) := by decide +kernel
theorem dX4_begin_12 : decode cX4_begin 12 = .ok (.ireturn, 1) := by decide +kernel
theorem dX4_begin_13 : decode cX4_begin 13 = .ok (.aload_n 0, 1) := by decide +kernel
theorem dX4_begin_14 : decode cX4_begin 14 = .ok (.invokevirtual 46, 3) := by decide +kernel
theorem dX4_begin_17 : decode cX4_begin 17 = .ok (.istore_n 2, 1) := by decide +kernel
theorem dX4_begin_18 : decode cX4_begin 18 = .ok (.aload_n 0, 1) := by decide +kernel
theorem dX4_begin_19 : decode cX4_begin 19 = .ok (.iload_n 1, 1) := by decide +kernel
theorem dX4_begin_20 : decode cX4_begin 20 = .ok (.putfield 7, 3) := by decide +kernel
theorem dX4_begin_23 : decode cX4_begin 23 = .ok (.iconst 0, 1) := by decide +kernel
theorem dX4_begin_24 : decode cX4_begin 24 = .ok (.istore_n 3, 1) := by decide +kernel
theorem dX4_begin_25 : decode cX4_begin 25 = .ok (.iload_n 3, 1) := by decide +kernel
theorem dX4_begin_26 : decode cX4_begin 26 = .ok (.bipush 24, 2) := by decide +kernel
theorem dX4_begin_28 : decode cX4_begin 28 = .ok (.if_icmp .ge 16, 3) := by decide +kernel
theorem dX4_begin_31 : decode cX4_begin 31 = .ok (.aload_n 0, 1) := by decide +kernel
theorem dX4_begin_32 : decode cX4_begin 32 = .ok (.getfield 17, 3) := by decide +kernel
theorem dX4_begin_35 : decode cX4_begin 35 = .ok (.iload_n 3, 1) := by decide +kernel
theorem dX4_begin_36 : decode cX4_begin 36 = .ok (.iconst 0, 1) := by decide +kernel
theorem dX4_begin_37 : decode cX4_begin 37 = .ok (.bastore, 1) := by decide +kernel
theorem dX4_begin_38 : decode cX4_begin 38 = .ok (.iinc 3 1, 3) := by decide +kernel
theorem dX4_begin_41 : decode cX4_begin 41 = .ok (.goto (-16), 3) := by decide +kernel
theorem dX4_begin_44 : decode cX4_begin 44 = .ok (.iload_n 2, 1) := by decide +kernel
theorem dX4_begin_45 : decode cX4_begin 45 = .ok (.ireturn, 1) := by decide +kernel
theorem dX4_isVertex_0 : decode cX4_isVertex 0 = .ok (.iload_n 1, 1) := by decide +kernel
theorem dX4_isVertex_1 : decode cX4_isVertex 1 = .ok (.iconst 0, 1) := by decide +kernel
theorem dX4_isVertex_2 : decode cX4_isVertex 2 = .ok (.aload_n 0, 1) := by decide +kernel
theorem dX4_isVertex_3 : decode cX4_isVertex 3 = .ok (.getfield 7, 3) := by decide +kernel
theorem dX4_isVertex_6 : decode cX4_isVertex 6 = .ok (.iconst 1, 1) := by decide +kernel
theorem dX4_isVertex_7 : decode cX4_isVertex 7 = .ok (.isub, 1) := by decide +kernel
theorem dX4_isVertex_8 : decode cX4_isVertex 8 = .ok (.invokestatic 42, 3) := by decide +kernel
theorem dX4_isVertex_11 : decode cX4_isVertex 11 = .ok (.ireturn, 1) := by decide +kernel
theorem dX4_join_0 : decode cX4_join 0 = .ok (.aload_n 0, 1) := by decide +kernel
theorem dX4_join_1 : decode cX4_join 1 = .ok (.iload_n 1, 1) := by decide +kernel
theorem dX4_join_2 : decode cX4_join 2 = .ok (.invokevirtual 50, 3) := by decide +kernel
theorem dX4_join_5 : decode cX4_join 5 = .ok (.ifCond .eq 16, 3) := by decide +kernel
theorem dX4_join_8 : decode cX4_join 8 = .ok (.aload_n 0, 1) := by decide +kernel
theorem dX4_join_9 : decode cX4_join 9 = .ok (.iload_n 2, 1) := by decide +kernel
theorem dX4_join_10 : decode cX4_join 10 = .ok (.invokevirtual 50, 3) := by decide +kernel
theorem dX4_join_13 : decode cX4_join 13 = .ok (.ifCond .eq 8, 3) := by decide +kernel
theorem dX4_join_16 : decode cX4_join 16 = .ok (.iload_n 1, 1) := by decide +kernel
theorem dX4_join_17 : decode cX4_join 17 = .ok (.iload_n 2, 1) := by decide +kernel
theorem dX4_join_18 : decode cX4_join 18 = .ok (.if_icmp .ne 6, 3) := by decide +kernel
theorem dX4_join_21 : decode cX4_join 21 = .ok (.bipush (-2), 2) := by decide +kernel
theorem dX4_join_23 : decode cX4_join 23 = .ok (.ireturn, 1) := by decide +kernel
theorem dX4_join_24 : decode cX4_join 24 = .ok (.iconst 0, 1) := by decide +kernel
theorem dX4_join_25 : decode cX4_join 25 = .ok (.istore_n 3, 1) := by decide +kernel
theorem dX4_join_26 : decode cX4_join 26 = .ok (.iload_n 3, 1) := by decide +kernel
theorem dX4_join_27 : decode cX4_join 27 = .ok (.bipush 24, 2) := by decide +kernel
theorem dX4_join_29 : decode cX4_join 29 = .ok (.if_icmp .ge 18, 3) := by decide +kernel
theorem dX4_join_32 : decode cX4_join 32 = .ok (.aload_n 0, 1) := by decide +kernel
theorem dX4_join_33 : decode cX4_join 33 = .ok (.getfield 17, 3) := by decide +kernel
theorem dX4_join_36 : decode cX4_join 36 = .ok (.iload_n 3, 1) := by decide +kernel
theorem dX4_join_37 : decode cX4_join 37 = .ok (.baload, 1) := by decide +kernel
theorem dX4_join_38 : decode cX4_join 38 = .ok (.ifCond .eq 9, 3) := by decide +kernel
theorem dX4_join_41 : decode cX4_join 41 = .ok (.iinc 3 1, 3) := by decide +kernel
theorem dX4_join_44 : decode cX4_join 44 = .ok (.goto (-18), 3) := by decide +kernel
theorem dX4_join_47 : decode cX4_join 47 = .ok (.iload_n 3, 1) := by decide +kernel
theorem dX4_join_48 : decode cX4_join 48 = .ok (.bipush 24, 2) := by decide +kernel
theorem dX4_join_50 : decode cX4_join 50 = .ok (.if_icmp .ne 6, 3) := by decide +kernel
theorem dX4_join_53 : decode cX4_join 53 = .ok (.bipush (-3), 2) := by decide +kernel
theorem dX4_join_55 : decode cX4_join 55 = .ok (.ireturn, 1) := by decide +kernel
theorem dX4_join_56 : decode cX4_join 56 = .ok (.aload_n 0, 1) := by decide +kernel
theorem dX4_join_57 : decode cX4_join 57 = .ok (.getfield 17, 3) := by decide +kernel
theorem dX4_join_60 : decode cX4_join 60 = .ok (.iload_n 3, 1) := by decide +kernel
theorem dX4_join_61 : decode cX4_join 61 = .ok (.iconst 1, 1) := by decide +kernel
theorem dX4_join_62 : decode cX4_join 62 = .ok (.bastore, 1) := by decide +kernel
theorem dX4_join_63 : decode cX4_join 63 = .ok (.aload_n 0, 1) := by decide +kernel
theorem dX4_join_64 : decode cX4_join 64 = .ok (.getfield 13, 3) := by decide +kernel
theorem dX4_join_67 : decode cX4_join 67 = .ok (.iconst 2, 1) := by decide +kernel
theorem dX4_join_68 : decode cX4_join 68 = .ok (.iload_n 3, 1) := by decide +kernel
theorem dX4_join_69 : decode cX4_join 69 = .ok (.imul, 1) := by decide +kernel
theorem dX4_join_70 : decode cX4_join 70 = .ok (.iload_n 1, 1) := by decide +kernel
theorem dX4_join_71 : decode cX4_join 71 = .ok (.iload_n 2, 1) := by decide +kernel
theorem dX4_join_72 : decode cX4_join 72 = .ok (.if_icmp .ge 7, 3) := by decide +kernel
theorem dX4_join_75 : decode cX4_join 75 = .ok (.iload_n 1, 1) := by decide +kernel
theorem dX4_join_76 : decode cX4_join 76 = .ok (.goto 4, 3) := by decide +kernel
theorem dX4_join_79 : decode cX4_join 79 = .ok (.iload_n 2, 1) := by decide +kernel
theorem dX4_join_80 : decode cX4_join 80 = .ok (.iastore, 1) := by decide +kernel
theorem dX4_join_81 : decode cX4_join 81 = .ok (.aload_n 0, 1) := by decide +kernel
theorem dX4_join_82 : decode cX4_join 82 = .ok (.getfield 13, 3) := by decide +kernel
theorem dX4_join_85 : decode cX4_join 85 = .ok (.iconst 2, 1) := by decide +kernel
theorem dX4_join_86 : decode cX4_join 86 = .ok (.iload_n 3, 1) := by decide +kernel
theorem dX4_join_87 : decode cX4_join 87 = .ok (.imul, 1) := by decide +kernel
theorem dX4_join_88 : decode cX4_join 88 = .ok (.iconst 1, 1) := by decide +kernel
theorem dX4_join_89 : decode cX4_join 89 = .ok (.iadd, 1) := by decide +kernel
theorem dX4_join_90 : decode cX4_join 90 = .ok (.iload_n 1, 1) := by decide +kernel
theorem dX4_join_91 : decode cX4_join 91 = .ok (.iload_n 2, 1) := by decide +kernel
theorem dX4_join_92 : decode cX4_join 92 = .ok (.if_icmp .ge 7, 3) := by decide +kernel
theorem dX4_join_95 : decode cX4_join 95 = .ok (.iload_n 2, 1) := by decide +kernel
theorem dX4_join_96 : decode cX4_join 96 = .ok (.goto 4, 3) := by decide +kernel
theorem dX4_join_99 : decode cX4_join 99 = .ok (.iload_n 1, 1) := by decide +kernel
theorem dX4_join_100 : decode cX4_join 100 = .ok (.iastore, 1) := by decide +kernel
theorem dX4_join_101 : decode cX4_join 101 = .ok (.iload_n 3, 1) := by decide +kernel
theorem dX4_join_102 : decode cX4_join 102 = .ok (.ireturn, 1) := by decide +kernel
theorem dX4_cut_0 : decode cX4_cut 0 = .ok (.aload_n 0, 1) := by decide +kernel
theorem dX4_cut_1 : decode cX4_cut 1 = .ok (.iload_n 1, 1) := by decide +kernel
theorem dX4_cut_2 : decode cX4_cut 2 = .ok (.invokevirtual 54, 3) := by decide +kernel
theorem dX4_cut_5 : decode cX4_cut 5 = .ok (.ifCond .ne 5, 3) := by decide +kernel
theorem dX4_cut_8 : decode cX4_cut 8 = .ok (.iconst (-1), 1) := by decide +kernel
theorem dX4_cut_9 : decode cX4_cut 9 = .ok (.ireturn, 1) := by decide +kernel
theorem dX4_cut_10 : decode cX4_cut 10 = .ok (.aload_n 0, 1) := by decide +kernel
theorem dX4_cut_11 : decode cX4_cut 11 = .ok (.getfield 17, 3) := by decide +kernel
theorem dX4_cut_14 : decode cX4_cut 14 = .ok (.iload_n 1, 1) := by decide +kernel
theorem dX4_cut_15 : decode cX4_cut 15 = .ok (.iconst 0, 1) := by decide +kernel
theorem dX4_cut_16 : decode cX4_cut 16 = .ok (.bastore, 1) := by decide +kernel
theorem dX4_cut_17 : decode cX4_cut 17 = .ok (.bipush 10, 2) := by decide +kernel
theorem dX4_cut_19 : decode cX4_cut 19 = .ok (.aload_n 0, 1) := by decide +kernel
theorem dX4_cut_20 : decode cX4_cut 20 = .ok (.getfield 13, 3) := by decide +kernel
theorem dX4_cut_23 : decode cX4_cut 23 = .ok (.iconst 2, 1) := by decide +kernel
theorem dX4_cut_24 : decode cX4_cut 24 = .ok (.iload_n 1, 1) := by decide +kernel
theorem dX4_cut_25 : decode cX4_cut 25 = .ok (.imul, 1) := by decide +kernel
theorem dX4_cut_26 : decode cX4_cut 26 = .ok (.iaload, 1) := by decide +kernel
theorem dX4_cut_27 : decode cX4_cut 27 = .ok (.imul, 1) := by decide +kernel
theorem dX4_cut_28 : decode cX4_cut 28 = .ok (.aload_n 0, 1) := by decide +kernel
theorem dX4_cut_29 : decode cX4_cut 29 = .ok (.getfield 13, 3) := by decide +kernel
theorem dX4_cut_32 : decode cX4_cut 32 = .ok (.iconst 2, 1) := by decide +kernel
theorem dX4_cut_33 : decode cX4_cut 33 = .ok (.iload_n 1, 1) := by decide +kernel
theorem dX4_cut_34 : decode cX4_cut 34 = .ok (.imul, 1) := by decide +kernel
theorem dX4_cut_35 : decode cX4_cut 35 = .ok (.iconst 1, 1) := by decide +kernel
theorem dX4_cut_36 : decode cX4_cut 36 = .ok (.iadd, 1) := by decide +kernel
theorem dX4_cut_37 : decode cX4_cut 37 = .ok (.iaload, 1) := by decide +kernel
theorem dX4_cut_38 : decode cX4_cut 38 = .ok (.iadd, 1) := by decide +kernel
theorem dX4_cut_39 : decode cX4_cut 39 = .ok (.ireturn, 1) := by decide +kernel
theorem dX4_bitsOf_0 : decode cX4_bitsOf 0 = .ok (.iconst 0, 1) := by decide +kernel
theorem dX4_bitsOf_1 : decode cX4_bitsOf 1 = .ok (.istore_n 1, 1) := by decide +kernel
theorem dX4_bitsOf_2 : decode cX4_bitsOf 2 = .ok (.iconst 0, 1) := by decide +kernel
theorem dX4_bitsOf_3 : decode cX4_bitsOf 3 = .ok (.istore_n 2, 1) := by decide +kernel
theorem dX4_bitsOf_4 : decode cX4_bitsOf 4 = .ok (.iload_n 2, 1) := by decide +kernel
theorem dX4_bitsOf_5 : decode cX4_bitsOf 5 = .ok (.bipush 10, 2) := by decide +kernel
theorem dX4_bitsOf_7 : decode cX4_bitsOf 7 = .ok (.if_icmp .ge 17, 3) := by decide +kernel
theorem dX4_bitsOf_10 : decode cX4_bitsOf 10 = .ok (.iload_n 1, 1) := by decide +kernel
theorem dX4_bitsOf_11 : decode cX4_bitsOf 11 = .ok (.iload_n 0, 1) := by decide +kernel
theorem dX4_bitsOf_12 : decode cX4_bitsOf 12 = .ok (.iload_n 2, 1) := by decide +kernel
theorem dX4_bitsOf_13 : decode cX4_bitsOf 13 = .ok (.ishr, 1) := by decide +kernel
theorem dX4_bitsOf_14 : decode cX4_bitsOf 14 = .ok (.iconst 1, 1) := by decide +kernel
theorem dX4_bitsOf_15 : decode cX4_bitsOf 15 = .ok (.iand, 1) := by decide +kernel
theorem dX4_bitsOf_16 : decode cX4_bitsOf 16 = .ok (.iadd, 1) := by decide +kernel
theorem dX4_bitsOf_17 : decode cX4_bitsOf 17 = .ok (.istore_n 1, 1) := by decide +kernel
theorem dX4_bitsOf_18 : decode cX4_bitsOf 18 = .ok (.iinc 2 1, 3) := by decide +kernel
theorem dX4_bitsOf_21 : decode cX4_bitsOf 21 = .ok (.goto (-17), 3) := by decide +kernel
theorem dX4_bitsOf_24 : decode cX4_bitsOf 24 = .ok (.iload_n 1, 1) := by decide +kernel
theorem dX4_bitsOf_25 : decode cX4_bitsOf 25 = .ok (.ireturn, 1) := by decide +kernel
theorem dX4_within_0 : decode cX4_within 0 = .ok (.iload_n 3, 1) := by decide +kernel
theorem dX4_within_1 : decode cX4_within 1 = .ok (.ifCond .lt 26, 3) := by decide +kernel
theorem dX4_within_4 : decode cX4_within 4 = .ok (.iload_n 2, 1) := by decide +kernel
theorem dX4_within_5 : decode cX4_within 5 = .ok (.iload_n 3, 1) := by decide +kernel
theorem dX4_within_6 : decode cX4_within 6 = .ok (.ishr, 1) := by decide +kernel
theorem dX4_within_7 : decode cX4_within 7 = .ok (.iconst 1, 1) := by decide +kernel
theorem dX4_within_8 : decode cX4_within 8 = .ok (.iand, 1) := by decide +kernel
theorem dX4_within_9 : decode cX4_within 9 = .ok (.iconst 1, 1) := by decide +kernel
theorem dX4_within_10 : decode cX4_within 10 = .ok (.if_icmp .ne 17, 3) := by decide +kernel
theorem dX4_within_13 : decode cX4_within 13 = .ok (.iload_n 2, 1) := by decide +kernel
theorem dX4_within_14 : decode cX4_within 14 = .ok (.iload 4, 2) := by decide +kernel
theorem dX4_within_16 : decode cX4_within 16 = .ok (.ishr, 1) := by decide +kernel
theorem dX4_within_17 : decode cX4_within 17 = .ok (.iconst 1, 1) := by decide +kernel
theorem dX4_within_18 : decode cX4_within 18 = .ok (.iand, 1) := by decide +kernel
theorem dX4_within_19 : decode cX4_within 19 = .ok (.iconst 1, 1) := by decide +kernel
theorem dX4_within_20 : decode cX4_within 20 = .ok (.if_icmp .ne 7, 3) := by decide +kernel
theorem dX4_within_23 : decode cX4_within 23 = .ok (.iconst 1, 1) := by decide +kernel
theorem dX4_within_24 : decode cX4_within 24 = .ok (.goto 4, 3) := by decide +kernel
theorem dX4_within_27 : decode cX4_within 27 = .ok (.iconst 0, 1) := by decide +kernel
theorem dX4_within_28 : decode cX4_within 28 = .ok (.istore 5, 2) := by decide +kernel
theorem dX4_within_30 : decode cX4_within 30 = .ok (.iconst 0, 1) := by decide +kernel
theorem dX4_within_31 : decode cX4_within 31 = .ok (.istore 6, 2) := by decide +kernel
theorem dX4_within_33 : decode cX4_within 33 = .ok (.iload 6, 2) := by decide +kernel
theorem dX4_within_35 : decode cX4_within 35 = .ok (.bipush 24, 2) := by decide +kernel
theorem dX4_within_37 : decode cX4_within 37 = .ok (.if_icmp .ge 78, 3) := by decide +kernel
theorem dX4_within_40 : decode cX4_within 40 = .ok (.iload_n 1, 1) := by decide +kernel
theorem dX4_within_41 : decode cX4_within 41 = .ok (.iload 6, 2) := by decide +kernel
theorem dX4_within_43 : decode cX4_within 43 = .ok (.ishr, 1) := by decide +kernel
theorem dX4_within_44 : decode cX4_within 44 = .ok (.iconst 1, 1) := by decide +kernel
theorem dX4_within_45 : decode cX4_within 45 = .ok (.iand, 1) := by decide +kernel
theorem dX4_within_46 : decode cX4_within 46 = .ok (.iconst 1, 1) := by decide +kernel
theorem dX4_within_47 : decode cX4_within 47 = .ok (.if_icmp .ne 43, 3) := by decide +kernel
theorem dX4_within_50 : decode cX4_within 50 = .ok (.iload_n 2, 1) := by decide +kernel
theorem dX4_within_51 : decode cX4_within 51 = .ok (.aload_n 0, 1) := by decide +kernel
theorem dX4_within_52 : decode cX4_within 52 = .ok (.getfield 13, 3) := by decide +kernel
theorem dX4_within_55 : decode cX4_within 55 = .ok (.iconst 2, 1) := by decide +kernel
theorem dX4_within_56 : decode cX4_within 56 = .ok (.iload 6, 2) := by decide +kernel
theorem dX4_within_58 : decode cX4_within 58 = .ok (.imul, 1) := by decide +kernel
theorem dX4_within_59 : decode cX4_within 59 = .ok (.iaload, 1) := by decide +kernel
theorem dX4_within_60 : decode cX4_within 60 = .ok (.ishr, 1) := by decide +kernel
theorem dX4_within_61 : decode cX4_within 61 = .ok (.iconst 1, 1) := by decide +kernel
theorem dX4_within_62 : decode cX4_within 62 = .ok (.iand, 1) := by decide +kernel
theorem dX4_within_63 : decode cX4_within 63 = .ok (.iconst 1, 1) := by decide +kernel
theorem dX4_within_64 : decode cX4_within 64 = .ok (.if_icmp .ne 26, 3) := by decide +kernel
theorem dX4_within_67 : decode cX4_within 67 = .ok (.iload_n 2, 1) := by decide +kernel
theorem dX4_within_68 : decode cX4_within 68 = .ok (.aload_n 0, 1) := by decide +kernel
theorem dX4_within_69 : decode cX4_within 69 = .ok (.getfield 13, 3) := by decide +kernel
theorem dX4_within_72 : decode cX4_within 72 = .ok (.iconst 2, 1) := by decide +kernel
theorem dX4_within_73 : decode cX4_within 73 = .ok (.iload 6, 2) := by decide +kernel
theorem dX4_within_75 : decode cX4_within 75 = .ok (.imul, 1) := by decide +kernel
theorem dX4_within_76 : decode cX4_within 76 = .ok (.iconst 1, 1) := by decide +kernel
theorem dX4_within_77 : decode cX4_within 77 = .ok (.iadd, 1) := by decide +kernel
theorem dX4_within_78 : decode cX4_within 78 = .ok (.iaload, 1) := by decide +kernel
theorem dX4_within_79 : decode cX4_within 79 = .ok (.ishr, 1) := by decide +kernel
theorem dX4_within_80 : decode cX4_within 80 = .ok (.iconst 1, 1) := by decide +kernel
theorem dX4_within_81 : decode cX4_within 81 = .ok (.iand, 1) := by decide +kernel
theorem dX4_within_82 : decode cX4_within 82 = .ok (.iconst 1, 1) := by decide +kernel
theorem dX4_within_83 : decode cX4_within 83 = .ok (.if_icmp .ne 7, 3) := by decide +kernel
theorem dX4_within_86 : decode cX4_within 86 = .ok (.iconst 1, 1) := by decide +kernel
theorem dX4_within_87 : decode cX4_within 87 = .ok (.goto 4, 3) := by decide +kernel
theorem dX4_within_90 : decode cX4_within 90 = .ok (.iconst 0, 1) := by decide +kernel
theorem dX4_within_91 : decode cX4_within 91 = .ok (.istore 7, 2) := by decide +kernel
theorem dX4_within_93 : decode cX4_within 93 = .ok (.iload 7, 2) := by decide +kernel
theorem dX4_within_95 : decode cX4_within 95 = .ok (.ifCond .eq 10, 3) := by decide +kernel
theorem dX4_within_98 : decode cX4_within 98 = .ok (.iload 5, 2) := by decide +kernel
theorem dX4_within_100 : decode cX4_within 100 = .ok (.iconst 1, 1) := by decide +kernel
theorem dX4_within_101 : decode cX4_within 101 = .ok (.iadd, 1) := by decide +kernel
theorem dX4_within_102 : decode cX4_within 102 = .ok (.goto 5, 3) := by decide +kernel
theorem dX4_within_105 : decode cX4_within 105 = .ok (.iload 5, 2) := by decide +kernel
theorem dX4_within_107 : decode cX4_within 107 = .ok (.istore 5, 2) := by decide +kernel
theorem dX4_within_109 : decode cX4_within 109 = .ok (.iinc 6 1, 3) := by decide +kernel
theorem dX4_within_112 : decode cX4_within 112 = .ok (.goto (-79), 3) := by decide +kernel
theorem dX4_within_115 : decode cX4_within 115 = .ok (.iload 5, 2) := by decide +kernel
theorem dX4_within_117 : decode cX4_within 117 = .ok (.ireturn, 1) := by decide +kernel
theorem dX4_fits_0 : decode cX4_fits 0 = .ok (.iconst 1, 1) := by decide +kernel
theorem dX4_fits_1 : decode cX4_fits 1 = .ok (.istore 5, 2) := by decide +kernel
theorem dX4_fits_3 : decode cX4_fits 3 = .ok (.iload 5, 2) := by decide +kernel
theorem dX4_fits_5 : decode cX4_fits 5 = .ok (.iconst 1, 1) := by decide +kernel
theorem dX4_fits_6 : decode cX4_fits 6 = .ok (.aload_n 0, 1) := by decide +kernel
theorem dX4_fits_7 : decode cX4_fits 7 = .ok (.getfield 7, 3) := by decide +kernel
theorem dX4_fits_10 : decode cX4_fits 10 = .ok (.ishl, 1) := by decide +kernel
theorem dX4_fits_11 : decode cX4_fits 11 = .ok (.if_icmp .ge 33, 3) := by decide +kernel
theorem dX4_fits_14 : decode cX4_fits 14 = .ok (.aload_n 0, 1) := by decide +kernel
theorem dX4_fits_15 : decode cX4_fits 15 = .ok (.iload_n 1, 1) := by decide +kernel
theorem dX4_fits_16 : decode cX4_fits 16 = .ok (.iload 5, 2) := by decide +kernel
theorem dX4_fits_18 : decode cX4_fits 18 = .ok (.iload_n 3, 1) := by decide +kernel
theorem dX4_fits_19 : decode cX4_fits 19 = .ok (.iload 4, 2) := by decide +kernel
theorem dX4_fits_21 : decode cX4_fits 21 = .ok (.invokevirtual 57, 3) := by decide +kernel
theorem dX4_fits_24 : decode cX4_fits 24 = .ok (.iload_n 2, 1) := by decide +kernel
theorem dX4_fits_25 : decode cX4_fits 25 = .ok (.iload 5, 2) := by decide +kernel
theorem dX4_fits_27 : decode cX4_fits 27 = .ok (.invokestatic 61, 3) := by decide +kernel
theorem dX4_fits_30 : decode cX4_fits 30 = .ok (.iconst 1, 1) := by decide +kernel
theorem dX4_fits_31 : decode cX4_fits 31 = .ok (.isub, 1) := by decide +kernel
theorem dX4_fits_32 : decode cX4_fits 32 = .ok (.imul, 1) := by decide +kernel
theorem dX4_fits_33 : decode cX4_fits 33 = .ok (.if_icmp .le 5, 3) := by decide +kernel
theorem dX4_fits_36 : decode cX4_fits 36 = .ok (.iconst 0, 1) := by decide +kernel
theorem dX4_fits_37 : decode cX4_fits 37 = .ok (.ireturn, 1) := by decide +kernel
theorem dX4_fits_38 : decode cX4_fits 38 = .ok (.iinc 5 1, 3) := by decide +kernel
theorem dX4_fits_41 : decode cX4_fits 41 = .ok (.goto (-38), 3) := by decide +kernel
theorem dX4_fits_44 : decode cX4_fits 44 = .ok (.iconst 1, 1) := by decide +kernel
theorem dX4_fits_45 : decode cX4_fits 45 = .ok (.ireturn, 1) := by decide +kernel
theorem dX4_hold_0 : decode cX4_hold 0 = .ok (.aload_n 0, 1) := by decide +kernel
theorem dX4_hold_1 : decode cX4_hold 1 = .ok (.iconst 0, 1) := by decide +kernel
theorem dX4_hold_2 : decode cX4_hold 2 = .ok (.putfield 65, 3) := by decide +kernel
theorem dX4_hold_5 : decode cX4_hold 5 = .ok (.iconst 0, 1) := by decide +kernel
theorem dX4_hold_6 : decode cX4_hold 6 = .ok (.istore_n 2, 1) := by decide +kernel
theorem dX4_hold_7 : decode cX4_hold 7 = .ok (.iload_n 2, 1) := by decide +kernel
theorem dX4_hold_8 : decode cX4_hold 8 = .ok (.bipush 24, 2) := by decide +kernel
theorem dX4_hold_10 : decode cX4_hold 10 = .ok (.if_icmp .ge 48, 3) := by decide +kernel
theorem dX4_hold_13 : decode cX4_hold 13 = .ok (.aload_n 0, 1) := by decide +kernel
theorem dX4_hold_14 : decode cX4_hold 14 = .ok (.getfield 17, 3) := by decide +kernel
theorem dX4_hold_17 : decode cX4_hold 17 = .ok (.iload_n 2, 1) := by decide +kernel
theorem dX4_hold_18 : decode cX4_hold 18 = .ok (.baload, 1) := by decide +kernel
theorem dX4_hold_19 : decode cX4_hold 19 = .ok (.ifCond .eq 33, 3) := by decide +kernel
theorem dX4_hold_22 : decode cX4_hold 22 = .ok (.aload_n 0, 1) := by decide +kernel
theorem dX4_hold_23 : decode cX4_hold 23 = .ok (.aload_n 0, 1) := by decide +kernel
theorem dX4_hold_24 : decode cX4_hold 24 = .ok (.getfield 65, 3) := by decide +kernel
theorem dX4_hold_27 : decode cX4_hold 27 = .ok (.iconst 1, 1) := by decide +kernel
theorem dX4_hold_28 : decode cX4_hold 28 = .ok (.iload_n 2, 1) := by decide +kernel
theorem dX4_hold_29 : decode cX4_hold 29 = .ok (.ishl, 1) := by decide +kernel
theorem dX4_hold_30 : decode cX4_hold 30 = .ok (.ior, 1) := by decide +kernel
theorem dX4_hold_31 : decode cX4_hold 31 = .ok (.iload_n 1, 1) := by decide +kernel
theorem dX4_hold_32 : decode cX4_hold 32 = .ok (.iconst (-1), 1) := by decide +kernel
theorem dX4_hold_33 : decode cX4_hold 33 = .ok (.iconst (-1), 1) := by decide +kernel
theorem dX4_hold_34 : decode cX4_hold 34 = .ok (.invokevirtual 68, 3) := by decide +kernel
theorem dX4_hold_37 : decode cX4_hold 37 = .ok (.ifCond .eq 15, 3) := by decide +kernel
theorem dX4_hold_40 : decode cX4_hold 40 = .ok (.aload_n 0, 1) := by decide +kernel
theorem dX4_hold_41 : decode cX4_hold 41 = .ok (.dup, 1) := by decide +kernel
theorem dX4_hold_42 : decode cX4_hold 42 = .ok (.getfield 65, 3) := by decide +kernel
theorem dX4_hold_45 : decode cX4_hold 45 = .ok (.iconst 1, 1) := by decide +kernel
theorem dX4_hold_46 : decode cX4_hold 46 = .ok (.iload_n 2, 1) := by decide +kernel
theorem dX4_hold_47 : decode cX4_hold 47 = .ok (.ishl, 1) := by decide +kernel
theorem dX4_hold_48 : decode cX4_hold 48 = .ok (.ior, 1) := by decide +kernel
theorem dX4_hold_49 : decode cX4_hold 49 = .ok (.putfield 65, 3) := by decide +kernel
theorem dX4_hold_52 : decode cX4_hold 52 = .ok (.iinc 2 1, 3) := by decide +kernel
theorem dX4_hold_55 : decode cX4_hold 55 = .ok (.goto (-48), 3) := by decide +kernel
theorem dX4_hold_58 : decode cX4_hold 58 = .ok (.return_, 1) := by decide +kernel
theorem dX4_heldMany_0 : decode cX4_heldMany 0 = .ok (.iconst 0, 1) := by decide +kernel
theorem dX4_heldMany_1 : decode cX4_heldMany 1 = .ok (.istore_n 1, 1) := by decide +kernel
theorem dX4_heldMany_2 : decode cX4_heldMany 2 = .ok (.iconst 0, 1) := by decide +kernel
theorem dX4_heldMany_3 : decode cX4_heldMany 3 = .ok (.istore_n 2, 1) := by decide +kernel
theorem dX4_heldMany_4 : decode cX4_heldMany 4 = .ok (.iload_n 2, 1) := by decide +kernel
theorem dX4_heldMany_5 : decode cX4_heldMany 5 = .ok (.bipush 24, 2) := by decide +kernel
theorem dX4_heldMany_7 : decode cX4_heldMany 7 = .ok (.if_icmp .ge 20, 3) := by decide +kernel
theorem dX4_heldMany_10 : decode cX4_heldMany 10 = .ok (.iload_n 1, 1) := by decide +kernel
theorem dX4_heldMany_11 : decode cX4_heldMany 11 = .ok (.aload_n 0, 1) := by decide +kernel
theorem dX4_heldMany_12 : decode cX4_heldMany 12 = .ok (.getfield 65, 3) := by decide +kernel
theorem dX4_heldMany_15 : decode cX4_heldMany 15 = .ok (.iload_n 2, 1) := by decide +kernel
theorem dX4_heldMany_16 : decode cX4_heldMany 16 = .ok (.ishr, 1) := by decide +kernel
theorem dX4_heldMany_17 : decode cX4_heldMany 17 = .ok (.iconst 1, 1) := by decide +kernel
theorem dX4_heldMany_18 : decode cX4_heldMany 18 = .ok (.iand, 1) := by decide +kernel
theorem dX4_heldMany_19 : decode cX4_heldMany 19 = .ok (.iadd, 1) := by decide +kernel
theorem dX4_heldMany_20 : decode cX4_heldMany 20 = .ok (.istore_n 1, 1) := by decide +kernel
theorem dX4_heldMany_21 : decode cX4_heldMany 21 = .ok (.iinc 2 1, 3) := by decide +kernel
theorem dX4_heldMany_24 : decode cX4_heldMany 24 = .ok (.goto (-20), 3) := by decide +kernel
theorem dX4_heldMany_27 : decode cX4_heldMany 27 = .ok (.iload_n 1, 1) := by decide +kernel
theorem dX4_heldMany_28 : decode cX4_heldMany 28 = .ok (.ireturn, 1) := by decide +kernel
theorem dX4_most_0 : decode cX4_most 0 = .ok (.iload_n 1, 1) := by decide +kernel
theorem dX4_most_1 : decode cX4_most 1 = .ok (.invokestatic 72, 3) := by decide +kernel
theorem dX4_most_4 : decode cX4_most 4 = .ok (.ifCond .ne 6, 3) := by decide +kernel
theorem dX4_most_7 : decode cX4_most 7 = .ok (.bipush (-2), 2) := by decide +kernel
theorem dX4_most_9 : decode cX4_most 9 = .ok (.ireturn, 1) := by decide +kernel
theorem dX4_most_10 : decode cX4_most 10 = .ok (.aload_n 0, 1) := by decide +kernel
theorem dX4_most_11 : decode cX4_most 11 = .ok (.iload_n 1, 1) := by decide +kernel
theorem dX4_most_12 : decode cX4_most 12 = .ok (.invokevirtual 75, 3) := by decide +kernel
theorem dX4_most_15 : decode cX4_most 15 = .ok (.aload_n 0, 1) := by decide +kernel
theorem dX4_most_16 : decode cX4_most 16 = .ok (.invokevirtual 79, 3) := by decide +kernel
theorem dX4_most_19 : decode cX4_most 19 = .ok (.ireturn, 1) := by decide +kernel
theorem dX4_held_0 : decode cX4_held 0 = .ok (.iload_n 1, 1) := by decide +kernel
theorem dX4_held_1 : decode cX4_held 1 = .ok (.invokestatic 72, 3) := by decide +kernel
theorem dX4_held_4 : decode cX4_held 4 = .ok (.ifCond .ne 6, 3) := by decide +kernel
