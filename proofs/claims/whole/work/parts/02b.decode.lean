theorem dX0_init_0 : decode cX0_init 0 = .ok (.aload_n 0, 1) := by decide +kernel
theorem dX0_init_1 : decode cX0_init 1 = .ok (.invokespecial 3, 3) := by decide +kernel
theorem dX0_init_4 : decode cX0_init 4 = .ok (.aload_n 0, 1) := by decide +kernel
theorem dX0_init_5 : decode cX0_init 5 = .ok (.bipush 24, 2) := by decide +kernel
theorem dX0_init_7 : decode cX0_init 7 = .ok (.newarray .int, 2) := by decide +kernel
theorem dX0_init_9 : decode cX0_init 9 = .ok (.putfield 9, 3) := by decide +kernel
theorem dX0_init_12 : decode cX0_init 12 = .ok (.aload_n 0, 1) := by decide +kernel
theorem dX0_init_13 : decode cX0_init 13 = .ok (.bipush 24, 2) := by decide +kernel
theorem dX0_init_15 : decode cX0_init 15 = .ok (.newarray .int, 2) := by decide +kernel
theorem dX0_init_17 : decode cX0_init 17 = .ok (.putfield 15, 3) := by decide +kernel
theorem dX0_init_20 : decode cX0_init 20 = .ok (.aload_n 0, 1) := by decide +kernel
theorem dX0_init_21 : decode cX0_init 21 = .ok (.iconst 0, 1) := by decide +kernel
theorem dX0_init_22 : decode cX0_init 22 = .ok (.putfield 18, 3) := by decide +kernel
theorem dX0_init_25 : decode cX0_init 25 = .ok (.aload_n 0, 1) := by decide +kernel
theorem dX0_init_26 : decode cX0_init 26 = .ok (.iconst 1, 1) := by decide +kernel
theorem dX0_init_27 : decode cX0_init 27 = .ok (.putfield 22, 3) := by decide +kernel
theorem dX0_init_30 : decode cX0_init 30 = .ok (.return_, 1) := by decide +kernel
theorem dX0_hasVertex_0 : decode cX0_hasVertex 0 = .ok (.iload_n 1, 1) := by decide +kernel
theorem dX0_hasVertex_1 : decode cX0_hasVertex 1 = .ok (.ifCond .lt 15, 3) := by decide +kernel
theorem dX0_hasVertex_4 : decode cX0_hasVertex 4 = .ok (.iload_n 1, 1) := by decide +kernel
theorem dX0_hasVertex_5 : decode cX0_hasVertex 5 = .ok (.aload_n 0, 1) := by decide +kernel
theorem dX0_hasVertex_6 : decode cX0_hasVertex 6 = .ok (.getfield 22, 3) := by decide +kernel
theorem dX0_hasVertex_9 : decode cX0_hasVertex 9 = .ok (.if_icmp .ge 7, 3) := by decide +kernel
theorem dX0_hasVertex_12 : decode cX0_hasVertex 12 = .ok (.iconst 1, 1) := by decide +kernel
theorem dX0_hasVertex_13 : decode cX0_hasVertex 13 = .ok (.goto 4, 3) := by decide +kernel
theorem dX0_hasVertex_16 : decode cX0_hasVertex 16 = .ok (.iconst 0, 1) := by decide +kernel
theorem dX0_hasVertex_17 : decode cX0_hasVertex 17 = .ok (.ireturn, 1) := by decide +kernel
theorem dX0_hasEdge_0 : decode cX0_hasEdge 0 = .ok (.iload_n 1, 1) := by decide +kernel
theorem dX0_hasEdge_1 : decode cX0_hasEdge 1 = .ok (.ifCond .lt 25, 3) := by decide +kernel
theorem dX0_hasEdge_4 : decode cX0_hasEdge 4 = .ok (.iload_n 1, 1) := by decide +kernel
theorem dX0_hasEdge_5 : decode cX0_hasEdge 5 = .ok (.bipush 24, 2) := by decide +kernel
theorem dX0_hasEdge_7 : decode cX0_hasEdge 7 = .ok (.if_icmp .ge 19, 3) := by decide +kernel
theorem dX0_hasEdge_10 : decode cX0_hasEdge 10 = .ok (.aload_n 0, 1) := by decide +kernel
theorem dX0_hasEdge_11 : decode cX0_hasEdge 11 = .ok (.getfield 18, 3) := by decide +kernel
theorem dX0_hasEdge_14 : decode cX0_hasEdge 14 = .ok (.iload_n 1, 1) := by decide +kernel
theorem dX0_hasEdge_15 : decode cX0_hasEdge 15 = .ok (.ishr, 1) := by decide +kernel
theorem dX0_hasEdge_16 : decode cX0_hasEdge 16 = .ok (.iconst 1, 1) := by decide +kernel
theorem dX0_hasEdge_17 : decode cX0_hasEdge 17 = .ok (.iand, 1) := by decide +kernel
theorem dX0_hasEdge_18 : decode cX0_hasEdge 18 = .ok (.iconst 1, 1) := by decide +kernel
theorem dX0_hasEdge_19 : decode cX0_hasEdge 19 = .ok (.if_icmp .ne 7, 3) := by decide +kernel
theorem dX0_hasEdge_22 : decode cX0_hasEdge 22 = .ok (.iconst 1, 1) := by decide +kernel
theorem dX0_hasEdge_23 : decode cX0_hasEdge 23 = .ok (.goto 4, 3) := by decide +kernel
theorem dX0_hasEdge_26 : decode cX0_hasEdge 26 = .ok (.iconst 0, 1) := by decide +kernel
theorem dX0_hasEdge_27 : decode cX0_hasEdge 27 = .ok (.ireturn, 1) := by decide +kernel
theorem dX0_edgeCount_0 : decode cX0_edgeCount 0 = .ok (.aload_n 0, 1) := by decide +kernel
theorem dX0_edgeCount_1 : decode cX0_edgeCount 1 = .ok (.getfield 18, 3) := by decide +kernel
theorem dX0_edgeCount_4 : decode cX0_edgeCount 4 = .ok (.invokestatic 25, 3) := by decide +kernel
theorem dX0_edgeCount_7 : decode cX0_edgeCount 7 = .ok (.ireturn, 1) := by decide +kernel
theorem dX0_leastFree_0 : decode cX0_leastFree 0 = .ok (.iconst 0, 1) := by decide +kernel
theorem dX0_leastFree_1 : decode cX0_leastFree 1 = .ok (.istore_n 1, 1) := by decide +kernel
theorem dX0_leastFree_2 : decode cX0_leastFree 2 = .ok (.iload_n 1, 1) := by decide +kernel
theorem dX0_leastFree_3 : decode cX0_leastFree 3 = .ok (.bipush 24, 2) := by decide +kernel
theorem dX0_leastFree_5 : decode cX0_leastFree 5 = .ok (.if_icmp .ge 19, 3) := by decide +kernel
theorem dX0_leastFree_8 : decode cX0_leastFree 8 = .ok (.aload_n 0, 1) := by decide +kernel
theorem dX0_leastFree_9 : decode cX0_leastFree 9 = .ok (.iload_n 1, 1) := by decide +kernel
theorem dX0_leastFree_10 : decode cX0_leastFree 10 = .ok (.invokevirtual 31, 3) := by decide +kernel
theorem dX0_leastFree_13 : decode cX0_leastFree 13 = .ok (.ifCond .ne 5, 3) := by decide +kernel
theorem dX0_leastFree_16 : decode cX0_leastFree 16 = .ok (.iload_n 1, 1) := by decide +kernel
theorem dX0_leastFree_17 : decode cX0_leastFree 17 = .ok (.ireturn, 1) := by decide +kernel
theorem dX0_leastFree_18 : decode cX0_leastFree 18 = .ok (.iinc 1 1, 3) := by decide +kernel
theorem dX0_leastFree_21 : decode cX0_leastFree 21 = .ok (.goto (-19), 3) := by decide +kernel
theorem dX0_leastFree_24 : decode cX0_leastFree 24 = .ok (.iconst (-1), 1) := by decide +kernel
theorem dX0_leastFree_25 : decode cX0_leastFree 25 = .ok (.ireturn, 1) := by decide +kernel
theorem dX0_edgesAmong_0 : decode cX0_edgesAmong 0 = .ok (.iconst 0, 1) := by decide +kernel
theorem dX0_edgesAmong_1 : decode cX0_edgesAmong 1 = .ok (.istore_n 2, 1) := by decide +kernel
theorem dX0_edgesAmong_2 : decode cX0_edgesAmong 2 = .ok (.iconst 0, 1) := by decide +kernel
theorem dX0_edgesAmong_3 : decode cX0_edgesAmong 3 = .ok (.istore_n 3, 1) := by decide +kernel
theorem dX0_edgesAmong_4 : decode cX0_edgesAmong 4 = .ok (.iload_n 3, 1) := by decide +kernel
theorem dX0_edgesAmong_5 : decode cX0_edgesAmong 5 = .ok (.bipush 24, 2) := by decide +kernel
theorem dX0_edgesAmong_7 : decode cX0_edgesAmong 7 = .ok (.if_icmp .ge 34, 3) := by decide +kernel
theorem dX0_edgesAmong_10 : decode cX0_edgesAmong 10 = .ok (.aload_n 0, 1) := by decide +kernel
theorem dX0_edgesAmong_11 : decode cX0_edgesAmong 11 = .ok (.iload_n 3, 1) := by decide +kernel
theorem dX0_edgesAmong_12 : decode cX0_edgesAmong 12 = .ok (.invokevirtual 31, 3) := by decide +kernel
theorem dX0_edgesAmong_15 : decode cX0_edgesAmong 15 = .ok (.ifCond .eq 20, 3) := by decide +kernel
theorem dX0_edgesAmong_18 : decode cX0_edgesAmong 18 = .ok (.aload_n 0, 1) := by decide +kernel
theorem dX0_edgesAmong_19 : decode cX0_edgesAmong 19 = .ok (.iconst 1, 1) := by decide +kernel
theorem dX0_edgesAmong_20 : decode cX0_edgesAmong 20 = .ok (.iload_n 3, 1) := by decide +kernel
theorem dX0_edgesAmong_21 : decode cX0_edgesAmong 21 = .ok (.ishl, 1) := by decide +kernel
theorem dX0_edgesAmong_22 : decode cX0_edgesAmong 22 = .ok (.invokevirtual 35, 3) := by decide +kernel
theorem dX0_edgesAmong_25 : decode cX0_edgesAmong 25 = .ok (.iload_n 1, 1) := by decide +kernel
theorem dX0_edgesAmong_26 : decode cX0_edgesAmong 26 = .ok (.iconst (-1), 1) := by decide +kernel
theorem dX0_edgesAmong_27 : decode cX0_edgesAmong 27 = .ok (.ixor, 1) := by decide +kernel
theorem dX0_edgesAmong_28 : decode cX0_edgesAmong 28 = .ok (.iand, 1) := by decide +kernel
theorem dX0_edgesAmong_29 : decode cX0_edgesAmong 29 = .ok (.ifCond .ne 6, 3) := by decide +kernel
theorem dX0_edgesAmong_32 : decode cX0_edgesAmong 32 = .ok (.iinc 2 1, 3) := by decide +kernel
theorem dX0_edgesAmong_35 : decode cX0_edgesAmong 35 = .ok (.iinc 3 1, 3) := by decide +kernel
theorem dX0_edgesAmong_38 : decode cX0_edgesAmong 38 = .ok (.goto (-34), 3) := by decide +kernel
theorem dX0_edgesAmong_41 : decode cX0_edgesAmong 41 = .ok (.iload_n 2, 1) := by decide +kernel
theorem dX0_edgesAmong_42 : decode cX0_edgesAmong 42 = .ok (.ireturn, 1) := by decide +kernel
theorem dX0_verticesOf_0 : decode cX0_verticesOf 0 = .ok (.iconst 0, 1) := by decide +kernel
theorem dX0_verticesOf_1 : decode cX0_verticesOf 1 = .ok (.istore_n 2, 1) := by decide +kernel
theorem dX0_verticesOf_2 : decode cX0_verticesOf 2 = .ok (.iconst 0, 1) := by decide +kernel
theorem dX0_verticesOf_3 : decode cX0_verticesOf 3 = .ok (.istore_n 3, 1) := by decide +kernel
theorem dX0_verticesOf_4 : decode cX0_verticesOf 4 = .ok (.iload_n 3, 1) := by decide +kernel
theorem dX0_verticesOf_5 : decode cX0_verticesOf 5 = .ok (.bipush 24, 2) := by decide +kernel
theorem dX0_verticesOf_7 : decode cX0_verticesOf 7 = .ok (.if_icmp .ge 38, 3) := by decide +kernel
theorem dX0_verticesOf_10 : decode cX0_verticesOf 10 = .ok (.iload_n 1, 1) := by decide +kernel
theorem dX0_verticesOf_11 : decode cX0_verticesOf 11 = .ok (.iload_n 3, 1) := by decide +kernel
theorem dX0_verticesOf_12 : decode cX0_verticesOf 12 = .ok (.ishr, 1) := by decide +kernel
theorem dX0_verticesOf_13 : decode cX0_verticesOf 13 = .ok (.iconst 1, 1) := by decide +kernel
theorem dX0_verticesOf_14 : decode cX0_verticesOf 14 = .ok (.iand, 1) := by decide +kernel
theorem dX0_verticesOf_15 : decode cX0_verticesOf 15 = .ok (.iconst 1, 1) := by decide +kernel
theorem dX0_verticesOf_16 : decode cX0_verticesOf 16 = .ok (.if_icmp .ne 23, 3) := by decide +kernel
theorem dX0_verticesOf_19 : decode cX0_verticesOf 19 = .ok (.iload_n 2, 1) := by decide +kernel
theorem dX0_verticesOf_20 : decode cX0_verticesOf 20 = .ok (.iconst 1, 1) := by decide +kernel
theorem dX0_verticesOf_21 : decode cX0_verticesOf 21 = .ok (.aload_n 0, 1) := by decide +kernel
theorem dX0_verticesOf_22 : decode cX0_verticesOf 22 = .ok (.getfield 9, 3) := by decide +kernel
theorem dX0_verticesOf_25 : decode cX0_verticesOf 25 = .ok (.iload_n 3, 1) := by decide +kernel
theorem dX0_verticesOf_26 : decode cX0_verticesOf 26 = .ok (.iaload, 1) := by decide +kernel
theorem dX0_verticesOf_27 : decode cX0_verticesOf 27 = .ok (.ishl, 1) := by decide +kernel
theorem dX0_verticesOf_28 : decode cX0_verticesOf 28 = .ok (.iconst 1, 1) := by decide +kernel
theorem dX0_verticesOf_29 : decode cX0_verticesOf 29 = .ok (.aload_n 0, 1) := by decide +kernel
theorem dX0_verticesOf_30 : decode cX0_verticesOf 30 = .ok (.getfield 15, 3) := by decide +kernel
theorem dX0_verticesOf_33 : decode cX0_verticesOf 33 = .ok (.iload_n 3, 1) := by decide +kernel
theorem dX0_verticesOf_34 : decode cX0_verticesOf 34 = .ok (.iaload, 1) := by decide +kernel
theorem dX0_verticesOf_35 : decode cX0_verticesOf 35 = .ok (.ishl, 1) := by decide +kernel
theorem dX0_verticesOf_36 : decode cX0_verticesOf 36 = .ok (.ior, 1) := by decide +kernel
theorem dX0_verticesOf_37 : decode cX0_verticesOf 37 = .ok (.ior, 1) := by decide +kernel
theorem dX0_verticesOf_38 : decode cX0_verticesOf 38 = .ok (.istore_n 2, 1) := by decide +kernel
theorem dX0_verticesOf_39 : decode cX0_verticesOf 39 = .ok (.iinc 3 1, 3) := by decide +kernel
theorem dX0_verticesOf_42 : decode cX0_verticesOf 42 = .ok (.goto (-38), 3) := by decide +kernel
theorem dX0_verticesOf_45 : decode cX0_verticesOf 45 = .ok (.iload_n 2, 1) := by decide +kernel
theorem dX0_verticesOf_46 : decode cX0_verticesOf 46 = .ok (.ireturn, 1) := by decide +kernel
theorem dX1_init_0 : decode cX1_init 0 = .ok (.aload_n 0, 1) := by decide +kernel
theorem dX1_init_1 : decode cX1_init 1 = .ok (.invokespecial 3, 3) := by decide +kernel
theorem dX1_init_4 : decode cX1_init 4 = .ok (.aload_n 0, 1) := by decide +kernel
theorem dX1_init_5 : decode cX1_init 5 = .ok (.bipush 24, 2) := by decide +kernel
theorem dX1_init_7 : decode cX1_init 7 = .ok (.newarray .int, 2) := by decide +kernel
theorem dX1_init_9 : decode cX1_init 9 = .ok (.putfield 9, 3) := by decide +kernel
theorem dX1_init_12 : decode cX1_init 12 = .ok (.aload_n 0, 1) := by decide +kernel
theorem dX1_init_13 : decode cX1_init 13 = .ok (.iconst 0, 1) := by decide +kernel
theorem dX1_init_14 : decode cX1_init 14 = .ok (.putfield 15, 3) := by decide +kernel
theorem dX1_init_17 : decode cX1_init 17 = .ok (.aload_n 0, 1) := by decide +kernel
theorem dX1_init_18 : decode cX1_init 18 = .ok (.iconst 0, 1) := by decide +kernel
theorem dX1_init_19 : decode cX1_init 19 = .ok (.putfield 19, 3) := by decide +kernel
theorem dX1_init_22 : decode cX1_init 22 = .ok (.aload_n 0, 1) := by decide +kernel
theorem dX1_init_23 : decode cX1_init 23 = .ok (.iconst 0, 1) := by decide +kernel
theorem dX1_init_24 : decode cX1_init 24 = .ok (.putfield 23, 3) := by decide +kernel
theorem dX1_init_27 : decode cX1_init 27 = .ok (.aload_n 0, 1) := by decide +kernel
theorem dX1_init_28 : decode cX1_init 28 = .ok (.iconst 0, 1) := by decide +kernel
theorem dX1_init_29 : decode cX1_init 29 = .ok (.putfield 26, 3) := by decide +kernel
theorem dX1_init_32 : decode cX1_init 32 = .ok (.aload_n 0, 1) := by decide +kernel
theorem dX1_init_33 : decode cX1_init 33 = .ok (.iconst 0, 1) := by decide +kernel
theorem dX1_init_34 : decode cX1_init 34 = .ok (.putfield 29, 3) := by decide +kernel
theorem dX1_init_37 : decode cX1_init 37 = .ok (.aload_n 0, 1) := by decide +kernel
theorem dX1_init_38 : decode cX1_init 38 = .ok (.bipush 24, 2) := by decide +kernel
theorem dX1_init_40 : decode cX1_init 40 = .ok (.newarray .int, 2) := by decide +kernel
theorem dX1_init_42 : decode cX1_init 42 = .ok (.putfield 32, 3) := by decide +kernel
theorem dX1_init_45 : decode cX1_init 45 = .ok (.aload_n 0, 1) := by decide +kernel
theorem dX1_init_46 : decode cX1_init 46 = .ok (.iconst 0, 1) := by decide +kernel
theorem dX1_init_47 : decode cX1_init 47 = .ok (.putfield 35, 3) := by decide +kernel
theorem dX1_init_50 : decode cX1_init 50 = .ok (.aload_n 0, 1) := by decide +kernel
theorem dX1_init_51 : decode cX1_init 51 = .ok (.bipush 24, 2) := by decide +kernel
theorem dX1_init_53 : decode cX1_init 53 = .ok (.newarray .int, 2) := by decide +kernel
theorem dX1_init_55 : decode cX1_init 55 = .ok (.putfield 38, 3) := by decide +kernel
theorem dX1_init_58 : decode cX1_init 58 = .ok (.aload_n 0, 1) := by decide +kernel
theorem dX1_init_59 : decode cX1_init 59 = .ok (.iconst (-1), 1) := by decide +kernel
theorem dX1_init_60 : decode cX1_init 60 = .ok (.putfield 41, 3) := by decide +kernel
theorem dX1_init_63 : decode cX1_init 63 = .ok (.aload_n 0, 1) := by decide +kernel
theorem dX1_init_64 : decode cX1_init 64 = .ok (.iconst (-1), 1) := by decide +kernel
theorem dX1_init_65 : decode cX1_init 65 = .ok (.putfield 44, 3) := by decide +kernel
theorem dX1_init_68 : decode cX1_init 68 = .ok (.aload_n 0, 1) := by decide +kernel
theorem dX1_init_69 : decode cX1_init 69 = .ok (.iconst 0, 1) := by decide +kernel
theorem dX1_init_70 : decode cX1_init 70 = .ok (.iload_n 1, 1) := by decide +kernel
theorem dX1_init_71 : decode cX1_init 71 = .ok (.invokestatic 47, 3) := by decide +kernel
theorem dX1_init_74 : decode cX1_init 74 = .ok (.anewarray 53, 3) := by decide +kernel
theorem dX1_init_77 : decode cX1_init 77 = .ok (.putfield 55, 3) := by decide +kernel
theorem dX1_init_80 : decode cX1_init 80 = .ok (.iconst 0, 1) := by decide +kernel
theorem dX1_init_81 : decode cX1_init 81 = .ok (.istore_n 2, 1) := by decide +kernel
theorem dX1_init_82 : decode cX1_init 82 = .ok (.iload_n 2, 1) := by decide +kernel
theorem dX1_init_83 : decode cX1_init 83 = .ok (.aload_n 0, 1) := by decide +kernel
theorem dX1_init_84 : decode cX1_init 84 = .ok (.getfield 55, 3) := by decide +kernel
theorem dX1_init_87 : decode cX1_init 87 = .ok (.arraylength, 1) := by decide +kernel
theorem dX1_init_88 : decode cX1_init 88 = .ok (.if_icmp .ge 22, 3) := by decide +kernel
theorem dX1_init_91 : decode cX1_init 91 = .ok (.aload_n 0, 1) := by decide +kernel
theorem dX1_init_92 : decode cX1_init 92 = .ok (.getfield 55, 3) := by decide +kernel
theorem dX1_init_95 : decode cX1_init 95 = .ok (.iload_n 2, 1) := by decide +kernel
theorem dX1_init_96 : decode cX1_init 96 = .ok (.new 53, 3) := by decide +kernel
theorem dX1_init_99 : decode cX1_init 99 = .ok (.dup, 1) := by decide +kernel
theorem dX1_init_100 : decode cX1_init 100 = .ok (.invokespecial 59, 3) := by decide +kernel
theorem dX1_init_103 : decode cX1_init 103 = .ok (.aastore, 1) := by decide +kernel
theorem dX1_init_104 : decode cX1_init 104 = .ok (.iinc 2 1, 3) := by decide +kernel
theorem dX1_init_107 : decode cX1_init 107 = .ok (.goto (-25), 3) := by decide +kernel
theorem dX1_init_110 : decode cX1_init 110 = .ok (.return_, 1) := by decide +kernel
theorem dX1_pack_0 : decode cX1_pack 0 = .ok (.iconst 0, 1) := by decide +kernel
theorem dX1_pack_1 : decode cX1_pack 1 = .ok (.istore_n 2, 1) := by decide +kernel
theorem dX1_pack_2 : decode cX1_pack 2 = .ok (.iload_n 2, 1) := by decide +kernel
theorem dX1_pack_3 : decode cX1_pack 3 = .ok (.aload_n 0, 1) := by decide +kernel
theorem dX1_pack_4 : decode cX1_pack 4 = .ok (.getfield 55, 3) := by decide +kernel
theorem dX1_pack_7 : decode cX1_pack 7 = .ok (.arraylength, 1) := by decide +kernel
theorem dX1_pack_8 : decode cX1_pack 8 = .ok (.if_icmp .ge 18, 3) := by decide +kernel
theorem dX1_pack_11 : decode cX1_pack 11 = .ok (.aload_n 0, 1) := by decide +kernel
theorem dX1_pack_12 : decode cX1_pack 12 = .ok (.getfield 55, 3) := by decide +kernel
theorem dX1_pack_15 : decode cX1_pack 15 = .ok (.iload_n 2, 1) := by decide +kernel
theorem dX1_pack_16 : decode cX1_pack 16 = .ok (.aaload, 1) := by decide +kernel
theorem dX1_pack_17 : decode cX1_pack 17 = .ok (.invokevirtual 60, 3) := by decide +kernel
theorem dX1_pack_20 : decode cX1_pack 20 = .ok (.iinc 2 1, 3) := by decide +kernel
theorem dX1_pack_23 : decode cX1_pack 23 = .ok (.goto (-21), 3) := by decide +kernel
theorem dX1_pack_26 : decode cX1_pack 26 = .ok (.aload_n 0, 1) := by decide +kernel
theorem dX1_pack_27 : decode cX1_pack 27 = .ok (.getfield 9, 3) := by decide +kernel
theorem dX1_pack_30 : decode cX1_pack 30 = .ok (.iconst (-1), 1) := by decide +kernel
theorem dX1_pack_31 : decode cX1_pack 31 = .ok (.invokestatic 63, 3) := by decide +kernel
theorem dX1_pack_34 : decode cX1_pack 34 = .ok (.aload_n 0, 1) := by decide +kernel
theorem dX1_pack_35 : decode cX1_pack 35 = .ok (.iconst 0, 1) := by decide +kernel
theorem dX1_pack_36 : decode cX1_pack 36 = .ok (.putfield 15, 3) := by decide +kernel
theorem dX1_pack_39 : decode cX1_pack 39 = .ok (.iconst 0, 1) := by decide +kernel
theorem dX1_pack_40 : decode cX1_pack 40 = .ok (.istore_n 2, 1) := by decide +kernel
theorem dX1_pack_41 : decode cX1_pack 41 = .ok (.iload_n 2, 1) := by decide +kernel
theorem dX1_pack_42 : decode cX1_pack 42 = .ok (.bipush 24, 2) := by decide +kernel
theorem dX1_pack_44 : decode cX1_pack 44 = .ok (.if_icmp .ge 53, 3) := by decide +kernel
theorem dX1_pack_47 : decode cX1_pack 47 = .ok (.aload_n 1, 1) := by decide +kernel
theorem dX1_pack_48 : decode cX1_pack 48 = .ok (.iload_n 2, 1) := by decide +kernel
theorem dX1_pack_49 : decode cX1_pack 49 = .ok (.invokevirtual 69, 3) := by decide +kernel
theorem dX1_pack_52 : decode cX1_pack 52 = .ok (.ifCond .eq 39, 3) := by decide +kernel
theorem dX1_pack_55 : decode cX1_pack 55 = .ok (.aload_n 0, 1) := by decide +kernel
theorem dX1_pack_56 : decode cX1_pack 56 = .ok (.aload_n 1, 1) := by decide +kernel
theorem dX1_pack_57 : decode cX1_pack 57 = .ok (.aload_n 1, 1) := by decide +kernel
theorem dX1_pack_58 : decode cX1_pack 58 = .ok (.getfield 75, 3) := by decide +kernel
theorem dX1_pack_61 : decode cX1_pack 61 = .ok (.iload_n 2, 1) := by decide +kernel
theorem dX1_pack_62 : decode cX1_pack 62 = .ok (.iaload, 1) := by decide +kernel
theorem dX1_pack_63 : decode cX1_pack 63 = .ok (.aload_n 1, 1) := by decide +kernel
theorem dX1_pack_64 : decode cX1_pack 64 = .ok (.getfield 78, 3) := by decide +kernel
theorem dX1_pack_67 : decode cX1_pack 67 = .ok (.iload_n 2, 1) := by decide +kernel
theorem dX1_pack_68 : decode cX1_pack 68 = .ok (.iaload, 1) := by decide +kernel
theorem dX1_pack_69 : decode cX1_pack 69 = .ok (.invokevirtual 81, 3) := by decide +kernel
theorem dX1_pack_72 : decode cX1_pack 72 = .ok (.ifCond .eq 19, 3) := by decide +kernel
theorem dX1_pack_75 : decode cX1_pack 75 = .ok (.aload_n 0, 1) := by decide +kernel
theorem dX1_pack_76 : decode cX1_pack 76 = .ok (.aload_n 1, 1) := by decide +kernel
theorem dX1_pack_77 : decode cX1_pack 77 = .ok (.iload_n 2, 1) := by decide +kernel
theorem dX1_pack_78 : decode cX1_pack 78 = .ok (.invokevirtual 85, 3) := by decide +kernel
theorem dX1_pack_81 : decode cX1_pack 81 = .ok (.aload_n 0, 1) := by decide +kernel
theorem dX1_pack_82 : decode cX1_pack 82 = .ok (.dup, 1) := by decide +kernel
theorem dX1_pack_83 : decode cX1_pack 83 = .ok (.getfield 15, 3) := by decide +kernel
theorem dX1_pack_86 : decode cX1_pack 86 = .ok (.iconst 1, 1) := by decide +kernel
theorem dX1_pack_87 : decode cX1_pack 87 = .ok (.iadd, 1) := by decide +kernel
theorem dX1_pack_88 : decode cX1_pack 88 = .ok (.putfield 15, 3) := by decide +kernel
theorem dX1_pack_91 : decode cX1_pack 91 = .ok (.iinc 2 1, 3) := by decide +kernel
theorem dX1_pack_94 : decode cX1_pack 94 = .ok (.goto (-53), 3) := by decide +kernel
theorem dX1_pack_97 : decode cX1_pack 97 = .ok (.aload_n 0, 1) := by decide +kernel
theorem dX1_pack_98 : decode cX1_pack 98 = .ok (.iconst 1, 1) := by decide +kernel
theorem dX1_pack_99 : decode cX1_pack 99 = .ok (.putfield 19, 3) := by decide +kernel
theorem dX1_pack_102 : decode cX1_pack 102 = .ok (.aload_n 0, 1) := by decide +kernel
theorem dX1_pack_103 : decode cX1_pack 103 = .ok (.iconst 0, 1) := by decide +kernel
theorem dX1_pack_104 : decode cX1_pack 104 = .ok (.putfield 23, 3) := by decide +kernel
theorem dX1_pack_107 : decode cX1_pack 107 = .ok (.return_, 1) := by decide +kernel
theorem dX1_settle_0 : decode cX1_settle 0 = .ok (.aload_n 0, 1) := by decide +kernel
theorem dX1_settle_1 : decode cX1_settle 1 = .ok (.getfield 23, 3) := by decide +kernel
theorem dX1_settle_4 : decode cX1_settle 4 = .ok (.ifCond .eq 4, 3) := by decide +kernel
theorem dX1_settle_7 : decode cX1_settle 7 = .ok (.return_, 1) := by decide +kernel
theorem dX1_settle_8 : decode cX1_settle 8 = .ok (.iconst 0, 1) := by decide +kernel
theorem dX1_settle_9 : decode cX1_settle 9 = .ok (.istore_n 2, 1) := by decide +kernel
theorem dX1_settle_10 : decode cX1_settle 10 = .ok (.iload_n 2, 1) := by decide +kernel
theorem dX1_settle_11 : decode cX1_settle 11 = .ok (.bipush 24, 2) := by decide +kernel
theorem dX1_settle_13 : decode cX1_settle 13 = .ok (.if_icmp .ge 67, 3) := by decide +kernel
theorem dX1_settle_16 : decode cX1_settle 16 = .ok (.aload_n 0, 1) := by decide +kernel
theorem dX1_settle_17 : decode cX1_settle 17 = .ok (.dup, 1) := by decide +kernel
theorem dX1_settle_18 : decode cX1_settle 18 = .ok (.getfield 26, 3) := by decide +kernel
theorem dX1_settle_21 : decode cX1_settle 21 = .ok (.iconst 1, 1) := by decide +kernel
theorem dX1_settle_22 : decode cX1_settle 22 = .ok (.iload_n 2, 1) := by decide +kernel
theorem dX1_settle_23 : decode cX1_settle 23 = .ok (.ishl, 1) := by decide +kernel
theorem dX1_settle_24 : decode cX1_settle 24 = .ok (.ior, 1) := by decide +kernel
theorem dX1_settle_25 : decode cX1_settle 25 = .ok (.putfield 26, 3) := by decide +kernel
theorem dX1_settle_28 : decode cX1_settle 28 = .ok (.aload_n 0, 1) := by decide +kernel
theorem dX1_settle_29 : decode cX1_settle 29 = .ok (.getfield 9, 3) := by decide +kernel
theorem dX1_settle_32 : decode cX1_settle 32 = .ok (.iload_n 2, 1) := by decide +kernel
theorem dX1_settle_33 : decode cX1_settle 33 = .ok (.iaload, 1) := by decide +kernel
theorem dX1_settle_34 : decode cX1_settle 34 = .ok (.istore_n 3, 1) := by decide +kernel
theorem dX1_settle_35 : decode cX1_settle 35 = .ok (.iconst 0, 1) := by decide +kernel
theorem dX1_settle_36 : decode cX1_settle 36 = .ok (.istore 4, 2) := by decide +kernel
theorem dX1_settle_38 : decode cX1_settle 38 = .ok (.iload 4, 2) := by decide +kernel
theorem dX1_settle_40 : decode cX1_settle 40 = .ok (.iload_n 3, 1) := by decide +kernel
theorem dX1_settle_41 : decode cX1_settle 41 = .ok (.if_icmp .ge 33, 3) := by decide +kernel
theorem dX1_settle_44 : decode cX1_settle 44 = .ok (.iload 4, 2) := by decide +kernel
theorem dX1_settle_46 : decode cX1_settle 46 = .ok (.aload_n 0, 1) := by decide +kernel
theorem dX1_settle_47 : decode cX1_settle 47 = .ok (.getfield 55, 3) := by decide +kernel
theorem dX1_settle_50 : decode cX1_settle 50 = .ok (.arraylength, 1) := by decide +kernel
theorem dX1_settle_51 : decode cX1_settle 51 = .ok (.if_icmp .ge 23, 3) := by decide +kernel
theorem dX1_settle_54 : decode cX1_settle 54 = .ok (.aload_n 0, 1) := by decide +kernel
theorem dX1_settle_55 : decode cX1_settle 55 = .ok (.aload_n 1, 1) := by decide +kernel
theorem dX1_settle_56 : decode cX1_settle 56 = .ok (.iload_n 2, 1) := by decide +kernel
theorem dX1_settle_57 : decode cX1_settle 57 = .ok (.iload 4, 2) := by decide +kernel
theorem dX1_settle_59 : decode cX1_settle 59 = .ok (.invokevirtual 89, 3) := by decide +kernel
theorem dX1_settle_62 : decode cX1_settle 62 = .ok (.ifCond .eq 6, 3) := by decide +kernel
theorem dX1_settle_65 : decode cX1_settle 65 = .ok (.goto 9, 3) := by decide +kernel
theorem dX1_settle_68 : decode cX1_settle 68 = .ok (.iinc 4 1, 3) := by decide +kernel
theorem dX1_settle_71 : decode cX1_settle 71 = .ok (.goto (-33), 3) := by decide +kernel
theorem dX1_settle_74 : decode cX1_settle 74 = .ok (.iinc 2 1, 3) := by decide +kernel
theorem dX1_settle_77 : decode cX1_settle 77 = .ok (.goto (-67), 3) := by decide +kernel
theorem dX1_settle_80 : decode cX1_settle 80 = .ok (.aload_n 0, 1) := by decide +kernel
theorem dX1_settle_81 : decode cX1_settle 81 = .ok (.iconst 0, 1) := by decide +kernel
theorem dX1_settle_82 : decode cX1_settle 82 = .ok (.putfield 26, 3) := by decide +kernel
theorem dX1_settle_85 : decode cX1_settle 85 = .ok (.aload_n 0, 1) := by decide +kernel
theorem dX1_settle_86 : decode cX1_settle 86 = .ok (.iconst 1, 1) := by decide +kernel
theorem dX1_settle_87 : decode cX1_settle 87 = .ok (.putfield 23, 3) := by decide +kernel
theorem dX1_settle_90 : decode cX1_settle 90 = .ok (.return_, 1) := by decide +kernel
theorem dX1_movesTo_0 : decode cX1_movesTo 0 = .ok (.aload_n 0, 1) := by decide +kernel
theorem dX1_movesTo_1 : decode cX1_movesTo 1 = .ok (.getfield 55, 3) := by decide +kernel
theorem dX1_movesTo_4 : decode cX1_movesTo 4 = .ok (.iload_n 3, 1) := by decide +kernel
theorem dX1_movesTo_5 : decode cX1_movesTo 5 = .ok (.aaload, 1) := by decide +kernel
theorem dX1_movesTo_6 : decode cX1_movesTo 6 = .ok (.aload_n 1, 1) := by decide +kernel
theorem dX1_movesTo_7 : decode cX1_movesTo 7 = .ok (.getfield 75, 3) := by decide +kernel
theorem dX1_movesTo_10 : decode cX1_movesTo 10 = .ok (.iload_n 2, 1) := by decide +kernel
theorem dX1_movesTo_11 : decode cX1_movesTo 11 = .ok (.iaload, 1) := by decide +kernel
theorem dX1_movesTo_12 : decode cX1_movesTo 12 = .ok (.aload_n 1, 1) := by decide +kernel
theorem dX1_movesTo_13 : decode cX1_movesTo 13 = .ok (.getfield 78, 3) := by decide +kernel
theorem dX1_movesTo_16 : decode cX1_movesTo 16 = .ok (.iload_n 2, 1) := by decide +kernel
theorem dX1_movesTo_17 : decode cX1_movesTo 17 = .ok (.iaload, 1) := by decide +kernel
theorem dX1_movesTo_18 : decode cX1_movesTo 18 = .ok (.invokevirtual 92, 3) := by decide +kernel
theorem dX1_movesTo_21 : decode cX1_movesTo 21 = .ok (.istore 4, 2) := by decide +kernel
theorem dX1_movesTo_23 : decode cX1_movesTo 23 = .ok (.iload 4, 2) := by decide +kernel
theorem dX1_movesTo_25 : decode cX1_movesTo 25 = .ok (.iconst (-1), 1) := by decide +kernel
theorem dX1_movesTo_26 : decode cX1_movesTo 26 = .ok (.if_icmp .ne 17, 3) := by decide +kernel
theorem dX1_movesTo_29 : decode cX1_movesTo 29 = .ok (.aload_n 0, 1) := by decide +kernel
theorem dX1_movesTo_30 : decode cX1_movesTo 30 = .ok (.iload_n 2, 1) := by decide +kernel
theorem dX1_movesTo_31 : decode cX1_movesTo 31 = .ok (.invokevirtual 95, 3) := by decide +kernel
theorem dX1_movesTo_34 : decode cX1_movesTo 34 = .ok (.aload_n 0, 1) := by decide +kernel
theorem dX1_movesTo_35 : decode cX1_movesTo 35 = .ok (.aload_n 1, 1) := by decide +kernel
theorem dX1_movesTo_36 : decode cX1_movesTo 36 = .ok (.iload_n 2, 1) := by decide +kernel
theorem dX1_movesTo_37 : decode cX1_movesTo 37 = .ok (.iload_n 3, 1) := by decide +kernel
theorem dX1_movesTo_38 : decode cX1_movesTo 38 = .ok (.invokevirtual 99, 3) := by decide +kernel
theorem dX1_movesTo_41 : decode cX1_movesTo 41 = .ok (.iconst 1, 1) := by decide +kernel
theorem dX1_movesTo_42 : decode cX1_movesTo 42 = .ok (.ireturn, 1) := by decide +kernel
theorem dX1_movesTo_43 : decode cX1_movesTo 43 = .ok (.iload 4, 2) := by decide +kernel
theorem dX1_movesTo_45 : decode cX1_movesTo 45 = .ok (.aload_n 0, 1) := by decide +kernel
theorem dX1_movesTo_46 : decode cX1_movesTo 46 = .ok (.getfield 26, 3) := by decide +kernel
theorem dX1_movesTo_49 : decode cX1_movesTo 49 = .ok (.iconst (-1), 1) := by decide +kernel
theorem dX1_movesTo_50 : decode cX1_movesTo 50 = .ok (.ixor, 1) := by decide +kernel
theorem dX1_movesTo_51 : decode cX1_movesTo 51 = .ok (.iand, 1) := by decide +kernel
theorem dX1_movesTo_52 : decode cX1_movesTo 52 = .ok (.invokestatic 103, 3) := by decide +kernel
theorem dX1_movesTo_55 : decode cX1_movesTo 55 = .ok (.istore 5, 2) := by decide +kernel
theorem dX1_movesTo_57 : decode cX1_movesTo 57 = .ok (.iload 5, 2) := by decide +kernel
theorem dX1_movesTo_59 : decode cX1_movesTo 59 = .ok (.iconst (-1), 1) := by decide +kernel
theorem dX1_movesTo_60 : decode cX1_movesTo 60 = .ok (.if_icmp .ne 5, 3) := by decide +kernel
theorem dX1_movesTo_63 : decode cX1_movesTo 63 = .ok (.iconst 0, 1) := by decide +kernel
theorem dX1_movesTo_64 : decode cX1_movesTo 64 = .ok (.ireturn, 1) := by decide +kernel
theorem dX1_movesTo_65 : decode cX1_movesTo 65 = .ok (.aload_n 0, 1) := by decide +kernel
theorem dX1_movesTo_66 : decode cX1_movesTo 66 = .ok (.getfield 9, 3) := by decide +kernel
theorem dX1_movesTo_69 : decode cX1_movesTo 69 = .ok (.iload_n 2, 1) := by decide +kernel
theorem dX1_movesTo_70 : decode cX1_movesTo 70 = .ok (.iaload, 1) := by decide +kernel
theorem dX1_movesTo_71 : decode cX1_movesTo 71 = .ok (.istore 6, 2) := by decide +kernel
theorem dX1_movesTo_73 : decode cX1_movesTo 73 = .ok (.aload_n 0, 1) := by decide +kernel
theorem dX1_movesTo_74 : decode cX1_movesTo 74 = .ok (.iload 5, 2) := by decide +kernel
theorem dX1_movesTo_76 : decode cX1_movesTo 76 = .ok (.invokevirtual 95, 3) := by decide +kernel
theorem dX1_movesTo_79 : decode cX1_movesTo 79 = .ok (.aload_n 0, 1) := by decide +kernel
theorem dX1_movesTo_80 : decode cX1_movesTo 80 = .ok (.iload_n 2, 1) := by decide +kernel
theorem dX1_movesTo_81 : decode cX1_movesTo 81 = .ok (.invokevirtual 95, 3) := by decide +kernel
theorem dX1_movesTo_84 : decode cX1_movesTo 84 = .ok (.aload_n 0, 1) := by decide +kernel
theorem dX1_movesTo_85 : decode cX1_movesTo 85 = .ok (.aload_n 1, 1) := by decide +kernel
theorem dX1_movesTo_86 : decode cX1_movesTo 86 = .ok (.iload_n 2, 1) := by decide +kernel
theorem dX1_movesTo_87 : decode cX1_movesTo 87 = .ok (.iload_n 3, 1) := by decide +kernel
theorem dX1_movesTo_88 : decode cX1_movesTo 88 = .ok (.invokevirtual 99, 3) := by decide +kernel
theorem dX1_movesTo_91 : decode cX1_movesTo 91 = .ok (.aload_n 0, 1) := by decide +kernel
theorem dX1_movesTo_92 : decode cX1_movesTo 92 = .ok (.aload_n 1, 1) := by decide +kernel
theorem dX1_movesTo_93 : decode cX1_movesTo 93 = .ok (.aload_n 1, 1) := by decide +kernel
theorem dX1_movesTo_94 : decode cX1_movesTo 94 = .ok (.getfield 75, 3) := by decide +kernel
theorem dX1_movesTo_97 : decode cX1_movesTo 97 = .ok (.iload 5, 2) := by decide +kernel
theorem dX1_movesTo_99 : decode cX1_movesTo 99 = .ok (.iaload, 1) := by decide +kernel
theorem dX1_movesTo_100 : decode cX1_movesTo 100 = .ok (.aload_n 1, 1) := by decide +kernel
theorem dX1_movesTo_101 : decode cX1_movesTo 101 = .ok (.getfield 78, 3) := by decide +kernel
theorem dX1_movesTo_104 : decode cX1_movesTo 104 = .ok (.iload 5, 2) := by decide +kernel
theorem dX1_movesTo_106 : decode cX1_movesTo 106 = .ok (.iaload, 1) := by decide +kernel
theorem dX1_movesTo_107 : decode cX1_movesTo 107 = .ok (.invokevirtual 81, 3) := by decide +kernel
theorem dX1_movesTo_110 : decode cX1_movesTo 110 = .ok (.ifCond .eq 12, 3) := by decide +kernel
theorem dX1_movesTo_113 : decode cX1_movesTo 113 = .ok (.aload_n 0, 1) := by decide +kernel
theorem dX1_movesTo_114 : decode cX1_movesTo 114 = .ok (.aload_n 1, 1) := by decide +kernel
theorem dX1_movesTo_115 : decode cX1_movesTo 115 = .ok (.iload 5, 2) := by decide +kernel
theorem dX1_movesTo_117 : decode cX1_movesTo 117 = .ok (.invokevirtual 85, 3) := by decide +kernel
theorem dX1_movesTo_120 : decode cX1_movesTo 120 = .ok (.iconst 1, 1) := by decide +kernel
theorem dX1_movesTo_121 : decode cX1_movesTo 121 = .ok (.ireturn, 1) := by decide +kernel
theorem dX1_movesTo_122 : decode cX1_movesTo 122 = .ok (.aload_n 0, 1) := by decide +kernel
theorem dX1_movesTo_123 : decode cX1_movesTo 123 = .ok (.iload_n 2, 1) := by decide +kernel
theorem dX1_movesTo_124 : decode cX1_movesTo 124 = .ok (.invokevirtual 95, 3) := by decide +kernel
theorem dX1_movesTo_127 : decode cX1_movesTo 127 = .ok (.aload_n 0, 1) := by decide +kernel
theorem dX1_movesTo_128 : decode cX1_movesTo 128 = .ok (.aload_n 1, 1) := by decide +kernel
theorem dX1_movesTo_129 : decode cX1_movesTo 129 = .ok (.iload_n 2, 1) := by decide +kernel
theorem dX1_movesTo_130 : decode cX1_movesTo 130 = .ok (.iload 6, 2) := by decide +kernel
theorem dX1_movesTo_132 : decode cX1_movesTo 132 = .ok (.invokevirtual 99, 3) := by decide +kernel
theorem dX1_movesTo_135 : decode cX1_movesTo 135 = .ok (.aload_n 0, 1) := by decide +kernel
theorem dX1_movesTo_136 : decode cX1_movesTo 136 = .ok (.aload_n 1, 1) := by decide +kernel
theorem dX1_movesTo_137 : decode cX1_movesTo 137 = .ok (.iload 5, 2) := by decide +kernel
theorem dX1_movesTo_139 : decode cX1_movesTo 139 = .ok (.iload_n 3, 1) := by decide +kernel
theorem dX1_movesTo_140 : decode cX1_movesTo 140 = .ok (.invokevirtual 99, 3) := by decide +kernel
theorem dX1_movesTo_143 : decode cX1_movesTo 143 = .ok (.iconst 0, 1) := by decide +kernel
theorem dX1_movesTo_144 : decode cX1_movesTo 144 = .ok (.ireturn, 1) := by decide +kernel
theorem dX1_reason_0 : decode cX1_reason 0 = .ok (.aload_n 0, 1) := by decide +kernel
theorem dX1_reason_1 : decode cX1_reason 1 = .ok (.aload_n 1, 1) := by decide +kernel
theorem dX1_reason_2 : decode cX1_reason 2 = .ok (.aload_n 1, 1) := by decide +kernel
theorem dX1_reason_3 : decode cX1_reason 3 = .ok (.getfield 75, 3) := by decide +kernel
theorem dX1_reason_6 : decode cX1_reason 6 = .ok (.iload_n 2, 1) := by decide +kernel
theorem dX1_reason_7 : decode cX1_reason 7 = .ok (.iaload, 1) := by decide +kernel
theorem dX1_reason_8 : decode cX1_reason 8 = .ok (.aload_n 1, 1) := by decide +kernel
theorem dX1_reason_9 : decode cX1_reason 9 = .ok (.getfield 78, 3) := by decide +kernel
theorem dX1_reason_12 : decode cX1_reason 12 = .ok (.iload_n 2, 1) := by decide +kernel
theorem dX1_reason_13 : decode cX1_reason 13 = .ok (.iaload, 1) := by decide +kernel
theorem dX1_reason_14 : decode cX1_reason 14 = .ok (.invokevirtual 81, 3) := by decide +kernel
theorem dX1_reason_17 : decode cX1_reason 17 = .ok (.pop, 1) := by decide +kernel
theorem dX1_reason_18 : decode cX1_reason 18 = .ok (.aload_n 0, 1) := by decide +kernel
theorem dX1_reason_19 : decode cX1_reason 19 = .ok (.getfield 29, 3) := by decide +kernel
theorem dX1_reason_22 : decode cX1_reason 22 = .ok (.iconst 1, 1) := by decide +kernel
theorem dX1_reason_23 : decode cX1_reason 23 = .ok (.iload_n 2, 1) := by decide +kernel
theorem dX1_reason_24 : decode cX1_reason 24 = .ok (.ishl, 1) := by decide +kernel
theorem dX1_reason_25 : decode cX1_reason 25 = .ok (.ior, 1) := by decide +kernel
theorem dX1_reason_26 : decode cX1_reason 26 = .ok (.ireturn, 1) := by decide +kernel
theorem dX1_isFirstOfClass_0 : decode cX1_isFirstOfClass 0 = .ok (.iconst 0, 1) := by decide +kernel
theorem dX1_isFirstOfClass_1 : decode cX1_isFirstOfClass 1 = .ok (.istore_n 3, 1) := by decide +kernel
theorem dX1_isFirstOfClass_2 : decode cX1_isFirstOfClass 2 = .ok (.iload_n 3, 1) := by decide +kernel
theorem dX1_isFirstOfClass_3 : decode cX1_isFirstOfClass 3 = .ok (.iload_n 2, 1) := by decide +kernel
theorem dX1_isFirstOfClass_4 : decode cX1_isFirstOfClass 4 = .ok (.if_icmp .ge 21, 3) := by decide +kernel
theorem dX1_isFirstOfClass_7 : decode cX1_isFirstOfClass 7 = .ok (.aload_n 0, 1) := by decide +kernel
theorem dX1_isFirstOfClass_8 : decode cX1_isFirstOfClass 8 = .ok (.aload_n 1, 1) := by decide +kernel
theorem dX1_isFirstOfClass_9 : decode cX1_isFirstOfClass 9 = .ok (.iload_n 3, 1) := by decide +kernel
theorem dX1_isFirstOfClass_10 : decode cX1_isFirstOfClass 10 = .ok (.iload_n 2, 1) := by decide +kernel
theorem dX1_isFirstOfClass_11 : decode cX1_isFirstOfClass 11 = .ok (.invokevirtual 81, 3) := by decide +kernel
theorem dX1_isFirstOfClass_14 : decode cX1_isFirstOfClass 14 = .ok (.ifCond .ne 5, 3) := by decide +kernel
theorem dX1_isFirstOfClass_17 : decode cX1_isFirstOfClass 17 = .ok (.iconst 0, 1) := by decide +kernel
theorem dX1_isFirstOfClass_18 : decode cX1_isFirstOfClass 18 = .ok (.ireturn, 1) := by decide +kernel
theorem dX1_isFirstOfClass_19 : decode cX1_isFirstOfClass 19 = .ok (.iinc 3 1, 3) := by decide +kernel
theorem dX1_isFirstOfClass_22 : decode cX1_isFirstOfClass 22 = .ok (.goto (-20), 3) := by decide +kernel
theorem dX1_isFirstOfClass_25 : decode cX1_isFirstOfClass 25 = .ok (.iconst 1, 1) := by decide +kernel
theorem dX1_isFirstOfClass_26 : decode cX1_isFirstOfClass 26 = .ok (.ireturn, 1) := by decide +kernel
theorem dX1_findRoom_0 : decode cX1_findRoom 0 = .ok (.aload_n 0, 1) := by decide +kernel
theorem dX1_findRoom_1 : decode cX1_findRoom 1 = .ok (.iconst 0, 1) := by decide +kernel
theorem dX1_findRoom_2 : decode cX1_findRoom 2 = .ok (.putfield 29, 3) := by decide +kernel
theorem dX1_findRoom_5 : decode cX1_findRoom 5 = .ok (.aload_n 0, 1) := by decide +kernel
theorem dX1_findRoom_6 : decode cX1_findRoom 6 = .ok (.iconst 0, 1) := by decide +kernel
theorem dX1_findRoom_7 : decode cX1_findRoom 7 = .ok (.putfield 35, 3) := by decide +kernel
theorem dX1_findRoom_10 : decode cX1_findRoom 10 = .ok (.aload_n 0, 1) := by decide +kernel
theorem dX1_findRoom_11 : decode cX1_findRoom 11 = .ok (.iconst (-1), 1) := by decide +kernel
theorem dX1_findRoom_12 : decode cX1_findRoom 12 = .ok (.iload_n 2, 1) := by decide +kernel
theorem dX1_findRoom_13 : decode cX1_findRoom 13 = .ok (.iload_n 3, 1) := by decide +kernel
theorem dX1_findRoom_14 : decode cX1_findRoom 14 = .ok (.invokevirtual 107, 3) := by decide +kernel
theorem dX1_findRoom_17 : decode cX1_findRoom 17 = .ok (.ifCond .eq 5, 3) := by decide +kernel
theorem dX1_findRoom_20 : decode cX1_findRoom 20 = .ok (.iconst 1, 1) := by decide +kernel
theorem dX1_findRoom_21 : decode cX1_findRoom 21 = .ok (.ireturn, 1) := by decide +kernel
theorem dX1_findRoom_22 : decode cX1_findRoom 22 = .ok (.iconst 0, 1) := by decide +kernel
theorem dX1_findRoom_23 : decode cX1_findRoom 23 = .ok (.istore 4, 2) := by decide +kernel
theorem dX1_findRoom_25 : decode cX1_findRoom 25 = .ok (.iload 4, 2) := by decide +kernel
theorem dX1_findRoom_27 : decode cX1_findRoom 27 = .ok (.aload_n 0, 1) := by decide +kernel
theorem dX1_findRoom_28 : decode cX1_findRoom 28 = .ok (.getfield 35, 3) := by decide +kernel
theorem dX1_findRoom_31 : decode cX1_findRoom 31 = .ok (.if_icmp .ge 59, 3) := by decide +kernel
theorem dX1_findRoom_34 : decode cX1_findRoom 34 = .ok (.iload 4, 2) := by decide +kernel
theorem dX1_findRoom_36 : decode cX1_findRoom 36 = .ok (.bipush 24, 2) := by decide +kernel
theorem dX1_findRoom_38 : decode cX1_findRoom 38 = .ok (.if_icmp .ge 52, 3) := by decide +kernel
theorem dX1_findRoom_41 : decode cX1_findRoom 41 = .ok (.aload_n 0, 1) := by decide +kernel
theorem dX1_findRoom_42 : decode cX1_findRoom 42 = .ok (.getfield 32, 3) := by decide +kernel
theorem dX1_findRoom_45 : decode cX1_findRoom 45 = .ok (.iload 4, 2) := by decide +kernel
theorem dX1_findRoom_47 : decode cX1_findRoom 47 = .ok (.iaload, 1) := by decide +kernel
theorem dX1_findRoom_48 : decode cX1_findRoom 48 = .ok (.istore 5, 2) := by decide +kernel
theorem dX1_findRoom_50 : decode cX1_findRoom 50 = .ok (.aload_n 1, 1) := by decide +kernel
theorem dX1_findRoom_51 : decode cX1_findRoom 51 = .ok (.iload 5, 2) := by decide +kernel
theorem dX1_findRoom_53 : decode cX1_findRoom 53 = .ok (.invokevirtual 69, 3) := by decide +kernel
theorem dX1_findRoom_56 : decode cX1_findRoom 56 = .ok (.ifCond .eq 28, 3) := by decide +kernel
theorem dX1_findRoom_59 : decode cX1_findRoom 59 = .ok (.aload_n 0, 1) := by decide +kernel
theorem dX1_findRoom_60 : decode cX1_findRoom 60 = .ok (.iload 5, 2) := by decide +kernel
theorem dX1_findRoom_62 : decode cX1_findRoom 62 = .ok (.aload_n 1, 1) := by decide +kernel
theorem dX1_findRoom_63 : decode cX1_findRoom 63 = .ok (.getfield 75, 3) := by decide +kernel
theorem dX1_findRoom_66 : decode cX1_findRoom 66 = .ok (.iload 5, 2) := by decide +kernel
theorem dX1_findRoom_68 : decode cX1_findRoom 68 = .ok (.iaload, 1) := by decide +kernel
theorem dX1_findRoom_69 : decode cX1_findRoom 69 = .ok (.aload_n 1, 1) := by decide +kernel
theorem dX1_findRoom_70 : decode cX1_findRoom 70 = .ok (.getfield 78, 3) := by decide +kernel
theorem dX1_findRoom_73 : decode cX1_findRoom 73 = .ok (.iload 5, 2) := by decide +kernel
theorem dX1_findRoom_75 : decode cX1_findRoom 75 = .ok (.iaload, 1) := by decide +kernel
theorem dX1_findRoom_76 : decode cX1_findRoom 76 = .ok (.invokevirtual 107, 3) := by decide +kernel
theorem dX1_findRoom_79 : decode cX1_findRoom 79 = .ok (.ifCond .eq 5, 3) := by decide +kernel
theorem dX1_findRoom_82 : decode cX1_findRoom 82 = .ok (.iconst 1, 1) := by decide +kernel
theorem dX1_findRoom_83 : decode cX1_findRoom 83 = .ok (.ireturn, 1) := by decide +kernel
theorem dX1_findRoom_84 : decode cX1_findRoom 84 = .ok (.iinc 4 1, 3) := by decide +kernel
theorem dX1_findRoom_87 : decode cX1_findRoom 87 = .ok (.goto (-62), 3) := by decide +kernel
theorem dX1_findRoom_90 : decode cX1_findRoom 90 = .ok (.iconst 0, 1) := by decide +kernel
theorem dX1_findRoom_91 : decode cX1_findRoom 91 = .ok (.ireturn, 1) := by decide +kernel
theorem dX1_reachFrom_0 : decode cX1_reachFrom 0 = .ok (.iconst 0, 1) := by decide +kernel
theorem dX1_reachFrom_1 : decode cX1_reachFrom 1 = .ok (.istore 4, 2) := by decide +kernel
theorem dX1_reachFrom_3 : decode cX1_reachFrom 3 = .ok (.iload 4, 2) := by decide +kernel
theorem dX1_reachFrom_5 : decode cX1_reachFrom 5 = .ok (.aload_n 0, 1) := by decide +kernel
theorem dX1_reachFrom_6 : decode cX1_reachFrom 6 = .ok (.getfield 55, 3) := by decide +kernel
theorem dX1_reachFrom_9 : decode cX1_reachFrom 9 = .ok (.arraylength, 1) := by decide +kernel
theorem dX1_reachFrom_10 : decode cX1_reachFrom 10 = .ok (.if_icmp .ge 63, 3) := by decide +kernel
theorem dX1_reachFrom_13 : decode cX1_reachFrom 13 = .ok (.aload_n 0, 1) := by decide +kernel
theorem dX1_reachFrom_14 : decode cX1_reachFrom 14 = .ok (.getfield 55, 3) := by decide +kernel
theorem dX1_reachFrom_17 : decode cX1_reachFrom 17 = .ok (.iload 4, 2) := by decide +kernel
theorem dX1_reachFrom_19 : decode cX1_reachFrom 19 = .ok (.aaload, 1) := by decide +kernel
theorem dX1_reachFrom_20 : decode cX1_reachFrom 20 = .ok (.iload_n 2, 1) := by decide +kernel
theorem dX1_reachFrom_21 : decode cX1_reachFrom 21 = .ok (.iload_n 3, 1) := by decide +kernel
theorem dX1_reachFrom_22 : decode cX1_reachFrom 22 = .ok (.invokevirtual 92, 3) := by decide +kernel
theorem dX1_reachFrom_25 : decode cX1_reachFrom 25 = .ok (.istore 5, 2) := by decide +kernel
theorem dX1_reachFrom_27 : decode cX1_reachFrom 27 = .ok (.iload 5, 2) := by decide +kernel
theorem dX1_reachFrom_29 : decode cX1_reachFrom 29 = .ok (.iconst (-1), 1) := by decide +kernel
theorem dX1_reachFrom_30 : decode cX1_reachFrom 30 = .ok (.if_icmp .ne 16, 3) := by decide +kernel
theorem dX1_reachFrom_33 : decode cX1_reachFrom 33 = .ok (.aload_n 0, 1) := by decide +kernel
theorem dX1_reachFrom_34 : decode cX1_reachFrom 34 = .ok (.iload_n 1, 1) := by decide +kernel
theorem dX1_reachFrom_35 : decode cX1_reachFrom 35 = .ok (.putfield 41, 3) := by decide +kernel
theorem dX1_reachFrom_38 : decode cX1_reachFrom 38 = .ok (.aload_n 0, 1) := by decide +kernel
theorem dX1_reachFrom_39 : decode cX1_reachFrom 39 = .ok (.iload 4, 2) := by decide +kernel
theorem dX1_reachFrom_41 : decode cX1_reachFrom 41 = .ok (.putfield 44, 3) := by decide +kernel
theorem dX1_reachFrom_44 : decode cX1_reachFrom 44 = .ok (.iconst 1, 1) := by decide +kernel
theorem dX1_reachFrom_45 : decode cX1_reachFrom 45 = .ok (.ireturn, 1) := by decide +kernel
theorem dX1_reachFrom_46 : decode cX1_reachFrom 46 = .ok (.aload_n 0, 1) := by decide +kernel
theorem dX1_reachFrom_47 : decode cX1_reachFrom 47 = .ok (.iload 5, 2) := by decide +kernel
theorem dX1_reachFrom_49 : decode cX1_reachFrom 49 = .ok (.aload_n 0, 1) := by decide +kernel
theorem dX1_reachFrom_50 : decode cX1_reachFrom 50 = .ok (.getfield 26, 3) := by decide +kernel
theorem dX1_reachFrom_53 : decode cX1_reachFrom 53 = .ok (.iconst (-1), 1) := by decide +kernel
theorem dX1_reachFrom_54 : decode cX1_reachFrom 54 = .ok (.ixor, 1) := by decide +kernel
theorem dX1_reachFrom_55 : decode cX1_reachFrom 55 = .ok (.iand, 1) := by decide +kernel
theorem dX1_reachFrom_56 : decode cX1_reachFrom 56 = .ok (.aload_n 0, 1) := by decide +kernel
theorem dX1_reachFrom_57 : decode cX1_reachFrom 57 = .ok (.getfield 29, 3) := by decide +kernel
theorem dX1_reachFrom_60 : decode cX1_reachFrom 60 = .ok (.iconst (-1), 1) := by decide +kernel
theorem dX1_reachFrom_61 : decode cX1_reachFrom 61 = .ok (.ixor, 1) := by decide +kernel
theorem dX1_reachFrom_62 : decode cX1_reachFrom 62 = .ok (.iand, 1) := by decide +kernel
theorem dX1_reachFrom_63 : decode cX1_reachFrom 63 = .ok (.iload_n 1, 1) := by decide +kernel
theorem dX1_reachFrom_64 : decode cX1_reachFrom 64 = .ok (.invokevirtual 111, 3) := by decide +kernel
theorem dX1_reachFrom_67 : decode cX1_reachFrom 67 = .ok (.iinc 4 1, 3) := by decide +kernel
theorem dX1_reachFrom_70 : decode cX1_reachFrom 70 = .ok (.goto (-67), 3) := by decide +kernel
theorem dX1_reachFrom_73 : decode cX1_reachFrom 73 = .ok (.iconst 0, 1) := by decide +kernel
theorem dX1_reachFrom_74 : decode cX1_reachFrom 74 = .ok (.ireturn, 1) := by decide +kernel
theorem dX1_reach_0 : decode cX1_reach 0 = .ok (.aload_n 0, 1) := by decide +kernel
theorem dX1_reach_1 : decode cX1_reach 1 = .ok (.dup, 1) := by decide +kernel
theorem dX1_reach_2 : decode cX1_reach 2 = .ok (.getfield 29, 3) := by decide +kernel
theorem dX1_reach_5 : decode cX1_reach 5 = .ok (.iload_n 1, 1) := by decide +kernel
theorem dX1_reach_6 : decode cX1_reach 6 = .ok (.ior, 1) := by decide +kernel
theorem dX1_reach_7 : decode cX1_reach 7 = .ok (.putfield 29, 3) := by decide +kernel
theorem dX1_reach_10 : decode cX1_reach 10 = .ok (.iload_n 1, 1) := by decide +kernel
theorem dX1_reach_11 : decode cX1_reach 11 = .ok (.istore_n 3, 1) := by decide +kernel
theorem dX1_reach_12 : decode cX1_reach 12 = .ok (.iconst 0, 1) := by decide +kernel
theorem dX1_reach_13 : decode cX1_reach 13 = .ok (.istore 4, 2) := by decide +kernel
theorem dX1_reach_15 : decode cX1_reach 15 = .ok (.iload 4, 2) := by decide +kernel
theorem dX1_reach_17 : decode cX1_reach 17 = .ok (.bipush 24, 2) := by decide +kernel
theorem dX1_reach_19 : decode cX1_reach 19 = .ok (.if_icmp .ge 70, 3) := by decide +kernel
theorem dX1_reach_22 : decode cX1_reach 22 = .ok (.iload_n 3, 1) := by decide +kernel
theorem dX1_reach_23 : decode cX1_reach 23 = .ok (.ifCond .eq 66, 3) := by decide +kernel
theorem dX1_reach_26 : decode cX1_reach 26 = .ok (.iload_n 3, 1) := by decide +kernel
theorem dX1_reach_27 : decode cX1_reach 27 = .ok (.iload 4, 2) := by decide +kernel
theorem dX1_reach_29 : decode cX1_reach 29 = .ok (.ishr, 1) := by decide +kernel
theorem dX1_reach_30 : decode cX1_reach 30 = .ok (.iconst 1, 1) := by decide +kernel
theorem dX1_reach_31 : decode cX1_reach 31 = .ok (.iand, 1) := by decide +kernel
theorem dX1_reach_32 : decode cX1_reach 32 = .ok (.iconst 1, 1) := by decide +kernel
theorem dX1_reach_33 : decode cX1_reach 33 = .ok (.if_icmp .ne 50, 3) := by decide +kernel
theorem dX1_reach_36 : decode cX1_reach 36 = .ok (.aload_n 0, 1) := by decide +kernel
theorem dX1_reach_37 : decode cX1_reach 37 = .ok (.getfield 35, 3) := by decide +kernel
theorem dX1_reach_40 : decode cX1_reach 40 = .ok (.bipush 24, 2) := by decide +kernel
theorem dX1_reach_42 : decode cX1_reach 42 = .ok (.if_icmp .ge 41, 3) := by decide +kernel
theorem dX1_reach_45 : decode cX1_reach 45 = .ok (.aload_n 0, 1) := by decide +kernel
theorem dX1_reach_46 : decode cX1_reach 46 = .ok (.getfield 38, 3) := by decide +kernel
theorem dX1_reach_49 : decode cX1_reach 49 = .ok (.iload 4, 2) := by decide +kernel
theorem dX1_reach_51 : decode cX1_reach 51 = .ok (.iload_n 2, 1) := by decide +kernel
theorem dX1_reach_52 : decode cX1_reach 52 = .ok (.iastore, 1) := by decide +kernel
theorem dX1_reach_53 : decode cX1_reach 53 = .ok (.aload_n 0, 1) := by decide +kernel
theorem dX1_reach_54 : decode cX1_reach 54 = .ok (.getfield 32, 3) := by decide +kernel
theorem dX1_reach_57 : decode cX1_reach 57 = .ok (.aload_n 0, 1) := by decide +kernel
theorem dX1_reach_58 : decode cX1_reach 58 = .ok (.getfield 35, 3) := by decide +kernel
theorem dX1_reach_61 : decode cX1_reach 61 = .ok (.iload 4, 2) := by decide +kernel
theorem dX1_reach_63 : decode cX1_reach 63 = .ok (.iastore, 1) := by decide +kernel
theorem dX1_reach_64 : decode cX1_reach 64 = .ok (.aload_n 0, 1) := by decide +kernel
theorem dX1_reach_65 : decode cX1_reach 65 = .ok (.dup, 1) := by decide +kernel
theorem dX1_reach_66 : decode cX1_reach 66 = .ok (.getfield 35, 3) := by decide +kernel
theorem dX1_reach_69 : decode cX1_reach 69 = .ok (.iconst 1, 1) := by decide +kernel
theorem dX1_reach_70 : decode cX1_reach 70 = .ok (.iadd, 1) := by decide +kernel
theorem dX1_reach_71 : decode cX1_reach 71 = .ok (.putfield 35, 3) := by decide +kernel
theorem dX1_reach_74 : decode cX1_reach 74 = .ok (.iload_n 3, 1) := by decide +kernel
theorem dX1_reach_75 : decode cX1_reach 75 = .ok (.iconst 1, 1) := by decide +kernel
theorem dX1_reach_76 : decode cX1_reach 76 = .ok (.iload 4, 2) := by decide +kernel
theorem dX1_reach_78 : decode cX1_reach 78 = .ok (.ishl, 1) := by decide +kernel
theorem dX1_reach_79 : decode cX1_reach 79 = .ok (.iconst (-1), 1) := by decide +kernel
theorem dX1_reach_80 : decode cX1_reach 80 = .ok (.ixor, 1) := by decide +kernel
theorem dX1_reach_81 : decode cX1_reach 81 = .ok (.iand, 1) := by decide +kernel
theorem dX1_reach_82 : decode cX1_reach 82 = .ok (.istore_n 3, 1) := by decide +kernel
theorem dX1_reach_83 : decode cX1_reach 83 = .ok (.iinc 4 1, 3) := by decide +kernel
theorem dX1_reach_86 : decode cX1_reach 86 = .ok (.goto (-71), 3) := by decide +kernel
theorem dX1_reach_89 : decode cX1_reach 89 = .ok (.return_, 1) := by decide +kernel
theorem dX1_takeIn_0 : decode cX1_takeIn 0 = .ok (.aload_n 0, 1) := by decide +kernel
theorem dX1_takeIn_1 : decode cX1_takeIn 1 = .ok (.getfield 44, 3) := by decide +kernel
theorem dX1_takeIn_4 : decode cX1_takeIn 4 = .ok (.istore_n 3, 1) := by decide +kernel
theorem dX1_takeIn_5 : decode cX1_takeIn 5 = .ok (.aload_n 0, 1) := by decide +kernel
theorem dX1_takeIn_6 : decode cX1_takeIn 6 = .ok (.getfield 41, 3) := by decide +kernel
theorem dX1_takeIn_9 : decode cX1_takeIn 9 = .ok (.istore 4, 2) := by decide +kernel
theorem dX1_takeIn_11 : decode cX1_takeIn 11 = .ok (.iconst 0, 1) := by decide +kernel
theorem dX1_takeIn_12 : decode cX1_takeIn 12 = .ok (.istore 5, 2) := by decide +kernel
theorem dX1_takeIn_14 : decode cX1_takeIn 14 = .ok (.iload 5, 2) := by decide +kernel
theorem dX1_takeIn_16 : decode cX1_takeIn 16 = .ok (.bipush 24, 2) := by decide +kernel
theorem dX1_takeIn_18 : decode cX1_takeIn 18 = .ok (.if_icmp .ge 53, 3) := by decide +kernel
theorem dX1_takeIn_21 : decode cX1_takeIn 21 = .ok (.aload_n 1, 1) := by decide +kernel
theorem dX1_takeIn_22 : decode cX1_takeIn 22 = .ok (.iload 4, 2) := by decide +kernel
theorem dX1_takeIn_24 : decode cX1_takeIn 24 = .ok (.invokevirtual 69, 3) := by decide +kernel
theorem dX1_takeIn_27 : decode cX1_takeIn 27 = .ok (.ifCond .eq 44, 3) := by decide +kernel
theorem dX1_takeIn_30 : decode cX1_takeIn 30 = .ok (.aload_n 0, 1) := by decide +kernel
theorem dX1_takeIn_31 : decode cX1_takeIn 31 = .ok (.getfield 9, 3) := by decide +kernel
theorem dX1_takeIn_34 : decode cX1_takeIn 34 = .ok (.iload 4, 2) := by decide +kernel
theorem dX1_takeIn_36 : decode cX1_takeIn 36 = .ok (.iaload, 1) := by decide +kernel
theorem dX1_takeIn_37 : decode cX1_takeIn 37 = .ok (.istore 6, 2) := by decide +kernel
theorem dX1_takeIn_39 : decode cX1_takeIn 39 = .ok (.aload_n 0, 1) := by decide +kernel
theorem dX1_takeIn_40 : decode cX1_takeIn 40 = .ok (.iload 4, 2) := by decide +kernel
theorem dX1_takeIn_42 : decode cX1_takeIn 42 = .ok (.invokevirtual 95, 3) := by decide +kernel
theorem dX1_takeIn_45 : decode cX1_takeIn 45 = .ok (.aload_n 0, 1) := by decide +kernel
theorem dX1_takeIn_46 : decode cX1_takeIn 46 = .ok (.aload_n 1, 1) := by decide +kernel
theorem dX1_takeIn_47 : decode cX1_takeIn 47 = .ok (.iload 4, 2) := by decide +kernel
theorem dX1_takeIn_49 : decode cX1_takeIn 49 = .ok (.iload_n 3, 1) := by decide +kernel
theorem dX1_takeIn_50 : decode cX1_takeIn 50 = .ok (.invokevirtual 99, 3) := by decide +kernel
theorem dX1_takeIn_53 : decode cX1_takeIn 53 = .ok (.iload 6, 2) := by decide +kernel
theorem dX1_takeIn_55 : decode cX1_takeIn 55 = .ok (.istore_n 3, 1) := by decide +kernel
theorem dX1_takeIn_56 : decode cX1_takeIn 56 = .ok (.aload_n 0, 1) := by decide +kernel
theorem dX1_takeIn_57 : decode cX1_takeIn 57 = .ok (.getfield 38, 3) := by decide +kernel
theorem dX1_takeIn_60 : decode cX1_takeIn 60 = .ok (.iload 4, 2) := by decide +kernel
theorem dX1_takeIn_62 : decode cX1_takeIn 62 = .ok (.iaload, 1) := by decide +kernel
theorem dX1_takeIn_63 : decode cX1_takeIn 63 = .ok (.istore 4, 2) := by decide +kernel
theorem dX1_takeIn_65 : decode cX1_takeIn 65 = .ok (.iinc 5 1, 3) := by decide +kernel
theorem dX1_takeIn_68 : decode cX1_takeIn 68 = .ok (.goto (-54), 3) := by decide +kernel
theorem dX1_takeIn_71 : decode cX1_takeIn 71 = .ok (.aload_n 0, 1) := by decide +kernel
theorem dX1_takeIn_72 : decode cX1_takeIn 72 = .ok (.aload_n 1, 1) := by decide +kernel
theorem dX1_takeIn_73 : decode cX1_takeIn 73 = .ok (.iload_n 2, 1) := by decide +kernel
theorem dX1_takeIn_74 : decode cX1_takeIn 74 = .ok (.iload_n 3, 1) := by decide +kernel
theorem dX1_takeIn_75 : decode cX1_takeIn 75 = .ok (.invokevirtual 99, 3) := by decide +kernel
theorem dX1_takeIn_78 : decode cX1_takeIn 78 = .ok (.return_, 1) := by decide +kernel
theorem dX1_put_0 : decode cX1_put 0 = .ok (.iload_n 3, 1) := by decide +kernel
theorem dX1_put_1 : decode cX1_put 1 = .ok (.ifCond .lt 43, 3) := by decide +kernel
theorem dX1_put_4 : decode cX1_put 4 = .ok (.iload_n 3, 1) := by decide +kernel
theorem dX1_put_5 : decode cX1_put 5 = .ok (.aload_n 0, 1) := by decide +kernel
theorem dX1_put_6 : decode cX1_put 6 = .ok (.getfield 55, 3) := by decide +kernel
theorem dX1_put_9 : decode cX1_put 9 = .ok (.arraylength, 1) := by decide +kernel
theorem dX1_put_10 : decode cX1_put 10 = .ok (.if_icmp .ge 34, 3) := by decide +kernel
theorem dX1_put_13 : decode cX1_put 13 = .ok (.aload_n 0, 1) := by decide +kernel
theorem dX1_put_14 : decode cX1_put 14 = .ok (.getfield 55, 3) := by decide +kernel
theorem dX1_put_17 : decode cX1_put 17 = .ok (.iload_n 3, 1) := by decide +kernel
theorem dX1_put_18 : decode cX1_put 18 = .ok (.aaload, 1) := by decide +kernel
theorem dX1_put_19 : decode cX1_put 19 = .ok (.iconst 1, 1) := by decide +kernel
theorem dX1_put_20 : decode cX1_put 20 = .ok (.iload_n 2, 1) := by decide +kernel
theorem dX1_put_21 : decode cX1_put 21 = .ok (.ishl, 1) := by decide +kernel
theorem dX1_put_22 : decode cX1_put 22 = .ok (.aload_n 1, 1) := by decide +kernel
theorem dX1_put_23 : decode cX1_put 23 = .ok (.getfield 75, 3) := by decide +kernel
theorem dX1_put_26 : decode cX1_put 26 = .ok (.iload_n 2, 1) := by decide +kernel
theorem dX1_put_27 : decode cX1_put 27 = .ok (.iaload, 1) := by decide +kernel
theorem dX1_put_28 : decode cX1_put 28 = .ok (.aload_n 1, 1) := by decide +kernel
theorem dX1_put_29 : decode cX1_put 29 = .ok (.getfield 78, 3) := by decide +kernel
theorem dX1_put_32 : decode cX1_put 32 = .ok (.iload_n 2, 1) := by decide +kernel
theorem dX1_put_33 : decode cX1_put 33 = .ok (.iaload, 1) := by decide +kernel
theorem dX1_put_34 : decode cX1_put 34 = .ok (.invokevirtual 115, 3) := by decide +kernel
theorem dX1_put_37 : decode cX1_put 37 = .ok (.aload_n 0, 1) := by decide +kernel
theorem dX1_put_38 : decode cX1_put 38 = .ok (.getfield 9, 3) := by decide +kernel
theorem dX1_put_41 : decode cX1_put 41 = .ok (.iload_n 2, 1) := by decide +kernel
theorem dX1_put_42 : decode cX1_put 42 = .ok (.iload_n 3, 1) := by decide +kernel
theorem dX1_put_43 : decode cX1_put 43 = .ok (.iastore, 1) := by decide +kernel
theorem dX1_put_44 : decode cX1_put 44 = .ok (.return_, 1) := by decide +kernel
theorem dX1_remove_0 : decode cX1_remove 0 = .ok (.aload_n 0, 1) := by decide +kernel
theorem dX1_remove_1 : decode cX1_remove 1 = .ok (.getfield 9, 3) := by decide +kernel
theorem dX1_remove_4 : decode cX1_remove 4 = .ok (.iload_n 1, 1) := by decide +kernel
theorem dX1_remove_5 : decode cX1_remove 5 = .ok (.iaload, 1) := by decide +kernel
theorem dX1_remove_6 : decode cX1_remove 6 = .ok (.istore_n 2, 1) := by decide +kernel
theorem dX1_remove_7 : decode cX1_remove 7 = .ok (.iload_n 2, 1) := by decide +kernel
theorem dX1_remove_8 : decode cX1_remove 8 = .ok (.ifCond .lt 31, 3) := by decide +kernel
theorem dX1_remove_11 : decode cX1_remove 11 = .ok (.iload_n 2, 1) := by decide +kernel
theorem dX1_remove_12 : decode cX1_remove 12 = .ok (.aload_n 0, 1) := by decide +kernel
theorem dX1_remove_13 : decode cX1_remove 13 = .ok (.getfield 55, 3) := by decide +kernel
theorem dX1_remove_16 : decode cX1_remove 16 = .ok (.arraylength, 1) := by decide +kernel
theorem dX1_remove_17 : decode cX1_remove 17 = .ok (.if_icmp .ge 22, 3) := by decide +kernel
theorem dX1_remove_20 : decode cX1_remove 20 = .ok (.aload_n 0, 1) := by decide +kernel
theorem dX1_remove_21 : decode cX1_remove 21 = .ok (.getfield 55, 3) := by decide +kernel
theorem dX1_remove_24 : decode cX1_remove 24 = .ok (.iload_n 2, 1) := by decide +kernel
theorem dX1_remove_25 : decode cX1_remove 25 = .ok (.aaload, 1) := by decide +kernel
theorem dX1_remove_26 : decode cX1_remove 26 = .ok (.iconst 1, 1) := by decide +kernel
theorem dX1_remove_27 : decode cX1_remove 27 = .ok (.iload_n 1, 1) := by decide +kernel
theorem dX1_remove_28 : decode cX1_remove 28 = .ok (.ishl, 1) := by decide +kernel
theorem dX1_remove_29 : decode cX1_remove 29 = .ok (.invokevirtual 119, 3) := by decide +kernel
theorem dX1_remove_32 : decode cX1_remove 32 = .ok (.aload_n 0, 1) := by decide +kernel
theorem dX1_remove_33 : decode cX1_remove 33 = .ok (.getfield 9, 3) := by decide +kernel
theorem dX1_remove_36 : decode cX1_remove 36 = .ok (.iload_n 1, 1) := by decide +kernel
theorem dX1_remove_37 : decode cX1_remove 37 = .ok (.iconst (-1), 1) := by decide +kernel
theorem dX1_remove_38 : decode cX1_remove 38 = .ok (.iastore, 1) := by decide +kernel
theorem dX1_remove_39 : decode cX1_remove 39 = .ok (.return_, 1) := by decide +kernel
theorem dX1_leastOf_0 : decode cX1_leastOf 0 = .ok (.iconst 0, 1) := by decide +kernel
theorem dX1_leastOf_1 : decode cX1_leastOf 1 = .ok (.istore_n 1, 1) := by decide +kernel
theorem dX1_leastOf_2 : decode cX1_leastOf 2 = .ok (.iload_n 1, 1) := by decide +kernel
theorem dX1_leastOf_3 : decode cX1_leastOf 3 = .ok (.bipush 24, 2) := by decide +kernel
theorem dX1_leastOf_5 : decode cX1_leastOf 5 = .ok (.if_icmp .ge 20, 3) := by decide +kernel
theorem dX1_leastOf_8 : decode cX1_leastOf 8 = .ok (.iload_n 0, 1) := by decide +kernel
theorem dX1_leastOf_9 : decode cX1_leastOf 9 = .ok (.iload_n 1, 1) := by decide +kernel
theorem dX1_leastOf_10 : decode cX1_leastOf 10 = .ok (.ishr, 1) := by decide +kernel
theorem dX1_leastOf_11 : decode cX1_leastOf 11 = .ok (.iconst 1, 1) := by decide +kernel
theorem dX1_leastOf_12 : decode cX1_leastOf 12 = .ok (.iand, 1) := by decide +kernel
theorem dX1_leastOf_13 : decode cX1_leastOf 13 = .ok (.iconst 1, 1) := by decide +kernel
theorem dX1_leastOf_14 : decode cX1_leastOf 14 = .ok (.if_icmp .ne 5, 3) := by decide +kernel
theorem dX1_leastOf_17 : decode cX1_leastOf 17 = .ok (.iload_n 1, 1) := by decide +kernel
theorem dX1_leastOf_18 : decode cX1_leastOf 18 = .ok (.ireturn, 1) := by decide +kernel
theorem dX1_leastOf_19 : decode cX1_leastOf 19 = .ok (.iinc 1 1, 3) := by decide +kernel
theorem dX1_leastOf_22 : decode cX1_leastOf 22 = .ok (.goto (-20), 3) := by decide +kernel
theorem dX1_leastOf_25 : decode cX1_leastOf 25 = .ok (.iconst (-1), 1) := by decide +kernel
theorem dX1_leastOf_26 : decode cX1_leastOf 26 = .ok (.ireturn, 1) := by decide +kernel
theorem dX2_init_0 : decode cX2_init 0 = .ok (.aload_n 0, 1) := by decide +kernel
theorem dX2_init_1 : decode cX2_init 1 = .ok (.invokespecial 3, 3) := by decide +kernel
theorem dX2_init_4 : decode cX2_init 4 = .ok (.aload_n 0, 1) := by decide +kernel
theorem dX2_init_5 : decode cX2_init 5 = .ok (.bipush 10, 2) := by decide +kernel
theorem dX2_init_7 : decode cX2_init 7 = .ok (.newarray .int, 2) := by decide +kernel
theorem dX2_init_9 : decode cX2_init 9 = .ok (.putfield 9, 3) := by decide +kernel
theorem dX2_init_12 : decode cX2_init 12 = .ok (.aload_n 0, 1) := by decide +kernel
theorem dX2_init_13 : decode cX2_init 13 = .ok (.bipush 10, 2) := by decide +kernel
theorem dX2_init_15 : decode cX2_init 15 = .ok (.newarray .int, 2) := by decide +kernel
theorem dX2_init_17 : decode cX2_init 17 = .ok (.putfield 15, 3) := by decide +kernel
theorem dX2_init_20 : decode cX2_init 20 = .ok (.return_, 1) := by decide +kernel
theorem dX2_clear_0 : decode cX2_clear 0 = .ok (.aload_n 0, 1) := by decide +kernel
theorem dX2_clear_1 : decode cX2_clear 1 = .ok (.getfield 9, 3) := by decide +kernel
theorem dX2_clear_4 : decode cX2_clear 4 = .ok (.iconst (-1), 1) := by decide +kernel
theorem dX2_clear_5 : decode cX2_clear 5 = .ok (.invokestatic 18, 3) := by decide +kernel
theorem dX2_clear_8 : decode cX2_clear 8 = .ok (.aload_n 0, 1) := by decide +kernel
theorem dX2_clear_9 : decode cX2_clear 9 = .ok (.getfield 15, 3) := by decide +kernel
theorem dX2_clear_12 : decode cX2_clear 12 = .ok (.iconst 0, 1) := by decide +kernel
theorem dX2_clear_13 : decode cX2_clear 13 = .ok (.invokestatic 18, 3) := by decide +kernel
theorem dX2_clear_16 : decode cX2_clear 16 = .ok (.return_, 1) := by decide +kernel
theorem dX2_way_0 : decode cX2_way 0 = .ok (.iconst 0, 1) := by decide +kernel
theorem dX2_way_1 : decode cX2_way 1 = .ok (.istore_n 3, 1) := by decide +kernel
theorem dX2_way_2 : decode cX2_way 2 = .ok (.iload_n 1, 1) := by decide +kernel
theorem dX2_way_3 : decode cX2_way 3 = .ok (.istore 4, 2) := by decide +kernel
theorem dX2_way_5 : decode cX2_way 5 = .ok (.iconst 0, 1) := by decide +kernel
theorem dX2_way_6 : decode cX2_way 6 = .ok (.istore 5, 2) := by decide +kernel
theorem dX2_way_8 : decode cX2_way 8 = .ok (.iload 5, 2) := by decide +kernel
theorem dX2_way_10 : decode cX2_way 10 = .ok (.bipush 10, 2) := by decide +kernel
theorem dX2_way_12 : decode cX2_way 12 = .ok (.if_icmp .ge 37, 3) := by decide +kernel
theorem dX2_way_15 : decode cX2_way 15 = .ok (.iload 4, 2) := by decide +kernel
theorem dX2_way_17 : decode cX2_way 17 = .ok (.ifCond .lt 32, 3) := by decide +kernel
theorem dX2_way_20 : decode cX2_way 20 = .ok (.iload 4, 2) := by decide +kernel
theorem dX2_way_22 : decode cX2_way 22 = .ok (.bipush 10, 2) := by decide +kernel
theorem dX2_way_24 : decode cX2_way 24 = .ok (.if_icmp .ge 25, 3) := by decide +kernel
theorem dX2_way_27 : decode cX2_way 27 = .ok (.iload_n 3, 1) := by decide +kernel
theorem dX2_way_28 : decode cX2_way 28 = .ok (.iconst 1, 1) := by decide +kernel
theorem dX2_way_29 : decode cX2_way 29 = .ok (.iload 4, 2) := by decide +kernel
theorem dX2_way_31 : decode cX2_way 31 = .ok (.ishl, 1) := by decide +kernel
theorem dX2_way_32 : decode cX2_way 32 = .ok (.ior, 1) := by decide +kernel
theorem dX2_way_33 : decode cX2_way 33 = .ok (.istore_n 3, 1) := by decide +kernel
theorem dX2_way_34 : decode cX2_way 34 = .ok (.aload_n 0, 1) := by decide +kernel
theorem dX2_way_35 : decode cX2_way 35 = .ok (.getfield 9, 3) := by decide +kernel
theorem dX2_way_38 : decode cX2_way 38 = .ok (.iload 4, 2) := by decide +kernel
theorem dX2_way_40 : decode cX2_way 40 = .ok (.iaload, 1) := by decide +kernel
theorem dX2_way_41 : decode cX2_way 41 = .ok (.istore 4, 2) := by decide +kernel
theorem dX2_way_43 : decode cX2_way 43 = .ok (.iinc 5 1, 3) := by decide +kernel
theorem dX2_way_46 : decode cX2_way 46 = .ok (.goto (-38), 3) := by decide +kernel
theorem dX2_way_49 : decode cX2_way 49 = .ok (.iconst 0, 1) := by decide +kernel
theorem dX2_way_50 : decode cX2_way 50 = .ok (.istore 5, 2) := by decide +kernel
theorem dX2_way_52 : decode cX2_way 52 = .ok (.iload_n 2, 1) := by decide +kernel
theorem dX2_way_53 : decode cX2_way 53 = .ok (.istore 6, 2) := by decide +kernel
theorem dX2_way_55 : decode cX2_way 55 = .ok (.iconst 0, 1) := by decide +kernel
theorem dX2_way_56 : decode cX2_way 56 = .ok (.istore 7, 2) := by decide +kernel
theorem dX2_way_58 : decode cX2_way 58 = .ok (.iload 7, 2) := by decide +kernel
theorem dX2_way_60 : decode cX2_way 60 = .ok (.bipush 10, 2) := by decide +kernel
theorem dX2_way_62 : decode cX2_way 62 = .ok (.if_icmp .ge 55, 3) := by decide +kernel
theorem dX2_way_65 : decode cX2_way 65 = .ok (.iload 6, 2) := by decide +kernel
theorem dX2_way_67 : decode cX2_way 67 = .ok (.ifCond .lt 50, 3) := by decide +kernel
theorem dX2_way_70 : decode cX2_way 70 = .ok (.iload 6, 2) := by decide +kernel
theorem dX2_way_72 : decode cX2_way 72 = .ok (.bipush 10, 2) := by decide +kernel
theorem dX2_way_74 : decode cX2_way 74 = .ok (.if_icmp .ge 43, 3) := by decide +kernel
theorem dX2_way_77 : decode cX2_way 77 = .ok (.iload_n 3, 1) := by decide +kernel
theorem dX2_way_78 : decode cX2_way 78 = .ok (.iload 6, 2) := by decide +kernel
theorem dX2_way_80 : decode cX2_way 80 = .ok (.ishr, 1) := by decide +kernel
theorem dX2_way_81 : decode cX2_way 81 = .ok (.iconst 1, 1) := by decide +kernel
theorem dX2_way_82 : decode cX2_way 82 = .ok (.iand, 1) := by decide +kernel
theorem dX2_way_83 : decode cX2_way 83 = .ok (.iconst 1, 1) := by decide +kernel
theorem dX2_way_84 : decode cX2_way 84 = .ok (.if_icmp .ne 6, 3) := by decide +kernel
theorem dX2_way_87 : decode cX2_way 87 = .ok (.goto 30, 3) := by decide +kernel
theorem dX2_way_90 : decode cX2_way 90 = .ok (.iload 5, 2) := by decide +kernel
theorem dX2_way_92 : decode cX2_way 92 = .ok (.aload_n 0, 1) := by decide +kernel
theorem dX2_way_93 : decode cX2_way 93 = .ok (.getfield 15, 3) := by decide +kernel
theorem dX2_way_96 : decode cX2_way 96 = .ok (.iload 6, 2) := by decide +kernel
theorem dX2_way_98 : decode cX2_way 98 = .ok (.iaload, 1) := by decide +kernel
theorem dX2_way_99 : decode cX2_way 99 = .ok (.ior, 1) := by decide +kernel
theorem dX2_way_100 : decode cX2_way 100 = .ok (.istore 5, 2) := by decide +kernel
theorem dX2_way_102 : decode cX2_way 102 = .ok (.aload_n 0, 1) := by decide +kernel
theorem dX2_way_103 : decode cX2_way 103 = .ok (.getfield 9, 3) := by decide +kernel
theorem dX2_way_106 : decode cX2_way 106 = .ok (.iload 6, 2) := by decide +kernel
theorem dX2_way_108 : decode cX2_way 108 = .ok (.iaload, 1) := by decide +kernel
theorem dX2_way_109 : decode cX2_way 109 = .ok (.istore 6, 2) := by decide +kernel
theorem dX2_way_111 : decode cX2_way 111 = .ok (.iinc 7 1, 3) := by decide +kernel
theorem dX2_way_114 : decode cX2_way 114 = .ok (.goto (-56), 3) := by decide +kernel
theorem dX2_way_117 : decode cX2_way 117 = .ok (.iload 6, 2) := by decide +kernel
theorem dX2_way_119 : decode cX2_way 119 = .ok (.ifCond .ge 5, 3) := by decide +kernel
theorem dX2_way_122 : decode cX2_way 122 = .ok (.iconst (-1), 1) := by decide +kernel
theorem dX2_way_123 : decode cX2_way 123 = .ok (.ireturn, 1) := by decide +kernel
theorem dX2_way_124 : decode cX2_way 124 = .ok (.iload_n 1, 1) := by decide +kernel
theorem dX2_way_125 : decode cX2_way 125 = .ok (.istore 4, 2) := by decide +kernel
theorem dX2_way_127 : decode cX2_way 127 = .ok (.iconst 0, 1) := by decide +kernel
theorem dX2_way_128 : decode cX2_way 128 = .ok (.istore 7, 2) := by decide +kernel
theorem dX2_way_130 : decode cX2_way 130 = .ok (.iload 7, 2) := by decide +kernel
theorem dX2_way_132 : decode cX2_way 132 = .ok (.bipush 10, 2) := by decide +kernel
theorem dX2_way_134 : decode cX2_way 134 = .ok (.if_icmp .ge 52, 3) := by decide +kernel
theorem dX2_way_137 : decode cX2_way 137 = .ok (.iload 4, 2) := by decide +kernel
theorem dX2_way_139 : decode cX2_way 139 = .ok (.ifCond .lt 47, 3) := by decide +kernel
theorem dX2_way_142 : decode cX2_way 142 = .ok (.iload 4, 2) := by decide +kernel
theorem dX2_way_144 : decode cX2_way 144 = .ok (.bipush 10, 2) := by decide +kernel
theorem dX2_way_146 : decode cX2_way 146 = .ok (.if_icmp .ge 40, 3) := by decide +kernel
theorem dX2_way_149 : decode cX2_way 149 = .ok (.iload 4, 2) := by decide +kernel
theorem dX2_way_151 : decode cX2_way 151 = .ok (.iload 6, 2) := by decide +kernel
theorem dX2_way_153 : decode cX2_way 153 = .ok (.if_icmp .ne 6, 3) := by decide +kernel
theorem dX2_way_156 : decode cX2_way 156 = .ok (.goto 30, 3) := by decide +kernel
theorem dX2_way_159 : decode cX2_way 159 = .ok (.iload 5, 2) := by decide +kernel
theorem dX2_way_161 : decode cX2_way 161 = .ok (.aload_n 0, 1) := by decide +kernel
theorem dX2_way_162 : decode cX2_way 162 = .ok (.getfield 15, 3) := by decide +kernel
theorem dX2_way_165 : decode cX2_way 165 = .ok (.iload 4, 2) := by decide +kernel
theorem dX2_way_167 : decode cX2_way 167 = .ok (.iaload, 1) := by decide +kernel
theorem dX2_way_168 : decode cX2_way 168 = .ok (.ior, 1) := by decide +kernel
theorem dX2_way_169 : decode cX2_way 169 = .ok (.istore 5, 2) := by decide +kernel
theorem dX2_way_171 : decode cX2_way 171 = .ok (.aload_n 0, 1) := by decide +kernel
theorem dX2_way_172 : decode cX2_way 172 = .ok (.getfield 9, 3) := by decide +kernel
theorem dX2_way_175 : decode cX2_way 175 = .ok (.iload 4, 2) := by decide +kernel
theorem dX2_way_177 : decode cX2_way 177 = .ok (.iaload, 1) := by decide +kernel
theorem dX2_way_178 : decode cX2_way 178 = .ok (.istore 4, 2) := by decide +kernel
theorem dX2_way_180 : decode cX2_way 180 = .ok (.iinc 7 1, 3) := by decide +kernel
theorem dX2_way_183 : decode cX2_way 183 = .ok (.goto (-53), 3) := by decide +kernel
theorem dX2_way_186 : decode cX2_way 186 = .ok (.iload 5, 2) := by decide +kernel
theorem dX2_way_188 : decode cX2_way 188 = .ok (.ireturn, 1) := by decide +kernel
theorem dX2_link_0 : decode cX2_link 0 = .ok (.iload_n 3, 1) := by decide +kernel
theorem dX2_link_1 : decode cX2_link 1 = .ok (.istore 4, 2) := by decide +kernel
theorem dX2_link_3 : decode cX2_link 3 = .ok (.iload_n 2, 1) := by decide +kernel
theorem dX2_link_4 : decode cX2_link 4 = .ok (.istore 5, 2) := by decide +kernel
theorem dX2_link_6 : decode cX2_link 6 = .ok (.iload_n 1, 1) := by decide +kernel
theorem dX2_link_7 : decode cX2_link 7 = .ok (.istore 6, 2) := by decide +kernel
theorem dX2_link_9 : decode cX2_link 9 = .ok (.iconst 0, 1) := by decide +kernel
theorem dX2_link_10 : decode cX2_link 10 = .ok (.istore 7, 2) := by decide +kernel
theorem dX2_link_12 : decode cX2_link 12 = .ok (.iload 7, 2) := by decide +kernel
theorem dX2_link_14 : decode cX2_link 14 = .ok (.bipush 10, 2) := by decide +kernel
theorem dX2_link_16 : decode cX2_link 16 = .ok (.if_icmp .ge 69, 3) := by decide +kernel
theorem dX2_link_19 : decode cX2_link 19 = .ok (.iload 4, 2) := by decide +kernel
theorem dX2_link_21 : decode cX2_link 21 = .ok (.ifCond .lt 64, 3) := by decide +kernel
theorem dX2_link_24 : decode cX2_link 24 = .ok (.iload 4, 2) := by decide +kernel
theorem dX2_link_26 : decode cX2_link 26 = .ok (.bipush 10, 2) := by decide +kernel
theorem dX2_link_28 : decode cX2_link 28 = .ok (.if_icmp .ge 57, 3) := by decide +kernel
theorem dX2_link_31 : decode cX2_link 31 = .ok (.aload_n 0, 1) := by decide +kernel
theorem dX2_link_32 : decode cX2_link 32 = .ok (.getfield 9, 3) := by decide +kernel
theorem dX2_link_35 : decode cX2_link 35 = .ok (.iload 4, 2) := by decide +kernel
theorem dX2_link_37 : decode cX2_link 37 = .ok (.iaload, 1) := by decide +kernel
theorem dX2_link_38 : decode cX2_link 38 = .ok (.istore 8, 2) := by decide +kernel
theorem dX2_link_40 : decode cX2_link 40 = .ok (.aload_n 0, 1) := by decide +kernel
theorem dX2_link_41 : decode cX2_link 41 = .ok (.getfield 15, 3) := by decide +kernel
theorem dX2_link_44 : decode cX2_link 44 = .ok (.iload 4, 2) := by decide +kernel
theorem dX2_link_46 : decode cX2_link 46 = .ok (.iaload, 1) := by decide +kernel
theorem dX2_link_47 : decode cX2_link 47 = .ok (.istore 9, 2) := by decide +kernel
theorem dX2_link_49 : decode cX2_link 49 = .ok (.aload_n 0, 1) := by decide +kernel
theorem dX2_link_50 : decode cX2_link 50 = .ok (.getfield 9, 3) := by decide +kernel
theorem dX2_link_53 : decode cX2_link 53 = .ok (.iload 4, 2) := by decide +kernel
theorem dX2_link_55 : decode cX2_link 55 = .ok (.iload 5, 2) := by decide +kernel
theorem dX2_link_57 : decode cX2_link 57 = .ok (.iastore, 1) := by decide +kernel
theorem dX2_link_58 : decode cX2_link 58 = .ok (.aload_n 0, 1) := by decide +kernel
theorem dX2_link_59 : decode cX2_link 59 = .ok (.getfield 15, 3) := by decide +kernel
theorem dX2_link_62 : decode cX2_link 62 = .ok (.iload 4, 2) := by decide +kernel
theorem dX2_link_64 : decode cX2_link 64 = .ok (.iload 6, 2) := by decide +kernel
theorem dX2_link_66 : decode cX2_link 66 = .ok (.iastore, 1) := by decide +kernel
theorem dX2_link_67 : decode cX2_link 67 = .ok (.iload 4, 2) := by decide +kernel
theorem dX2_link_69 : decode cX2_link 69 = .ok (.istore 5, 2) := by decide +kernel
theorem dX2_link_71 : decode cX2_link 71 = .ok (.iload 9, 2) := by decide +kernel
theorem dX2_link_73 : decode cX2_link 73 = .ok (.istore 6, 2) := by decide +kernel
theorem dX2_link_75 : decode cX2_link 75 = .ok (.iload 8, 2) := by decide +kernel
theorem dX2_link_77 : decode cX2_link 77 = .ok (.istore 4, 2) := by decide +kernel
theorem dX2_link_79 : decode cX2_link 79 = .ok (.iinc 7 1, 3) := by decide +kernel
theorem dX2_link_82 : decode cX2_link 82 = .ok (.goto (-70), 3) := by decide +kernel
theorem dX2_link_85 : decode cX2_link 85 = .ok (.return_, 1) := by decide +kernel
theorem dX2_unlink_0 : decode cX2_unlink 0 = .ok (.iconst 0, 1) := by decide +kernel
theorem dX2_unlink_1 : decode cX2_unlink 1 = .ok (.istore_n 2, 1) := by decide +kernel
theorem dX2_unlink_2 : decode cX2_unlink 2 = .ok (.iload_n 2, 1) := by decide +kernel
theorem dX2_unlink_3 : decode cX2_unlink 3 = .ok (.bipush 10, 2) := by decide +kernel
theorem dX2_unlink_5 : decode cX2_unlink 5 = .ok (.if_icmp .ge 33, 3) := by decide +kernel
theorem dX2_unlink_8 : decode cX2_unlink 8 = .ok (.aload_n 0, 1) := by decide +kernel
theorem dX2_unlink_9 : decode cX2_unlink 9 = .ok (.getfield 15, 3) := by decide +kernel
theorem dX2_unlink_12 : decode cX2_unlink 12 = .ok (.iload_n 2, 1) := by decide +kernel
theorem dX2_unlink_13 : decode cX2_unlink 13 = .ok (.iaload, 1) := by decide +kernel
theorem dX2_unlink_14 : decode cX2_unlink 14 = .ok (.iload_n 1, 1) := by decide +kernel
theorem dX2_unlink_15 : decode cX2_unlink 15 = .ok (.if_icmp .ne 17, 3) := by decide +kernel
theorem dX2_unlink_18 : decode cX2_unlink 18 = .ok (.aload_n 0, 1) := by decide +kernel
theorem dX2_unlink_19 : decode cX2_unlink 19 = .ok (.getfield 9, 3) := by decide +kernel
theorem dX2_unlink_22 : decode cX2_unlink 22 = .ok (.iload_n 2, 1) := by decide +kernel
theorem dX2_unlink_23 : decode cX2_unlink 23 = .ok (.iconst (-1), 1) := by decide +kernel
theorem dX2_unlink_24 : decode cX2_unlink 24 = .ok (.iastore, 1) := by decide +kernel
theorem dX2_unlink_25 : decode cX2_unlink 25 = .ok (.aload_n 0, 1) := by decide +kernel
theorem dX2_unlink_26 : decode cX2_unlink 26 = .ok (.getfield 15, 3) := by decide +kernel
theorem dX2_unlink_29 : decode cX2_unlink 29 = .ok (.iload_n 2, 1) := by decide +kernel
theorem dX2_unlink_30 : decode cX2_unlink 30 = .ok (.iconst 0, 1) := by decide +kernel
theorem dX2_unlink_31 : decode cX2_unlink 31 = .ok (.iastore, 1) := by decide +kernel
theorem dX2_unlink_32 : decode cX2_unlink 32 = .ok (.iinc 2 1, 3) := by decide +kernel
theorem dX2_unlink_35 : decode cX2_unlink 35 = .ok (.goto (-33), 3) := by decide +kernel
theorem dX2_unlink_38 : decode cX2_unlink 38 = .ok (.return_, 1) := by decide +kernel
theorem dX3_init_0 : decode cX3_init 0 = .ok (.aload_n 0, 1) := by decide +kernel
theorem dX3_init_1 : decode cX3_init 1 = .ok (.invokespecial 1, 3) := by decide +kernel
theorem dX3_init_4 : decode cX3_init 4 = .ok (.aload_n 0, 1) := by decide +kernel
theorem dX3_init_5 : decode cX3_init 5 = .ok (.new 7, 3) := by decide +kernel
theorem dX3_init_8 : decode cX3_init 8 = .ok (.dup, 1) := by decide +kernel
theorem dX3_init_9 : decode cX3_init 9 = .ok (.invokespecial 9, 3) := by decide +kernel
theorem dX3_init_12 : decode cX3_init 12 = .ok (.putfield 10, 3) := by decide +kernel
theorem dX3_init_15 : decode cX3_init 15 = .ok (.aload_n 0, 1) := by decide +kernel
theorem dX3_init_16 : decode cX3_init 16 = .ok (.bipush 7, 2) := by decide +kernel
theorem dX3_init_18 : decode cX3_init 18 = .ok (.anewarray 16, 3) := by decide +kernel
theorem dX3_init_21 : decode cX3_init 21 = .ok (.putfield 18, 3) := by decide +kernel
theorem dX3_init_24 : decode cX3_init 24 = .ok (.iconst 0, 1) := by decide +kernel
theorem dX3_init_25 : decode cX3_init 25 = .ok (.istore_n 1, 1) := by decide +kernel
theorem dX3_init_26 : decode cX3_init 26 = .ok (.iload_n 1, 1) := by decide +kernel
theorem dX3_init_27 : decode cX3_init 27 = .ok (.bipush 6, 2) := by decide +kernel
theorem dX3_init_29 : decode cX3_init 29 = .ok (.if_icmp .gt 23, 3) := by decide +kernel
theorem dX3_init_32 : decode cX3_init 32 = .ok (.aload_n 0, 1) := by decide +kernel
theorem dX3_init_33 : decode cX3_init 33 = .ok (.getfield 18, 3) := by decide +kernel
theorem dX3_init_36 : decode cX3_init 36 = .ok (.iload_n 1, 1) := by decide +kernel
theorem dX3_init_37 : decode cX3_init 37 = .ok (.new 16, 3) := by decide +kernel
theorem dX3_init_40 : decode cX3_init 40 = .ok (.dup, 1) := by decide +kernel
theorem dX3_init_41 : decode cX3_init 41 = .ok (.iload_n 1, 1) := by decide +kernel
theorem dX3_init_42 : decode cX3_init 42 = .ok (.invokespecial 22, 3) := by decide +kernel
theorem dX3_init_45 : decode cX3_init 45 = .ok (.aastore, 1) := by decide +kernel
theorem dX3_init_46 : decode cX3_init 46 = .ok (.iinc 1 1, 3) := by decide +kernel
theorem dX3_init_49 : decode cX3_init 49 = .ok (.goto (-23), 3) := by decide +kernel
theorem dX3_init_52 : decode cX3_init 52 = .ok (.return_, 1) := by decide +kernel
theorem dX3_begin_0 : decode cX3_begin 0 = .ok (.iload_n 1, 1) := by decide +kernel
