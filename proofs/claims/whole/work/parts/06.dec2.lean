theorem dX8_put_144 : decode cX8_put 144 = .ok (.goto (-89), 3) := by decide +kernel
theorem dX8_put_147 : decode cX8_put 147 = .ok (.aload_n 0, 1) := by decide +kernel
theorem dX8_put_148 : decode cX8_put 148 = .ok (.getfield 35, 3) := by decide +kernel
theorem dX8_put_151 : decode cX8_put 151 = .ok (.aload_n 0, 1) := by decide +kernel
theorem dX8_put_152 : decode cX8_put 152 = .ok (.getfield 39, 3) := by decide +kernel
theorem dX8_put_155 : decode cX8_put 155 = .ok (.invokevirtual 193, 3) := by decide +kernel
theorem dX8_put_158 : decode cX8_put 158 = .ok (.aload_n 0, 1) := by decide +kernel
theorem dX8_put_159 : decode cX8_put 159 = .ok (.getfield 35, 3) := by decide +kernel
theorem dX8_put_162 : decode cX8_put 162 = .ok (.invokevirtual 149, 3) := by decide +kernel
theorem dX8_put_165 : decode cX8_put 165 = .ok (.ireturn, 1) := by decide +kernel
theorem dX8_readRow_0 : decode cX8_readRow 0 = .ok (.aload_n 0, 1) := by decide +kernel
theorem dX8_readRow_1 : decode cX8_readRow 1 = .ok (.getfield 39, 3) := by decide +kernel
theorem dX8_readRow_4 : decode cX8_readRow 4 = .ok (.invokevirtual 93, 3) := by decide +kernel
theorem dX8_readRow_7 : decode cX8_readRow 7 = .ok (.iconst 0, 1) := by decide +kernel
theorem dX8_readRow_8 : decode cX8_readRow 8 = .ok (.istore 4, 2) := by decide +kernel
theorem dX8_readRow_10 : decode cX8_readRow 10 = .ok (.iload 4, 2) := by decide +kernel
theorem dX8_readRow_12 : decode cX8_readRow 12 = .ok (.aload_n 0, 1) := by decide +kernel
theorem dX8_readRow_13 : decode cX8_readRow 13 = .ok (.getfield 10, 3) := by decide +kernel
theorem dX8_readRow_16 : decode cX8_readRow 16 = .ok (.iload_n 3, 1) := by decide +kernel
theorem dX8_readRow_17 : decode cX8_readRow 17 = .ok (.invokevirtual 198, 3) := by decide +kernel
theorem dX8_readRow_20 : decode cX8_readRow 20 = .ok (.if_icmp .ge 27, 3) := by decide +kernel
theorem dX8_readRow_23 : decode cX8_readRow 23 = .ok (.aload_n 0, 1) := by decide +kernel
theorem dX8_readRow_24 : decode cX8_readRow 24 = .ok (.getfield 39, 3) := by decide +kernel
theorem dX8_readRow_27 : decode cX8_readRow 27 = .ok (.iload_n 3, 1) := by decide +kernel
theorem dX8_readRow_28 : decode cX8_readRow 28 = .ok (.iload 4, 2) := by decide +kernel
theorem dX8_readRow_30 : decode cX8_readRow 30 = .ok (.aload_n 1, 1) := by decide +kernel
theorem dX8_readRow_31 : decode cX8_readRow 31 = .ok (.iload_n 2, 1) := by decide +kernel
theorem dX8_readRow_32 : decode cX8_readRow 32 = .ok (.iload 4, 2) := by decide +kernel
theorem dX8_readRow_34 : decode cX8_readRow 34 = .ok (.iadd, 1) := by decide +kernel
theorem dX8_readRow_35 : decode cX8_readRow 35 = .ok (.invokevirtual 263, 3) := by decide +kernel
theorem dX8_readRow_38 : decode cX8_readRow 38 = .ok (.invokevirtual 214, 3) := by decide +kernel
theorem dX8_readRow_41 : decode cX8_readRow 41 = .ok (.iinc 4 1, 3) := by decide +kernel
theorem dX8_readRow_44 : decode cX8_readRow 44 = .ok (.goto (-34), 3) := by decide +kernel
theorem dX8_readRow_47 : decode cX8_readRow 47 = .ok (.return_, 1) := by decide +kernel
theorem dX8_readTape_0 : decode cX8_readTape 0 = .ok (.aload_n 0, 1) := by decide +kernel
theorem dX8_readTape_1 : decode cX8_readTape 1 = .ok (.getfield 28, 3) := by decide +kernel
theorem dX8_readTape_4 : decode cX8_readTape 4 = .ok (.aload_n 0, 1) := by decide +kernel
theorem dX8_readTape_5 : decode cX8_readTape 5 = .ok (.getfield 19, 3) := by decide +kernel
theorem dX8_readTape_8 : decode cX8_readTape 8 = .ok (.aload_n 0, 1) := by decide +kernel
theorem dX8_readTape_9 : decode cX8_readTape 9 = .ok (.getfield 39, 3) := by decide +kernel
theorem dX8_readTape_12 : decode cX8_readTape 12 = .ok (.invokevirtual 248, 3) := by decide +kernel
theorem dX8_readTape_15 : decode cX8_readTape 15 = .ok (.istore_n 1, 1) := by decide +kernel
theorem dX8_readTape_16 : decode cX8_readTape 16 = .ok (.aload_n 0, 1) := by decide +kernel
theorem dX8_readTape_17 : decode cX8_readTape 17 = .ok (.getfield 19, 3) := by decide +kernel
theorem dX8_readTape_20 : decode cX8_readTape 20 = .ok (.invokevirtual 252, 3) := by decide +kernel
theorem dX8_readTape_23 : decode cX8_readTape 23 = .ok (.iload_n 1, 1) := by decide +kernel
theorem dX8_readTape_24 : decode cX8_readTape 24 = .ok (.ireturn, 1) := by decide +kernel
theorem dX8_reduce_0 : decode cX8_reduce 0 = .ok (.aload_n 0, 1) := by decide +kernel
theorem dX8_reduce_1 : decode cX8_reduce 1 = .ok (.getfield 39, 3) := by decide +kernel
theorem dX8_reduce_4 : decode cX8_reduce 4 = .ok (.invokevirtual 93, 3) := by decide +kernel
theorem dX8_reduce_7 : decode cX8_reduce 7 = .ok (.iconst 0, 1) := by decide +kernel
theorem dX8_reduce_8 : decode cX8_reduce 8 = .ok (.istore_n 1, 1) := by decide +kernel
theorem dX8_reduce_9 : decode cX8_reduce 9 = .ok (.iload_n 1, 1) := by decide +kernel
theorem dX8_reduce_10 : decode cX8_reduce 10 = .ok (.aload_n 0, 1) := by decide +kernel
theorem dX8_reduce_11 : decode cX8_reduce 11 = .ok (.getfield 10, 3) := by decide +kernel
theorem dX8_reduce_14 : decode cX8_reduce 14 = .ok (.invokevirtual 98, 3) := by decide +kernel
theorem dX8_reduce_17 : decode cX8_reduce 17 = .ok (.if_icmp .gt 57, 3) := by decide +kernel
theorem dX8_reduce_20 : decode cX8_reduce 20 = .ok (.iconst 0, 1) := by decide +kernel
theorem dX8_reduce_21 : decode cX8_reduce 21 = .ok (.istore_n 2, 1) := by decide +kernel
theorem dX8_reduce_22 : decode cX8_reduce 22 = .ok (.iload_n 2, 1) := by decide +kernel
theorem dX8_reduce_23 : decode cX8_reduce 23 = .ok (.aload_n 0, 1) := by decide +kernel
theorem dX8_reduce_24 : decode cX8_reduce 24 = .ok (.getfield 10, 3) := by decide +kernel
theorem dX8_reduce_27 : decode cX8_reduce 27 = .ok (.iload_n 1, 1) := by decide +kernel
theorem dX8_reduce_28 : decode cX8_reduce 28 = .ok (.invokevirtual 198, 3) := by decide +kernel
theorem dX8_reduce_31 : decode cX8_reduce 31 = .ok (.if_icmp .ge 37, 3) := by decide +kernel
theorem dX8_reduce_34 : decode cX8_reduce 34 = .ok (.aload_n 0, 1) := by decide +kernel
theorem dX8_reduce_35 : decode cX8_reduce 35 = .ok (.getfield 35, 3) := by decide +kernel
theorem dX8_reduce_38 : decode cX8_reduce 38 = .ok (.iload_n 1, 1) := by decide +kernel
theorem dX8_reduce_39 : decode cX8_reduce 39 = .ok (.iload_n 2, 1) := by decide +kernel
theorem dX8_reduce_40 : decode cX8_reduce 40 = .ok (.invokevirtual 197, 3) := by decide +kernel
theorem dX8_reduce_43 : decode cX8_reduce 43 = .ok (.istore_n 3, 1) := by decide +kernel
theorem dX8_reduce_44 : decode cX8_reduce 44 = .ok (.iload_n 3, 1) := by decide +kernel
theorem dX8_reduce_45 : decode cX8_reduce 45 = .ok (.ifCond .eq 17, 3) := by decide +kernel
theorem dX8_reduce_48 : decode cX8_reduce 48 = .ok (.aload_n 0, 1) := by decide +kernel
theorem dX8_reduce_49 : decode cX8_reduce 49 = .ok (.getfield 57, 3) := by decide +kernel
theorem dX8_reduce_52 : decode cX8_reduce 52 = .ok (.iload_n 1, 1) := by decide +kernel
theorem dX8_reduce_53 : decode cX8_reduce 53 = .ok (.iload_n 2, 1) := by decide +kernel
theorem dX8_reduce_54 : decode cX8_reduce 54 = .ok (.iload_n 3, 1) := by decide +kernel
theorem dX8_reduce_55 : decode cX8_reduce 55 = .ok (.aload_n 0, 1) := by decide +kernel
theorem dX8_reduce_56 : decode cX8_reduce 56 = .ok (.getfield 39, 3) := by decide +kernel
theorem dX8_reduce_59 : decode cX8_reduce 59 = .ok (.invokevirtual 201, 3) := by decide +kernel
theorem dX8_reduce_62 : decode cX8_reduce 62 = .ok (.iinc 2 1, 3) := by decide +kernel
theorem dX8_reduce_65 : decode cX8_reduce 65 = .ok (.goto (-43), 3) := by decide +kernel
theorem dX8_reduce_68 : decode cX8_reduce 68 = .ok (.iinc 1 1, 3) := by decide +kernel
theorem dX8_reduce_71 : decode cX8_reduce 71 = .ok (.goto (-62), 3) := by decide +kernel
theorem dX8_reduce_74 : decode cX8_reduce 74 = .ok (.aload_n 0, 1) := by decide +kernel
theorem dX8_reduce_75 : decode cX8_reduce 75 = .ok (.getfield 35, 3) := by decide +kernel
theorem dX8_reduce_78 : decode cX8_reduce 78 = .ok (.aload_n 0, 1) := by decide +kernel
theorem dX8_reduce_79 : decode cX8_reduce 79 = .ok (.getfield 39, 3) := by decide +kernel
theorem dX8_reduce_82 : decode cX8_reduce 82 = .ok (.invokevirtual 193, 3) := by decide +kernel
theorem dX8_reduce_85 : decode cX8_reduce 85 = .ok (.aload_n 0, 1) := by decide +kernel
theorem dX8_reduce_86 : decode cX8_reduce 86 = .ok (.getfield 35, 3) := by decide +kernel
theorem dX8_reduce_89 : decode cX8_reduce 89 = .ok (.invokevirtual 149, 3) := by decide +kernel
theorem dX8_reduce_92 : decode cX8_reduce 92 = .ok (.ireturn, 1) := by decide +kernel
theorem dX8_refuseRow_0 : decode cX8_refuseRow 0 = .ok (.aload_n 0, 1) := by decide +kernel
theorem dX8_refuseRow_1 : decode cX8_refuseRow 1 = .ok (.invokevirtual 229, 3) := by decide +kernel
theorem dX8_refuseRow_4 : decode cX8_refuseRow 4 = .ok (.ifCond .eq 6, 3) := by decide +kernel
theorem dX8_refuseRow_7 : decode cX8_refuseRow 7 = .ok (.bipush (-11), 2) := by decide +kernel
theorem dX8_refuseRow_9 : decode cX8_refuseRow 9 = .ok (.ireturn, 1) := by decide +kernel
theorem dX8_refuseRow_10 : decode cX8_refuseRow 10 = .ok (.aload_n 0, 1) := by decide +kernel
theorem dX8_refuseRow_11 : decode cX8_refuseRow 11 = .ok (.iload_n 1, 1) := by decide +kernel
theorem dX8_refuseRow_12 : decode cX8_refuseRow 12 = .ok (.invokevirtual 257, 3) := by decide +kernel
theorem dX8_refuseRow_15 : decode cX8_refuseRow 15 = .ok (.ifCond .ne 6, 3) := by decide +kernel
theorem dX8_refuseRow_18 : decode cX8_refuseRow 18 = .ok (.bipush (-12), 2) := by decide +kernel
theorem dX8_refuseRow_20 : decode cX8_refuseRow 20 = .ok (.ireturn, 1) := by decide +kernel
theorem dX8_refuseRow_21 : decode cX8_refuseRow 21 = .ok (.aload_n 0, 1) := by decide +kernel
theorem dX8_refuseRow_22 : decode cX8_refuseRow 22 = .ok (.iload_n 2, 1) := by decide +kernel
theorem dX8_refuseRow_23 : decode cX8_refuseRow 23 = .ok (.iload_n 3, 1) := by decide +kernel
theorem dX8_refuseRow_24 : decode cX8_refuseRow 24 = .ok (.invokevirtual 260, 3) := by decide +kernel
theorem dX8_refuseRow_27 : decode cX8_refuseRow 27 = .ok (.ifCond .eq 7, 3) := by decide +kernel
theorem dX8_refuseRow_30 : decode cX8_refuseRow 30 = .ok (.iconst 0, 1) := by decide +kernel
theorem dX8_refuseRow_31 : decode cX8_refuseRow 31 = .ok (.goto 5, 3) := by decide +kernel
theorem dX8_refuseRow_34 : decode cX8_refuseRow 34 = .ok (.bipush (-13), 2) := by decide +kernel
theorem dX8_refuseRow_36 : decode cX8_refuseRow 36 = .ok (.ireturn, 1) := by decide +kernel
theorem dX8_renewOther_0 : decode cX8_renewOther 0 = .ok (.aload_n 0, 1) := by decide +kernel
theorem dX8_renewOther_1 : decode cX8_renewOther 1 = .ok (.getfield 78, 3) := by decide +kernel
theorem dX8_renewOther_4 : decode cX8_renewOther 4 = .ok (.ifCond .ne 4, 3) := by decide +kernel
theorem dX8_renewOther_7 : decode cX8_renewOther 7 = .ok (.return_, 1) := by decide +kernel
theorem dX8_renewOther_8 : decode cX8_renewOther 8 = .ok (.aload_n 0, 1) := by decide +kernel
theorem dX8_renewOther_9 : decode cX8_renewOther 9 = .ok (.getfield 49, 3) := by decide +kernel
theorem dX8_renewOther_12 : decode cX8_renewOther 12 = .ok (.invokevirtual 90, 3) := by decide +kernel
theorem dX8_renewOther_15 : decode cX8_renewOther 15 = .ok (.iconst 0, 1) := by decide +kernel
theorem dX8_renewOther_16 : decode cX8_renewOther 16 = .ok (.istore_n 1, 1) := by decide +kernel
theorem dX8_renewOther_17 : decode cX8_renewOther 17 = .ok (.iload_n 1, 1) := by decide +kernel
theorem dX8_renewOther_18 : decode cX8_renewOther 18 = .ok (.aload_n 0, 1) := by decide +kernel
theorem dX8_renewOther_19 : decode cX8_renewOther 19 = .ok (.getfield 57, 3) := by decide +kernel
theorem dX8_renewOther_22 : decode cX8_renewOther 22 = .ok (.iconst 2, 1) := by decide +kernel
theorem dX8_renewOther_23 : decode cX8_renewOther 23 = .ok (.invokevirtual 155, 3) := by decide +kernel
theorem dX8_renewOther_26 : decode cX8_renewOther 26 = .ok (.if_icmp .ge 65, 3) := by decide +kernel
theorem dX8_renewOther_29 : decode cX8_renewOther 29 = .ok (.aload_n 0, 1) := by decide +kernel
theorem dX8_renewOther_30 : decode cX8_renewOther 30 = .ok (.getfield 57, 3) := by decide +kernel
theorem dX8_renewOther_33 : decode cX8_renewOther 33 = .ok (.iconst 2, 1) := by decide +kernel
theorem dX8_renewOther_34 : decode cX8_renewOther 34 = .ok (.iload_n 1, 1) := by decide +kernel
theorem dX8_renewOther_35 : decode cX8_renewOther 35 = .ok (.invokevirtual 161, 3) := by decide +kernel
theorem dX8_renewOther_38 : decode cX8_renewOther 38 = .ok (.istore_n 2, 1) := by decide +kernel
theorem dX8_renewOther_39 : decode cX8_renewOther 39 = .ok (.aload_n 0, 1) := by decide +kernel
theorem dX8_renewOther_40 : decode cX8_renewOther 40 = .ok (.getfield 49, 3) := by decide +kernel
theorem dX8_renewOther_43 : decode cX8_renewOther 43 = .ok (.iconst 2, 1) := by decide +kernel
theorem dX8_renewOther_44 : decode cX8_renewOther 44 = .ok (.invokevirtual 253, 3) := by decide +kernel
theorem dX8_renewOther_47 : decode cX8_renewOther 47 = .ok (.iconst 0, 1) := by decide +kernel
theorem dX8_renewOther_48 : decode cX8_renewOther 48 = .ok (.istore_n 3, 1) := by decide +kernel
theorem dX8_renewOther_49 : decode cX8_renewOther 49 = .ok (.iload_n 3, 1) := by decide +kernel
theorem dX8_renewOther_50 : decode cX8_renewOther 50 = .ok (.aload_n 0, 1) := by decide +kernel
theorem dX8_renewOther_51 : decode cX8_renewOther 51 = .ok (.getfield 10, 3) := by decide +kernel
theorem dX8_renewOther_54 : decode cX8_renewOther 54 = .ok (.iconst 2, 1) := by decide +kernel
theorem dX8_renewOther_55 : decode cX8_renewOther 55 = .ok (.invokevirtual 198, 3) := by decide +kernel
theorem dX8_renewOther_58 : decode cX8_renewOther 58 = .ok (.if_icmp .ge 27, 3) := by decide +kernel
theorem dX8_renewOther_61 : decode cX8_renewOther 61 = .ok (.aload_n 0, 1) := by decide +kernel
theorem dX8_renewOther_62 : decode cX8_renewOther 62 = .ok (.getfield 49, 3) := by decide +kernel
theorem dX8_renewOther_65 : decode cX8_renewOther 65 = .ok (.iload_n 3, 1) := by decide +kernel
theorem dX8_renewOther_66 : decode cX8_renewOther 66 = .ok (.aload_n 0, 1) := by decide +kernel
theorem dX8_renewOther_67 : decode cX8_renewOther 67 = .ok (.getfield 57, 3) := by decide +kernel
theorem dX8_renewOther_70 : decode cX8_renewOther 70 = .ok (.iconst 2, 1) := by decide +kernel
theorem dX8_renewOther_71 : decode cX8_renewOther 71 = .ok (.iload_n 2, 1) := by decide +kernel
theorem dX8_renewOther_72 : decode cX8_renewOther 72 = .ok (.iload_n 3, 1) := by decide +kernel
theorem dX8_renewOther_73 : decode cX8_renewOther 73 = .ok (.invokevirtual 164, 3) := by decide +kernel
theorem dX8_renewOther_76 : decode cX8_renewOther 76 = .ok (.invokevirtual 256, 3) := by decide +kernel
theorem dX8_renewOther_79 : decode cX8_renewOther 79 = .ok (.iinc 3 1, 3) := by decide +kernel
theorem dX8_renewOther_82 : decode cX8_renewOther 82 = .ok (.goto (-33), 3) := by decide +kernel
theorem dX8_renewOther_85 : decode cX8_renewOther 85 = .ok (.iinc 1 1, 3) := by decide +kernel
theorem dX8_renewOther_88 : decode cX8_renewOther 88 = .ok (.goto (-71), 3) := by decide +kernel
theorem dX8_renewOther_91 : decode cX8_renewOther 91 = .ok (.aload_n 0, 1) := by decide +kernel
theorem dX8_renewOther_92 : decode cX8_renewOther 92 = .ok (.getfield 61, 3) := by decide +kernel
theorem dX8_renewOther_95 : decode cX8_renewOther 95 = .ok (.iconst 0, 1) := by decide +kernel
theorem dX8_renewOther_96 : decode cX8_renewOther 96 = .ok (.invokevirtual 247, 3) := by decide +kernel
theorem dX8_renewOther_99 : decode cX8_renewOther 99 = .ok (.aload_n 0, 1) := by decide +kernel
theorem dX8_renewOther_100 : decode cX8_renewOther 100 = .ok (.iconst 0, 1) := by decide +kernel
theorem dX8_renewOther_101 : decode cX8_renewOther 101 = .ok (.putfield 78, 3) := by decide +kernel
theorem dX8_renewOther_104 : decode cX8_renewOther 104 = .ok (.return_, 1) := by decide +kernel
theorem dX8_seriesAt_0 : decode cX8_seriesAt 0 = .ok (.iconst 0, 1) := by decide +kernel
theorem dX8_seriesAt_1 : decode cX8_seriesAt 1 = .ok (.istore_n 2, 1) := by decide +kernel
theorem dX8_seriesAt_2 : decode cX8_seriesAt 2 = .ok (.iconst 0, 1) := by decide +kernel
theorem dX8_seriesAt_3 : decode cX8_seriesAt 3 = .ok (.istore_n 3, 1) := by decide +kernel
theorem dX8_seriesAt_4 : decode cX8_seriesAt 4 = .ok (.iload_n 3, 1) := by decide +kernel
theorem dX8_seriesAt_5 : decode cX8_seriesAt 5 = .ok (.iload_n 1, 1) := by decide +kernel
theorem dX8_seriesAt_6 : decode cX8_seriesAt 6 = .ok (.if_icmp .gt 47, 3) := by decide +kernel
theorem dX8_seriesAt_9 : decode cX8_seriesAt 9 = .ok (.aload_n 0, 1) := by decide +kernel
theorem dX8_seriesAt_10 : decode cX8_seriesAt 10 = .ok (.getfield 57, 3) := by decide +kernel
theorem dX8_seriesAt_13 : decode cX8_seriesAt 13 = .ok (.iload_n 1, 1) := by decide +kernel
theorem dX8_seriesAt_14 : decode cX8_seriesAt 14 = .ok (.iload_n 3, 1) := by decide +kernel
theorem dX8_seriesAt_15 : decode cX8_seriesAt 15 = .ok (.isub, 1) := by decide +kernel
theorem dX8_seriesAt_16 : decode cX8_seriesAt 16 = .ok (.invokevirtual 155, 3) := by decide +kernel
theorem dX8_seriesAt_19 : decode cX8_seriesAt 19 = .ok (.aload_n 0, 1) := by decide +kernel
theorem dX8_seriesAt_20 : decode cX8_seriesAt 20 = .ok (.getfield 61, 3) := by decide +kernel
theorem dX8_seriesAt_23 : decode cX8_seriesAt 23 = .ok (.iload_n 3, 1) := by decide +kernel
theorem dX8_seriesAt_24 : decode cX8_seriesAt 24 = .ok (.invokevirtual 155, 3) := by decide +kernel
theorem dX8_seriesAt_27 : decode cX8_seriesAt 27 = .ok (.imul, 1) := by decide +kernel
theorem dX8_seriesAt_28 : decode cX8_seriesAt 28 = .ok (.istore 4, 2) := by decide +kernel
theorem dX8_seriesAt_30 : decode cX8_seriesAt 30 = .ok (.iload_n 2, 1) := by decide +kernel
theorem dX8_seriesAt_31 : decode cX8_seriesAt 31 = .ok (.iload_n 3, 1) := by decide +kernel
theorem dX8_seriesAt_32 : decode cX8_seriesAt 32 = .ok (.iconst 2, 1) := by decide +kernel
theorem dX8_seriesAt_33 : decode cX8_seriesAt 33 = .ok (.irem, 1) := by decide +kernel
theorem dX8_seriesAt_34 : decode cX8_seriesAt 34 = .ok (.ifCond .ne 8, 3) := by decide +kernel
theorem dX8_seriesAt_37 : decode cX8_seriesAt 37 = .ok (.iload 4, 2) := by decide +kernel
theorem dX8_seriesAt_39 : decode cX8_seriesAt 39 = .ok (.goto 6, 3) := by decide +kernel
theorem dX8_seriesAt_42 : decode cX8_seriesAt 42 = .ok (.iload 4, 2) := by decide +kernel
theorem dX8_seriesAt_44 : decode cX8_seriesAt 44 = .ok (.ineg, 1) := by decide +kernel
theorem dX8_seriesAt_45 : decode cX8_seriesAt 45 = .ok (.iadd, 1) := by decide +kernel
theorem dX8_seriesAt_46 : decode cX8_seriesAt 46 = .ok (.istore_n 2, 1) := by decide +kernel
theorem dX8_seriesAt_47 : decode cX8_seriesAt 47 = .ok (.iinc 3 1, 3) := by decide +kernel
theorem dX8_seriesAt_50 : decode cX8_seriesAt 50 = .ok (.goto (-46), 3) := by decide +kernel
theorem dX8_seriesAt_53 : decode cX8_seriesAt 53 = .ok (.iload_n 2, 1) := by decide +kernel
theorem dX8_seriesAt_54 : decode cX8_seriesAt 54 = .ok (.ireturn, 1) := by decide +kernel
theorem dX8_sheet_0 : decode cX8_sheet 0 = .ok (.iload_n 1, 1) := by decide +kernel
theorem dX8_sheet_1 : decode cX8_sheet 1 = .ok (.invokestatic 220, 3) := by decide +kernel
theorem dX8_sheet_4 : decode cX8_sheet 4 = .ok (.ifCond .eq 16, 3) := by decide +kernel
theorem dX8_sheet_7 : decode cX8_sheet 7 = .ok (.iload_n 2, 1) := by decide +kernel
theorem dX8_sheet_8 : decode cX8_sheet 8 = .ok (.invokestatic 223, 3) := by decide +kernel
theorem dX8_sheet_11 : decode cX8_sheet 11 = .ok (.ifCond .eq 9, 3) := by decide +kernel
theorem dX8_sheet_14 : decode cX8_sheet 14 = .ok (.iload_n 3, 1) := by decide +kernel
theorem dX8_sheet_15 : decode cX8_sheet 15 = .ok (.bipush 90, 2) := by decide +kernel
theorem dX8_sheet_17 : decode cX8_sheet 17 = .ok (.if_icmp .le 5, 3) := by decide +kernel
theorem dX8_sheet_20 : decode cX8_sheet 20 = .ok (.iconst (-1), 1) := by decide +kernel
theorem dX8_sheet_21 : decode cX8_sheet 21 = .ok (.ireturn, 1) := by decide +kernel
theorem dX8_sheet_22 : decode cX8_sheet 22 = .ok (.iload_n 3, 1) := by decide +kernel
theorem dX8_sheet_23 : decode cX8_sheet 23 = .ok (.ifCond .ge 6, 3) := by decide +kernel
theorem dX8_sheet_26 : decode cX8_sheet 26 = .ok (.bipush (-14), 2) := by decide +kernel
theorem dX8_sheet_28 : decode cX8_sheet 28 = .ok (.ireturn, 1) := by decide +kernel
theorem dX8_sheet_29 : decode cX8_sheet 29 = .ok (.aload_n 0, 1) := by decide +kernel
theorem dX8_sheet_30 : decode cX8_sheet 30 = .ok (.getfield 73, 3) := by decide +kernel
theorem dX8_sheet_33 : decode cX8_sheet 33 = .ok (.iload_n 1, 1) := by decide +kernel
theorem dX8_sheet_34 : decode cX8_sheet 34 = .ok (.aaload, 1) := by decide +kernel
theorem dX8_sheet_35 : decode cX8_sheet 35 = .ok (.iload_n 2, 1) := by decide +kernel
theorem dX8_sheet_36 : decode cX8_sheet 36 = .ok (.iload_n 3, 1) := by decide +kernel
theorem dX8_sheet_37 : decode cX8_sheet 37 = .ok (.invokevirtual 226, 3) := by decide +kernel
theorem dX8_sheet_40 : decode cX8_sheet 40 = .ok (.iload_n 3, 1) := by decide +kernel
theorem dX8_sheet_41 : decode cX8_sheet 41 = .ok (.ireturn, 1) := by decide +kernel
theorem dX8_sum_0 : decode cX8_sum 0 = .ok (.aload_n 0, 1) := by decide +kernel
theorem dX8_sum_1 : decode cX8_sum 1 = .ok (.invokevirtual 112, 3) := by decide +kernel
theorem dX8_sum_4 : decode cX8_sum 4 = .ok (.istore_n 1, 1) := by decide +kernel
theorem dX8_sum_5 : decode cX8_sum 5 = .ok (.iload_n 1, 1) := by decide +kernel
theorem dX8_sum_6 : decode cX8_sum 6 = .ok (.ifCond .eq 5, 3) := by decide +kernel
theorem dX8_sum_9 : decode cX8_sum 9 = .ok (.iload_n 1, 1) := by decide +kernel
theorem dX8_sum_10 : decode cX8_sum 10 = .ok (.ireturn, 1) := by decide +kernel
theorem dX8_sum_11 : decode cX8_sum 11 = .ok (.aload_n 0, 1) := by decide +kernel
theorem dX8_sum_12 : decode cX8_sum 12 = .ok (.getfield 35, 3) := by decide +kernel
theorem dX8_sum_15 : decode cX8_sum 15 = .ok (.aload_n 0, 1) := by decide +kernel
theorem dX8_sum_16 : decode cX8_sum 16 = .ok (.getfield 39, 3) := by decide +kernel
theorem dX8_sum_19 : decode cX8_sum 19 = .ok (.invokevirtual 193, 3) := by decide +kernel
theorem dX8_sum_22 : decode cX8_sum 22 = .ok (.aload_n 0, 1) := by decide +kernel
theorem dX8_sum_23 : decode cX8_sum 23 = .ok (.getfield 35, 3) := by decide +kernel
theorem dX8_sum_26 : decode cX8_sum 26 = .ok (.invokevirtual 149, 3) := by decide +kernel
theorem dX8_sum_29 : decode cX8_sum 29 = .ok (.ireturn, 1) := by decide +kernel
theorem dX8_tellLeast_0 : decode cX8_tellLeast 0 = .ok (.iload_n 3, 1) := by decide +kernel
theorem dX8_tellLeast_1 : decode cX8_tellLeast 1 = .ok (.ifCond .ne 5, 3) := by decide +kernel
theorem dX8_tellLeast_4 : decode cX8_tellLeast 4 = .ok (.iload_n 1, 1) := by decide +kernel
theorem dX8_tellLeast_5 : decode cX8_tellLeast 5 = .ok (.ireturn, 1) := by decide +kernel
theorem dX8_tellLeast_6 : decode cX8_tellLeast 6 = .ok (.iload_n 3, 1) := by decide +kernel
theorem dX8_tellLeast_7 : decode cX8_tellLeast 7 = .ok (.iconst 1, 1) := by decide +kernel
theorem dX8_tellLeast_8 : decode cX8_tellLeast 8 = .ok (.if_icmp .ne 7, 3) := by decide +kernel
theorem dX8_tellLeast_11 : decode cX8_tellLeast 11 = .ok (.iload_n 2, 1) := by decide +kernel
theorem dX8_tellLeast_12 : decode cX8_tellLeast 12 = .ok (.goto 14, 3) := by decide +kernel
theorem dX8_tellLeast_15 : decode cX8_tellLeast 15 = .ok (.iconst 1, 1) := by decide +kernel
theorem dX8_tellLeast_16 : decode cX8_tellLeast 16 = .ok (.aload_n 0, 1) := by decide +kernel
theorem dX8_tellLeast_17 : decode cX8_tellLeast 17 = .ok (.getfield 57, 3) := by decide +kernel
theorem dX8_tellLeast_20 : decode cX8_tellLeast 20 = .ok (.iload_n 1, 1) := by decide +kernel
theorem dX8_tellLeast_21 : decode cX8_tellLeast 21 = .ok (.iload_n 2, 1) := by decide +kernel
theorem dX8_tellLeast_22 : decode cX8_tellLeast 22 = .ok (.invokevirtual 267, 3) := by decide +kernel
theorem dX8_tellLeast_25 : decode cX8_tellLeast 25 = .ok (.iadd, 1) := by decide +kernel
theorem dX8_tellLeast_26 : decode cX8_tellLeast 26 = .ok (.ireturn, 1) := by decide +kernel
theorem dX8_times_0 : decode cX8_times 0 = .ok (.iload_n 1, 1) := by decide +kernel
theorem dX8_times_1 : decode cX8_times 1 = .ok (.ifCond .lt 10, 3) := by decide +kernel
theorem dX8_times_4 : decode cX8_times 4 = .ok (.iload_n 1, 1) := by decide +kernel
theorem dX8_times_5 : decode cX8_times 5 = .ok (.sipush 999, 3) := by decide +kernel
theorem dX8_times_8 : decode cX8_times 8 = .ok (.if_icmp .le 5, 3) := by decide +kernel
theorem dX8_times_11 : decode cX8_times 11 = .ok (.iconst (-1), 1) := by decide +kernel
theorem dX8_times_12 : decode cX8_times 12 = .ok (.ireturn, 1) := by decide +kernel
theorem dX8_times_13 : decode cX8_times 13 = .ok (.aload_n 0, 1) := by decide +kernel
theorem dX8_times_14 : decode cX8_times 14 = .ok (.getfield 35, 3) := by decide +kernel
theorem dX8_times_17 : decode cX8_times 17 = .ok (.iload_n 1, 1) := by decide +kernel
theorem dX8_times_18 : decode cX8_times 18 = .ok (.invokevirtual 217, 3) := by decide +kernel
theorem dX8_times_21 : decode cX8_times 21 = .ok (.aload_n 0, 1) := by decide +kernel
theorem dX8_times_22 : decode cX8_times 22 = .ok (.getfield 35, 3) := by decide +kernel
theorem dX8_times_25 : decode cX8_times 25 = .ok (.invokevirtual 149, 3) := by decide +kernel
theorem dX8_times_28 : decode cX8_times 28 = .ok (.ireturn, 1) := by decide +kernel
theorem dX8_told_0 : decode cX8_told 0 = .ok (.iload_n 1, 1) := by decide +kernel
theorem dX8_told_1 : decode cX8_told 1 = .ok (.ifCond .lt 14, 3) := by decide +kernel
theorem dX8_told_4 : decode cX8_told 4 = .ok (.iload_n 1, 1) := by decide +kernel
theorem dX8_told_5 : decode cX8_told 5 = .ok (.aload_n 0, 1) := by decide +kernel
theorem dX8_told_6 : decode cX8_told 6 = .ok (.getfield 45, 3) := by decide +kernel
theorem dX8_told_9 : decode cX8_told 9 = .ok (.invokevirtual 121, 3) := by decide +kernel
theorem dX8_told_12 : decode cX8_told 12 = .ok (.if_icmp .lt 5, 3) := by decide +kernel
theorem dX8_told_15 : decode cX8_told 15 = .ok (.iconst (-1), 1) := by decide +kernel
theorem dX8_told_16 : decode cX8_told 16 = .ok (.ireturn, 1) := by decide +kernel
theorem dX8_told_17 : decode cX8_told 17 = .ok (.aload_n 0, 1) := by decide +kernel
theorem dX8_told_18 : decode cX8_told 18 = .ok (.getfield 45, 3) := by decide +kernel
theorem dX8_told_21 : decode cX8_told 21 = .ok (.iload_n 1, 1) := by decide +kernel
theorem dX8_told_22 : decode cX8_told 22 = .ok (.invokevirtual 126, 3) := by decide +kernel
theorem dX8_told_25 : decode cX8_told 25 = .ok (.istore_n 3, 1) := by decide +kernel
theorem dX8_told_26 : decode cX8_told 26 = .ok (.iload_n 2, 1) := by decide +kernel
theorem dX8_told_27 : decode cX8_told 27 = .ok (.iconst (-1), 1) := by decide +kernel
theorem dX8_told_28 : decode cX8_told 28 = .ok (.if_icmp .ne 5, 3) := by decide +kernel
theorem dX8_told_31 : decode cX8_told 31 = .ok (.iload_n 3, 1) := by decide +kernel
theorem dX8_told_32 : decode cX8_told 32 = .ok (.ireturn, 1) := by decide +kernel
theorem dX8_told_33 : decode cX8_told 33 = .ok (.aload_n 0, 1) := by decide +kernel
theorem dX8_told_34 : decode cX8_told 34 = .ok (.getfield 10, 3) := by decide +kernel
theorem dX8_told_37 : decode cX8_told 37 = .ok (.iload_n 3, 1) := by decide +kernel
theorem dX8_told_38 : decode cX8_told 38 = .ok (.iload_n 2, 1) := by decide +kernel
theorem dX8_told_39 : decode cX8_told 39 = .ok (.invokevirtual 132, 3) := by decide +kernel
theorem dX8_told_42 : decode cX8_told 42 = .ok (.ifCond .eq 15, 3) := by decide +kernel
theorem dX8_told_45 : decode cX8_told 45 = .ok (.aload_n 0, 1) := by decide +kernel
theorem dX8_told_46 : decode cX8_told 46 = .ok (.getfield 45, 3) := by decide +kernel
theorem dX8_told_49 : decode cX8_told 49 = .ok (.iload_n 1, 1) := by decide +kernel
theorem dX8_told_50 : decode cX8_told 50 = .ok (.iload_n 2, 1) := by decide +kernel
theorem dX8_told_51 : decode cX8_told 51 = .ok (.invokevirtual 136, 3) := by decide +kernel
theorem dX8_told_54 : decode cX8_told 54 = .ok (.goto 4, 3) := by decide +kernel
theorem dX8_told_57 : decode cX8_told 57 = .ok (.iconst (-1), 1) := by decide +kernel
theorem dX8_told_58 : decode cX8_told 58 = .ok (.ireturn, 1) := by decide +kernel
theorem dX8_type_0 : decode cX8_type 0 = .ok (.iload_n 3, 1) := by decide +kernel
theorem dX8_type_1 : decode cX8_type 1 = .ok (.iconst 1, 1) := by decide +kernel
theorem dX8_type_2 : decode cX8_type 2 = .ok (.if_icmp .lt 9, 3) := by decide +kernel
theorem dX8_type_5 : decode cX8_type 5 = .ok (.iload_n 3, 1) := by decide +kernel
theorem dX8_type_6 : decode cX8_type 6 = .ok (.bipush 8, 2) := by decide +kernel
theorem dX8_type_8 : decode cX8_type 8 = .ok (.if_icmp .le 5, 3) := by decide +kernel
theorem dX8_type_11 : decode cX8_type 11 = .ok (.iconst (-1), 1) := by decide +kernel
theorem dX8_type_12 : decode cX8_type 12 = .ok (.ireturn, 1) := by decide +kernel
theorem dX8_type_13 : decode cX8_type 13 = .ok (.iconst 0, 1) := by decide +kernel
theorem dX8_type_14 : decode cX8_type 14 = .ok (.istore 4, 2) := by decide +kernel
theorem dX8_type_16 : decode cX8_type 16 = .ok (.iload 4, 2) := by decide +kernel
theorem dX8_type_18 : decode cX8_type 18 = .ok (.iload_n 3, 1) := by decide +kernel
theorem dX8_type_19 : decode cX8_type 19 = .ok (.if_icmp .ge 33, 3) := by decide +kernel
theorem dX8_type_22 : decode cX8_type 22 = .ok (.lload_n 1, 1) := by decide +kernel
theorem dX8_type_23 : decode cX8_type 23 = .ok (.iload 4, 2) := by decide +kernel
theorem dX8_type_25 : decode cX8_type 25 = .ok (.invokestatic 102, 3) := by decide +kernel
theorem dX8_type_28 : decode cX8_type 28 = .ok (.istore 5, 2) := by decide +kernel
theorem dX8_type_30 : decode cX8_type 30 = .ok (.iload 5, 2) := by decide +kernel
theorem dX8_type_32 : decode cX8_type 32 = .ok (.bipush 32, 2) := by decide +kernel
theorem dX8_type_34 : decode cX8_type 34 = .ok (.if_icmp .lt 10, 3) := by decide +kernel
theorem dX8_type_37 : decode cX8_type 37 = .ok (.iload 5, 2) := by decide +kernel
theorem dX8_type_39 : decode cX8_type 39 = .ok (.bipush 126, 2) := by decide +kernel
theorem dX8_type_41 : decode cX8_type 41 = .ok (.if_icmp .le 5, 3) := by decide +kernel
theorem dX8_type_44 : decode cX8_type 44 = .ok (.iconst (-1), 1) := by decide +kernel
theorem dX8_type_45 : decode cX8_type 45 = .ok (.ireturn, 1) := by decide +kernel
theorem dX8_type_46 : decode cX8_type 46 = .ok (.iinc 4 1, 3) := by decide +kernel
theorem dX8_type_49 : decode cX8_type 49 = .ok (.goto (-33), 3) := by decide +kernel
theorem dX8_type_52 : decode cX8_type 52 = .ok (.aload_n 0, 1) := by decide +kernel
theorem dX8_type_53 : decode cX8_type 53 = .ok (.getfield 19, 3) := by decide +kernel
theorem dX8_type_56 : decode cX8_type 56 = .ok (.invokevirtual 106, 3) := by decide +kernel
theorem dX8_type_59 : decode cX8_type 59 = .ok (.iload_n 3, 1) := by decide +kernel
theorem dX8_type_60 : decode cX8_type 60 = .ok (.iadd, 1) := by decide +kernel
theorem dX8_type_61 : decode cX8_type 61 = .ok (.bipush 80, 2) := by decide +kernel
theorem dX8_type_63 : decode cX8_type 63 = .ok (.if_icmp .le 6, 3) := by decide +kernel
theorem dX8_type_66 : decode cX8_type 66 = .ok (.bipush (-3), 2) := by decide +kernel
theorem dX8_type_68 : decode cX8_type 68 = .ok (.ireturn, 1) := by decide +kernel
theorem dX8_type_69 : decode cX8_type 69 = .ok (.iload_n 3, 1) := by decide +kernel
theorem dX8_type_70 : decode cX8_type 70 = .ok (.iconst 1, 1) := by decide +kernel
theorem dX8_type_71 : decode cX8_type 71 = .ok (.isub, 1) := by decide +kernel
theorem dX8_type_72 : decode cX8_type 72 = .ok (.istore 4, 2) := by decide +kernel
theorem dX8_type_74 : decode cX8_type 74 = .ok (.iload 4, 2) := by decide +kernel
theorem dX8_type_76 : decode cX8_type 76 = .ok (.ifCond .lt 22, 3) := by decide +kernel
theorem dX8_type_79 : decode cX8_type 79 = .ok (.aload_n 0, 1) := by decide +kernel
theorem dX8_type_80 : decode cX8_type 80 = .ok (.getfield 19, 3) := by decide +kernel
theorem dX8_type_83 : decode cX8_type 83 = .ok (.lload_n 1, 1) := by decide +kernel
theorem dX8_type_84 : decode cX8_type 84 = .ok (.iload 4, 2) := by decide +kernel
theorem dX8_type_86 : decode cX8_type 86 = .ok (.invokestatic 102, 3) := by decide +kernel
theorem dX8_type_89 : decode cX8_type 89 = .ok (.invokevirtual 109, 3) := by decide +kernel
theorem dX8_type_92 : decode cX8_type 92 = .ok (.iinc 4 (-1), 3) := by decide +kernel
theorem dX8_type_95 : decode cX8_type 95 = .ok (.goto (-21), 3) := by decide +kernel
theorem dX8_type_98 : decode cX8_type 98 = .ok (.aload_n 0, 1) := by decide +kernel
theorem dX8_type_99 : decode cX8_type 99 = .ok (.getfield 19, 3) := by decide +kernel
theorem dX8_type_102 : decode cX8_type 102 = .ok (.invokevirtual 106, 3) := by decide +kernel
theorem dX8_type_105 : decode cX8_type 105 = .ok (.ireturn, 1) := by decide +kernel
theorem dX8_unlaw_0 : decode cX8_unlaw 0 = .ok (.aload_n 0, 1) := by decide +kernel
theorem dX8_unlaw_1 : decode cX8_unlaw 1 = .ok (.getfield 45, 3) := by decide +kernel
theorem dX8_unlaw_4 : decode cX8_unlaw 4 = .ok (.invokevirtual 121, 3) := by decide +kernel
theorem dX8_unlaw_7 : decode cX8_unlaw 7 = .ok (.iconst 1, 1) := by decide +kernel
theorem dX8_unlaw_8 : decode cX8_unlaw 8 = .ok (.isub, 1) := by decide +kernel
theorem dX8_unlaw_9 : decode cX8_unlaw 9 = .ok (.istore_n 1, 1) := by decide +kernel
theorem dX8_unlaw_10 : decode cX8_unlaw 10 = .ok (.iload_n 1, 1) := by decide +kernel
theorem dX8_unlaw_11 : decode cX8_unlaw 11 = .ok (.ifCond .ge 6, 3) := by decide +kernel
theorem dX8_unlaw_14 : decode cX8_unlaw 14 = .ok (.bipush (-2), 2) := by decide +kernel
theorem dX8_unlaw_16 : decode cX8_unlaw 16 = .ok (.ireturn, 1) := by decide +kernel
theorem dX8_unlaw_17 : decode cX8_unlaw 17 = .ok (.aload_n 0, 1) := by decide +kernel
theorem dX8_unlaw_18 : decode cX8_unlaw 18 = .ok (.getfield 45, 3) := by decide +kernel
theorem dX8_unlaw_21 : decode cX8_unlaw 21 = .ok (.iload_n 1, 1) := by decide +kernel
theorem dX8_unlaw_22 : decode cX8_unlaw 22 = .ok (.invokevirtual 126, 3) := by decide +kernel
theorem dX8_unlaw_25 : decode cX8_unlaw 25 = .ok (.istore_n 2, 1) := by decide +kernel
theorem dX8_unlaw_26 : decode cX8_unlaw 26 = .ok (.aload_n 0, 1) := by decide +kernel
theorem dX8_unlaw_27 : decode cX8_unlaw 27 = .ok (.getfield 45, 3) := by decide +kernel
theorem dX8_unlaw_30 : decode cX8_unlaw 30 = .ok (.invokevirtual 129, 3) := by decide +kernel
theorem dX8_unlaw_33 : decode cX8_unlaw 33 = .ok (.aload_n 0, 1) := by decide +kernel
theorem dX8_unlaw_34 : decode cX8_unlaw 34 = .ok (.iload_n 2, 1) := by decide +kernel
theorem dX8_unlaw_35 : decode cX8_unlaw 35 = .ok (.invokevirtual 94, 3) := by decide +kernel
theorem dX8_unlaw_38 : decode cX8_unlaw 38 = .ok (.iload_n 1, 1) := by decide +kernel
theorem dX8_unlaw_39 : decode cX8_unlaw 39 = .ok (.ireturn, 1) := by decide +kernel
theorem dX8_word_0 : decode cX8_word 0 = .ok (.aload_n 0, 1) := by decide +kernel
theorem dX8_word_1 : decode cX8_word 1 = .ok (.getfield 10, 3) := by decide +kernel
theorem dX8_word_4 : decode cX8_word 4 = .ok (.iload_n 1, 1) := by decide +kernel
theorem dX8_word_5 : decode cX8_word 5 = .ok (.invokevirtual 152, 3) := by decide +kernel
theorem dX8_word_8 : decode cX8_word 8 = .ok (.ifCond .eq 19, 3) := by decide +kernel
theorem dX8_word_11 : decode cX8_word 11 = .ok (.iload_n 2, 1) := by decide +kernel
theorem dX8_word_12 : decode cX8_word 12 = .ok (.ifCond .lt 15, 3) := by decide +kernel
theorem dX8_word_15 : decode cX8_word 15 = .ok (.iload_n 2, 1) := by decide +kernel
theorem dX8_word_16 : decode cX8_word 16 = .ok (.aload_n 0, 1) := by decide +kernel
theorem dX8_word_17 : decode cX8_word 17 = .ok (.getfield 57, 3) := by decide +kernel
theorem dX8_word_20 : decode cX8_word 20 = .ok (.iload_n 1, 1) := by decide +kernel
theorem dX8_word_21 : decode cX8_word 21 = .ok (.invokevirtual 155, 3) := by decide +kernel
theorem dX8_word_24 : decode cX8_word 24 = .ok (.if_icmp .lt 5, 3) := by decide +kernel
theorem dX8_word_27 : decode cX8_word 27 = .ok (.iconst (-1), 1) := by decide +kernel
theorem dX8_word_28 : decode cX8_word 28 = .ok (.ireturn, 1) := by decide +kernel
theorem dX8_word_29 : decode cX8_word 29 = .ok (.aload_n 0, 1) := by decide +kernel
theorem dX8_word_30 : decode cX8_word 30 = .ok (.getfield 57, 3) := by decide +kernel
theorem dX8_word_33 : decode cX8_word 33 = .ok (.iload_n 1, 1) := by decide +kernel
theorem dX8_word_34 : decode cX8_word 34 = .ok (.iload_n 2, 1) := by decide +kernel
theorem dX8_word_35 : decode cX8_word 35 = .ok (.invokevirtual 161, 3) := by decide +kernel
theorem dX8_word_38 : decode cX8_word 38 = .ok (.ireturn, 1) := by decide +kernel
theorem dX9_add_0 : decode cX9_add 0 = .ok (.aload_n 0, 1) := by decide +kernel
theorem dX9_add_1 : decode cX9_add 1 = .ok (.getfield 79, 3) := by decide +kernel
theorem dX9_add_4 : decode cX9_add 4 = .ok (.bipush 8, 2) := by decide +kernel
theorem dX9_add_6 : decode cX9_add 6 = .ok (.if_icmp .ne 6, 3) := by decide +kernel
theorem dX9_add_9 : decode cX9_add 9 = .ok (.bipush (-3), 2) := by decide +kernel
theorem dX9_add_11 : decode cX9_add 11 = .ok (.ireturn, 1) := by decide +kernel
theorem dX9_add_12 : decode cX9_add 12 = .ok (.aload_n 0, 1) := by decide +kernel
theorem dX9_add_13 : decode cX9_add 13 = .ok (.getfield 29, 3) := by decide +kernel
theorem dX9_add_16 : decode cX9_add 16 = .ok (.aload_n 0, 1) := by decide +kernel
theorem dX9_add_17 : decode cX9_add 17 = .ok (.getfield 79, 3) := by decide +kernel
theorem dX9_add_20 : decode cX9_add 20 = .ok (.iload_n 1, 1) := by decide +kernel
theorem dX9_add_21 : decode cX9_add 21 = .ok (.iastore, 1) := by decide +kernel
theorem dX9_add_22 : decode cX9_add 22 = .ok (.iconst 0, 1) := by decide +kernel
theorem dX9_add_23 : decode cX9_add 23 = .ok (.istore_n 2, 1) := by decide +kernel
theorem dX9_add_24 : decode cX9_add 24 = .ok (.iload_n 2, 1) := by decide +kernel
theorem dX9_add_25 : decode cX9_add 25 = .ok (.aload_n 0, 1) := by decide +kernel
theorem dX9_add_26 : decode cX9_add 26 = .ok (.getfield 19, 3) := by decide +kernel
theorem dX9_add_29 : decode cX9_add 29 = .ok (.iload_n 1, 1) := by decide +kernel
theorem dX9_add_30 : decode cX9_add 30 = .ok (.iaload, 1) := by decide +kernel
theorem dX9_add_31 : decode cX9_add 31 = .ok (.if_icmp .ge 36, 3) := by decide +kernel
theorem dX9_add_34 : decode cX9_add 34 = .ok (.aload_n 0, 1) := by decide +kernel
theorem dX9_add_35 : decode cX9_add 35 = .ok (.getfield 32, 3) := by decide +kernel
theorem dX9_add_38 : decode cX9_add 38 = .ok (.bipush 81, 2) := by decide +kernel
theorem dX9_add_40 : decode cX9_add 40 = .ok (.aload_n 0, 1) := by decide +kernel
theorem dX9_add_41 : decode cX9_add 41 = .ok (.getfield 79, 3) := by decide +kernel
theorem dX9_add_44 : decode cX9_add 44 = .ok (.imul, 1) := by decide +kernel
theorem dX9_add_45 : decode cX9_add 45 = .ok (.iload_n 2, 1) := by decide +kernel
theorem dX9_add_46 : decode cX9_add 46 = .ok (.iadd, 1) := by decide +kernel
theorem dX9_add_47 : decode cX9_add 47 = .ok (.aload_n 0, 1) := by decide +kernel
theorem dX9_add_48 : decode cX9_add 48 = .ok (.getfield 35, 3) := by decide +kernel
theorem dX9_add_51 : decode cX9_add 51 = .ok (.aload_n 0, 1) := by decide +kernel
theorem dX9_add_52 : decode cX9_add 52 = .ok (.getfield 23, 3) := by decide +kernel
theorem dX9_add_55 : decode cX9_add 55 = .ok (.iload_n 1, 1) := by decide +kernel
theorem dX9_add_56 : decode cX9_add 56 = .ok (.iaload, 1) := by decide +kernel
theorem dX9_add_57 : decode cX9_add 57 = .ok (.iload_n 2, 1) := by decide +kernel
theorem dX9_add_58 : decode cX9_add 58 = .ok (.iadd, 1) := by decide +kernel
theorem dX9_add_59 : decode cX9_add 59 = .ok (.iaload, 1) := by decide +kernel
theorem dX9_add_60 : decode cX9_add 60 = .ok (.iastore, 1) := by decide +kernel
theorem dX9_add_61 : decode cX9_add 61 = .ok (.iinc 2 1, 3) := by decide +kernel
theorem dX9_add_64 : decode cX9_add 64 = .ok (.goto (-40), 3) := by decide +kernel
theorem dX9_add_67 : decode cX9_add 67 = .ok (.aload_n 0, 1) := by decide +kernel
theorem dX9_add_68 : decode cX9_add 68 = .ok (.dup, 1) := by decide +kernel
theorem dX9_add_69 : decode cX9_add 69 = .ok (.getfield 79, 3) := by decide +kernel
theorem dX9_add_72 : decode cX9_add 72 = .ok (.iconst 1, 1) := by decide +kernel
theorem dX9_add_73 : decode cX9_add 73 = .ok (.iadd, 1) := by decide +kernel
theorem dX9_add_74 : decode cX9_add 74 = .ok (.putfield 79, 3) := by decide +kernel
theorem dX9_add_77 : decode cX9_add 77 = .ok (.aload_n 0, 1) := by decide +kernel
theorem dX9_add_78 : decode cX9_add 78 = .ok (.iconst 0, 1) := by decide +kernel
theorem dX9_add_79 : decode cX9_add 79 = .ok (.putfield 82, 3) := by decide +kernel
theorem dX9_add_82 : decode cX9_add 82 = .ok (.aload_n 0, 1) := by decide +kernel
theorem dX9_add_83 : decode cX9_add 83 = .ok (.getfield 79, 3) := by decide +kernel
theorem dX9_add_86 : decode cX9_add 86 = .ok (.iconst 1, 1) := by decide +kernel
theorem dX9_add_87 : decode cX9_add 87 = .ok (.isub, 1) := by decide +kernel
theorem dX9_add_88 : decode cX9_add 88 = .ok (.ireturn, 1) := by decide +kernel
theorem dX9_areShort_0 : decode cX9_areShort 0 = .ok (.iconst 1, 1) := by decide +kernel
theorem dX9_areShort_1 : decode cX9_areShort 1 = .ok (.istore_n 1, 1) := by decide +kernel
theorem dX9_areShort_2 : decode cX9_areShort 2 = .ok (.iconst 0, 1) := by decide +kernel
theorem dX9_areShort_3 : decode cX9_areShort 3 = .ok (.istore_n 2, 1) := by decide +kernel
theorem dX9_areShort_4 : decode cX9_areShort 4 = .ok (.iload_n 2, 1) := by decide +kernel
theorem dX9_areShort_5 : decode cX9_areShort 5 = .ok (.aload_n 0, 1) := by decide +kernel
theorem dX9_areShort_6 : decode cX9_areShort 6 = .ok (.getfield 79, 3) := by decide +kernel
theorem dX9_areShort_9 : decode cX9_areShort 9 = .ok (.if_icmp .ge 29, 3) := by decide +kernel
theorem dX9_areShort_12 : decode cX9_areShort 12 = .ok (.iload_n 1, 1) := by decide +kernel
theorem dX9_areShort_13 : decode cX9_areShort 13 = .ok (.ifCond .eq 17, 3) := by decide +kernel
theorem dX9_areShort_16 : decode cX9_areShort 16 = .ok (.aload_n 0, 1) := by decide +kernel
theorem dX9_areShort_17 : decode cX9_areShort 17 = .ok (.getfield 29, 3) := by decide +kernel
theorem dX9_areShort_20 : decode cX9_areShort 20 = .ok (.iload_n 2, 1) := by decide +kernel
theorem dX9_areShort_21 : decode cX9_areShort 21 = .ok (.iaload, 1) := by decide +kernel
theorem dX9_areShort_22 : decode cX9_areShort 22 = .ok (.iconst 2, 1) := by decide +kernel
theorem dX9_areShort_23 : decode cX9_areShort 23 = .ok (.if_icmp .ne 7, 3) := by decide +kernel
theorem dX9_areShort_26 : decode cX9_areShort 26 = .ok (.iconst 1, 1) := by decide +kernel
theorem dX9_areShort_27 : decode cX9_areShort 27 = .ok (.goto 4, 3) := by decide +kernel
theorem dX9_areShort_30 : decode cX9_areShort 30 = .ok (.iconst 0, 1) := by decide +kernel
theorem dX9_areShort_31 : decode cX9_areShort 31 = .ok (.istore_n 1, 1) := by decide +kernel
theorem dX9_areShort_32 : decode cX9_areShort 32 = .ok (.iinc 2 1, 3) := by decide +kernel
theorem dX9_areShort_35 : decode cX9_areShort 35 = .ok (.goto (-31), 3) := by decide +kernel
theorem dX9_areShort_38 : decode cX9_areShort 38 = .ok (.iload_n 1, 1) := by decide +kernel
theorem dX9_areShort_39 : decode cX9_areShort 39 = .ok (.ireturn, 1) := by decide +kernel
theorem dX9_begin_0 : decode cX9_begin 0 = .ok (.iload_n 2, 1) := by decide +kernel
theorem dX9_begin_1 : decode cX9_begin 1 = .ok (.i2l, 1) := by decide +kernel
theorem dX9_begin_2 : decode cX9_begin 2 = .ok (.ldc2_w 86, 3) := by decide +kernel
theorem dX9_begin_5 : decode cX9_begin 5 = .ok (.ldc2_w 88, 3) := by decide +kernel
theorem dX9_begin_8 : decode cX9_begin 8 = .ok (.invokestatic 90, 3) := by decide +kernel
theorem dX9_begin_11 : decode cX9_begin 11 = .ok (.istore_n 3, 1) := by decide +kernel
theorem dX9_begin_12 : decode cX9_begin 12 = .ok (.iconst 2, 1) := by decide +kernel
theorem dX9_begin_13 : decode cX9_begin 13 = .ok (.istore 4, 2) := by decide +kernel
theorem dX9_begin_15 : decode cX9_begin 15 = .ok (.iload 4, 2) := by decide +kernel
theorem dX9_begin_17 : decode cX9_begin 17 = .ok (.iload_n 2, 1) := by decide +kernel
theorem dX9_begin_18 : decode cX9_begin 18 = .ok (.if_icmp .ge 26, 3) := by decide +kernel
theorem dX9_begin_21 : decode cX9_begin 21 = .ok (.iload_n 3, 1) := by decide +kernel
theorem dX9_begin_22 : decode cX9_begin 22 = .ok (.ifCond .eq 22, 3) := by decide +kernel
theorem dX9_begin_25 : decode cX9_begin 25 = .ok (.iload_n 2, 1) := by decide +kernel
theorem dX9_begin_26 : decode cX9_begin 26 = .ok (.iload 4, 2) := by decide +kernel
theorem dX9_begin_28 : decode cX9_begin 28 = .ok (.irem, 1) := by decide +kernel
theorem dX9_begin_29 : decode cX9_begin 29 = .ok (.ifCond .eq 7, 3) := by decide +kernel
theorem dX9_begin_32 : decode cX9_begin 32 = .ok (.iconst 1, 1) := by decide +kernel
theorem dX9_begin_33 : decode cX9_begin 33 = .ok (.goto 4, 3) := by decide +kernel
theorem dX9_begin_36 : decode cX9_begin 36 = .ok (.iconst 0, 1) := by decide +kernel
theorem dX9_begin_37 : decode cX9_begin 37 = .ok (.istore_n 3, 1) := by decide +kernel
theorem dX9_begin_38 : decode cX9_begin 38 = .ok (.iinc 4 1, 3) := by decide +kernel
theorem dX9_begin_41 : decode cX9_begin 41 = .ok (.goto (-26), 3) := by decide +kernel
theorem dX9_begin_44 : decode cX9_begin 44 = .ok (.iload_n 1, 1) := by decide +kernel
theorem dX9_begin_45 : decode cX9_begin 45 = .ok (.i2l, 1) := by decide +kernel
theorem dX9_begin_46 : decode cX9_begin 46 = .ok (.lconst 1, 1) := by decide +kernel
theorem dX9_begin_47 : decode cX9_begin 47 = .ok (.ldc2_w 94, 3) := by decide +kernel
theorem dX9_begin_50 : decode cX9_begin 50 = .ok (.invokestatic 90, 3) := by decide +kernel
theorem dX9_begin_53 : decode cX9_begin 53 = .ok (.ifCond .eq 7, 3) := by decide +kernel
theorem dX9_begin_56 : decode cX9_begin 56 = .ok (.iload_n 3, 1) := by decide +kernel
theorem dX9_begin_57 : decode cX9_begin 57 = .ok (.ifCond .ne 5, 3) := by decide +kernel
theorem dX9_begin_60 : decode cX9_begin 60 = .ok (.iconst (-1), 1) := by decide +kernel
theorem dX9_begin_61 : decode cX9_begin 61 = .ok (.ireturn, 1) := by decide +kernel
theorem dX9_begin_62 : decode cX9_begin 62 = .ok (.aload_n 0, 1) := by decide +kernel
theorem dX9_begin_63 : decode cX9_begin 63 = .ok (.iload_n 1, 1) := by decide +kernel
theorem dX9_begin_64 : decode cX9_begin 64 = .ok (.putfield 7, 3) := by decide +kernel
theorem dX9_begin_67 : decode cX9_begin 67 = .ok (.aload_n 0, 1) := by decide +kernel
theorem dX9_begin_68 : decode cX9_begin 68 = .ok (.iload_n 2, 1) := by decide +kernel
theorem dX9_begin_69 : decode cX9_begin 69 = .ok (.putfield 13, 3) := by decide +kernel
theorem dX9_begin_72 : decode cX9_begin 72 = .ok (.aload_n 0, 1) := by decide +kernel
theorem dX9_begin_73 : decode cX9_begin 73 = .ok (.invokevirtual 76, 3) := by decide +kernel
theorem dX9_begin_76 : decode cX9_begin 76 = .ok (.aload_n 0, 1) := by decide +kernel
theorem dX9_begin_77 : decode cX9_begin 77 = .ok (.getfield 16, 3) := by decide +kernel
theorem dX9_begin_80 : decode cX9_begin 80 = .ok (.ireturn, 1) := by decide +kernel
theorem dX9_clearRow_0 : decode cX9_clearRow 0 = .ok (.iconst 0, 1) := by decide +kernel
theorem dX9_clearRow_1 : decode cX9_clearRow 1 = .ok (.istore_n 1, 1) := by decide +kernel
theorem dX9_clearRow_2 : decode cX9_clearRow 2 = .ok (.iload_n 1, 1) := by decide +kernel
theorem dX9_clearRow_3 : decode cX9_clearRow 3 = .ok (.sipush 243, 3) := by decide +kernel
theorem dX9_clearRow_6 : decode cX9_clearRow 6 = .ok (.if_icmp .ge 16, 3) := by decide +kernel
theorem dX9_clearRow_9 : decode cX9_clearRow 9 = .ok (.aload_n 0, 1) := by decide +kernel
theorem dX9_clearRow_10 : decode cX9_clearRow 10 = .ok (.getfield 55, 3) := by decide +kernel
theorem dX9_clearRow_13 : decode cX9_clearRow 13 = .ok (.iload_n 1, 1) := by decide +kernel
theorem dX9_clearRow_14 : decode cX9_clearRow 14 = .ok (.iconst 0, 1) := by decide +kernel
theorem dX9_clearRow_15 : decode cX9_clearRow 15 = .ok (.iastore, 1) := by decide +kernel
theorem dX9_clearRow_16 : decode cX9_clearRow 16 = .ok (.iinc 1 1, 3) := by decide +kernel
theorem dX9_clearRow_19 : decode cX9_clearRow 19 = .ok (.goto (-17), 3) := by decide +kernel
theorem dX9_clearRow_22 : decode cX9_clearRow 22 = .ok (.return_, 1) := by decide +kernel
theorem dX9_count_0 : decode cX9_count 0 = .ok (.iload_n 1, 1) := by decide +kernel
theorem dX9_count_1 : decode cX9_count 1 = .ok (.tableswitch 80 0 5 #[39, 44, 49, 54, 59, 68], 39) := by decide +kernel
theorem dX9_count_40 : decode cX9_count 40 = .ok (.aload_n 0, 1) := by decide +kernel
theorem dX9_count_41 : decode cX9_count 41 = .ok (.getfield 7, 3) := by decide +kernel
theorem dX9_count_44 : decode cX9_count 44 = .ok (.ireturn, 1) := by decide +kernel
theorem dX9_count_45 : decode cX9_count 45 = .ok (.aload_n 0, 1) := by decide +kernel
theorem dX9_count_46 : decode cX9_count 46 = .ok (.getfield 13, 3) := by decide +kernel
theorem dX9_count_49 : decode cX9_count 49 = .ok (.ireturn, 1) := by decide +kernel
theorem dX9_count_50 : decode cX9_count 50 = .ok (.aload_n 0, 1) := by decide +kernel
theorem dX9_count_51 : decode cX9_count 51 = .ok (.getfield 16, 3) := by decide +kernel
theorem dX9_count_54 : decode cX9_count 54 = .ok (.ireturn, 1) := by decide +kernel
theorem dX9_count_55 : decode cX9_count 55 = .ok (.aload_n 0, 1) := by decide +kernel
theorem dX9_count_56 : decode cX9_count 56 = .ok (.getfield 79, 3) := by decide +kernel
theorem dX9_count_59 : decode cX9_count 59 = .ok (.ireturn, 1) := by decide +kernel
theorem dX9_count_60 : decode cX9_count 60 = .ok (.aload_n 0, 1) := by decide +kernel
theorem dX9_count_61 : decode cX9_count 61 = .ok (.invokevirtual 153, 3) := by decide +kernel
theorem dX9_count_64 : decode cX9_count 64 = .ok (.aload_n 0, 1) := by decide +kernel
theorem dX9_count_65 : decode cX9_count 65 = .ok (.invokevirtual 191, 3) := by decide +kernel
theorem dX9_count_68 : decode cX9_count 68 = .ok (.ireturn, 1) := by decide +kernel
theorem dX9_count_69 : decode cX9_count 69 = .ok (.aload_n 0, 1) := by decide +kernel
theorem dX9_count_70 : decode cX9_count 70 = .ok (.getfield 64, 3) := by decide +kernel
theorem dX9_count_73 : decode cX9_count 73 = .ok (.iconst 0, 1) := by decide +kernel
theorem dX9_count_74 : decode cX9_count 74 = .ok (.sipush 400, 3) := by decide +kernel
theorem dX9_count_77 : decode cX9_count 77 = .ok (.invokestatic 178, 3) := by decide +kernel
theorem dX9_count_80 : decode cX9_count 80 = .ok (.ireturn, 1) := by decide +kernel
theorem dX9_count_81 : decode cX9_count 81 = .ok (.iconst (-1), 1) := by decide +kernel
theorem dX9_count_82 : decode cX9_count 82 = .ok (.ireturn, 1) := by decide +kernel
theorem dX9_drop_0 : decode cX9_drop 0 = .ok (.iload_n 1, 1) := by decide +kernel
theorem dX9_drop_1 : decode cX9_drop 1 = .ok (.i2l, 1) := by decide +kernel
theorem dX9_drop_2 : decode cX9_drop 2 = .ok (.lconst 0, 1) := by decide +kernel
theorem dX9_drop_3 : decode cX9_drop 3 = .ok (.ldc2_w 94, 3) := by decide +kernel
theorem dX9_drop_6 : decode cX9_drop 6 = .ok (.invokestatic 90, 3) := by decide +kernel
theorem dX9_drop_9 : decode cX9_drop 9 = .ok (.ifCond .ne 5, 3) := by decide +kernel
theorem dX9_drop_12 : decode cX9_drop 12 = .ok (.iconst (-1), 1) := by decide +kernel
theorem dX9_drop_13 : decode cX9_drop 13 = .ok (.ireturn, 1) := by decide +kernel
theorem dX9_drop_14 : decode cX9_drop 14 = .ok (.aload_n 0, 1) := by decide +kernel
theorem dX9_drop_15 : decode cX9_drop 15 = .ok (.getfield 67, 3) := by decide +kernel
theorem dX9_drop_18 : decode cX9_drop 18 = .ok (.iload_n 1, 1) := by decide +kernel
theorem dX9_drop_19 : decode cX9_drop 19 = .ok (.iaload, 1) := by decide +kernel
theorem dX9_drop_20 : decode cX9_drop 20 = .ok (.ifCond .ge 6, 3) := by decide +kernel
theorem dX9_drop_23 : decode cX9_drop 23 = .ok (.bipush (-11), 2) := by decide +kernel
theorem dX9_drop_25 : decode cX9_drop 25 = .ok (.ireturn, 1) := by decide +kernel
theorem dX9_drop_26 : decode cX9_drop 26 = .ok (.aload_n 0, 1) := by decide +kernel
theorem dX9_drop_27 : decode cX9_drop 27 = .ok (.getfield 67, 3) := by decide +kernel
theorem dX9_drop_30 : decode cX9_drop 30 = .ok (.iload_n 1, 1) := by decide +kernel
theorem dX9_drop_31 : decode cX9_drop 31 = .ok (.iconst (-1), 1) := by decide +kernel
theorem dX9_drop_32 : decode cX9_drop 32 = .ok (.iastore, 1) := by decide +kernel
theorem dX9_drop_33 : decode cX9_drop 33 = .ok (.aload_n 0, 1) := by decide +kernel
theorem dX9_drop_34 : decode cX9_drop 34 = .ok (.getfield 70, 3) := by decide +kernel
theorem dX9_drop_37 : decode cX9_drop 37 = .ok (.iload_n 1, 1) := by decide +kernel
theorem dX9_drop_38 : decode cX9_drop 38 = .ok (.iaload, 1) := by decide +kernel
theorem dX9_drop_39 : decode cX9_drop 39 = .ok (.ireturn, 1) := by decide +kernel
theorem dX9_find_0 : decode cX9_find 0 = .ok (.aload_n 0, 1) := by decide +kernel
theorem dX9_find_1 : decode cX9_find 1 = .ok (.getfield 82, 3) := by decide +kernel
theorem dX9_find_4 : decode cX9_find 4 = .ok (.ifCond .eq 4, 3) := by decide +kernel
theorem dX9_find_7 : decode cX9_find 7 = .ok (.return_, 1) := by decide +kernel
theorem dX9_find_8 : decode cX9_find 8 = .ok (.aload_n 0, 1) := by decide +kernel
theorem dX9_find_9 : decode cX9_find 9 = .ok (.iconst 1, 1) := by decide +kernel
theorem dX9_find_10 : decode cX9_find 10 = .ok (.putfield 82, 3) := by decide +kernel
theorem dX9_find_13 : decode cX9_find 13 = .ok (.iconst 0, 1) := by decide +kernel
theorem dX9_find_14 : decode cX9_find 14 = .ok (.istore_n 1, 1) := by decide +kernel
theorem dX9_find_15 : decode cX9_find 15 = .ok (.iload_n 1, 1) := by decide +kernel
theorem dX9_find_16 : decode cX9_find 16 = .ok (.ldc 41, 2) := by decide +kernel
theorem dX9_find_18 : decode cX9_find 18 = .ok (.if_icmp .ge 23, 3) := by decide +kernel
theorem dX9_find_21 : decode cX9_find 21 = .ok (.aload_n 0, 1) := by decide +kernel
theorem dX9_find_22 : decode cX9_find 22 = .ok (.getfield 42, 3) := by decide +kernel
theorem dX9_find_25 : decode cX9_find 25 = .ok (.iload_n 1, 1) := by decide +kernel
theorem dX9_find_26 : decode cX9_find 26 = .ok (.iconst 0, 1) := by decide +kernel
theorem dX9_find_27 : decode cX9_find 27 = .ok (.iastore, 1) := by decide +kernel
theorem dX9_find_28 : decode cX9_find 28 = .ok (.aload_n 0, 1) := by decide +kernel
theorem dX9_find_29 : decode cX9_find 29 = .ok (.getfield 49, 3) := by decide +kernel
theorem dX9_find_32 : decode cX9_find 32 = .ok (.iload_n 1, 1) := by decide +kernel
theorem dX9_find_33 : decode cX9_find 33 = .ok (.iconst 0, 1) := by decide +kernel
theorem dX9_find_34 : decode cX9_find 34 = .ok (.iastore, 1) := by decide +kernel
theorem dX9_find_35 : decode cX9_find 35 = .ok (.iinc 1 1, 3) := by decide +kernel
theorem dX9_find_38 : decode cX9_find 38 = .ok (.goto (-23), 3) := by decide +kernel
theorem dX9_find_41 : decode cX9_find 41 = .ok (.iconst 0, 1) := by decide +kernel
theorem dX9_find_42 : decode cX9_find 42 = .ok (.istore_n 1, 1) := by decide +kernel
theorem dX9_find_43 : decode cX9_find 43 = .ok (.iload_n 1, 1) := by decide +kernel
theorem dX9_find_44 : decode cX9_find 44 = .ok (.sipush 400, 3) := by decide +kernel
theorem dX9_find_47 : decode cX9_find 47 = .ok (.if_icmp .ge 23, 3) := by decide +kernel
theorem dX9_find_50 : decode cX9_find 50 = .ok (.aload_n 0, 1) := by decide +kernel
theorem dX9_find_51 : decode cX9_find 51 = .ok (.getfield 45, 3) := by decide +kernel
theorem dX9_find_54 : decode cX9_find 54 = .ok (.iload_n 1, 1) := by decide +kernel
theorem dX9_find_55 : decode cX9_find 55 = .ok (.iconst 0, 1) := by decide +kernel
theorem dX9_find_56 : decode cX9_find 56 = .ok (.bastore, 1) := by decide +kernel
theorem dX9_find_57 : decode cX9_find 57 = .ok (.aload_n 0, 1) := by decide +kernel
theorem dX9_find_58 : decode cX9_find 58 = .ok (.getfield 52, 3) := by decide +kernel
theorem dX9_find_61 : decode cX9_find 61 = .ok (.iload_n 1, 1) := by decide +kernel
theorem dX9_find_62 : decode cX9_find 62 = .ok (.iconst 0, 1) := by decide +kernel
theorem dX9_find_63 : decode cX9_find 63 = .ok (.bastore, 1) := by decide +kernel
theorem dX9_find_64 : decode cX9_find 64 = .ok (.iinc 1 1, 3) := by decide +kernel
theorem dX9_find_67 : decode cX9_find 67 = .ok (.goto (-24), 3) := by decide +kernel
theorem dX9_find_70 : decode cX9_find 70 = .ok (.iconst 2, 1) := by decide +kernel
theorem dX9_find_71 : decode cX9_find 71 = .ok (.istore_n 1, 1) := by decide +kernel
theorem dX9_find_72 : decode cX9_find 72 = .ok (.iload_n 1, 1) := by decide +kernel
theorem dX9_find_73 : decode cX9_find 73 = .ok (.aload_n 0, 1) := by decide +kernel
theorem dX9_find_74 : decode cX9_find 74 = .ok (.getfield 16, 3) := by decide +kernel
theorem dX9_find_77 : decode cX9_find 77 = .ok (.if_icmp .gt 113, 3) := by decide +kernel
theorem dX9_find_80 : decode cX9_find 80 = .ok (.aload_n 0, 1) := by decide +kernel
theorem dX9_find_81 : decode cX9_find 81 = .ok (.aload_n 0, 1) := by decide +kernel
theorem dX9_find_82 : decode cX9_find 82 = .ok (.getfield 42, 3) := by decide +kernel
theorem dX9_find_85 : decode cX9_find 85 = .ok (.aload_n 0, 1) := by decide +kernel
theorem dX9_find_86 : decode cX9_find 86 = .ok (.getfield 45, 3) := by decide +kernel
theorem dX9_find_89 : decode cX9_find 89 = .ok (.iload_n 1, 1) := by decide +kernel
theorem dX9_find_90 : decode cX9_find 90 = .ok (.invokevirtual 144, 3) := by decide +kernel
theorem dX9_find_93 : decode cX9_find 93 = .ok (.iconst 0, 1) := by decide +kernel
theorem dX9_find_94 : decode cX9_find 94 = .ok (.istore_n 2, 1) := by decide +kernel
theorem dX9_find_95 : decode cX9_find 95 = .ok (.iload_n 2, 1) := by decide +kernel
theorem dX9_find_96 : decode cX9_find 96 = .ok (.aload_n 0, 1) := by decide +kernel
theorem dX9_find_97 : decode cX9_find 97 = .ok (.getfield 79, 3) := by decide +kernel
theorem dX9_find_100 : decode cX9_find 100 = .ok (.if_icmp .ge 71, 3) := by decide +kernel
theorem dX9_find_103 : decode cX9_find 103 = .ok (.aload_n 0, 1) := by decide +kernel
theorem dX9_find_104 : decode cX9_find 104 = .ok (.getfield 29, 3) := by decide +kernel
theorem dX9_find_107 : decode cX9_find 107 = .ok (.iload_n 2, 1) := by decide +kernel
theorem dX9_find_108 : decode cX9_find 108 = .ok (.iaload, 1) := by decide +kernel
theorem dX9_find_109 : decode cX9_find 109 = .ok (.iload_n 1, 1) := by decide +kernel
theorem dX9_find_110 : decode cX9_find 110 = .ok (.if_icmp .ne 55, 3) := by decide +kernel
theorem dX9_find_113 : decode cX9_find 113 = .ok (.aload_n 0, 1) := by decide +kernel
theorem dX9_find_114 : decode cX9_find 114 = .ok (.invokevirtual 137, 3) := by decide +kernel
theorem dX9_find_117 : decode cX9_find 117 = .ok (.iconst 0, 1) := by decide +kernel
theorem dX9_find_118 : decode cX9_find 118 = .ok (.istore_n 3, 1) := by decide +kernel
theorem dX9_find_119 : decode cX9_find 119 = .ok (.iload_n 3, 1) := by decide +kernel
theorem dX9_find_120 : decode cX9_find 120 = .ok (.aload_n 0, 1) := by decide +kernel
theorem dX9_find_121 : decode cX9_find 121 = .ok (.getfield 19, 3) := by decide +kernel
theorem dX9_find_124 : decode cX9_find 124 = .ok (.iload_n 1, 1) := by decide +kernel
theorem dX9_find_125 : decode cX9_find 125 = .ok (.iaload, 1) := by decide +kernel
theorem dX9_find_126 : decode cX9_find 126 = .ok (.if_icmp .ge 26, 3) := by decide +kernel
theorem dX9_find_129 : decode cX9_find 129 = .ok (.aload_n 0, 1) := by decide +kernel
theorem dX9_find_130 : decode cX9_find 130 = .ok (.getfield 55, 3) := by decide +kernel
theorem dX9_find_133 : decode cX9_find 133 = .ok (.iload_n 3, 1) := by decide +kernel
theorem dX9_find_134 : decode cX9_find 134 = .ok (.aload_n 0, 1) := by decide +kernel
theorem dX9_find_135 : decode cX9_find 135 = .ok (.getfield 32, 3) := by decide +kernel
theorem dX9_find_138 : decode cX9_find 138 = .ok (.bipush 81, 2) := by decide +kernel
theorem dX9_find_140 : decode cX9_find 140 = .ok (.iload_n 2, 1) := by decide +kernel
theorem dX9_find_141 : decode cX9_find 141 = .ok (.imul, 1) := by decide +kernel
theorem dX9_find_142 : decode cX9_find 142 = .ok (.iload_n 3, 1) := by decide +kernel
theorem dX9_find_143 : decode cX9_find 143 = .ok (.iadd, 1) := by decide +kernel
theorem dX9_find_144 : decode cX9_find 144 = .ok (.iaload, 1) := by decide +kernel
theorem dX9_find_145 : decode cX9_find 145 = .ok (.iastore, 1) := by decide +kernel
theorem dX9_find_146 : decode cX9_find 146 = .ok (.iinc 3 1, 3) := by decide +kernel
theorem dX9_find_149 : decode cX9_find 149 = .ok (.goto (-30), 3) := by decide +kernel
theorem dX9_find_152 : decode cX9_find 152 = .ok (.aload_n 0, 1) := by decide +kernel
theorem dX9_find_153 : decode cX9_find 153 = .ok (.aload_n 0, 1) := by decide +kernel
theorem dX9_find_154 : decode cX9_find 154 = .ok (.getfield 42, 3) := by decide +kernel
theorem dX9_find_157 : decode cX9_find 157 = .ok (.aload_n 0, 1) := by decide +kernel
theorem dX9_find_158 : decode cX9_find 158 = .ok (.getfield 45, 3) := by decide +kernel
theorem dX9_find_161 : decode cX9_find 161 = .ok (.iload_n 1, 1) := by decide +kernel
theorem dX9_find_162 : decode cX9_find 162 = .ok (.invokevirtual 140, 3) := by decide +kernel
theorem dX9_find_165 : decode cX9_find 165 = .ok (.iinc 2 1, 3) := by decide +kernel
theorem dX9_find_168 : decode cX9_find 168 = .ok (.goto (-73), 3) := by decide +kernel
theorem dX9_find_171 : decode cX9_find 171 = .ok (.aload_n 0, 1) := by decide +kernel
theorem dX9_find_172 : decode cX9_find 172 = .ok (.aload_n 0, 1) := by decide +kernel
theorem dX9_find_173 : decode cX9_find 173 = .ok (.getfield 42, 3) := by decide +kernel
theorem dX9_find_176 : decode cX9_find 176 = .ok (.aload_n 0, 1) := by decide +kernel
theorem dX9_find_177 : decode cX9_find 177 = .ok (.getfield 45, 3) := by decide +kernel
theorem dX9_find_180 : decode cX9_find 180 = .ok (.iload_n 1, 1) := by decide +kernel
theorem dX9_find_181 : decode cX9_find 181 = .ok (.invokevirtual 147, 3) := by decide +kernel
theorem dX9_find_184 : decode cX9_find 184 = .ok (.iinc 1 1, 3) := by decide +kernel
theorem dX9_find_187 : decode cX9_find 187 = .ok (.goto (-115), 3) := by decide +kernel
theorem dX9_find_190 : decode cX9_find 190 = .ok (.aload_n 0, 1) := by decide +kernel
theorem dX9_find_191 : decode cX9_find 191 = .ok (.iconst 0, 1) := by decide +kernel
theorem dX9_find_192 : decode cX9_find 192 = .ok (.putfield 150, 3) := by decide +kernel
theorem dX9_find_195 : decode cX9_find 195 = .ok (.return_, 1) := by decide +kernel
theorem dX9_findOther_0 : decode cX9_findOther 0 = .ok (.aload_n 0, 1) := by decide +kernel
theorem dX9_findOther_1 : decode cX9_findOther 1 = .ok (.invokevirtual 153, 3) := by decide +kernel
theorem dX9_findOther_4 : decode cX9_findOther 4 = .ok (.aload_n 0, 1) := by decide +kernel
theorem dX9_findOther_5 : decode cX9_findOther 5 = .ok (.getfield 150, 3) := by decide +kernel
theorem dX9_findOther_8 : decode cX9_findOther 8 = .ok (.ifCond .eq 4, 3) := by decide +kernel
theorem dX9_findOther_11 : decode cX9_findOther 11 = .ok (.return_, 1) := by decide +kernel
theorem dX9_findOther_12 : decode cX9_findOther 12 = .ok (.aload_n 0, 1) := by decide +kernel
theorem dX9_findOther_13 : decode cX9_findOther 13 = .ok (.iconst 1, 1) := by decide +kernel
theorem dX9_findOther_14 : decode cX9_findOther 14 = .ok (.putfield 150, 3) := by decide +kernel
theorem dX9_findOther_17 : decode cX9_findOther 17 = .ok (.iconst 0, 1) := by decide +kernel
theorem dX9_findOther_18 : decode cX9_findOther 18 = .ok (.istore_n 1, 1) := by decide +kernel
theorem dX9_findOther_19 : decode cX9_findOther 19 = .ok (.iload_n 1, 1) := by decide +kernel
theorem dX9_findOther_20 : decode cX9_findOther 20 = .ok (.aload_n 0, 1) := by decide +kernel
theorem dX9_findOther_21 : decode cX9_findOther 21 = .ok (.getfield 19, 3) := by decide +kernel
theorem dX9_findOther_24 : decode cX9_findOther 24 = .ok (.iconst 2, 1) := by decide +kernel
theorem dX9_findOther_25 : decode cX9_findOther 25 = .ok (.iaload, 1) := by decide +kernel
theorem dX9_findOther_26 : decode cX9_findOther 26 = .ok (.if_icmp .ge 121, 3) := by decide +kernel
theorem dX9_findOther_29 : decode cX9_findOther 29 = .ok (.aload_n 0, 1) := by decide +kernel
theorem dX9_findOther_30 : decode cX9_findOther 30 = .ok (.getfield 45, 3) := by decide +kernel
theorem dX9_findOther_33 : decode cX9_findOther 33 = .ok (.aload_n 0, 1) := by decide +kernel
theorem dX9_findOther_34 : decode cX9_findOther 34 = .ok (.getfield 23, 3) := by decide +kernel
theorem dX9_findOther_37 : decode cX9_findOther 37 = .ok (.iconst 2, 1) := by decide +kernel
theorem dX9_findOther_38 : decode cX9_findOther 38 = .ok (.iaload, 1) := by decide +kernel
theorem dX9_findOther_39 : decode cX9_findOther 39 = .ok (.iload_n 1, 1) := by decide +kernel
theorem dX9_findOther_40 : decode cX9_findOther 40 = .ok (.iadd, 1) := by decide +kernel
theorem dX9_findOther_41 : decode cX9_findOther 41 = .ok (.baload, 1) := by decide +kernel
theorem dX9_findOther_42 : decode cX9_findOther 42 = .ok (.ifCond .ne 99, 3) := by decide +kernel
theorem dX9_findOther_45 : decode cX9_findOther 45 = .ok (.aload_n 0, 1) := by decide +kernel
theorem dX9_findOther_46 : decode cX9_findOther 46 = .ok (.invokevirtual 137, 3) := by decide +kernel
theorem dX9_findOther_49 : decode cX9_findOther 49 = .ok (.aload_n 0, 1) := by decide +kernel
theorem dX9_findOther_50 : decode cX9_findOther 50 = .ok (.getfield 55, 3) := by decide +kernel
theorem dX9_findOther_53 : decode cX9_findOther 53 = .ok (.iload_n 1, 1) := by decide +kernel
theorem dX9_findOther_54 : decode cX9_findOther 54 = .ok (.iconst 1, 1) := by decide +kernel
theorem dX9_findOther_55 : decode cX9_findOther 55 = .ok (.iastore, 1) := by decide +kernel
theorem dX9_findOther_56 : decode cX9_findOther 56 = .ok (.iconst 0, 1) := by decide +kernel
theorem dX9_findOther_57 : decode cX9_findOther 57 = .ok (.istore_n 2, 1) := by decide +kernel
theorem dX9_findOther_58 : decode cX9_findOther 58 = .ok (.iload_n 2, 1) := by decide +kernel
theorem dX9_findOther_59 : decode cX9_findOther 59 = .ok (.aload_n 0, 1) := by decide +kernel
theorem dX9_findOther_60 : decode cX9_findOther 60 = .ok (.getfield 19, 3) := by decide +kernel
theorem dX9_findOther_63 : decode cX9_findOther 63 = .ok (.iconst 2, 1) := by decide +kernel
theorem dX9_findOther_64 : decode cX9_findOther 64 = .ok (.iaload, 1) := by decide +kernel
theorem dX9_findOther_65 : decode cX9_findOther 65 = .ok (.if_icmp .ge 63, 3) := by decide +kernel
theorem dX9_findOther_68 : decode cX9_findOther 68 = .ok (.aload_n 0, 1) := by decide +kernel
theorem dX9_findOther_69 : decode cX9_findOther 69 = .ok (.getfield 45, 3) := by decide +kernel
theorem dX9_findOther_72 : decode cX9_findOther 72 = .ok (.aload_n 0, 1) := by decide +kernel
theorem dX9_findOther_73 : decode cX9_findOther 73 = .ok (.getfield 23, 3) := by decide +kernel
theorem dX9_findOther_76 : decode cX9_findOther 76 = .ok (.iconst 2, 1) := by decide +kernel
theorem dX9_findOther_77 : decode cX9_findOther 77 = .ok (.iaload, 1) := by decide +kernel
theorem dX9_findOther_78 : decode cX9_findOther 78 = .ok (.iload_n 2, 1) := by decide +kernel
theorem dX9_findOther_79 : decode cX9_findOther 79 = .ok (.iadd, 1) := by decide +kernel
theorem dX9_findOther_80 : decode cX9_findOther 80 = .ok (.baload, 1) := by decide +kernel
theorem dX9_findOther_81 : decode cX9_findOther 81 = .ok (.ifCond .eq 41, 3) := by decide +kernel
theorem dX9_findOther_84 : decode cX9_findOther 84 = .ok (.aload_n 0, 1) := by decide +kernel
theorem dX9_findOther_85 : decode cX9_findOther 85 = .ok (.getfield 55, 3) := by decide +kernel
theorem dX9_findOther_88 : decode cX9_findOther 88 = .ok (.iload_n 2, 1) := by decide +kernel
theorem dX9_findOther_89 : decode cX9_findOther 89 = .ok (.aload_n 0, 1) := by decide +kernel
theorem dX9_findOther_90 : decode cX9_findOther 90 = .ok (.getfield 13, 3) := by decide +kernel
theorem dX9_findOther_93 : decode cX9_findOther 93 = .ok (.aload_n 0, 1) := by decide +kernel
theorem dX9_findOther_94 : decode cX9_findOther 94 = .ok (.getfield 42, 3) := by decide +kernel
theorem dX9_findOther_97 : decode cX9_findOther 97 = .ok (.aload_n 0, 1) := by decide +kernel
theorem dX9_findOther_98 : decode cX9_findOther 98 = .ok (.getfield 26, 3) := by decide +kernel
theorem dX9_findOther_101 : decode cX9_findOther 101 = .ok (.iconst 2, 1) := by decide +kernel
theorem dX9_findOther_102 : decode cX9_findOther 102 = .ok (.iaload, 1) := by decide +kernel
theorem dX9_findOther_103 : decode cX9_findOther 103 = .ok (.iload_n 2, 1) := by decide +kernel
theorem dX9_findOther_104 : decode cX9_findOther 104 = .ok (.aload_n 0, 1) := by decide +kernel
theorem dX9_findOther_105 : decode cX9_findOther 105 = .ok (.getfield 19, 3) := by decide +kernel
theorem dX9_findOther_108 : decode cX9_findOther 108 = .ok (.iconst 2, 1) := by decide +kernel
theorem dX9_findOther_109 : decode cX9_findOther 109 = .ok (.iaload, 1) := by decide +kernel
theorem dX9_findOther_110 : decode cX9_findOther 110 = .ok (.imul, 1) := by decide +kernel
theorem dX9_findOther_111 : decode cX9_findOther 111 = .ok (.iadd, 1) := by decide +kernel
theorem dX9_findOther_112 : decode cX9_findOther 112 = .ok (.iload_n 1, 1) := by decide +kernel
theorem dX9_findOther_113 : decode cX9_findOther 113 = .ok (.iadd, 1) := by decide +kernel
theorem dX9_findOther_114 : decode cX9_findOther 114 = .ok (.iaload, 1) := by decide +kernel
theorem dX9_findOther_115 : decode cX9_findOther 115 = .ok (.isub, 1) := by decide +kernel
theorem dX9_findOther_116 : decode cX9_findOther 116 = .ok (.aload_n 0, 1) := by decide +kernel
theorem dX9_findOther_117 : decode cX9_findOther 117 = .ok (.getfield 13, 3) := by decide +kernel
theorem dX9_findOther_120 : decode cX9_findOther 120 = .ok (.irem, 1) := by decide +kernel
theorem dX9_findOther_121 : decode cX9_findOther 121 = .ok (.iastore, 1) := by decide +kernel
theorem dX9_findOther_122 : decode cX9_findOther 122 = .ok (.iinc 2 1, 3) := by decide +kernel
theorem dX9_findOther_125 : decode cX9_findOther 125 = .ok (.goto (-67), 3) := by decide +kernel
theorem dX9_findOther_128 : decode cX9_findOther 128 = .ok (.aload_n 0, 1) := by decide +kernel
theorem dX9_findOther_129 : decode cX9_findOther 129 = .ok (.aload_n 0, 1) := by decide +kernel
theorem dX9_findOther_130 : decode cX9_findOther 130 = .ok (.getfield 49, 3) := by decide +kernel
theorem dX9_findOther_133 : decode cX9_findOther 133 = .ok (.aload_n 0, 1) := by decide +kernel
theorem dX9_findOther_134 : decode cX9_findOther 134 = .ok (.getfield 52, 3) := by decide +kernel
theorem dX9_findOther_137 : decode cX9_findOther 137 = .ok (.iconst 2, 1) := by decide +kernel
theorem dX9_findOther_138 : decode cX9_findOther 138 = .ok (.invokevirtual 140, 3) := by decide +kernel
theorem dX9_findOther_141 : decode cX9_findOther 141 = .ok (.iinc 1 1, 3) := by decide +kernel
theorem dX9_findOther_144 : decode cX9_findOther 144 = .ok (.goto (-125), 3) := by decide +kernel
theorem dX9_findOther_147 : decode cX9_findOther 147 = .ok (.aload_n 0, 1) := by decide +kernel
theorem dX9_findOther_148 : decode cX9_findOther 148 = .ok (.aload_n 0, 1) := by decide +kernel
theorem dX9_findOther_149 : decode cX9_findOther 149 = .ok (.getfield 49, 3) := by decide +kernel
theorem dX9_findOther_152 : decode cX9_findOther 152 = .ok (.aload_n 0, 1) := by decide +kernel
theorem dX9_findOther_153 : decode cX9_findOther 153 = .ok (.getfield 52, 3) := by decide +kernel
theorem dX9_findOther_156 : decode cX9_findOther 156 = .ok (.iconst 2, 1) := by decide +kernel
theorem dX9_findOther_157 : decode cX9_findOther 157 = .ok (.invokevirtual 147, 3) := by decide +kernel
theorem dX9_findOther_160 : decode cX9_findOther 160 = .ok (.iconst 3, 1) := by decide +kernel
theorem dX9_findOther_161 : decode cX9_findOther 161 = .ok (.istore_n 1, 1) := by decide +kernel
theorem dX9_findOther_162 : decode cX9_findOther 162 = .ok (.iload_n 1, 1) := by decide +kernel
theorem dX9_findOther_163 : decode cX9_findOther 163 = .ok (.aload_n 0, 1) := by decide +kernel
theorem dX9_findOther_164 : decode cX9_findOther 164 = .ok (.getfield 16, 3) := by decide +kernel
theorem dX9_findOther_167 : decode cX9_findOther 167 = .ok (.if_icmp .gt 35, 3) := by decide +kernel
theorem dX9_findOther_170 : decode cX9_findOther 170 = .ok (.aload_n 0, 1) := by decide +kernel
theorem dX9_findOther_171 : decode cX9_findOther 171 = .ok (.aload_n 0, 1) := by decide +kernel
theorem dX9_findOther_172 : decode cX9_findOther 172 = .ok (.getfield 49, 3) := by decide +kernel
theorem dX9_findOther_175 : decode cX9_findOther 175 = .ok (.aload_n 0, 1) := by decide +kernel
theorem dX9_findOther_176 : decode cX9_findOther 176 = .ok (.getfield 52, 3) := by decide +kernel
theorem dX9_findOther_179 : decode cX9_findOther 179 = .ok (.iload_n 1, 1) := by decide +kernel
theorem dX9_findOther_180 : decode cX9_findOther 180 = .ok (.invokevirtual 144, 3) := by decide +kernel
theorem dX9_findOther_183 : decode cX9_findOther 183 = .ok (.aload_n 0, 1) := by decide +kernel
theorem dX9_findOther_184 : decode cX9_findOther 184 = .ok (.aload_n 0, 1) := by decide +kernel
theorem dX9_findOther_185 : decode cX9_findOther 185 = .ok (.getfield 49, 3) := by decide +kernel
theorem dX9_findOther_188 : decode cX9_findOther 188 = .ok (.aload_n 0, 1) := by decide +kernel
theorem dX9_findOther_189 : decode cX9_findOther 189 = .ok (.getfield 52, 3) := by decide +kernel
theorem dX9_findOther_192 : decode cX9_findOther 192 = .ok (.iload_n 1, 1) := by decide +kernel
theorem dX9_findOther_193 : decode cX9_findOther 193 = .ok (.invokevirtual 147, 3) := by decide +kernel
theorem dX9_findOther_196 : decode cX9_findOther 196 = .ok (.iinc 1 1, 3) := by decide +kernel
theorem dX9_findOther_199 : decode cX9_findOther 199 = .ok (.goto (-37), 3) := by decide +kernel
theorem dX9_findOther_202 : decode cX9_findOther 202 = .ok (.return_, 1) := by decide +kernel
theorem dX9_fit_0 : decode cX9_fit 0 = .ok (.aload_n 0, 1) := by decide +kernel
theorem dX9_fit_1 : decode cX9_fit 1 = .ok (.invokevirtual 185, 3) := by decide +kernel
theorem dX9_fit_4 : decode cX9_fit 4 = .ok (.ifCond .ne 6, 3) := by decide +kernel
theorem dX9_fit_7 : decode cX9_fit 7 = .ok (.bipush (-2), 2) := by decide +kernel
theorem dX9_fit_9 : decode cX9_fit 9 = .ok (.ireturn, 1) := by decide +kernel
theorem dX9_fit_10 : decode cX9_fit 10 = .ok (.aload_n 0, 1) := by decide +kernel
theorem dX9_fit_11 : decode cX9_fit 11 = .ok (.invokevirtual 188, 3) := by decide +kernel
theorem dX9_fit_14 : decode cX9_fit 14 = .ok (.iconst 1, 1) := by decide +kernel
theorem dX9_fit_15 : decode cX9_fit 15 = .ok (.istore_n 1, 1) := by decide +kernel
theorem dX9_fit_16 : decode cX9_fit 16 = .ok (.iload_n 1, 1) := by decide +kernel
theorem dX9_fit_17 : decode cX9_fit 17 = .ok (.aload_n 0, 1) := by decide +kernel
theorem dX9_fit_18 : decode cX9_fit 18 = .ok (.getfield 16, 3) := by decide +kernel
theorem dX9_fit_21 : decode cX9_fit 21 = .ok (.if_icmp .gt 70, 3) := by decide +kernel
theorem dX9_fit_24 : decode cX9_fit 24 = .ok (.iconst 0, 1) := by decide +kernel
theorem dX9_fit_25 : decode cX9_fit 25 = .ok (.istore_n 2, 1) := by decide +kernel
theorem dX9_fit_26 : decode cX9_fit 26 = .ok (.iconst 0, 1) := by decide +kernel
theorem dX9_fit_27 : decode cX9_fit 27 = .ok (.istore_n 3, 1) := by decide +kernel
theorem dX9_fit_28 : decode cX9_fit 28 = .ok (.iload_n 3, 1) := by decide +kernel
theorem dX9_fit_29 : decode cX9_fit 29 = .ok (.iload_n 1, 1) := by decide +kernel
theorem dX9_fit_30 : decode cX9_fit 30 = .ok (.if_icmp .gt 49, 3) := by decide +kernel
theorem dX9_fit_33 : decode cX9_fit 33 = .ok (.aload_n 0, 1) := by decide +kernel
theorem dX9_fit_34 : decode cX9_fit 34 = .ok (.aload_n 0, 1) := by decide +kernel
theorem dX9_fit_35 : decode cX9_fit 35 = .ok (.getfield 45, 3) := by decide +kernel
theorem dX9_fit_38 : decode cX9_fit 38 = .ok (.iload_n 1, 1) := by decide +kernel
theorem dX9_fit_39 : decode cX9_fit 39 = .ok (.iload_n 3, 1) := by decide +kernel
theorem dX9_fit_40 : decode cX9_fit 40 = .ok (.isub, 1) := by decide +kernel
theorem dX9_fit_41 : decode cX9_fit 41 = .ok (.invokevirtual 159, 3) := by decide +kernel
theorem dX9_fit_44 : decode cX9_fit 44 = .ok (.aload_n 0, 1) := by decide +kernel
theorem dX9_fit_45 : decode cX9_fit 45 = .ok (.aload_n 0, 1) := by decide +kernel
theorem dX9_fit_46 : decode cX9_fit 46 = .ok (.getfield 52, 3) := by decide +kernel
theorem dX9_fit_49 : decode cX9_fit 49 = .ok (.iload_n 3, 1) := by decide +kernel
theorem dX9_fit_50 : decode cX9_fit 50 = .ok (.invokevirtual 159, 3) := by decide +kernel
theorem dX9_fit_53 : decode cX9_fit 53 = .ok (.imul, 1) := by decide +kernel
theorem dX9_fit_54 : decode cX9_fit 54 = .ok (.istore 4, 2) := by decide +kernel
theorem dX9_fit_56 : decode cX9_fit 56 = .ok (.iload_n 2, 1) := by decide +kernel
theorem dX9_fit_57 : decode cX9_fit 57 = .ok (.iload_n 3, 1) := by decide +kernel
theorem dX9_fit_58 : decode cX9_fit 58 = .ok (.iconst 2, 1) := by decide +kernel
theorem dX9_fit_59 : decode cX9_fit 59 = .ok (.irem, 1) := by decide +kernel
theorem dX9_fit_60 : decode cX9_fit 60 = .ok (.ifCond .ne 8, 3) := by decide +kernel
theorem dX9_fit_63 : decode cX9_fit 63 = .ok (.iload 4, 2) := by decide +kernel
theorem dX9_fit_65 : decode cX9_fit 65 = .ok (.goto 6, 3) := by decide +kernel
theorem dX9_fit_68 : decode cX9_fit 68 = .ok (.iload 4, 2) := by decide +kernel
theorem dX9_fit_70 : decode cX9_fit 70 = .ok (.ineg, 1) := by decide +kernel
theorem dX9_fit_71 : decode cX9_fit 71 = .ok (.iadd, 1) := by decide +kernel
theorem dX9_fit_72 : decode cX9_fit 72 = .ok (.istore_n 2, 1) := by decide +kernel
theorem dX9_fit_73 : decode cX9_fit 73 = .ok (.iinc 3 1, 3) := by decide +kernel
theorem dX9_fit_76 : decode cX9_fit 76 = .ok (.goto (-48), 3) := by decide +kernel
theorem dX9_fit_79 : decode cX9_fit 79 = .ok (.iload_n 2, 1) := by decide +kernel
theorem dX9_fit_80 : decode cX9_fit 80 = .ok (.ifCond .eq 5, 3) := by decide +kernel
theorem dX9_fit_83 : decode cX9_fit 83 = .ok (.iload_n 1, 1) := by decide +kernel
theorem dX9_fit_84 : decode cX9_fit 84 = .ok (.ireturn, 1) := by decide +kernel
theorem dX9_fit_85 : decode cX9_fit 85 = .ok (.iinc 1 1, 3) := by decide +kernel
theorem dX9_fit_88 : decode cX9_fit 88 = .ok (.goto (-72), 3) := by decide +kernel
theorem dX9_fit_91 : decode cX9_fit 91 = .ok (.bipush (-4), 2) := by decide +kernel
theorem dX9_fit_93 : decode cX9_fit 93 = .ok (.ireturn, 1) := by decide +kernel
theorem dX9_grow_0 : decode cX9_grow 0 = .ok (.iconst 0, 1) := by decide +kernel
theorem dX9_grow_1 : decode cX9_grow 1 = .ok (.istore 4, 2) := by decide +kernel
theorem dX9_grow_3 : decode cX9_grow 3 = .ok (.iload 4, 2) := by decide +kernel
theorem dX9_grow_5 : decode cX9_grow 5 = .ok (.aload_n 0, 1) := by decide +kernel
theorem dX9_grow_6 : decode cX9_grow 6 = .ok (.getfield 19, 3) := by decide +kernel
theorem dX9_grow_9 : decode cX9_grow 9 = .ok (.iload_n 3, 1) := by decide +kernel
theorem dX9_grow_10 : decode cX9_grow 10 = .ok (.iconst 1, 1) := by decide +kernel
theorem dX9_grow_11 : decode cX9_grow 11 = .ok (.isub, 1) := by decide +kernel
theorem dX9_grow_12 : decode cX9_grow 12 = .ok (.iaload, 1) := by decide +kernel
theorem dX9_grow_13 : decode cX9_grow 13 = .ok (.if_icmp .ge 179, 3) := by decide +kernel
theorem dX9_grow_16 : decode cX9_grow 16 = .ok (.aload_n 2, 1) := by decide +kernel
theorem dX9_grow_17 : decode cX9_grow 17 = .ok (.aload_n 0, 1) := by decide +kernel
theorem dX9_grow_18 : decode cX9_grow 18 = .ok (.getfield 23, 3) := by decide +kernel
theorem dX9_grow_21 : decode cX9_grow 21 = .ok (.iload_n 3, 1) := by decide +kernel
theorem dX9_grow_22 : decode cX9_grow 22 = .ok (.iconst 1, 1) := by decide +kernel
theorem dX9_grow_23 : decode cX9_grow 23 = .ok (.isub, 1) := by decide +kernel
theorem dX9_grow_24 : decode cX9_grow 24 = .ok (.iaload, 1) := by decide +kernel
theorem dX9_grow_25 : decode cX9_grow 25 = .ok (.iload 4, 2) := by decide +kernel
theorem dX9_grow_27 : decode cX9_grow 27 = .ok (.iadd, 1) := by decide +kernel
theorem dX9_grow_28 : decode cX9_grow 28 = .ok (.baload, 1) := by decide +kernel
theorem dX9_grow_29 : decode cX9_grow 29 = .ok (.ifCond .eq 157, 3) := by decide +kernel
theorem dX9_grow_32 : decode cX9_grow 32 = .ok (.aload_n 0, 1) := by decide +kernel
theorem dX9_grow_33 : decode cX9_grow 33 = .ok (.getfield 26, 3) := by decide +kernel
theorem dX9_grow_36 : decode cX9_grow 36 = .ok (.iload_n 3, 1) := by decide +kernel
theorem dX9_grow_37 : decode cX9_grow 37 = .ok (.iconst 1, 1) := by decide +kernel
theorem dX9_grow_38 : decode cX9_grow 38 = .ok (.isub, 1) := by decide +kernel
theorem dX9_grow_39 : decode cX9_grow 39 = .ok (.iaload, 1) := by decide +kernel
theorem dX9_grow_40 : decode cX9_grow 40 = .ok (.iload 4, 2) := by decide +kernel
theorem dX9_grow_42 : decode cX9_grow 42 = .ok (.aload_n 0, 1) := by decide +kernel
theorem dX9_grow_43 : decode cX9_grow 43 = .ok (.getfield 19, 3) := by decide +kernel
theorem dX9_grow_46 : decode cX9_grow 46 = .ok (.iload_n 3, 1) := by decide +kernel
theorem dX9_grow_47 : decode cX9_grow 47 = .ok (.iconst 1, 1) := by decide +kernel
theorem dX9_grow_48 : decode cX9_grow 48 = .ok (.isub, 1) := by decide +kernel
theorem dX9_grow_49 : decode cX9_grow 49 = .ok (.iaload, 1) := by decide +kernel
theorem dX9_grow_50 : decode cX9_grow 50 = .ok (.imul, 1) := by decide +kernel
theorem dX9_grow_51 : decode cX9_grow 51 = .ok (.iadd, 1) := by decide +kernel
theorem dX9_grow_52 : decode cX9_grow 52 = .ok (.istore 5, 2) := by decide +kernel
theorem dX9_grow_54 : decode cX9_grow 54 = .ok (.iconst 0, 1) := by decide +kernel
theorem dX9_grow_55 : decode cX9_grow 55 = .ok (.istore 6, 2) := by decide +kernel
theorem dX9_grow_57 : decode cX9_grow 57 = .ok (.iload 6, 2) := by decide +kernel
theorem dX9_grow_59 : decode cX9_grow 59 = .ok (.aload_n 0, 1) := by decide +kernel
theorem dX9_grow_60 : decode cX9_grow 60 = .ok (.getfield 7, 3) := by decide +kernel
theorem dX9_grow_63 : decode cX9_grow 63 = .ok (.if_icmp .ge 123, 3) := by decide +kernel
theorem dX9_grow_66 : decode cX9_grow 66 = .ok (.aload_n 0, 1) := by decide +kernel
theorem dX9_grow_67 : decode cX9_grow 67 = .ok (.invokevirtual 137, 3) := by decide +kernel
theorem dX9_grow_70 : decode cX9_grow 70 = .ok (.iconst 0, 1) := by decide +kernel
theorem dX9_grow_71 : decode cX9_grow 71 = .ok (.istore 7, 2) := by decide +kernel
theorem dX9_grow_73 : decode cX9_grow 73 = .ok (.iload 7, 2) := by decide +kernel
theorem dX9_grow_75 : decode cX9_grow 75 = .ok (.aload_n 0, 1) := by decide +kernel
theorem dX9_grow_76 : decode cX9_grow 76 = .ok (.getfield 19, 3) := by decide +kernel
theorem dX9_grow_79 : decode cX9_grow 79 = .ok (.iload_n 3, 1) := by decide +kernel
theorem dX9_grow_80 : decode cX9_grow 80 = .ok (.iconst 1, 1) := by decide +kernel
theorem dX9_grow_81 : decode cX9_grow 81 = .ok (.isub, 1) := by decide +kernel
theorem dX9_grow_82 : decode cX9_grow 82 = .ok (.iaload, 1) := by decide +kernel
theorem dX9_grow_83 : decode cX9_grow 83 = .ok (.if_icmp .ge 35, 3) := by decide +kernel
theorem dX9_grow_86 : decode cX9_grow 86 = .ok (.aload_n 0, 1) := by decide +kernel
theorem dX9_grow_87 : decode cX9_grow 87 = .ok (.getfield 55, 3) := by decide +kernel
theorem dX9_grow_90 : decode cX9_grow 90 = .ok (.iload 6, 2) := by decide +kernel
theorem dX9_grow_92 : decode cX9_grow 92 = .ok (.aload_n 0, 1) := by decide +kernel
theorem dX9_grow_93 : decode cX9_grow 93 = .ok (.getfield 19, 3) := by decide +kernel
theorem dX9_grow_96 : decode cX9_grow 96 = .ok (.iload_n 3, 1) := by decide +kernel
theorem dX9_grow_97 : decode cX9_grow 97 = .ok (.iconst 1, 1) := by decide +kernel
theorem dX9_grow_98 : decode cX9_grow 98 = .ok (.isub, 1) := by decide +kernel
theorem dX9_grow_99 : decode cX9_grow 99 = .ok (.iaload, 1) := by decide +kernel
theorem dX9_grow_100 : decode cX9_grow 100 = .ok (.imul, 1) := by decide +kernel
theorem dX9_grow_101 : decode cX9_grow 101 = .ok (.iload 7, 2) := by decide +kernel
theorem dX9_grow_103 : decode cX9_grow 103 = .ok (.iadd, 1) := by decide +kernel
theorem dX9_grow_104 : decode cX9_grow 104 = .ok (.aload_n 1, 1) := by decide +kernel
theorem dX9_grow_105 : decode cX9_grow 105 = .ok (.iload 5, 2) := by decide +kernel
theorem dX9_grow_107 : decode cX9_grow 107 = .ok (.iload 7, 2) := by decide +kernel
theorem dX9_grow_109 : decode cX9_grow 109 = .ok (.iadd, 1) := by decide +kernel
theorem dX9_grow_110 : decode cX9_grow 110 = .ok (.iaload, 1) := by decide +kernel
theorem dX9_grow_111 : decode cX9_grow 111 = .ok (.iastore, 1) := by decide +kernel
theorem dX9_grow_112 : decode cX9_grow 112 = .ok (.iinc 7 1, 3) := by decide +kernel
theorem dX9_grow_115 : decode cX9_grow 115 = .ok (.goto (-42), 3) := by decide +kernel
theorem dX9_grow_118 : decode cX9_grow 118 = .ok (.aload_n 0, 1) := by decide +kernel
theorem dX9_grow_119 : decode cX9_grow 119 = .ok (.aload_n 1, 1) := by decide +kernel
theorem dX9_grow_120 : decode cX9_grow 120 = .ok (.aload_n 2, 1) := by decide +kernel
theorem dX9_grow_121 : decode cX9_grow 121 = .ok (.iload_n 3, 1) := by decide +kernel
theorem dX9_grow_122 : decode cX9_grow 122 = .ok (.invokevirtual 140, 3) := by decide +kernel
theorem dX9_grow_125 : decode cX9_grow 125 = .ok (.aload_n 0, 1) := by decide +kernel
theorem dX9_grow_126 : decode cX9_grow 126 = .ok (.invokevirtual 137, 3) := by decide +kernel
theorem dX9_grow_129 : decode cX9_grow 129 = .ok (.iconst 0, 1) := by decide +kernel
theorem dX9_grow_130 : decode cX9_grow 130 = .ok (.istore 7, 2) := by decide +kernel
theorem dX9_grow_132 : decode cX9_grow 132 = .ok (.iload 7, 2) := by decide +kernel
theorem dX9_grow_134 : decode cX9_grow 134 = .ok (.aload_n 0, 1) := by decide +kernel
theorem dX9_grow_135 : decode cX9_grow 135 = .ok (.getfield 19, 3) := by decide +kernel
theorem dX9_grow_138 : decode cX9_grow 138 = .ok (.iload_n 3, 1) := by decide +kernel
theorem dX9_grow_139 : decode cX9_grow 139 = .ok (.iconst 1, 1) := by decide +kernel
theorem dX9_grow_140 : decode cX9_grow 140 = .ok (.isub, 1) := by decide +kernel
theorem dX9_grow_141 : decode cX9_grow 141 = .ok (.iaload, 1) := by decide +kernel
theorem dX9_grow_142 : decode cX9_grow 142 = .ok (.if_icmp .ge 31, 3) := by decide +kernel
theorem dX9_grow_145 : decode cX9_grow 145 = .ok (.aload_n 0, 1) := by decide +kernel
theorem dX9_grow_146 : decode cX9_grow 146 = .ok (.getfield 55, 3) := by decide +kernel
theorem dX9_grow_149 : decode cX9_grow 149 = .ok (.aload_n 0, 1) := by decide +kernel
theorem dX9_grow_150 : decode cX9_grow 150 = .ok (.getfield 7, 3) := by decide +kernel
theorem dX9_grow_153 : decode cX9_grow 153 = .ok (.iload 7, 2) := by decide +kernel
theorem dX9_grow_155 : decode cX9_grow 155 = .ok (.imul, 1) := by decide +kernel
theorem dX9_grow_156 : decode cX9_grow 156 = .ok (.iload 6, 2) := by decide +kernel
theorem dX9_grow_158 : decode cX9_grow 158 = .ok (.iadd, 1) := by decide +kernel
theorem dX9_grow_159 : decode cX9_grow 159 = .ok (.aload_n 1, 1) := by decide +kernel
theorem dX9_grow_160 : decode cX9_grow 160 = .ok (.iload 5, 2) := by decide +kernel
theorem dX9_grow_162 : decode cX9_grow 162 = .ok (.iload 7, 2) := by decide +kernel
theorem dX9_grow_164 : decode cX9_grow 164 = .ok (.iadd, 1) := by decide +kernel
theorem dX9_grow_165 : decode cX9_grow 165 = .ok (.iaload, 1) := by decide +kernel
theorem dX9_grow_166 : decode cX9_grow 166 = .ok (.iastore, 1) := by decide +kernel
theorem dX9_grow_167 : decode cX9_grow 167 = .ok (.iinc 7 1, 3) := by decide +kernel
theorem dX9_grow_170 : decode cX9_grow 170 = .ok (.goto (-38), 3) := by decide +kernel
theorem dX9_grow_173 : decode cX9_grow 173 = .ok (.aload_n 0, 1) := by decide +kernel
theorem dX9_grow_174 : decode cX9_grow 174 = .ok (.aload_n 1, 1) := by decide +kernel
theorem dX9_grow_175 : decode cX9_grow 175 = .ok (.aload_n 2, 1) := by decide +kernel
theorem dX9_grow_176 : decode cX9_grow 176 = .ok (.iload_n 3, 1) := by decide +kernel
theorem dX9_grow_177 : decode cX9_grow 177 = .ok (.invokevirtual 140, 3) := by decide +kernel
theorem dX9_grow_180 : decode cX9_grow 180 = .ok (.iinc 6 1, 3) := by decide +kernel
theorem dX9_grow_183 : decode cX9_grow 183 = .ok (.goto (-126), 3) := by decide +kernel
theorem dX9_grow_186 : decode cX9_grow 186 = .ok (.iinc 4 1, 3) := by decide +kernel
theorem dX9_grow_189 : decode cX9_grow 189 = .ok (.goto (-186), 3) := by decide +kernel
theorem dX9_grow_192 : decode cX9_grow 192 = .ok (.return_, 1) := by decide +kernel
theorem dX9_in_0 : decode cX9_in 0 = .ok (.lload_n 0, 1) := by decide +kernel
theorem dX9_in_1 : decode cX9_in 1 = .ok (.lload_n 2, 1) := by decide +kernel
theorem dX9_in_2 : decode cX9_in 2 = .ok (.lcmp, 1) := by decide +kernel
theorem dX9_in_3 : decode cX9_in 3 = .ok (.ifCond .lt 14, 3) := by decide +kernel
theorem dX9_in_6 : decode cX9_in 6 = .ok (.lload_n 0, 1) := by decide +kernel
theorem dX9_in_7 : decode cX9_in 7 = .ok (.lload 4, 2) := by decide +kernel
theorem dX9_in_9 : decode cX9_in 9 = .ok (.lcmp, 1) := by decide +kernel
theorem dX9_in_10 : decode cX9_in 10 = .ok (.ifCond .gt 7, 3) := by decide +kernel
theorem dX9_in_13 : decode cX9_in 13 = .ok (.iconst 1, 1) := by decide +kernel
theorem dX9_in_14 : decode cX9_in 14 = .ok (.goto 4, 3) := by decide +kernel
theorem dX9_in_17 : decode cX9_in 17 = .ok (.iconst 0, 1) := by decide +kernel
theorem dX9_in_18 : decode cX9_in 18 = .ok (.ireturn, 1) := by decide +kernel
theorem dX9_init_0 : decode cX9_init 0 = .ok (.aload_n 0, 1) := by decide +kernel
theorem dX9_init_1 : decode cX9_init 1 = .ok (.invokespecial 1, 3) := by decide +kernel
theorem dX9_init_4 : decode cX9_init 4 = .ok (.aload_n 0, 1) := by decide +kernel
theorem dX9_init_5 : decode cX9_init 5 = .ok (.iconst 2, 1) := by decide +kernel
theorem dX9_init_6 : decode cX9_init 6 = .ok (.putfield 7, 3) := by decide +kernel
theorem dX9_init_9 : decode cX9_init 9 = .ok (.aload_n 0, 1) := by decide +kernel
theorem dX9_init_10 : decode cX9_init 10 = .ok (.bipush 7, 2) := by decide +kernel
theorem dX9_init_12 : decode cX9_init 12 = .ok (.putfield 13, 3) := by decide +kernel
theorem dX9_init_15 : decode cX9_init 15 = .ok (.aload_n 0, 1) := by decide +kernel
theorem dX9_init_16 : decode cX9_init 16 = .ok (.bipush 7, 2) := by decide +kernel
theorem dX9_init_18 : decode cX9_init 18 = .ok (.putfield 16, 3) := by decide +kernel
theorem dX9_init_21 : decode cX9_init 21 = .ok (.aload_n 0, 1) := by decide +kernel
theorem dX9_init_22 : decode cX9_init 22 = .ok (.bipush 10, 2) := by decide +kernel
theorem dX9_init_24 : decode cX9_init 24 = .ok (.newarray .int, 2) := by decide +kernel
theorem dX9_init_26 : decode cX9_init 26 = .ok (.putfield 19, 3) := by decide +kernel
theorem dX9_init_29 : decode cX9_init 29 = .ok (.aload_n 0, 1) := by decide +kernel
theorem dX9_init_30 : decode cX9_init 30 = .ok (.bipush 10, 2) := by decide +kernel
theorem dX9_init_32 : decode cX9_init 32 = .ok (.newarray .int, 2) := by decide +kernel
theorem dX9_init_34 : decode cX9_init 34 = .ok (.putfield 23, 3) := by decide +kernel
theorem dX9_init_37 : decode cX9_init 37 = .ok (.aload_n 0, 1) := by decide +kernel
theorem dX9_init_38 : decode cX9_init 38 = .ok (.bipush 10, 2) := by decide +kernel
theorem dX9_init_40 : decode cX9_init 40 = .ok (.newarray .int, 2) := by decide +kernel
theorem dX9_init_42 : decode cX9_init 42 = .ok (.putfield 26, 3) := by decide +kernel
theorem dX9_init_45 : decode cX9_init 45 = .ok (.aload_n 0, 1) := by decide +kernel
theorem dX9_init_46 : decode cX9_init 46 = .ok (.bipush 8, 2) := by decide +kernel
theorem dX9_init_48 : decode cX9_init 48 = .ok (.newarray .int, 2) := by decide +kernel
theorem dX9_init_50 : decode cX9_init 50 = .ok (.putfield 29, 3) := by decide +kernel
theorem dX9_init_53 : decode cX9_init 53 = .ok (.aload_n 0, 1) := by decide +kernel
theorem dX9_init_54 : decode cX9_init 54 = .ok (.sipush 648, 3) := by decide +kernel
theorem dX9_init_57 : decode cX9_init 57 = .ok (.newarray .int, 2) := by decide +kernel
theorem dX9_init_59 : decode cX9_init 59 = .ok (.putfield 32, 3) := by decide +kernel
theorem dX9_init_62 : decode cX9_init 62 = .ok (.aload_n 0, 1) := by decide +kernel
theorem dX9_init_63 : decode cX9_init 63 = .ok (.sipush 400, 3) := by decide +kernel
theorem dX9_init_66 : decode cX9_init 66 = .ok (.newarray .int, 2) := by decide +kernel
theorem dX9_init_68 : decode cX9_init 68 = .ok (.putfield 35, 3) := by decide +kernel
theorem dX9_init_71 : decode cX9_init 71 = .ok (.aload_n 0, 1) := by decide +kernel
theorem dX9_init_72 : decode cX9_init 72 = .ok (.bipush 80, 2) := by decide +kernel
theorem dX9_init_74 : decode cX9_init 74 = .ok (.newarray .int, 2) := by decide +kernel
theorem dX9_init_76 : decode cX9_init 76 = .ok (.putfield 38, 3) := by decide +kernel
theorem dX9_init_79 : decode cX9_init 79 = .ok (.aload_n 0, 1) := by decide +kernel
theorem dX9_init_80 : decode cX9_init 80 = .ok (.ldc 41, 2) := by decide +kernel
theorem dX9_init_82 : decode cX9_init 82 = .ok (.newarray .int, 2) := by decide +kernel
theorem dX9_init_84 : decode cX9_init 84 = .ok (.putfield 42, 3) := by decide +kernel
theorem dX9_init_87 : decode cX9_init 87 = .ok (.aload_n 0, 1) := by decide +kernel
theorem dX9_init_88 : decode cX9_init 88 = .ok (.sipush 400, 3) := by decide +kernel
theorem dX9_init_91 : decode cX9_init 91 = .ok (.newarray .boolean, 2) := by decide +kernel
theorem dX9_init_93 : decode cX9_init 93 = .ok (.putfield 45, 3) := by decide +kernel
theorem dX9_init_96 : decode cX9_init 96 = .ok (.aload_n 0, 1) := by decide +kernel
theorem dX9_init_97 : decode cX9_init 97 = .ok (.ldc 41, 2) := by decide +kernel
theorem dX9_init_99 : decode cX9_init 99 = .ok (.newarray .int, 2) := by decide +kernel
theorem dX9_init_101 : decode cX9_init 101 = .ok (.putfield 49, 3) := by decide +kernel
theorem dX9_init_104 : decode cX9_init 104 = .ok (.aload_n 0, 1) := by decide +kernel
theorem dX9_init_105 : decode cX9_init 105 = .ok (.sipush 400, 3) := by decide +kernel
theorem dX9_init_108 : decode cX9_init 108 = .ok (.newarray .boolean, 2) := by decide +kernel
theorem dX9_init_110 : decode cX9_init 110 = .ok (.putfield 52, 3) := by decide +kernel
theorem dX9_init_113 : decode cX9_init 113 = .ok (.aload_n 0, 1) := by decide +kernel
theorem dX9_init_114 : decode cX9_init 114 = .ok (.sipush 243, 3) := by decide +kernel
theorem dX9_init_117 : decode cX9_init 117 = .ok (.newarray .int, 2) := by decide +kernel
theorem dX9_init_119 : decode cX9_init 119 = .ok (.putfield 55, 3) := by decide +kernel
theorem dX9_init_122 : decode cX9_init 122 = .ok (.aload_n 0, 1) := by decide +kernel
theorem dX9_init_123 : decode cX9_init 123 = .ok (.sipush 6561, 3) := by decide +kernel
theorem dX9_init_126 : decode cX9_init 126 = .ok (.newarray .int, 2) := by decide +kernel
theorem dX9_init_128 : decode cX9_init 128 = .ok (.putfield 58, 3) := by decide +kernel
theorem dX9_init_131 : decode cX9_init 131 = .ok (.aload_n 0, 1) := by decide +kernel
theorem dX9_init_132 : decode cX9_init 132 = .ok (.bipush 81, 2) := by decide +kernel
theorem dX9_init_134 : decode cX9_init 134 = .ok (.newarray .boolean, 2) := by decide +kernel
theorem dX9_init_136 : decode cX9_init 136 = .ok (.putfield 61, 3) := by decide +kernel
theorem dX9_init_139 : decode cX9_init 139 = .ok (.aload_n 0, 1) := by decide +kernel
theorem dX9_init_140 : decode cX9_init 140 = .ok (.sipush 400, 3) := by decide +kernel
theorem dX9_init_143 : decode cX9_init 143 = .ok (.newarray .int, 2) := by decide +kernel
theorem dX9_init_145 : decode cX9_init 145 = .ok (.putfield 64, 3) := by decide +kernel
theorem dX9_init_148 : decode cX9_init 148 = .ok (.aload_n 0, 1) := by decide +kernel
theorem dX9_init_149 : decode cX9_init 149 = .ok (.iconst 4, 1) := by decide +kernel
theorem dX9_init_150 : decode cX9_init 150 = .ok (.newarray .int, 2) := by decide +kernel
theorem dX9_init_152 : decode cX9_init 152 = .ok (.putfield 67, 3) := by decide +kernel
theorem dX9_init_155 : decode cX9_init 155 = .ok (.aload_n 0, 1) := by decide +kernel
theorem dX9_init_156 : decode cX9_init 156 = .ok (.iconst 4, 1) := by decide +kernel
theorem dX9_init_157 : decode cX9_init 157 = .ok (.newarray .int, 2) := by decide +kernel
theorem dX9_init_159 : decode cX9_init 159 = .ok (.putfield 70, 3) := by decide +kernel
theorem dX9_init_162 : decode cX9_init 162 = .ok (.aload_n 0, 1) := by decide +kernel
theorem dX9_init_163 : decode cX9_init 163 = .ok (.sipush 360, 3) := by decide +kernel
theorem dX9_init_166 : decode cX9_init 166 = .ok (.newarray .int, 2) := by decide +kernel
theorem dX9_init_168 : decode cX9_init 168 = .ok (.putfield 73, 3) := by decide +kernel
theorem dX9_init_171 : decode cX9_init 171 = .ok (.iconst 0, 1) := by decide +kernel
theorem dX9_init_172 : decode cX9_init 172 = .ok (.istore_n 1, 1) := by decide +kernel
theorem dX9_init_173 : decode cX9_init 173 = .ok (.iload_n 1, 1) := by decide +kernel
theorem dX9_init_174 : decode cX9_init 174 = .ok (.iconst 4, 1) := by decide +kernel
theorem dX9_init_175 : decode cX9_init 175 = .ok (.if_icmp .ge 16, 3) := by decide +kernel
theorem dX9_init_178 : decode cX9_init 178 = .ok (.aload_n 0, 1) := by decide +kernel
theorem dX9_init_179 : decode cX9_init 179 = .ok (.getfield 67, 3) := by decide +kernel
theorem dX9_init_182 : decode cX9_init 182 = .ok (.iload_n 1, 1) := by decide +kernel
theorem dX9_init_183 : decode cX9_init 183 = .ok (.iconst (-1), 1) := by decide +kernel
theorem dX9_init_184 : decode cX9_init 184 = .ok (.iastore, 1) := by decide +kernel
theorem dX9_init_185 : decode cX9_init 185 = .ok (.iinc 1 1, 3) := by decide +kernel
theorem dX9_init_188 : decode cX9_init 188 = .ok (.goto (-15), 3) := by decide +kernel
theorem dX9_init_191 : decode cX9_init 191 = .ok (.aload_n 0, 1) := by decide +kernel
theorem dX9_init_192 : decode cX9_init 192 = .ok (.invokevirtual 76, 3) := by decide +kernel
theorem dX9_init_195 : decode cX9_init 195 = .ok (.return_, 1) := by decide +kernel
theorem dX9_insert_0 : decode cX9_insert 0 = .ok (.aload_n 0, 1) := by decide +kernel
theorem dX9_insert_1 : decode cX9_insert 1 = .ok (.getfield 19, 3) := by decide +kernel
theorem dX9_insert_4 : decode cX9_insert 4 = .ok (.iload_n 3, 1) := by decide +kernel
theorem dX9_insert_5 : decode cX9_insert 5 = .ok (.iaload, 1) := by decide +kernel
theorem dX9_insert_6 : decode cX9_insert 6 = .ok (.iconst 1, 1) := by decide +kernel
theorem dX9_insert_7 : decode cX9_insert 7 = .ok (.isub, 1) := by decide +kernel
theorem dX9_insert_8 : decode cX9_insert 8 = .ok (.istore 4, 2) := by decide +kernel
theorem dX9_insert_10 : decode cX9_insert 10 = .ok (.iload 4, 2) := by decide +kernel
theorem dX9_insert_12 : decode cX9_insert 12 = .ok (.ifCond .lt 182, 3) := by decide +kernel
theorem dX9_insert_15 : decode cX9_insert 15 = .ok (.aload_n 0, 1) := by decide +kernel
theorem dX9_insert_16 : decode cX9_insert 16 = .ok (.getfield 55, 3) := by decide +kernel
theorem dX9_insert_19 : decode cX9_insert 19 = .ok (.iload 4, 2) := by decide +kernel
theorem dX9_insert_21 : decode cX9_insert 21 = .ok (.iaload, 1) := by decide +kernel
theorem dX9_insert_22 : decode cX9_insert 22 = .ok (.ifCond .ne 6, 3) := by decide +kernel
theorem dX9_insert_25 : decode cX9_insert 25 = .ok (.goto 163, 3) := by decide +kernel
theorem dX9_insert_28 : decode cX9_insert 28 = .ok (.aload_n 0, 1) := by decide +kernel
theorem dX9_insert_29 : decode cX9_insert 29 = .ok (.getfield 26, 3) := by decide +kernel
theorem dX9_insert_32 : decode cX9_insert 32 = .ok (.iload_n 3, 1) := by decide +kernel
theorem dX9_insert_33 : decode cX9_insert 33 = .ok (.iaload, 1) := by decide +kernel
theorem dX9_insert_34 : decode cX9_insert 34 = .ok (.iload 4, 2) := by decide +kernel
theorem dX9_insert_36 : decode cX9_insert 36 = .ok (.aload_n 0, 1) := by decide +kernel
theorem dX9_insert_37 : decode cX9_insert 37 = .ok (.getfield 19, 3) := by decide +kernel
theorem dX9_insert_40 : decode cX9_insert 40 = .ok (.iload_n 3, 1) := by decide +kernel
theorem dX9_insert_41 : decode cX9_insert 41 = .ok (.iaload, 1) := by decide +kernel
theorem dX9_insert_42 : decode cX9_insert 42 = .ok (.imul, 1) := by decide +kernel
theorem dX9_insert_43 : decode cX9_insert 43 = .ok (.iadd, 1) := by decide +kernel
theorem dX9_insert_44 : decode cX9_insert 44 = .ok (.istore 5, 2) := by decide +kernel
theorem dX9_insert_46 : decode cX9_insert 46 = .ok (.aload_n 2, 1) := by decide +kernel
theorem dX9_insert_47 : decode cX9_insert 47 = .ok (.aload_n 0, 1) := by decide +kernel
theorem dX9_insert_48 : decode cX9_insert 48 = .ok (.getfield 23, 3) := by decide +kernel
theorem dX9_insert_51 : decode cX9_insert 51 = .ok (.iload_n 3, 1) := by decide +kernel
theorem dX9_insert_52 : decode cX9_insert 52 = .ok (.iaload, 1) := by decide +kernel
theorem dX9_insert_53 : decode cX9_insert 53 = .ok (.iload 4, 2) := by decide +kernel
theorem dX9_insert_55 : decode cX9_insert 55 = .ok (.iadd, 1) := by decide +kernel
theorem dX9_insert_56 : decode cX9_insert 56 = .ok (.baload, 1) := by decide +kernel
theorem dX9_insert_57 : decode cX9_insert 57 = .ok (.ifCond .ne 71, 3) := by decide +kernel
theorem dX9_insert_60 : decode cX9_insert 60 = .ok (.aload_n 0, 1) := by decide +kernel
theorem dX9_insert_61 : decode cX9_insert 61 = .ok (.aload_n 0, 1) := by decide +kernel
theorem dX9_insert_62 : decode cX9_insert 62 = .ok (.getfield 55, 3) := by decide +kernel
theorem dX9_insert_65 : decode cX9_insert 65 = .ok (.iload 4, 2) := by decide +kernel
theorem dX9_insert_67 : decode cX9_insert 67 = .ok (.iaload, 1) := by decide +kernel
theorem dX9_insert_68 : decode cX9_insert 68 = .ok (.invokevirtual 134, 3) := by decide +kernel
theorem dX9_insert_71 : decode cX9_insert 71 = .ok (.istore 6, 2) := by decide +kernel
theorem dX9_insert_73 : decode cX9_insert 73 = .ok (.iconst 0, 1) := by decide +kernel
theorem dX9_insert_74 : decode cX9_insert 74 = .ok (.istore 7, 2) := by decide +kernel
theorem dX9_insert_76 : decode cX9_insert 76 = .ok (.iload 7, 2) := by decide +kernel
theorem dX9_insert_78 : decode cX9_insert 78 = .ok (.aload_n 0, 1) := by decide +kernel
theorem dX9_insert_79 : decode cX9_insert 79 = .ok (.getfield 19, 3) := by decide +kernel
theorem dX9_insert_82 : decode cX9_insert 82 = .ok (.iload_n 3, 1) := by decide +kernel
theorem dX9_insert_83 : decode cX9_insert 83 = .ok (.iaload, 1) := by decide +kernel
theorem dX9_insert_84 : decode cX9_insert 84 = .ok (.if_icmp .ge 31, 3) := by decide +kernel
theorem dX9_insert_87 : decode cX9_insert 87 = .ok (.aload_n 1, 1) := by decide +kernel
theorem dX9_insert_88 : decode cX9_insert 88 = .ok (.iload 5, 2) := by decide +kernel
theorem dX9_insert_90 : decode cX9_insert 90 = .ok (.iload 7, 2) := by decide +kernel
theorem dX9_insert_92 : decode cX9_insert 92 = .ok (.iadd, 1) := by decide +kernel
theorem dX9_insert_93 : decode cX9_insert 93 = .ok (.aload_n 0, 1) := by decide +kernel
theorem dX9_insert_94 : decode cX9_insert 94 = .ok (.getfield 55, 3) := by decide +kernel
theorem dX9_insert_97 : decode cX9_insert 97 = .ok (.iload 7, 2) := by decide +kernel
theorem dX9_insert_99 : decode cX9_insert 99 = .ok (.iaload, 1) := by decide +kernel
theorem dX9_insert_100 : decode cX9_insert 100 = .ok (.iload 6, 2) := by decide +kernel
theorem dX9_insert_102 : decode cX9_insert 102 = .ok (.imul, 1) := by decide +kernel
theorem dX9_insert_103 : decode cX9_insert 103 = .ok (.aload_n 0, 1) := by decide +kernel
theorem dX9_insert_104 : decode cX9_insert 104 = .ok (.getfield 13, 3) := by decide +kernel
theorem dX9_insert_107 : decode cX9_insert 107 = .ok (.irem, 1) := by decide +kernel
theorem dX9_insert_108 : decode cX9_insert 108 = .ok (.iastore, 1) := by decide +kernel
theorem dX9_insert_109 : decode cX9_insert 109 = .ok (.iinc 7 1, 3) := by decide +kernel
theorem dX9_insert_112 : decode cX9_insert 112 = .ok (.goto (-36), 3) := by decide +kernel
theorem dX9_insert_115 : decode cX9_insert 115 = .ok (.aload_n 2, 1) := by decide +kernel
theorem dX9_insert_116 : decode cX9_insert 116 = .ok (.aload_n 0, 1) := by decide +kernel
theorem dX9_insert_117 : decode cX9_insert 117 = .ok (.getfield 23, 3) := by decide +kernel
theorem dX9_insert_120 : decode cX9_insert 120 = .ok (.iload_n 3, 1) := by decide +kernel
theorem dX9_insert_121 : decode cX9_insert 121 = .ok (.iaload, 1) := by decide +kernel
theorem dX9_insert_122 : decode cX9_insert 122 = .ok (.iload 4, 2) := by decide +kernel
theorem dX9_insert_124 : decode cX9_insert 124 = .ok (.iadd, 1) := by decide +kernel
theorem dX9_insert_125 : decode cX9_insert 125 = .ok (.iconst 1, 1) := by decide +kernel
theorem dX9_insert_126 : decode cX9_insert 126 = .ok (.bastore, 1) := by decide +kernel
theorem dX9_insert_127 : decode cX9_insert 127 = .ok (.return_, 1) := by decide +kernel
theorem dX9_insert_128 : decode cX9_insert 128 = .ok (.aload_n 0, 1) := by decide +kernel
theorem dX9_insert_129 : decode cX9_insert 129 = .ok (.getfield 55, 3) := by decide +kernel
theorem dX9_insert_132 : decode cX9_insert 132 = .ok (.iload 4, 2) := by decide +kernel
theorem dX9_insert_134 : decode cX9_insert 134 = .ok (.iaload, 1) := by decide +kernel
theorem dX9_insert_135 : decode cX9_insert 135 = .ok (.istore 6, 2) := by decide +kernel
theorem dX9_insert_137 : decode cX9_insert 137 = .ok (.iconst 0, 1) := by decide +kernel
theorem dX9_insert_138 : decode cX9_insert 138 = .ok (.istore 7, 2) := by decide +kernel
theorem dX9_insert_140 : decode cX9_insert 140 = .ok (.iload 7, 2) := by decide +kernel
theorem dX9_insert_142 : decode cX9_insert 142 = .ok (.iload 4, 2) := by decide +kernel
theorem dX9_insert_144 : decode cX9_insert 144 = .ok (.if_icmp .gt 44, 3) := by decide +kernel
theorem dX9_insert_147 : decode cX9_insert 147 = .ok (.aload_n 0, 1) := by decide +kernel
theorem dX9_insert_148 : decode cX9_insert 148 = .ok (.getfield 55, 3) := by decide +kernel
theorem dX9_insert_151 : decode cX9_insert 151 = .ok (.iload 7, 2) := by decide +kernel
theorem dX9_insert_153 : decode cX9_insert 153 = .ok (.aload_n 0, 1) := by decide +kernel
theorem dX9_insert_154 : decode cX9_insert 154 = .ok (.getfield 55, 3) := by decide +kernel
theorem dX9_insert_157 : decode cX9_insert 157 = .ok (.iload 7, 2) := by decide +kernel
theorem dX9_insert_159 : decode cX9_insert 159 = .ok (.iaload, 1) := by decide +kernel
theorem dX9_insert_160 : decode cX9_insert 160 = .ok (.aload_n 0, 1) := by decide +kernel
theorem dX9_insert_161 : decode cX9_insert 161 = .ok (.getfield 13, 3) := by decide +kernel
theorem dX9_insert_164 : decode cX9_insert 164 = .ok (.iload 6, 2) := by decide +kernel
theorem dX9_insert_166 : decode cX9_insert 166 = .ok (.isub, 1) := by decide +kernel
theorem dX9_insert_167 : decode cX9_insert 167 = .ok (.aload_n 1, 1) := by decide +kernel
theorem dX9_insert_168 : decode cX9_insert 168 = .ok (.iload 5, 2) := by decide +kernel
theorem dX9_insert_170 : decode cX9_insert 170 = .ok (.iload 7, 2) := by decide +kernel
theorem dX9_insert_172 : decode cX9_insert 172 = .ok (.iadd, 1) := by decide +kernel
theorem dX9_insert_173 : decode cX9_insert 173 = .ok (.iaload, 1) := by decide +kernel
theorem dX9_insert_174 : decode cX9_insert 174 = .ok (.imul, 1) := by decide +kernel
theorem dX9_insert_175 : decode cX9_insert 175 = .ok (.iadd, 1) := by decide +kernel
theorem dX9_insert_176 : decode cX9_insert 176 = .ok (.aload_n 0, 1) := by decide +kernel
theorem dX9_insert_177 : decode cX9_insert 177 = .ok (.getfield 13, 3) := by decide +kernel
theorem dX9_insert_180 : decode cX9_insert 180 = .ok (.irem, 1) := by decide +kernel
theorem dX9_insert_181 : decode cX9_insert 181 = .ok (.iastore, 1) := by decide +kernel
theorem dX9_insert_182 : decode cX9_insert 182 = .ok (.iinc 7 1, 3) := by decide +kernel
theorem dX9_insert_185 : decode cX9_insert 185 = .ok (.goto (-45), 3) := by decide +kernel
theorem dX9_insert_188 : decode cX9_insert 188 = .ok (.iinc 4 (-1), 3) := by decide +kernel
theorem dX9_insert_191 : decode cX9_insert 191 = .ok (.goto (-181), 3) := by decide +kernel
theorem dX9_insert_194 : decode cX9_insert 194 = .ok (.return_, 1) := by decide +kernel
theorem dX9_inverse_0 : decode cX9_inverse 0 = .ok (.iconst 1, 1) := by decide +kernel
theorem dX9_inverse_1 : decode cX9_inverse 1 = .ok (.istore_n 2, 1) := by decide +kernel
theorem dX9_inverse_2 : decode cX9_inverse 2 = .ok (.iload_n 1, 1) := by decide +kernel
theorem dX9_inverse_3 : decode cX9_inverse 3 = .ok (.iload_n 2, 1) := by decide +kernel
theorem dX9_inverse_4 : decode cX9_inverse 4 = .ok (.imul, 1) := by decide +kernel
theorem dX9_inverse_5 : decode cX9_inverse 5 = .ok (.aload_n 0, 1) := by decide +kernel
theorem dX9_inverse_6 : decode cX9_inverse 6 = .ok (.getfield 13, 3) := by decide +kernel
theorem dX9_inverse_9 : decode cX9_inverse 9 = .ok (.irem, 1) := by decide +kernel
theorem dX9_inverse_10 : decode cX9_inverse 10 = .ok (.iconst 1, 1) := by decide +kernel
theorem dX9_inverse_11 : decode cX9_inverse 11 = .ok (.if_icmp .eq 9, 3) := by decide +kernel
theorem dX9_inverse_14 : decode cX9_inverse 14 = .ok (.iinc 2 1, 3) := by decide +kernel
theorem dX9_inverse_17 : decode cX9_inverse 17 = .ok (.goto (-15), 3) := by decide +kernel
theorem dX9_inverse_20 : decode cX9_inverse 20 = .ok (.iload_n 2, 1) := by decide +kernel
theorem dX9_inverse_21 : decode cX9_inverse 21 = .ok (.ireturn, 1) := by decide +kernel
theorem dX9_isLeast_0 : decode cX9_isLeast 0 = .ok (.aload_n 0, 1) := by decide +kernel
theorem dX9_isLeast_1 : decode cX9_isLeast 1 = .ok (.getfield 45, 3) := by decide +kernel
theorem dX9_isLeast_4 : decode cX9_isLeast 4 = .ok (.aload_n 0, 1) := by decide +kernel
theorem dX9_isLeast_5 : decode cX9_isLeast 5 = .ok (.getfield 23, 3) := by decide +kernel
theorem dX9_isLeast_8 : decode cX9_isLeast 8 = .ok (.iload_n 1, 1) := by decide +kernel
theorem dX9_isLeast_9 : decode cX9_isLeast 9 = .ok (.iconst 1, 1) := by decide +kernel
theorem dX9_isLeast_10 : decode cX9_isLeast 10 = .ok (.isub, 1) := by decide +kernel
theorem dX9_isLeast_11 : decode cX9_isLeast 11 = .ok (.iaload, 1) := by decide +kernel
theorem dX9_isLeast_12 : decode cX9_isLeast 12 = .ok (.iload_n 2, 1) := by decide +kernel
theorem dX9_isLeast_13 : decode cX9_isLeast 13 = .ok (.aload_n 0, 1) := by decide +kernel
theorem dX9_isLeast_14 : decode cX9_isLeast 14 = .ok (.getfield 19, 3) := by decide +kernel
theorem dX9_isLeast_17 : decode cX9_isLeast 17 = .ok (.iload_n 1, 1) := by decide +kernel
theorem dX9_isLeast_18 : decode cX9_isLeast 18 = .ok (.iconst 1, 1) := by decide +kernel
theorem dX9_isLeast_19 : decode cX9_isLeast 19 = .ok (.isub, 1) := by decide +kernel
theorem dX9_isLeast_20 : decode cX9_isLeast 20 = .ok (.iaload, 1) := by decide +kernel
theorem dX9_isLeast_21 : decode cX9_isLeast 21 = .ok (.irem, 1) := by decide +kernel
theorem dX9_isLeast_22 : decode cX9_isLeast 22 = .ok (.iadd, 1) := by decide +kernel
theorem dX9_isLeast_23 : decode cX9_isLeast 23 = .ok (.baload, 1) := by decide +kernel
theorem dX9_isLeast_24 : decode cX9_isLeast 24 = .ok (.ifCond .ne 26, 3) := by decide +kernel
theorem dX9_isLeast_27 : decode cX9_isLeast 27 = .ok (.aload_n 0, 1) := by decide +kernel
theorem dX9_isLeast_28 : decode cX9_isLeast 28 = .ok (.getfield 45, 3) := by decide +kernel
theorem dX9_isLeast_31 : decode cX9_isLeast 31 = .ok (.aload_n 0, 1) := by decide +kernel
theorem dX9_isLeast_32 : decode cX9_isLeast 32 = .ok (.getfield 23, 3) := by decide +kernel
theorem dX9_isLeast_35 : decode cX9_isLeast 35 = .ok (.iload_n 1, 1) := by decide +kernel
theorem dX9_isLeast_36 : decode cX9_isLeast 36 = .ok (.iconst 1, 1) := by decide +kernel
theorem dX9_isLeast_37 : decode cX9_isLeast 37 = .ok (.isub, 1) := by decide +kernel
theorem dX9_isLeast_38 : decode cX9_isLeast 38 = .ok (.iaload, 1) := by decide +kernel
theorem dX9_isLeast_39 : decode cX9_isLeast 39 = .ok (.iload_n 2, 1) := by decide +kernel
theorem dX9_isLeast_40 : decode cX9_isLeast 40 = .ok (.aload_n 0, 1) := by decide +kernel
theorem dX9_isLeast_41 : decode cX9_isLeast 41 = .ok (.getfield 7, 3) := by decide +kernel
theorem dX9_isLeast_44 : decode cX9_isLeast 44 = .ok (.idiv, 1) := by decide +kernel
theorem dX9_isLeast_45 : decode cX9_isLeast 45 = .ok (.iadd, 1) := by decide +kernel
theorem dX9_isLeast_46 : decode cX9_isLeast 46 = .ok (.baload, 1) := by decide +kernel
theorem dX9_isLeast_47 : decode cX9_isLeast 47 = .ok (.ifCond .eq 7, 3) := by decide +kernel
theorem dX9_isLeast_50 : decode cX9_isLeast 50 = .ok (.iconst 1, 1) := by decide +kernel
theorem dX9_isLeast_51 : decode cX9_isLeast 51 = .ok (.goto 4, 3) := by decide +kernel
theorem dX9_isLeast_54 : decode cX9_isLeast 54 = .ok (.iconst 0, 1) := by decide +kernel
theorem dX9_isLeast_55 : decode cX9_isLeast 55 = .ok (.istore_n 3, 1) := by decide +kernel
theorem dX9_isLeast_56 : decode cX9_isLeast 56 = .ok (.aload_n 0, 1) := by decide +kernel
theorem dX9_isLeast_57 : decode cX9_isLeast 57 = .ok (.getfield 45, 3) := by decide +kernel
theorem dX9_isLeast_60 : decode cX9_isLeast 60 = .ok (.aload_n 0, 1) := by decide +kernel
theorem dX9_isLeast_61 : decode cX9_isLeast 61 = .ok (.getfield 23, 3) := by decide +kernel
theorem dX9_isLeast_64 : decode cX9_isLeast 64 = .ok (.iload_n 1, 1) := by decide +kernel
theorem dX9_isLeast_65 : decode cX9_isLeast 65 = .ok (.iaload, 1) := by decide +kernel
theorem dX9_isLeast_66 : decode cX9_isLeast 66 = .ok (.iload_n 2, 1) := by decide +kernel
theorem dX9_isLeast_67 : decode cX9_isLeast 67 = .ok (.iadd, 1) := by decide +kernel
theorem dX9_isLeast_68 : decode cX9_isLeast 68 = .ok (.baload, 1) := by decide +kernel
theorem dX9_isLeast_69 : decode cX9_isLeast 69 = .ok (.ifCond .eq 11, 3) := by decide +kernel
theorem dX9_isLeast_72 : decode cX9_isLeast 72 = .ok (.iload_n 3, 1) := by decide +kernel
theorem dX9_isLeast_73 : decode cX9_isLeast 73 = .ok (.ifCond .ne 7, 3) := by decide +kernel
theorem dX9_isLeast_76 : decode cX9_isLeast 76 = .ok (.iconst 1, 1) := by decide +kernel
theorem dX9_isLeast_77 : decode cX9_isLeast 77 = .ok (.goto 4, 3) := by decide +kernel
theorem dX9_isLeast_80 : decode cX9_isLeast 80 = .ok (.iconst 0, 1) := by decide +kernel
theorem dX9_isLeast_81 : decode cX9_isLeast 81 = .ok (.ireturn, 1) := by decide +kernel
theorem dX9_isLength_0 : decode cX9_isLength 0 = .ok (.iload_n 1, 1) := by decide +kernel
theorem dX9_isLength_1 : decode cX9_isLength 1 = .ok (.i2l, 1) := by decide +kernel
theorem dX9_isLength_2 : decode cX9_isLength 2 = .ok (.lconst 0, 1) := by decide +kernel
theorem dX9_isLength_3 : decode cX9_isLength 3 = .ok (.aload_n 0, 1) := by decide +kernel
theorem dX9_isLength_4 : decode cX9_isLength 4 = .ok (.getfield 16, 3) := by decide +kernel
theorem dX9_isLength_7 : decode cX9_isLength 7 = .ok (.i2l, 1) := by decide +kernel
theorem dX9_isLength_8 : decode cX9_isLength 8 = .ok (.invokestatic 90, 3) := by decide +kernel
theorem dX9_isLength_11 : decode cX9_isLength 11 = .ok (.ireturn, 1) := by decide +kernel
theorem dX9_isSheet_0 : decode cX9_isSheet 0 = .ok (.iload_n 0, 1) := by decide +kernel
theorem dX9_isSheet_1 : decode cX9_isSheet 1 = .ok (.i2l, 1) := by decide +kernel
theorem dX9_isSheet_2 : decode cX9_isSheet 2 = .ok (.lconst 0, 1) := by decide +kernel
theorem dX9_isSheet_3 : decode cX9_isSheet 3 = .ok (.ldc2_w 94, 3) := by decide +kernel
theorem dX9_isSheet_6 : decode cX9_isSheet 6 = .ok (.invokestatic 90, 3) := by decide +kernel
theorem dX9_isSheet_9 : decode cX9_isSheet 9 = .ok (.ifCond .eq 19, 3) := by decide +kernel
theorem dX9_isSheet_12 : decode cX9_isSheet 12 = .ok (.iload_n 1, 1) := by decide +kernel
theorem dX9_isSheet_13 : decode cX9_isSheet 13 = .ok (.i2l, 1) := by decide +kernel
theorem dX9_isSheet_14 : decode cX9_isSheet 14 = .ok (.lconst 0, 1) := by decide +kernel
theorem dX9_isSheet_15 : decode cX9_isSheet 15 = .ok (.ldc2_w 86, 3) := by decide +kernel
theorem dX9_isSheet_18 : decode cX9_isSheet 18 = .ok (.invokestatic 90, 3) := by decide +kernel
theorem dX9_isSheet_21 : decode cX9_isSheet 21 = .ok (.ifCond .eq 7, 3) := by decide +kernel
theorem dX9_isSheet_24 : decode cX9_isSheet 24 = .ok (.iconst 1, 1) := by decide +kernel
theorem dX9_isSheet_25 : decode cX9_isSheet 25 = .ok (.goto 4, 3) := by decide +kernel
theorem dX9_isSheet_28 : decode cX9_isSheet 28 = .ok (.iconst 0, 1) := by decide +kernel
theorem dX9_isSheet_29 : decode cX9_isSheet 29 = .ok (.ireturn, 1) := by decide +kernel
theorem dX9_isWord_0 : decode cX9_isWord 0 = .ok (.aload_n 0, 1) := by decide +kernel
theorem dX9_isWord_1 : decode cX9_isWord 1 = .ok (.iload_n 1, 1) := by decide +kernel
theorem dX9_isWord_2 : decode cX9_isWord 2 = .ok (.invokevirtual 156, 3) := by decide +kernel
theorem dX9_isWord_5 : decode cX9_isWord 5 = .ok (.ifCond .eq 25, 3) := by decide +kernel
theorem dX9_isWord_8 : decode cX9_isWord 8 = .ok (.iload_n 2, 1) := by decide +kernel
theorem dX9_isWord_9 : decode cX9_isWord 9 = .ok (.i2l, 1) := by decide +kernel
theorem dX9_isWord_10 : decode cX9_isWord 10 = .ok (.lconst 0, 1) := by decide +kernel
theorem dX9_isWord_11 : decode cX9_isWord 11 = .ok (.aload_n 0, 1) := by decide +kernel
theorem dX9_isWord_12 : decode cX9_isWord 12 = .ok (.getfield 19, 3) := by decide +kernel
theorem dX9_isWord_15 : decode cX9_isWord 15 = .ok (.iload_n 1, 1) := by decide +kernel
theorem dX9_isWord_16 : decode cX9_isWord 16 = .ok (.iaload, 1) := by decide +kernel
theorem dX9_isWord_17 : decode cX9_isWord 17 = .ok (.iconst 1, 1) := by decide +kernel
theorem dX9_isWord_18 : decode cX9_isWord 18 = .ok (.isub, 1) := by decide +kernel
theorem dX9_isWord_19 : decode cX9_isWord 19 = .ok (.i2l, 1) := by decide +kernel
theorem dX9_isWord_20 : decode cX9_isWord 20 = .ok (.invokestatic 90, 3) := by decide +kernel
theorem dX9_isWord_23 : decode cX9_isWord 23 = .ok (.ifCond .eq 7, 3) := by decide +kernel
theorem dX9_isWord_26 : decode cX9_isWord 26 = .ok (.iconst 1, 1) := by decide +kernel
theorem dX9_isWord_27 : decode cX9_isWord 27 = .ok (.goto 4, 3) := by decide +kernel
theorem dX9_isWord_30 : decode cX9_isWord 30 = .ok (.iconst 0, 1) := by decide +kernel
theorem dX9_isWord_31 : decode cX9_isWord 31 = .ok (.ireturn, 1) := by decide +kernel
theorem dX9_item_0 : decode cX9_item 0 = .ok (.iload_n 1, 1) := by decide +kernel
theorem dX9_item_1 : decode cX9_item 1 = .ok (.iload_n 2, 1) := by decide +kernel
theorem dX9_item_2 : decode cX9_item 2 = .ok (.invokestatic 196, 3) := by decide +kernel
theorem dX9_item_5 : decode cX9_item 5 = .ok (.ifCond .ne 5, 3) := by decide +kernel
theorem dX9_item_8 : decode cX9_item 8 = .ok (.iconst (-1), 1) := by decide +kernel
theorem dX9_item_9 : decode cX9_item 9 = .ok (.ireturn, 1) := by decide +kernel
theorem dX9_item_10 : decode cX9_item 10 = .ok (.aload_n 0, 1) := by decide +kernel
theorem dX9_item_11 : decode cX9_item 11 = .ok (.getfield 67, 3) := by decide +kernel
theorem dX9_item_14 : decode cX9_item 14 = .ok (.iload_n 1, 1) := by decide +kernel
theorem dX9_item_15 : decode cX9_item 15 = .ok (.iaload, 1) := by decide +kernel
theorem dX9_item_16 : decode cX9_item 16 = .ok (.iload_n 2, 1) := by decide +kernel
theorem dX9_item_17 : decode cX9_item 17 = .ok (.if_icmp .eq 20, 3) := by decide +kernel
theorem dX9_item_20 : decode cX9_item 20 = .ok (.aload_n 0, 1) := by decide +kernel
theorem dX9_item_21 : decode cX9_item 21 = .ok (.getfield 67, 3) := by decide +kernel
theorem dX9_item_24 : decode cX9_item 24 = .ok (.iload_n 1, 1) := by decide +kernel
theorem dX9_item_25 : decode cX9_item 25 = .ok (.iaload, 1) := by decide +kernel
theorem dX9_item_26 : decode cX9_item 26 = .ok (.ifCond .ge 8, 3) := by decide +kernel
theorem dX9_item_29 : decode cX9_item 29 = .ok (.bipush (-11), 2) := by decide +kernel
theorem dX9_item_31 : decode cX9_item 31 = .ok (.goto 5, 3) := by decide +kernel
theorem dX9_item_34 : decode cX9_item 34 = .ok (.bipush (-12), 2) := by decide +kernel
theorem dX9_item_36 : decode cX9_item 36 = .ok (.ireturn, 1) := by decide +kernel
theorem dX9_item_37 : decode cX9_item 37 = .ok (.iload_n 3, 1) := by decide +kernel
theorem dX9_item_38 : decode cX9_item 38 = .ok (.i2l, 1) := by decide +kernel
theorem dX9_item_39 : decode cX9_item 39 = .ok (.lconst 0, 1) := by decide +kernel
theorem dX9_item_40 : decode cX9_item 40 = .ok (.aload_n 0, 1) := by decide +kernel
theorem dX9_item_41 : decode cX9_item 41 = .ok (.getfield 70, 3) := by decide +kernel
theorem dX9_item_44 : decode cX9_item 44 = .ok (.iload_n 1, 1) := by decide +kernel
theorem dX9_item_45 : decode cX9_item 45 = .ok (.iaload, 1) := by decide +kernel
theorem dX9_item_46 : decode cX9_item 46 = .ok (.iconst 1, 1) := by decide +kernel
theorem dX9_item_47 : decode cX9_item 47 = .ok (.isub, 1) := by decide +kernel
theorem dX9_item_48 : decode cX9_item 48 = .ok (.i2l, 1) := by decide +kernel
theorem dX9_item_49 : decode cX9_item 49 = .ok (.invokestatic 90, 3) := by decide +kernel
theorem dX9_item_52 : decode cX9_item 52 = .ok (.ifCond .ne 6, 3) := by decide +kernel
theorem dX9_item_55 : decode cX9_item 55 = .ok (.bipush (-13), 2) := by decide +kernel
theorem dX9_item_57 : decode cX9_item 57 = .ok (.ireturn, 1) := by decide +kernel
theorem dX9_item_58 : decode cX9_item 58 = .ok (.aload_n 0, 1) := by decide +kernel
theorem dX9_item_59 : decode cX9_item 59 = .ok (.getfield 73, 3) := by decide +kernel
theorem dX9_item_62 : decode cX9_item 62 = .ok (.bipush 90, 2) := by decide +kernel
theorem dX9_item_64 : decode cX9_item 64 = .ok (.iload_n 1, 1) := by decide +kernel
theorem dX9_item_65 : decode cX9_item 65 = .ok (.imul, 1) := by decide +kernel
theorem dX9_item_66 : decode cX9_item 66 = .ok (.iload_n 3, 1) := by decide +kernel
theorem dX9_item_67 : decode cX9_item 67 = .ok (.iadd, 1) := by decide +kernel
theorem dX9_item_68 : decode cX9_item 68 = .ok (.iload_n 2, 1) := by decide +kernel
theorem dX9_item_69 : decode cX9_item 69 = .ok (.ifCond .ne 14, 3) := by decide +kernel
theorem dX9_item_72 : decode cX9_item 72 = .ok (.iload 4, 2) := by decide +kernel
theorem dX9_item_74 : decode cX9_item 74 = .ok (.bipush 24, 2) := by decide +kernel
theorem dX9_item_76 : decode cX9_item 76 = .ok (.ishl, 1) := by decide +kernel
theorem dX9_item_77 : decode cX9_item 77 = .ok (.bipush 24, 2) := by decide +kernel
theorem dX9_item_79 : decode cX9_item 79 = .ok (.ishr, 1) := by decide +kernel
theorem dX9_item_80 : decode cX9_item 80 = .ok (.goto 5, 3) := by decide +kernel
theorem dX9_item_83 : decode cX9_item 83 = .ok (.iload 4, 2) := by decide +kernel
theorem dX9_item_85 : decode cX9_item 85 = .ok (.iastore, 1) := by decide +kernel
theorem dX9_item_86 : decode cX9_item 86 = .ok (.iconst 1, 1) := by decide +kernel
theorem dX9_item_87 : decode cX9_item 87 = .ok (.ireturn, 1) := by decide +kernel
theorem dX9_law_0 : decode cX9_law 0 = .ok (.aload_n 0, 1) := by decide +kernel
theorem dX9_law_1 : decode cX9_law 1 = .ok (.invokevirtual 122, 3) := by decide +kernel
theorem dX9_law_4 : decode cX9_law 4 = .ok (.istore_n 1, 1) := by decide +kernel
theorem dX9_law_5 : decode cX9_law 5 = .ok (.aload_n 0, 1) := by decide +kernel
theorem dX9_law_6 : decode cX9_law 6 = .ok (.iconst 0, 1) := by decide +kernel
theorem dX9_law_7 : decode cX9_law 7 = .ok (.putfield 104, 3) := by decide +kernel
theorem dX9_law_10 : decode cX9_law 10 = .ok (.iload_n 1, 1) := by decide +kernel
theorem dX9_law_11 : decode cX9_law 11 = .ok (.ifCond .ne 11, 3) := by decide +kernel
theorem dX9_law_14 : decode cX9_law 14 = .ok (.bipush (-20), 2) := by decide +kernel
theorem dX9_law_16 : decode cX9_law 16 = .ok (.aload_n 0, 1) := by decide +kernel
theorem dX9_law_17 : decode cX9_law 17 = .ok (.getfield 107, 3) := by decide +kernel
theorem dX9_law_20 : decode cX9_law 20 = .ok (.isub, 1) := by decide +kernel
theorem dX9_law_21 : decode cX9_law 21 = .ok (.ireturn, 1) := by decide +kernel
theorem dX9_law_22 : decode cX9_law 22 = .ok (.iconst (-1), 1) := by decide +kernel
theorem dX9_law_23 : decode cX9_law 23 = .ok (.istore_n 2, 1) := by decide +kernel
theorem dX9_law_24 : decode cX9_law 24 = .ok (.iconst 1, 1) := by decide +kernel
theorem dX9_law_25 : decode cX9_law 25 = .ok (.istore_n 3, 1) := by decide +kernel
theorem dX9_law_26 : decode cX9_law 26 = .ok (.iconst 0, 1) := by decide +kernel
theorem dX9_law_27 : decode cX9_law 27 = .ok (.istore 4, 2) := by decide +kernel
theorem dX9_law_29 : decode cX9_law 29 = .ok (.iload 4, 2) := by decide +kernel
theorem dX9_law_31 : decode cX9_law 31 = .ok (.aload_n 0, 1) := by decide +kernel
theorem dX9_law_32 : decode cX9_law 32 = .ok (.getfield 16, 3) := by decide +kernel
theorem dX9_law_35 : decode cX9_law 35 = .ok (.if_icmp .gt 71, 3) := by decide +kernel
theorem dX9_law_38 : decode cX9_law 38 = .ok (.iconst 0, 1) := by decide +kernel
theorem dX9_law_39 : decode cX9_law 39 = .ok (.istore 5, 2) := by decide +kernel
theorem dX9_law_41 : decode cX9_law 41 = .ok (.iload 5, 2) := by decide +kernel
theorem dX9_law_43 : decode cX9_law 43 = .ok (.aload_n 0, 1) := by decide +kernel
theorem dX9_law_44 : decode cX9_law 44 = .ok (.getfield 19, 3) := by decide +kernel
theorem dX9_law_47 : decode cX9_law 47 = .ok (.iload 4, 2) := by decide +kernel
theorem dX9_law_49 : decode cX9_law 49 = .ok (.iaload, 1) := by decide +kernel
theorem dX9_law_50 : decode cX9_law 50 = .ok (.if_icmp .ge 50, 3) := by decide +kernel
theorem dX9_law_53 : decode cX9_law 53 = .ok (.aload_n 0, 1) := by decide +kernel
theorem dX9_law_54 : decode cX9_law 54 = .ok (.getfield 35, 3) := by decide +kernel
theorem dX9_law_57 : decode cX9_law 57 = .ok (.aload_n 0, 1) := by decide +kernel
theorem dX9_law_58 : decode cX9_law 58 = .ok (.getfield 23, 3) := by decide +kernel
theorem dX9_law_61 : decode cX9_law 61 = .ok (.iload 4, 2) := by decide +kernel
theorem dX9_law_63 : decode cX9_law 63 = .ok (.iaload, 1) := by decide +kernel
theorem dX9_law_64 : decode cX9_law 64 = .ok (.iload 5, 2) := by decide +kernel
theorem dX9_law_66 : decode cX9_law 66 = .ok (.iadd, 1) := by decide +kernel
theorem dX9_law_67 : decode cX9_law 67 = .ok (.iaload, 1) := by decide +kernel
theorem dX9_law_68 : decode cX9_law 68 = .ok (.ifCond .eq 26, 3) := by decide +kernel
theorem dX9_law_71 : decode cX9_law 71 = .ok (.iload_n 3, 1) := by decide +kernel
theorem dX9_law_72 : decode cX9_law 72 = .ok (.ifCond .eq 17, 3) := by decide +kernel
theorem dX9_law_75 : decode cX9_law 75 = .ok (.iload_n 2, 1) := by decide +kernel
theorem dX9_law_76 : decode cX9_law 76 = .ok (.ifCond .lt 9, 3) := by decide +kernel
theorem dX9_law_79 : decode cX9_law 79 = .ok (.iload_n 2, 1) := by decide +kernel
theorem dX9_law_80 : decode cX9_law 80 = .ok (.iload 4, 2) := by decide +kernel
theorem dX9_law_82 : decode cX9_law 82 = .ok (.if_icmp .ne 7, 3) := by decide +kernel
theorem dX9_law_85 : decode cX9_law 85 = .ok (.iconst 1, 1) := by decide +kernel
theorem dX9_law_86 : decode cX9_law 86 = .ok (.goto 4, 3) := by decide +kernel
theorem dX9_law_89 : decode cX9_law 89 = .ok (.iconst 0, 1) := by decide +kernel
theorem dX9_law_90 : decode cX9_law 90 = .ok (.istore_n 3, 1) := by decide +kernel
theorem dX9_law_91 : decode cX9_law 91 = .ok (.iload 4, 2) := by decide +kernel
theorem dX9_law_93 : decode cX9_law 93 = .ok (.istore_n 2, 1) := by decide +kernel
theorem dX9_law_94 : decode cX9_law 94 = .ok (.iinc 5 1, 3) := by decide +kernel
theorem dX9_law_97 : decode cX9_law 97 = .ok (.goto (-56), 3) := by decide +kernel
theorem dX9_law_100 : decode cX9_law 100 = .ok (.iinc 4 1, 3) := by decide +kernel
theorem dX9_law_103 : decode cX9_law 103 = .ok (.goto (-74), 3) := by decide +kernel
theorem dX9_law_106 : decode cX9_law 106 = .ok (.iload_n 3, 1) := by decide +kernel
theorem dX9_law_107 : decode cX9_law 107 = .ok (.ifCond .eq 25, 3) := by decide +kernel
theorem dX9_law_110 : decode cX9_law 110 = .ok (.iload_n 2, 1) := by decide +kernel
theorem dX9_law_111 : decode cX9_law 111 = .ok (.i2l, 1) := by decide +kernel
theorem dX9_law_112 : decode cX9_law 112 = .ok (.ldc2_w 86, 3) := by decide +kernel
theorem dX9_law_115 : decode cX9_law 115 = .ok (.ldc2_w 126, 3) := by decide +kernel
theorem dX9_law_118 : decode cX9_law 118 = .ok (.invokestatic 90, 3) := by decide +kernel
theorem dX9_law_121 : decode cX9_law 121 = .ok (.ifCond .eq 11, 3) := by decide +kernel
theorem dX9_law_124 : decode cX9_law 124 = .ok (.aload_n 0, 1) := by decide +kernel
theorem dX9_law_125 : decode cX9_law 125 = .ok (.iload_n 2, 1) := by decide +kernel
theorem dX9_law_126 : decode cX9_law 126 = .ok (.invokevirtual 128, 3) := by decide +kernel
theorem dX9_law_129 : decode cX9_law 129 = .ok (.goto 5, 3) := by decide +kernel
theorem dX9_law_132 : decode cX9_law 132 = .ok (.bipush (-2), 2) := by decide +kernel
theorem dX9_law_134 : decode cX9_law 134 = .ok (.ireturn, 1) := by decide +kernel
theorem dX9_laws_0 : decode cX9_laws 0 = .ok (.iload_n 1, 1) := by decide +kernel
theorem dX9_laws_1 : decode cX9_laws 1 = .ok (.iload_n 2, 1) := by decide +kernel
theorem dX9_laws_2 : decode cX9_laws 2 = .ok (.invokestatic 196, 3) := by decide +kernel
theorem dX9_laws_5 : decode cX9_laws 5 = .ok (.ifCond .eq 18, 3) := by decide +kernel
theorem dX9_laws_8 : decode cX9_laws 8 = .ok (.iload 4, 2) := by decide +kernel
theorem dX9_laws_10 : decode cX9_laws 10 = .ok (.i2l, 1) := by decide +kernel
theorem dX9_laws_11 : decode cX9_laws 11 = .ok (.ldc2_w 86, 3) := by decide +kernel
theorem dX9_laws_14 : decode cX9_laws 14 = .ok (.ldc2_w 126, 3) := by decide +kernel
theorem dX9_laws_17 : decode cX9_laws 17 = .ok (.invokestatic 90, 3) := by decide +kernel
theorem dX9_laws_20 : decode cX9_laws 20 = .ok (.ifCond .ne 5, 3) := by decide +kernel
theorem dX9_laws_23 : decode cX9_laws 23 = .ok (.iconst (-1), 1) := by decide +kernel
theorem dX9_laws_24 : decode cX9_laws 24 = .ok (.ireturn, 1) := by decide +kernel
theorem dX9_laws_25 : decode cX9_laws 25 = .ok (.aload_n 0, 1) := by decide +kernel
theorem dX9_laws_26 : decode cX9_laws 26 = .ok (.getfield 67, 3) := by decide +kernel
theorem dX9_laws_29 : decode cX9_laws 29 = .ok (.iload_n 1, 1) := by decide +kernel
theorem dX9_laws_30 : decode cX9_laws 30 = .ok (.iaload, 1) := by decide +kernel
theorem dX9_laws_31 : decode cX9_laws 31 = .ok (.iload_n 2, 1) := by decide +kernel
theorem dX9_laws_32 : decode cX9_laws 32 = .ok (.if_icmp .eq 20, 3) := by decide +kernel
theorem dX9_laws_35 : decode cX9_laws 35 = .ok (.aload_n 0, 1) := by decide +kernel
theorem dX9_laws_36 : decode cX9_laws 36 = .ok (.getfield 67, 3) := by decide +kernel
theorem dX9_laws_39 : decode cX9_laws 39 = .ok (.iload_n 1, 1) := by decide +kernel
theorem dX9_laws_40 : decode cX9_laws 40 = .ok (.iaload, 1) := by decide +kernel
theorem dX9_laws_41 : decode cX9_laws 41 = .ok (.ifCond .ge 8, 3) := by decide +kernel
theorem dX9_laws_44 : decode cX9_laws 44 = .ok (.bipush (-11), 2) := by decide +kernel
theorem dX9_laws_46 : decode cX9_laws 46 = .ok (.goto 5, 3) := by decide +kernel
theorem dX9_laws_49 : decode cX9_laws 49 = .ok (.bipush (-12), 2) := by decide +kernel
theorem dX9_laws_51 : decode cX9_laws 51 = .ok (.ireturn, 1) := by decide +kernel
theorem dX9_laws_52 : decode cX9_laws 52 = .ok (.iload_n 3, 1) := by decide +kernel
theorem dX9_laws_53 : decode cX9_laws 53 = .ok (.i2l, 1) := by decide +kernel
theorem dX9_laws_54 : decode cX9_laws 54 = .ok (.lconst 0, 1) := by decide +kernel
theorem dX9_laws_55 : decode cX9_laws 55 = .ok (.aload_n 0, 1) := by decide +kernel
theorem dX9_laws_56 : decode cX9_laws 56 = .ok (.getfield 70, 3) := by decide +kernel
theorem dX9_laws_59 : decode cX9_laws 59 = .ok (.iload_n 1, 1) := by decide +kernel
theorem dX9_laws_60 : decode cX9_laws 60 = .ok (.iaload, 1) := by decide +kernel
theorem dX9_laws_61 : decode cX9_laws 61 = .ok (.aload_n 0, 1) := by decide +kernel
theorem dX9_laws_62 : decode cX9_laws 62 = .ok (.getfield 19, 3) := by decide +kernel
theorem dX9_laws_65 : decode cX9_laws 65 = .ok (.iload 4, 2) := by decide +kernel
theorem dX9_laws_67 : decode cX9_laws 67 = .ok (.iaload, 1) := by decide +kernel
theorem dX9_laws_68 : decode cX9_laws 68 = .ok (.isub, 1) := by decide +kernel
theorem dX9_laws_69 : decode cX9_laws 69 = .ok (.i2l, 1) := by decide +kernel
theorem dX9_laws_70 : decode cX9_laws 70 = .ok (.invokestatic 90, 3) := by decide +kernel
theorem dX9_laws_73 : decode cX9_laws 73 = .ok (.ifCond .ne 6, 3) := by decide +kernel
theorem dX9_laws_76 : decode cX9_laws 76 = .ok (.bipush (-13), 2) := by decide +kernel
theorem dX9_laws_78 : decode cX9_laws 78 = .ok (.ireturn, 1) := by decide +kernel
theorem dX9_laws_79 : decode cX9_laws 79 = .ok (.iconst 1, 1) := by decide +kernel
theorem dX9_laws_80 : decode cX9_laws 80 = .ok (.istore 5, 2) := by decide +kernel
theorem dX9_laws_82 : decode cX9_laws 82 = .ok (.iconst 0, 1) := by decide +kernel
theorem dX9_laws_83 : decode cX9_laws 83 = .ok (.istore 6, 2) := by decide +kernel
theorem dX9_laws_85 : decode cX9_laws 85 = .ok (.iload 6, 2) := by decide +kernel
theorem dX9_laws_87 : decode cX9_laws 87 = .ok (.aload_n 0, 1) := by decide +kernel
theorem dX9_laws_88 : decode cX9_laws 88 = .ok (.getfield 19, 3) := by decide +kernel
theorem dX9_laws_91 : decode cX9_laws 91 = .ok (.iload 4, 2) := by decide +kernel
theorem dX9_laws_93 : decode cX9_laws 93 = .ok (.iaload, 1) := by decide +kernel
theorem dX9_laws_94 : decode cX9_laws 94 = .ok (.if_icmp .ge 79, 3) := by decide +kernel
theorem dX9_laws_97 : decode cX9_laws 97 = .ok (.aload_n 0, 1) := by decide +kernel
theorem dX9_laws_98 : decode cX9_laws 98 = .ok (.getfield 73, 3) := by decide +kernel
theorem dX9_laws_101 : decode cX9_laws 101 = .ok (.bipush 90, 2) := by decide +kernel
theorem dX9_laws_103 : decode cX9_laws 103 = .ok (.iload_n 1, 1) := by decide +kernel
theorem dX9_laws_104 : decode cX9_laws 104 = .ok (.imul, 1) := by decide +kernel
theorem dX9_laws_105 : decode cX9_laws 105 = .ok (.iload_n 3, 1) := by decide +kernel
theorem dX9_laws_106 : decode cX9_laws 106 = .ok (.iadd, 1) := by decide +kernel
theorem dX9_laws_107 : decode cX9_laws 107 = .ok (.iload 6, 2) := by decide +kernel
theorem dX9_laws_109 : decode cX9_laws 109 = .ok (.iadd, 1) := by decide +kernel
theorem dX9_laws_110 : decode cX9_laws 110 = .ok (.iaload, 1) := by decide +kernel
theorem dX9_laws_111 : decode cX9_laws 111 = .ok (.aload_n 0, 1) := by decide +kernel
theorem dX9_laws_112 : decode cX9_laws 112 = .ok (.getfield 13, 3) := by decide +kernel
theorem dX9_laws_115 : decode cX9_laws 115 = .ok (.irem, 1) := by decide +kernel
theorem dX9_laws_116 : decode cX9_laws 116 = .ok (.istore 7, 2) := by decide +kernel
theorem dX9_laws_118 : decode cX9_laws 118 = .ok (.aload_n 0, 1) := by decide +kernel
theorem dX9_laws_119 : decode cX9_laws 119 = .ok (.getfield 35, 3) := by decide +kernel
theorem dX9_laws_122 : decode cX9_laws 122 = .ok (.aload_n 0, 1) := by decide +kernel
theorem dX9_laws_123 : decode cX9_laws 123 = .ok (.getfield 23, 3) := by decide +kernel
theorem dX9_laws_126 : decode cX9_laws 126 = .ok (.iload 4, 2) := by decide +kernel
theorem dX9_laws_128 : decode cX9_laws 128 = .ok (.iaload, 1) := by decide +kernel
theorem dX9_laws_129 : decode cX9_laws 129 = .ok (.iload 6, 2) := by decide +kernel
theorem dX9_laws_131 : decode cX9_laws 131 = .ok (.iadd, 1) := by decide +kernel
theorem dX9_laws_132 : decode cX9_laws 132 = .ok (.iload 7, 2) := by decide +kernel
theorem dX9_laws_134 : decode cX9_laws 134 = .ok (.ifCond .ge 13, 3) := by decide +kernel
theorem dX9_laws_137 : decode cX9_laws 137 = .ok (.iload 7, 2) := by decide +kernel
theorem dX9_laws_139 : decode cX9_laws 139 = .ok (.aload_n 0, 1) := by decide +kernel
theorem dX9_laws_140 : decode cX9_laws 140 = .ok (.getfield 13, 3) := by decide +kernel
theorem dX9_laws_143 : decode cX9_laws 143 = .ok (.iadd, 1) := by decide +kernel
theorem dX9_laws_144 : decode cX9_laws 144 = .ok (.goto 5, 3) := by decide +kernel
theorem dX9_laws_147 : decode cX9_laws 147 = .ok (.iload 7, 2) := by decide +kernel
theorem dX9_laws_149 : decode cX9_laws 149 = .ok (.iastore, 1) := by decide +kernel
theorem dX9_laws_150 : decode cX9_laws 150 = .ok (.iload 5, 2) := by decide +kernel
theorem dX9_laws_152 : decode cX9_laws 152 = .ok (.ifCond .eq 12, 3) := by decide +kernel
theorem dX9_laws_155 : decode cX9_laws 155 = .ok (.iload 7, 2) := by decide +kernel
theorem dX9_laws_157 : decode cX9_laws 157 = .ok (.ifCond .ne 7, 3) := by decide +kernel
theorem dX9_laws_160 : decode cX9_laws 160 = .ok (.iconst 1, 1) := by decide +kernel
theorem dX9_laws_161 : decode cX9_laws 161 = .ok (.goto 4, 3) := by decide +kernel
theorem dX9_laws_164 : decode cX9_laws 164 = .ok (.iconst 0, 1) := by decide +kernel
theorem dX9_laws_165 : decode cX9_laws 165 = .ok (.istore 5, 2) := by decide +kernel
theorem dX9_laws_167 : decode cX9_laws 167 = .ok (.iinc 6 1, 3) := by decide +kernel
theorem dX9_laws_170 : decode cX9_laws 170 = .ok (.goto (-85), 3) := by decide +kernel
theorem dX9_laws_173 : decode cX9_laws 173 = .ok (.iload 5, 2) := by decide +kernel
theorem dX9_laws_175 : decode cX9_laws 175 = .ok (.ifCond .eq 8, 3) := by decide +kernel
theorem dX9_laws_178 : decode cX9_laws 178 = .ok (.bipush (-2), 2) := by decide +kernel
theorem dX9_laws_180 : decode cX9_laws 180 = .ok (.goto 9, 3) := by decide +kernel
theorem dX9_laws_183 : decode cX9_laws 183 = .ok (.aload_n 0, 1) := by decide +kernel
theorem dX9_laws_184 : decode cX9_laws 184 = .ok (.iload 4, 2) := by decide +kernel
theorem dX9_laws_186 : decode cX9_laws 186 = .ok (.invokevirtual 128, 3) := by decide +kernel
theorem dX9_laws_189 : decode cX9_laws 189 = .ok (.ireturn, 1) := by decide +kernel
theorem dX9_leads_0 : decode cX9_leads 0 = .ok (.aload_n 0, 1) := by decide +kernel
theorem dX9_leads_1 : decode cX9_leads 1 = .ok (.iload_n 1, 1) := by decide +kernel
theorem dX9_leads_2 : decode cX9_leads 2 = .ok (.iload_n 2, 1) := by decide +kernel
theorem dX9_leads_3 : decode cX9_leads 3 = .ok (.invokevirtual 163, 3) := by decide +kernel
theorem dX9_leads_6 : decode cX9_leads 6 = .ok (.ifCond .ne 5, 3) := by decide +kernel
theorem dX9_leads_9 : decode cX9_leads 9 = .ok (.iconst (-1), 1) := by decide +kernel
theorem dX9_leads_10 : decode cX9_leads 10 = .ok (.ireturn, 1) := by decide +kernel
theorem dX9_leads_11 : decode cX9_leads 11 = .ok (.aload_n 0, 1) := by decide +kernel
theorem dX9_leads_12 : decode cX9_leads 12 = .ok (.invokevirtual 153, 3) := by decide +kernel
theorem dX9_leads_15 : decode cX9_leads 15 = .ok (.aload_n 0, 1) := by decide +kernel
theorem dX9_leads_16 : decode cX9_leads 16 = .ok (.getfield 45, 3) := by decide +kernel
theorem dX9_leads_19 : decode cX9_leads 19 = .ok (.aload_n 0, 1) := by decide +kernel
theorem dX9_leads_20 : decode cX9_leads 20 = .ok (.getfield 23, 3) := by decide +kernel
theorem dX9_leads_23 : decode cX9_leads 23 = .ok (.iload_n 1, 1) := by decide +kernel
theorem dX9_leads_24 : decode cX9_leads 24 = .ok (.iaload, 1) := by decide +kernel
theorem dX9_leads_25 : decode cX9_leads 25 = .ok (.iload_n 2, 1) := by decide +kernel
theorem dX9_leads_26 : decode cX9_leads 26 = .ok (.iadd, 1) := by decide +kernel
theorem dX9_leads_27 : decode cX9_leads 27 = .ok (.baload, 1) := by decide +kernel
theorem dX9_leads_28 : decode cX9_leads 28 = .ok (.ifCond .eq 7, 3) := by decide +kernel
theorem dX9_leads_31 : decode cX9_leads 31 = .ok (.iconst 1, 1) := by decide +kernel
theorem dX9_leads_32 : decode cX9_leads 32 = .ok (.goto 4, 3) := by decide +kernel
theorem dX9_leads_35 : decode cX9_leads 35 = .ok (.iconst 0, 1) := by decide +kernel
theorem dX9_leads_36 : decode cX9_leads 36 = .ok (.ireturn, 1) := by decide +kernel
theorem dX9_least_0 : decode cX9_least 0 = .ok (.iload_n 1, 1) := by decide +kernel
theorem dX9_least_1 : decode cX9_least 1 = .ok (.ifCond .lt 15, 3) := by decide +kernel
theorem dX9_least_4 : decode cX9_least 4 = .ok (.iload_n 2, 1) := by decide +kernel
theorem dX9_least_5 : decode cX9_least 5 = .ok (.i2l, 1) := by decide +kernel
theorem dX9_least_6 : decode cX9_least 6 = .ok (.lconst 0, 1) := by decide +kernel
theorem dX9_least_7 : decode cX9_least 7 = .ok (.ldc2_w 86, 3) := by decide +kernel
theorem dX9_least_10 : decode cX9_least 10 = .ok (.invokestatic 90, 3) := by decide +kernel
theorem dX9_least_13 : decode cX9_least 13 = .ok (.ifCond .ne 5, 3) := by decide +kernel
theorem dX9_least_16 : decode cX9_least 16 = .ok (.iconst (-1), 1) := by decide +kernel
theorem dX9_least_17 : decode cX9_least 17 = .ok (.ireturn, 1) := by decide +kernel
theorem dX9_least_18 : decode cX9_least 18 = .ok (.aload_n 0, 1) := by decide +kernel
theorem dX9_least_19 : decode cX9_least 19 = .ok (.invokevirtual 153, 3) := by decide +kernel
theorem dX9_least_22 : decode cX9_least 22 = .ok (.iconst 0, 1) := by decide +kernel
theorem dX9_least_23 : decode cX9_least 23 = .ok (.istore_n 3, 1) := by decide +kernel
theorem dX9_least_24 : decode cX9_least 24 = .ok (.iconst 2, 1) := by decide +kernel
theorem dX9_least_25 : decode cX9_least 25 = .ok (.istore 4, 2) := by decide +kernel
theorem dX9_least_27 : decode cX9_least 27 = .ok (.iload 4, 2) := by decide +kernel
theorem dX9_least_29 : decode cX9_least 29 = .ok (.aload_n 0, 1) := by decide +kernel
theorem dX9_least_30 : decode cX9_least 30 = .ok (.getfield 16, 3) := by decide +kernel
theorem dX9_least_33 : decode cX9_least 33 = .ok (.if_icmp .gt 101, 3) := by decide +kernel
theorem dX9_least_36 : decode cX9_least 36 = .ok (.iconst 0, 1) := by decide +kernel
theorem dX9_least_37 : decode cX9_least 37 = .ok (.istore 5, 2) := by decide +kernel
theorem dX9_least_39 : decode cX9_least 39 = .ok (.iload 5, 2) := by decide +kernel
theorem dX9_least_41 : decode cX9_least 41 = .ok (.aload_n 0, 1) := by decide +kernel
theorem dX9_least_42 : decode cX9_least 42 = .ok (.getfield 19, 3) := by decide +kernel
theorem dX9_least_45 : decode cX9_least 45 = .ok (.iload 4, 2) := by decide +kernel
theorem dX9_least_47 : decode cX9_least 47 = .ok (.iaload, 1) := by decide +kernel
theorem dX9_least_48 : decode cX9_least 48 = .ok (.if_icmp .ge 80, 3) := by decide +kernel
theorem dX9_least_51 : decode cX9_least 51 = .ok (.aload_n 0, 1) := by decide +kernel
theorem dX9_least_52 : decode cX9_least 52 = .ok (.iload 4, 2) := by decide +kernel
theorem dX9_least_54 : decode cX9_least 54 = .ok (.iload 5, 2) := by decide +kernel
theorem dX9_least_56 : decode cX9_least 56 = .ok (.invokevirtual 175, 3) := by decide +kernel
theorem dX9_least_59 : decode cX9_least 59 = .ok (.ifCond .eq 63, 3) := by decide +kernel
theorem dX9_least_62 : decode cX9_least 62 = .ok (.iload_n 3, 1) := by decide +kernel
theorem dX9_least_63 : decode cX9_least 63 = .ok (.iload_n 1, 1) := by decide +kernel
theorem dX9_least_64 : decode cX9_least 64 = .ok (.if_icmp .ne 55, 3) := by decide +kernel
theorem dX9_least_67 : decode cX9_least 67 = .ok (.iload_n 2, 1) := by decide +kernel
theorem dX9_least_68 : decode cX9_least 68 = .ok (.ifCond .ne 8, 3) := by decide +kernel
theorem dX9_least_71 : decode cX9_least 71 = .ok (.iload 4, 2) := by decide +kernel
theorem dX9_least_73 : decode cX9_least 73 = .ok (.goto 45, 3) := by decide +kernel
theorem dX9_least_76 : decode cX9_least 76 = .ok (.iload_n 2, 1) := by decide +kernel
theorem dX9_least_77 : decode cX9_least 77 = .ok (.iconst 1, 1) := by decide +kernel
theorem dX9_least_78 : decode cX9_least 78 = .ok (.if_icmp .ne 8, 3) := by decide +kernel
theorem dX9_least_81 : decode cX9_least 81 = .ok (.iload 5, 2) := by decide +kernel
theorem dX9_least_83 : decode cX9_least 83 = .ok (.goto 35, 3) := by decide +kernel
theorem dX9_least_86 : decode cX9_least 86 = .ok (.aload_n 0, 1) := by decide +kernel
theorem dX9_least_87 : decode cX9_least 87 = .ok (.getfield 42, 3) := by decide +kernel
theorem dX9_least_90 : decode cX9_least 90 = .ok (.aload_n 0, 1) := by decide +kernel
theorem dX9_least_91 : decode cX9_least 91 = .ok (.getfield 26, 3) := by decide +kernel
theorem dX9_least_94 : decode cX9_least 94 = .ok (.iload 4, 2) := by decide +kernel
theorem dX9_least_96 : decode cX9_least 96 = .ok (.iaload, 1) := by decide +kernel
theorem dX9_least_97 : decode cX9_least 97 = .ok (.iload 5, 2) := by decide +kernel
theorem dX9_least_99 : decode cX9_least 99 = .ok (.aload_n 0, 1) := by decide +kernel
theorem dX9_least_100 : decode cX9_least 100 = .ok (.getfield 19, 3) := by decide +kernel
theorem dX9_least_103 : decode cX9_least 103 = .ok (.iload 4, 2) := by decide +kernel
theorem dX9_least_105 : decode cX9_least 105 = .ok (.iaload, 1) := by decide +kernel
theorem dX9_least_106 : decode cX9_least 106 = .ok (.imul, 1) := by decide +kernel
theorem dX9_least_107 : decode cX9_least 107 = .ok (.iadd, 1) := by decide +kernel
theorem dX9_least_108 : decode cX9_least 108 = .ok (.aload_n 0, 1) := by decide +kernel
theorem dX9_least_109 : decode cX9_least 109 = .ok (.getfield 19, 3) := by decide +kernel
theorem dX9_least_112 : decode cX9_least 112 = .ok (.iload 4, 2) := by decide +kernel
theorem dX9_least_114 : decode cX9_least 114 = .ok (.iaload, 1) := by decide +kernel
theorem dX9_least_115 : decode cX9_least 115 = .ok (.invokestatic 178, 3) := by decide +kernel
theorem dX9_least_118 : decode cX9_least 118 = .ok (.ireturn, 1) := by decide +kernel
theorem dX9_least_119 : decode cX9_least 119 = .ok (.iinc 3 1, 3) := by decide +kernel
theorem dX9_least_122 : decode cX9_least 122 = .ok (.iinc 5 1, 3) := by decide +kernel
theorem dX9_least_125 : decode cX9_least 125 = .ok (.goto (-86), 3) := by decide +kernel
theorem dX9_least_128 : decode cX9_least 128 = .ok (.iinc 4 1, 3) := by decide +kernel
theorem dX9_least_131 : decode cX9_least 131 = .ok (.goto (-104), 3) := by decide +kernel
theorem dX9_least_134 : decode cX9_least 134 = .ok (.iconst (-1), 1) := by decide +kernel
theorem dX9_least_135 : decode cX9_least 135 = .ok (.ireturn, 1) := by decide +kernel
theorem dX9_leastMany_0 : decode cX9_leastMany 0 = .ok (.iconst 0, 1) := by decide +kernel
theorem dX9_leastMany_1 : decode cX9_leastMany 1 = .ok (.istore_n 1, 1) := by decide +kernel
theorem dX9_leastMany_2 : decode cX9_leastMany 2 = .ok (.iconst 2, 1) := by decide +kernel
theorem dX9_leastMany_3 : decode cX9_leastMany 3 = .ok (.istore_n 2, 1) := by decide +kernel
theorem dX9_leastMany_4 : decode cX9_leastMany 4 = .ok (.iload_n 2, 1) := by decide +kernel
theorem dX9_leastMany_5 : decode cX9_leastMany 5 = .ok (.aload_n 0, 1) := by decide +kernel
theorem dX9_leastMany_6 : decode cX9_leastMany 6 = .ok (.getfield 16, 3) := by decide +kernel
theorem dX9_leastMany_9 : decode cX9_leastMany 9 = .ok (.if_icmp .gt 44, 3) := by decide +kernel
theorem dX9_leastMany_12 : decode cX9_leastMany 12 = .ok (.iconst 0, 1) := by decide +kernel
theorem dX9_leastMany_13 : decode cX9_leastMany 13 = .ok (.istore_n 3, 1) := by decide +kernel
theorem dX9_leastMany_14 : decode cX9_leastMany 14 = .ok (.iload_n 3, 1) := by decide +kernel
theorem dX9_leastMany_15 : decode cX9_leastMany 15 = .ok (.aload_n 0, 1) := by decide +kernel
theorem dX9_leastMany_16 : decode cX9_leastMany 16 = .ok (.getfield 19, 3) := by decide +kernel
theorem dX9_leastMany_19 : decode cX9_leastMany 19 = .ok (.iload_n 2, 1) := by decide +kernel
theorem dX9_leastMany_20 : decode cX9_leastMany 20 = .ok (.iaload, 1) := by decide +kernel
theorem dX9_leastMany_21 : decode cX9_leastMany 21 = .ok (.if_icmp .ge 26, 3) := by decide +kernel
theorem dX9_leastMany_24 : decode cX9_leastMany 24 = .ok (.iload_n 1, 1) := by decide +kernel
theorem dX9_leastMany_25 : decode cX9_leastMany 25 = .ok (.aload_n 0, 1) := by decide +kernel
theorem dX9_leastMany_26 : decode cX9_leastMany 26 = .ok (.iload_n 2, 1) := by decide +kernel
theorem dX9_leastMany_27 : decode cX9_leastMany 27 = .ok (.iload_n 3, 1) := by decide +kernel
theorem dX9_leastMany_28 : decode cX9_leastMany 28 = .ok (.invokevirtual 175, 3) := by decide +kernel
theorem dX9_leastMany_31 : decode cX9_leastMany 31 = .ok (.ifCond .eq 7, 3) := by decide +kernel
theorem dX9_leastMany_34 : decode cX9_leastMany 34 = .ok (.iconst 1, 1) := by decide +kernel
theorem dX9_leastMany_35 : decode cX9_leastMany 35 = .ok (.goto 4, 3) := by decide +kernel
theorem dX9_leastMany_38 : decode cX9_leastMany 38 = .ok (.iconst 0, 1) := by decide +kernel
theorem dX9_leastMany_39 : decode cX9_leastMany 39 = .ok (.iadd, 1) := by decide +kernel
theorem dX9_leastMany_40 : decode cX9_leastMany 40 = .ok (.istore_n 1, 1) := by decide +kernel
theorem dX9_leastMany_41 : decode cX9_leastMany 41 = .ok (.iinc 3 1, 3) := by decide +kernel
theorem dX9_leastMany_44 : decode cX9_leastMany 44 = .ok (.goto (-30), 3) := by decide +kernel
theorem dX9_leastMany_47 : decode cX9_leastMany 47 = .ok (.iinc 2 1, 3) := by decide +kernel
theorem dX9_leastMany_50 : decode cX9_leastMany 50 = .ok (.goto (-46), 3) := by decide +kernel
theorem dX9_leastMany_53 : decode cX9_leastMany 53 = .ok (.iload_n 1, 1) := by decide +kernel
theorem dX9_leastMany_54 : decode cX9_leastMany 54 = .ok (.ireturn, 1) := by decide +kernel
theorem dX9_middle_0 : decode cX9_middle 0 = .ok (.iload_n 1, 1) := by decide +kernel
theorem dX9_middle_1 : decode cX9_middle 1 = .ok (.i2l, 1) := by decide +kernel
theorem dX9_middle_2 : decode cX9_middle 2 = .ok (.lconst 0, 1) := by decide +kernel
theorem dX9_middle_3 : decode cX9_middle 3 = .ok (.aload_n 0, 1) := by decide +kernel
theorem dX9_middle_4 : decode cX9_middle 4 = .ok (.getfield 16, 3) := by decide +kernel
theorem dX9_middle_7 : decode cX9_middle 7 = .ok (.iconst 1, 1) := by decide +kernel
theorem dX9_middle_8 : decode cX9_middle 8 = .ok (.isub, 1) := by decide +kernel
theorem dX9_middle_9 : decode cX9_middle 9 = .ok (.i2l, 1) := by decide +kernel
theorem dX9_middle_10 : decode cX9_middle 10 = .ok (.invokestatic 90, 3) := by decide +kernel
theorem dX9_middle_13 : decode cX9_middle 13 = .ok (.ifCond .ne 5, 3) := by decide +kernel
theorem dX9_middle_16 : decode cX9_middle 16 = .ok (.iconst (-1), 1) := by decide +kernel
