theorem dX4_played_41 : decode cX4_played 41 = .ok (.getfield 120, 3) := by decide +kernel
theorem dX4_played_44 : decode cX4_played 44 = .ok (.iload 4, 2) := by decide +kernel
theorem dX4_played_46 : decode cX4_played 46 = .ok (.iaload, 1) := by decide +kernel
theorem dX4_played_47 : decode cX4_played 47 = .ok (.goto 13, 3) := by decide +kernel
theorem dX4_played_50 : decode cX4_played 50 = .ok (.aload_n 0, 1) := by decide +kernel
theorem dX4_played_51 : decode cX4_played 51 = .ok (.getfield 33, 3) := by decide +kernel
theorem dX4_played_54 : decode cX4_played 54 = .ok (.getfield 123, 3) := by decide +kernel
theorem dX4_played_57 : decode cX4_played 57 = .ok (.iload 4, 2) := by decide +kernel
theorem dX4_played_59 : decode cX4_played 59 = .ok (.iaload, 1) := by decide +kernel
theorem dX4_played_60 : decode cX4_played 60 = .ok (.ireturn, 1) := by decide +kernel
theorem dX4_trace_0 : decode cX4_trace 0 = .ok (.aload_n 0, 1) := by decide +kernel
theorem dX4_trace_1 : decode cX4_trace 1 = .ok (.invokevirtual 114, 3) := by decide +kernel
theorem dX4_trace_4 : decode cX4_trace 4 = .ok (.iconst 0, 1) := by decide +kernel
theorem dX4_trace_5 : decode cX4_trace 5 = .ok (.istore_n 1, 1) := by decide +kernel
theorem dX4_trace_6 : decode cX4_trace 6 = .ok (.iload_n 1, 1) := by decide +kernel
theorem dX4_trace_7 : decode cX4_trace 7 = .ok (.aload_n 0, 1) := by decide +kernel
theorem dX4_trace_8 : decode cX4_trace 8 = .ok (.getfield 12, 3) := by decide +kernel
theorem dX4_trace_11 : decode cX4_trace 11 = .ok (.invokevirtual 126, 3) := by decide +kernel
theorem dX4_trace_14 : decode cX4_trace 14 = .ok (.if_icmp .ge 46, 3) := by decide +kernel
theorem dX4_trace_17 : decode cX4_trace 17 = .ok (.aload_n 0, 1) := by decide +kernel
theorem dX4_trace_18 : decode cX4_trace 18 = .ok (.getfield 12, 3) := by decide +kernel
theorem dX4_trace_21 : decode cX4_trace 21 = .ok (.iload_n 1, 1) := by decide +kernel
theorem dX4_trace_22 : decode cX4_trace 22 = .ok (.invokevirtual 130, 3) := by decide +kernel
theorem dX4_trace_25 : decode cX4_trace 25 = .ok (.ifCond .eq 29, 3) := by decide +kernel
theorem dX4_trace_28 : decode cX4_trace 28 = .ok (.aload_n 0, 1) := by decide +kernel
theorem dX4_trace_29 : decode cX4_trace 29 = .ok (.getfield 19, 3) := by decide +kernel
theorem dX4_trace_32 : decode cX4_trace 32 = .ok (.iload_n 1, 1) := by decide +kernel
theorem dX4_trace_33 : decode cX4_trace 33 = .ok (.aload_n 0, 1) := by decide +kernel
theorem dX4_trace_34 : decode cX4_trace 34 = .ok (.getfield 33, 3) := by decide +kernel
theorem dX4_trace_37 : decode cX4_trace 37 = .ok (.getfield 120, 3) := by decide +kernel
theorem dX4_trace_40 : decode cX4_trace 40 = .ok (.iload_n 1, 1) := by decide +kernel
theorem dX4_trace_41 : decode cX4_trace 41 = .ok (.iaload, 1) := by decide +kernel
theorem dX4_trace_42 : decode cX4_trace 42 = .ok (.aload_n 0, 1) := by decide +kernel
theorem dX4_trace_43 : decode cX4_trace 43 = .ok (.getfield 33, 3) := by decide +kernel
theorem dX4_trace_46 : decode cX4_trace 46 = .ok (.getfield 123, 3) := by decide +kernel
theorem dX4_trace_49 : decode cX4_trace 49 = .ok (.iload_n 1, 1) := by decide +kernel
theorem dX4_trace_50 : decode cX4_trace 50 = .ok (.iaload, 1) := by decide +kernel
theorem dX4_trace_51 : decode cX4_trace 51 = .ok (.invokevirtual 103, 3) := by decide +kernel
theorem dX4_trace_54 : decode cX4_trace 54 = .ok (.iinc 1 1, 3) := by decide +kernel
theorem dX4_trace_57 : decode cX4_trace 57 = .ok (.goto (-51), 3) := by decide +kernel
theorem dX4_trace_60 : decode cX4_trace 60 = .ok (.aload_n 0, 1) := by decide +kernel
theorem dX4_trace_61 : decode cX4_trace 61 = .ok (.getfield 12, 3) := by decide +kernel
theorem dX4_trace_64 : decode cX4_trace 64 = .ok (.getfield 134, 3) := by decide +kernel
theorem dX4_trace_67 : decode cX4_trace 67 = .ok (.ireturn, 1) := by decide +kernel
theorem dX4_unlike_0 : decode cX4_unlike 0 = .ok (.aload_n 0, 1) := by decide +kernel
theorem dX4_unlike_1 : decode cX4_unlike 1 = .ok (.invokevirtual 114, 3) := by decide +kernel
theorem dX4_unlike_4 : decode cX4_unlike 4 = .ok (.iconst 0, 1) := by decide +kernel
theorem dX4_unlike_5 : decode cX4_unlike 5 = .ok (.istore_n 1, 1) := by decide +kernel
theorem dX4_unlike_6 : decode cX4_unlike 6 = .ok (.iconst 0, 1) := by decide +kernel
theorem dX4_unlike_7 : decode cX4_unlike 7 = .ok (.istore_n 2, 1) := by decide +kernel
theorem dX4_unlike_8 : decode cX4_unlike 8 = .ok (.iload_n 2, 1) := by decide +kernel
theorem dX4_unlike_9 : decode cX4_unlike 9 = .ok (.aload_n 0, 1) := by decide +kernel
theorem dX4_unlike_10 : decode cX4_unlike 10 = .ok (.getfield 12, 3) := by decide +kernel
theorem dX4_unlike_13 : decode cX4_unlike 13 = .ok (.invokevirtual 126, 3) := by decide +kernel
theorem dX4_unlike_16 : decode cX4_unlike 16 = .ok (.if_icmp .ge 66, 3) := by decide +kernel
theorem dX4_unlike_19 : decode cX4_unlike 19 = .ok (.aload_n 0, 1) := by decide +kernel
theorem dX4_unlike_20 : decode cX4_unlike 20 = .ok (.getfield 19, 3) := by decide +kernel
theorem dX4_unlike_23 : decode cX4_unlike 23 = .ok (.getfield 106, 3) := by decide +kernel
theorem dX4_unlike_26 : decode cX4_unlike 26 = .ok (.iload_n 2, 1) := by decide +kernel
theorem dX4_unlike_27 : decode cX4_unlike 27 = .ok (.baload, 1) := by decide +kernel
theorem dX4_unlike_28 : decode cX4_unlike 28 = .ok (.ifCond .eq 48, 3) := by decide +kernel
theorem dX4_unlike_31 : decode cX4_unlike 31 = .ok (.aload_n 0, 1) := by decide +kernel
theorem dX4_unlike_32 : decode cX4_unlike 32 = .ok (.getfield 19, 3) := by decide +kernel
theorem dX4_unlike_35 : decode cX4_unlike 35 = .ok (.getfield 137, 3) := by decide +kernel
theorem dX4_unlike_38 : decode cX4_unlike 38 = .ok (.iload_n 2, 1) := by decide +kernel
theorem dX4_unlike_39 : decode cX4_unlike 39 = .ok (.iaload, 1) := by decide +kernel
theorem dX4_unlike_40 : decode cX4_unlike 40 = .ok (.aload_n 0, 1) := by decide +kernel
theorem dX4_unlike_41 : decode cX4_unlike 41 = .ok (.getfield 33, 3) := by decide +kernel
theorem dX4_unlike_44 : decode cX4_unlike 44 = .ok (.getfield 120, 3) := by decide +kernel
theorem dX4_unlike_47 : decode cX4_unlike 47 = .ok (.iload_n 2, 1) := by decide +kernel
theorem dX4_unlike_48 : decode cX4_unlike 48 = .ok (.iaload, 1) := by decide +kernel
theorem dX4_unlike_49 : decode cX4_unlike 49 = .ok (.if_icmp .ne 24, 3) := by decide +kernel
theorem dX4_unlike_52 : decode cX4_unlike 52 = .ok (.aload_n 0, 1) := by decide +kernel
theorem dX4_unlike_53 : decode cX4_unlike 53 = .ok (.getfield 19, 3) := by decide +kernel
theorem dX4_unlike_56 : decode cX4_unlike 56 = .ok (.getfield 138, 3) := by decide +kernel
theorem dX4_unlike_59 : decode cX4_unlike 59 = .ok (.iload_n 2, 1) := by decide +kernel
theorem dX4_unlike_60 : decode cX4_unlike 60 = .ok (.iaload, 1) := by decide +kernel
theorem dX4_unlike_61 : decode cX4_unlike 61 = .ok (.aload_n 0, 1) := by decide +kernel
theorem dX4_unlike_62 : decode cX4_unlike 62 = .ok (.getfield 33, 3) := by decide +kernel
theorem dX4_unlike_65 : decode cX4_unlike 65 = .ok (.getfield 123, 3) := by decide +kernel
theorem dX4_unlike_68 : decode cX4_unlike 68 = .ok (.iload_n 2, 1) := by decide +kernel
theorem dX4_unlike_69 : decode cX4_unlike 69 = .ok (.iaload, 1) := by decide +kernel
theorem dX4_unlike_70 : decode cX4_unlike 70 = .ok (.if_icmp .eq 6, 3) := by decide +kernel
theorem dX4_unlike_73 : decode cX4_unlike 73 = .ok (.iinc 1 1, 3) := by decide +kernel
theorem dX4_unlike_76 : decode cX4_unlike 76 = .ok (.iinc 2 1, 3) := by decide +kernel
theorem dX4_unlike_79 : decode cX4_unlike 79 = .ok (.goto (-71), 3) := by decide +kernel
theorem dX4_unlike_82 : decode cX4_unlike 82 = .ok (.iload_n 1, 1) := by decide +kernel
theorem dX4_unlike_83 : decode cX4_unlike 83 = .ok (.ireturn, 1) := by decide +kernel
theorem dX4_found_0 : decode cX4_found 0 = .ok (.aload_n 0, 1) := by decide +kernel
theorem dX4_found_1 : decode cX4_found 1 = .ok (.iload_n 1, 1) := by decide +kernel
theorem dX4_found_2 : decode cX4_found 2 = .ok (.invokevirtual 63, 3) := by decide +kernel
theorem dX4_found_5 : decode cX4_found 5 = .ok (.aload_n 0, 1) := by decide +kernel
theorem dX4_found_6 : decode cX4_found 6 = .ok (.getfield 26, 3) := by decide +kernel
theorem dX4_found_9 : decode cX4_found 9 = .ok (.aload_n 0, 1) := by decide +kernel
theorem dX4_found_10 : decode cX4_found 10 = .ok (.getfield 12, 3) := by decide +kernel
theorem dX4_found_13 : decode cX4_found 13 = .ok (.aload_n 0, 1) := by decide +kernel
theorem dX4_found_14 : decode cX4_found 14 = .ok (.getfield 19, 3) := by decide +kernel
theorem dX4_found_17 : decode cX4_found 17 = .ok (.iload_n 1, 1) := by decide +kernel
theorem dX4_found_18 : decode cX4_found 18 = .ok (.invokevirtual 139, 3) := by decide +kernel
theorem dX4_found_21 : decode cX4_found 21 = .ok (.iload_n 2, 1) := by decide +kernel
theorem dX4_found_22 : decode cX4_found 22 = .ok (.ifCond .eq 13, 3) := by decide +kernel
theorem dX4_found_25 : decode cX4_found 25 = .ok (.aload_n 0, 1) := by decide +kernel
theorem dX4_found_26 : decode cX4_found 26 = .ok (.getfield 26, 3) := by decide +kernel
theorem dX4_found_29 : decode cX4_found 29 = .ok (.invokevirtual 143, 3) := by decide +kernel
theorem dX4_found_32 : decode cX4_found 32 = .ok (.goto 10, 3) := by decide +kernel
theorem dX4_found_35 : decode cX4_found 35 = .ok (.aload_n 0, 1) := by decide +kernel
theorem dX4_found_36 : decode cX4_found 36 = .ok (.getfield 26, 3) := by decide +kernel
theorem dX4_found_39 : decode cX4_found 39 = .ok (.invokevirtual 146, 3) := by decide +kernel
theorem dX4_found_42 : decode cX4_found 42 = .ok (.ireturn, 1) := by decide +kernel
theorem dX4_overlap_0 : decode cX4_overlap 0 = .ok (.aload_n 0, 1) := by decide +kernel
theorem dX4_overlap_1 : decode cX4_overlap 1 = .ok (.iload_n 1, 1) := by decide +kernel
theorem dX4_overlap_2 : decode cX4_overlap 2 = .ok (.invokevirtual 63, 3) := by decide +kernel
theorem dX4_overlap_5 : decode cX4_overlap 5 = .ok (.aload_n 0, 1) := by decide +kernel
theorem dX4_overlap_6 : decode cX4_overlap 6 = .ok (.getfield 26, 3) := by decide +kernel
theorem dX4_overlap_9 : decode cX4_overlap 9 = .ok (.aload_n 0, 1) := by decide +kernel
theorem dX4_overlap_10 : decode cX4_overlap 10 = .ok (.getfield 12, 3) := by decide +kernel
theorem dX4_overlap_13 : decode cX4_overlap 13 = .ok (.aload_n 0, 1) := by decide +kernel
theorem dX4_overlap_14 : decode cX4_overlap 14 = .ok (.getfield 19, 3) := by decide +kernel
theorem dX4_overlap_17 : decode cX4_overlap 17 = .ok (.iload_n 1, 1) := by decide +kernel
theorem dX4_overlap_18 : decode cX4_overlap 18 = .ok (.invokevirtual 139, 3) := by decide +kernel
theorem dX4_overlap_21 : decode cX4_overlap 21 = .ok (.aload_n 0, 1) := by decide +kernel
theorem dX4_overlap_22 : decode cX4_overlap 22 = .ok (.getfield 26, 3) := by decide +kernel
theorem dX4_overlap_25 : decode cX4_overlap 25 = .ok (.invokevirtual 149, 3) := by decide +kernel
theorem dX4_overlap_28 : decode cX4_overlap 28 = .ok (.ireturn, 1) := by decide +kernel
theorem dX4_counts_0 : decode cX4_counts 0 = .ok (.aload_n 0, 1) := by decide +kernel
theorem dX4_counts_1 : decode cX4_counts 1 = .ok (.iload_n 1, 1) := by decide +kernel
theorem dX4_counts_2 : decode cX4_counts 2 = .ok (.invokevirtual 63, 3) := by decide +kernel
theorem dX4_counts_5 : decode cX4_counts 5 = .ok (.iload 4, 2) := by decide +kernel
theorem dX4_counts_7 : decode cX4_counts 7 = .ok (.iconst 0, 1) := by decide +kernel
theorem dX4_counts_8 : decode cX4_counts 8 = .ok (.ldc 97, 2) := by decide +kernel
theorem dX4_counts_10 : decode cX4_counts 10 = .ok (.invokestatic 67, 3) := by decide +kernel
theorem dX4_counts_13 : decode cX4_counts 13 = .ok (.iload_n 3, 1) := by decide +kernel
theorem dX4_counts_14 : decode cX4_counts 14 = .ok (.iconst 0, 1) := by decide +kernel
theorem dX4_counts_15 : decode cX4_counts 15 = .ok (.iload 4, 2) := by decide +kernel
theorem dX4_counts_17 : decode cX4_counts 17 = .ok (.invokestatic 67, 3) := by decide +kernel
theorem dX4_counts_20 : decode cX4_counts 20 = .ok (.iload 5, 2) := by decide +kernel
theorem dX4_counts_22 : decode cX4_counts 22 = .ok (.iconst 3, 1) := by decide +kernel
theorem dX4_counts_23 : decode cX4_counts 23 = .ok (.invokestatic 110, 3) := by decide +kernel
theorem dX4_counts_26 : decode cX4_counts 26 = .ok (.iload_n 2, 1) := by decide +kernel
theorem dX4_counts_27 : decode cX4_counts 27 = .ok (.ifCond .eq 14, 3) := by decide +kernel
theorem dX4_counts_30 : decode cX4_counts 30 = .ok (.aload_n 0, 1) := by decide +kernel
theorem dX4_counts_31 : decode cX4_counts 31 = .ok (.iload_n 1, 1) := by decide +kernel
theorem dX4_counts_32 : decode cX4_counts 32 = .ok (.iload_n 3, 1) := by decide +kernel
theorem dX4_counts_33 : decode cX4_counts 33 = .ok (.iload 4, 2) := by decide +kernel
theorem dX4_counts_35 : decode cX4_counts 35 = .ok (.iload 5, 2) := by decide +kernel
theorem dX4_counts_37 : decode cX4_counts 37 = .ok (.invokevirtual 152, 3) := by decide +kernel
theorem dX4_counts_40 : decode cX4_counts 40 = .ok (.lreturn, 1) := by decide +kernel
theorem dX4_counts_41 : decode cX4_counts 41 = .ok (.aload_n 0, 1) := by decide +kernel
theorem dX4_counts_42 : decode cX4_counts 42 = .ok (.iload_n 1, 1) := by decide +kernel
theorem dX4_counts_43 : decode cX4_counts 43 = .ok (.iload_n 3, 1) := by decide +kernel
theorem dX4_counts_44 : decode cX4_counts 44 = .ok (.iload 4, 2) := by decide +kernel
theorem dX4_counts_46 : decode cX4_counts 46 = .ok (.iload 5, 2) := by decide +kernel
theorem dX4_counts_48 : decode cX4_counts 48 = .ok (.invokevirtual 156, 3) := by decide +kernel
theorem dX4_counts_51 : decode cX4_counts 51 = .ok (.lreturn, 1) := by decide +kernel
theorem dX4_total_0 : decode cX4_total 0 = .ok (.aload_n 0, 1) := by decide +kernel
theorem dX4_total_1 : decode cX4_total 1 = .ok (.invokevirtual 114, 3) := by decide +kernel
theorem dX4_total_4 : decode cX4_total 4 = .ok (.aload_n 0, 1) := by decide +kernel
theorem dX4_total_5 : decode cX4_total 5 = .ok (.getfield 33, 3) := by decide +kernel
theorem dX4_total_8 : decode cX4_total 8 = .ok (.aload_n 0, 1) := by decide +kernel
theorem dX4_total_9 : decode cX4_total 9 = .ok (.getfield 12, 3) := by decide +kernel
theorem dX4_total_12 : decode cX4_total 12 = .ok (.invokevirtual 159, 3) := by decide +kernel
theorem dX4_total_15 : decode cX4_total 15 = .ok (.lreturn, 1) := by decide +kernel
theorem dX4_saved_0 : decode cX4_saved 0 = .ok (.aload_n 0, 1) := by decide +kernel
theorem dX4_saved_1 : decode cX4_saved 1 = .ok (.iload_n 1, 1) := by decide +kernel
theorem dX4_saved_2 : decode cX4_saved 2 = .ok (.invokevirtual 63, 3) := by decide +kernel
theorem dX4_saved_5 : decode cX4_saved 5 = .ok (.aload_n 0, 1) := by decide +kernel
theorem dX4_saved_6 : decode cX4_saved 6 = .ok (.invokevirtual 114, 3) := by decide +kernel
theorem dX4_saved_9 : decode cX4_saved 9 = .ok (.aload_n 0, 1) := by decide +kernel
theorem dX4_saved_10 : decode cX4_saved 10 = .ok (.iload_n 1, 1) := by decide +kernel
theorem dX4_saved_11 : decode cX4_saved 11 = .ok (.invokevirtual 163, 3) := by decide +kernel
theorem dX4_saved_14 : decode cX4_saved 14 = .ok (.lreturn, 1) := by decide +kernel
theorem dX4_narrow_0 : decode cX4_narrow 0 = .ok (.aload_n 0, 1) := by decide +kernel
theorem dX4_narrow_1 : decode cX4_narrow 1 = .ok (.invokevirtual 114, 3) := by decide +kernel
theorem dX4_narrow_4 : decode cX4_narrow 4 = .ok (.iconst (-1), 1) := by decide +kernel
theorem dX4_narrow_5 : decode cX4_narrow 5 = .ok (.istore_n 1, 1) := by decide +kernel
theorem dX4_narrow_6 : decode cX4_narrow 6 = .ok (.lconst 0, 1) := by decide +kernel
theorem dX4_narrow_7 : decode cX4_narrow 7 = .ok (.lstore_n 2, 1) := by decide +kernel
theorem dX4_narrow_8 : decode cX4_narrow 8 = .ok (.iconst 0, 1) := by decide +kernel
theorem dX4_narrow_9 : decode cX4_narrow 9 = .ok (.istore 4, 2) := by decide +kernel
theorem dX4_narrow_11 : decode cX4_narrow 11 = .ok (.iload 4, 2) := by decide +kernel
theorem dX4_narrow_13 : decode cX4_narrow 13 = .ok (.aload_n 0, 1) := by decide +kernel
theorem dX4_narrow_14 : decode cX4_narrow 14 = .ok (.getfield 12, 3) := by decide +kernel
theorem dX4_narrow_17 : decode cX4_narrow 17 = .ok (.getfield 48, 3) := by decide +kernel
theorem dX4_narrow_20 : decode cX4_narrow 20 = .ok (.if_icmp .ge 35, 3) := by decide +kernel
theorem dX4_narrow_23 : decode cX4_narrow 23 = .ok (.aload_n 0, 1) := by decide +kernel
theorem dX4_narrow_24 : decode cX4_narrow 24 = .ok (.iload 4, 2) := by decide +kernel
theorem dX4_narrow_26 : decode cX4_narrow 26 = .ok (.invokevirtual 163, 3) := by decide +kernel
theorem dX4_narrow_29 : decode cX4_narrow 29 = .ok (.lstore 5, 2) := by decide +kernel
theorem dX4_narrow_31 : decode cX4_narrow 31 = .ok (.iload_n 1, 1) := by decide +kernel
theorem dX4_narrow_32 : decode cX4_narrow 32 = .ok (.iconst (-1), 1) := by decide +kernel
theorem dX4_narrow_33 : decode cX4_narrow 33 = .ok (.if_icmp .eq 10, 3) := by decide +kernel
theorem dX4_narrow_36 : decode cX4_narrow 36 = .ok (.lload 5, 2) := by decide +kernel
theorem dX4_narrow_38 : decode cX4_narrow 38 = .ok (.lload_n 2, 1) := by decide +kernel
theorem dX4_narrow_39 : decode cX4_narrow 39 = .ok (.lcmp, 1) := by decide +kernel
theorem dX4_narrow_40 : decode cX4_narrow 40 = .ok (.ifCond .le 9, 3) := by decide +kernel
theorem dX4_narrow_43 : decode cX4_narrow 43 = .ok (.iload 4, 2) := by decide +kernel
theorem dX4_narrow_45 : decode cX4_narrow 45 = .ok (.istore_n 1, 1) := by decide +kernel
theorem dX4_narrow_46 : decode cX4_narrow 46 = .ok (.lload 5, 2) := by decide +kernel
theorem dX4_narrow_48 : decode cX4_narrow 48 = .ok (.lstore_n 2, 1) := by decide +kernel
theorem dX4_narrow_49 : decode cX4_narrow 49 = .ok (.iinc 4 1, 3) := by decide +kernel
theorem dX4_narrow_52 : decode cX4_narrow 52 = .ok (.goto (-41), 3) := by decide +kernel
theorem dX4_narrow_55 : decode cX4_narrow 55 = .ok (.iload_n 1, 1) := by decide +kernel
theorem dX4_narrow_56 : decode cX4_narrow 56 = .ok (.ireturn, 1) := by decide +kernel
theorem dX4_alone_0 : decode cX4_alone 0 = .ok (.aload_n 0, 1) := by decide +kernel
theorem dX4_alone_1 : decode cX4_alone 1 = .ok (.iload_n 1, 1) := by decide +kernel
theorem dX4_alone_2 : decode cX4_alone 2 = .ok (.invokevirtual 87, 3) := by decide +kernel
theorem dX4_alone_5 : decode cX4_alone 5 = .ok (.aload_n 0, 1) := by decide +kernel
theorem dX4_alone_6 : decode cX4_alone 6 = .ok (.getfield 12, 3) := by decide +kernel
theorem dX4_alone_9 : decode cX4_alone 9 = .ok (.getfield 80, 3) := by decide +kernel
theorem dX4_alone_12 : decode cX4_alone 12 = .ok (.iload_n 1, 1) := by decide +kernel
theorem dX4_alone_13 : decode cX4_alone 13 = .ok (.iaload, 1) := by decide +kernel
theorem dX4_alone_14 : decode cX4_alone 14 = .ok (.istore_n 2, 1) := by decide +kernel
theorem dX4_alone_15 : decode cX4_alone 15 = .ok (.aload_n 0, 1) := by decide +kernel
theorem dX4_alone_16 : decode cX4_alone 16 = .ok (.getfield 12, 3) := by decide +kernel
theorem dX4_alone_19 : decode cX4_alone 19 = .ok (.iload_n 1, 1) := by decide +kernel
theorem dX4_alone_20 : decode cX4_alone 20 = .ok (.invokevirtual 167, 3) := by decide +kernel
theorem dX4_alone_23 : decode cX4_alone 23 = .ok (.istore_n 3, 1) := by decide +kernel
theorem dX4_alone_24 : decode cX4_alone 24 = .ok (.iload_n 3, 1) := by decide +kernel
theorem dX4_alone_25 : decode cX4_alone 25 = .ok (.aload_n 0, 1) := by decide +kernel
theorem dX4_alone_26 : decode cX4_alone 26 = .ok (.getfield 12, 3) := by decide +kernel
theorem dX4_alone_29 : decode cX4_alone 29 = .ok (.iload_n 1, 1) := by decide +kernel
theorem dX4_alone_30 : decode cX4_alone 30 = .ok (.invokevirtual 171, 3) := by decide +kernel
theorem dX4_alone_33 : decode cX4_alone 33 = .ok (.if_icmp .gt 53, 3) := by decide +kernel
theorem dX4_alone_36 : decode cX4_alone 36 = .ok (.iload_n 2, 1) := by decide +kernel
theorem dX4_alone_37 : decode cX4_alone 37 = .ok (.aload_n 0, 1) := by decide +kernel
theorem dX4_alone_38 : decode cX4_alone 38 = .ok (.getfield 12, 3) := by decide +kernel
theorem dX4_alone_41 : decode cX4_alone 41 = .ok (.getfield 174, 3) := by decide +kernel
theorem dX4_alone_44 : decode cX4_alone 44 = .ok (.iload_n 3, 1) := by decide +kernel
theorem dX4_alone_45 : decode cX4_alone 45 = .ok (.iaload, 1) := by decide +kernel
theorem dX4_alone_46 : decode cX4_alone 46 = .ok (.iadd, 1) := by decide +kernel
theorem dX4_alone_47 : decode cX4_alone 47 = .ok (.istore_n 2, 1) := by decide +kernel
theorem dX4_alone_48 : decode cX4_alone 48 = .ok (.iload_n 3, 1) := by decide +kernel
theorem dX4_alone_49 : decode cX4_alone 49 = .ok (.aload_n 0, 1) := by decide +kernel
theorem dX4_alone_50 : decode cX4_alone 50 = .ok (.getfield 12, 3) := by decide +kernel
theorem dX4_alone_53 : decode cX4_alone 53 = .ok (.iload_n 1, 1) := by decide +kernel
theorem dX4_alone_54 : decode cX4_alone 54 = .ok (.invokevirtual 171, 3) := by decide +kernel
theorem dX4_alone_57 : decode cX4_alone 57 = .ok (.if_icmp .ge 23, 3) := by decide +kernel
theorem dX4_alone_60 : decode cX4_alone 60 = .ok (.iload_n 2, 1) := by decide +kernel
theorem dX4_alone_61 : decode cX4_alone 61 = .ok (.aload_n 0, 1) := by decide +kernel
theorem dX4_alone_62 : decode cX4_alone 62 = .ok (.getfield 12, 3) := by decide +kernel
theorem dX4_alone_65 : decode cX4_alone 65 = .ok (.getfield 177, 3) := by decide +kernel
theorem dX4_alone_68 : decode cX4_alone 68 = .ok (.aload_n 0, 1) := by decide +kernel
theorem dX4_alone_69 : decode cX4_alone 69 = .ok (.getfield 12, 3) := by decide +kernel
theorem dX4_alone_72 : decode cX4_alone 72 = .ok (.getfield 180, 3) := by decide +kernel
theorem dX4_alone_75 : decode cX4_alone 75 = .ok (.iload_n 3, 1) := by decide +kernel
theorem dX4_alone_76 : decode cX4_alone 76 = .ok (.iaload, 1) := by decide +kernel
theorem dX4_alone_77 : decode cX4_alone 77 = .ok (.iaload, 1) := by decide +kernel
theorem dX4_alone_78 : decode cX4_alone 78 = .ok (.iadd, 1) := by decide +kernel
theorem dX4_alone_79 : decode cX4_alone 79 = .ok (.istore_n 2, 1) := by decide +kernel
theorem dX4_alone_80 : decode cX4_alone 80 = .ok (.iinc 3 1, 3) := by decide +kernel
theorem dX4_alone_83 : decode cX4_alone 83 = .ok (.goto (-59), 3) := by decide +kernel
theorem dX4_alone_86 : decode cX4_alone 86 = .ok (.iload_n 2, 1) := by decide +kernel
theorem dX4_alone_87 : decode cX4_alone 87 = .ok (.ireturn, 1) := by decide +kernel
theorem dX4_count_0 : decode cX4_count 0 = .ok (.iload_n 1, 1) := by decide +kernel
theorem dX4_count_1 : decode cX4_count 1 = .ok (.tableswitch 87 0 4 #[35, 43, 51, 59, 71], 35) := by decide +kernel
theorem dX4_count_36 : decode cX4_count 36 = .ok (.aload_n 0, 1) := by decide +kernel
theorem dX4_count_37 : decode cX4_count 37 = .ok (.getfield 12, 3) := by decide +kernel
theorem dX4_count_40 : decode cX4_count 40 = .ok (.getfield 48, 3) := by decide +kernel
theorem dX4_count_43 : decode cX4_count 43 = .ok (.ireturn, 1) := by decide +kernel
theorem dX4_count_44 : decode cX4_count 44 = .ok (.aload_n 0, 1) := by decide +kernel
theorem dX4_count_45 : decode cX4_count 45 = .ok (.getfield 12, 3) := by decide +kernel
theorem dX4_count_48 : decode cX4_count 48 = .ok (.getfield 71, 3) := by decide +kernel
theorem dX4_count_51 : decode cX4_count 51 = .ok (.ireturn, 1) := by decide +kernel
theorem dX4_count_52 : decode cX4_count 52 = .ok (.aload_n 0, 1) := by decide +kernel
theorem dX4_count_53 : decode cX4_count 53 = .ok (.getfield 12, 3) := by decide +kernel
theorem dX4_count_56 : decode cX4_count 56 = .ok (.getfield 134, 3) := by decide +kernel
theorem dX4_count_59 : decode cX4_count 59 = .ok (.ireturn, 1) := by decide +kernel
theorem dX4_count_60 : decode cX4_count 60 = .ok (.aload_n 0, 1) := by decide +kernel
theorem dX4_count_61 : decode cX4_count 61 = .ok (.getfield 19, 3) := by decide +kernel
theorem dX4_count_64 : decode cX4_count 64 = .ok (.aload_n 0, 1) := by decide +kernel
theorem dX4_count_65 : decode cX4_count 65 = .ok (.getfield 12, 3) := by decide +kernel
theorem dX4_count_68 : decode cX4_count 68 = .ok (.invokevirtual 183, 3) := by decide +kernel
theorem dX4_count_71 : decode cX4_count 71 = .ok (.ireturn, 1) := by decide +kernel
theorem dX4_count_72 : decode cX4_count 72 = .ok (.aload_n 0, 1) := by decide +kernel
theorem dX4_count_73 : decode cX4_count 73 = .ok (.invokevirtual 114, 3) := by decide +kernel
theorem dX4_count_76 : decode cX4_count 76 = .ok (.aload_n 0, 1) := by decide +kernel
theorem dX4_count_77 : decode cX4_count 77 = .ok (.getfield 33, 3) := by decide +kernel
theorem dX4_count_80 : decode cX4_count 80 = .ok (.aload_n 0, 1) := by decide +kernel
theorem dX4_count_81 : decode cX4_count 81 = .ok (.getfield 12, 3) := by decide +kernel
theorem dX4_count_84 : decode cX4_count 84 = .ok (.invokevirtual 187, 3) := by decide +kernel
theorem dX4_count_87 : decode cX4_count 87 = .ok (.ireturn, 1) := by decide +kernel
theorem dX4_count_88 : decode cX4_count 88 = .ok (.iconst (-1), 1) := by decide +kernel
theorem dX4_count_89 : decode cX4_count 89 = .ok (.ireturn, 1) := by decide +kernel
theorem dX4_countsByPlay_0 : decode cX4_countsByPlay 0 = .ok (.aload_n 0, 1) := by decide +kernel
theorem dX4_countsByPlay_1 : decode cX4_countsByPlay 1 = .ok (.invokevirtual 114, 3) := by decide +kernel
theorem dX4_countsByPlay_4 : decode cX4_countsByPlay 4 = .ok (.lconst 0, 1) := by decide +kernel
theorem dX4_countsByPlay_5 : decode cX4_countsByPlay 5 = .ok (.lstore 5, 2) := by decide +kernel
theorem dX4_countsByPlay_7 : decode cX4_countsByPlay 7 = .ok (.iconst 0, 1) := by decide +kernel
theorem dX4_countsByPlay_8 : decode cX4_countsByPlay 8 = .ok (.istore 7, 2) := by decide +kernel
theorem dX4_countsByPlay_10 : decode cX4_countsByPlay 10 = .ok (.iload 7, 2) := by decide +kernel
theorem dX4_countsByPlay_12 : decode cX4_countsByPlay 12 = .ok (.aload_n 0, 1) := by decide +kernel
theorem dX4_countsByPlay_13 : decode cX4_countsByPlay 13 = .ok (.getfield 12, 3) := by decide +kernel
theorem dX4_countsByPlay_16 : decode cX4_countsByPlay 16 = .ok (.invokevirtual 126, 3) := by decide +kernel
theorem dX4_countsByPlay_19 : decode cX4_countsByPlay 19 = .ok (.if_icmp .ge 66, 3) := by decide +kernel
theorem dX4_countsByPlay_22 : decode cX4_countsByPlay 22 = .ok (.aload_n 0, 1) := by decide +kernel
theorem dX4_countsByPlay_23 : decode cX4_countsByPlay 23 = .ok (.getfield 12, 3) := by decide +kernel
theorem dX4_countsByPlay_26 : decode cX4_countsByPlay 26 = .ok (.getfield 180, 3) := by decide +kernel
theorem dX4_countsByPlay_29 : decode cX4_countsByPlay 29 = .ok (.iload 7, 2) := by decide +kernel
theorem dX4_countsByPlay_31 : decode cX4_countsByPlay 31 = .ok (.iaload, 1) := by decide +kernel
theorem dX4_countsByPlay_32 : decode cX4_countsByPlay 32 = .ok (.iload_n 1, 1) := by decide +kernel
theorem dX4_countsByPlay_33 : decode cX4_countsByPlay 33 = .ok (.if_icmp .ne 46, 3) := by decide +kernel
theorem dX4_countsByPlay_36 : decode cX4_countsByPlay 36 = .ok (.lload 5, 2) := by decide +kernel
theorem dX4_countsByPlay_38 : decode cX4_countsByPlay 38 = .ok (.aload_n 0, 1) := by decide +kernel
theorem dX4_countsByPlay_39 : decode cX4_countsByPlay 39 = .ok (.getfield 33, 3) := by decide +kernel
theorem dX4_countsByPlay_42 : decode cX4_countsByPlay 42 = .ok (.getfield 117, 3) := by decide +kernel
theorem dX4_countsByPlay_45 : decode cX4_countsByPlay 45 = .ok (.iload 7, 2) := by decide +kernel
theorem dX4_countsByPlay_47 : decode cX4_countsByPlay 47 = .ok (.iaload, 1) := by decide +kernel
theorem dX4_countsByPlay_48 : decode cX4_countsByPlay 48 = .ok (.aload_n 0, 1) := by decide +kernel
theorem dX4_countsByPlay_49 : decode cX4_countsByPlay 49 = .ok (.getfield 33, 3) := by decide +kernel
theorem dX4_countsByPlay_52 : decode cX4_countsByPlay 52 = .ok (.getfield 120, 3) := by decide +kernel
theorem dX4_countsByPlay_55 : decode cX4_countsByPlay 55 = .ok (.iload 7, 2) := by decide +kernel
theorem dX4_countsByPlay_57 : decode cX4_countsByPlay 57 = .ok (.iaload, 1) := by decide +kernel
theorem dX4_countsByPlay_58 : decode cX4_countsByPlay 58 = .ok (.aload_n 0, 1) := by decide +kernel
theorem dX4_countsByPlay_59 : decode cX4_countsByPlay 59 = .ok (.getfield 33, 3) := by decide +kernel
theorem dX4_countsByPlay_62 : decode cX4_countsByPlay 62 = .ok (.getfield 123, 3) := by decide +kernel
theorem dX4_countsByPlay_65 : decode cX4_countsByPlay 65 = .ok (.iload 7, 2) := by decide +kernel
theorem dX4_countsByPlay_67 : decode cX4_countsByPlay 67 = .ok (.iaload, 1) := by decide +kernel
theorem dX4_countsByPlay_68 : decode cX4_countsByPlay 68 = .ok (.iload_n 2, 1) := by decide +kernel
theorem dX4_countsByPlay_69 : decode cX4_countsByPlay 69 = .ok (.iload_n 3, 1) := by decide +kernel
theorem dX4_countsByPlay_70 : decode cX4_countsByPlay 70 = .ok (.iload 4, 2) := by decide +kernel
theorem dX4_countsByPlay_72 : decode cX4_countsByPlay 72 = .ok (.invokestatic 190, 3) := by decide +kernel
theorem dX4_countsByPlay_75 : decode cX4_countsByPlay 75 = .ok (.i2l, 1) := by decide +kernel
theorem dX4_countsByPlay_76 : decode cX4_countsByPlay 76 = .ok (.ladd, 1) := by decide +kernel
theorem dX4_countsByPlay_77 : decode cX4_countsByPlay 77 = .ok (.lstore 5, 2) := by decide +kernel
theorem dX4_countsByPlay_79 : decode cX4_countsByPlay 79 = .ok (.iinc 7 1, 3) := by decide +kernel
theorem dX4_countsByPlay_82 : decode cX4_countsByPlay 82 = .ok (.goto (-72), 3) := by decide +kernel
theorem dX4_countsByPlay_85 : decode cX4_countsByPlay 85 = .ok (.lload 5, 2) := by decide +kernel
theorem dX4_countsByPlay_87 : decode cX4_countsByPlay 87 = .ok (.lreturn, 1) := by decide +kernel
theorem dX4_countsByTracks_0 : decode cX4_countsByTracks 0 = .ok (.lconst 0, 1) := by decide +kernel
theorem dX4_countsByTracks_1 : decode cX4_countsByTracks 1 = .ok (.lstore 5, 2) := by decide +kernel
theorem dX4_countsByTracks_3 : decode cX4_countsByTracks 3 = .ok (.iconst 0, 1) := by decide +kernel
theorem dX4_countsByTracks_4 : decode cX4_countsByTracks 4 = .ok (.istore 7, 2) := by decide +kernel
theorem dX4_countsByTracks_6 : decode cX4_countsByTracks 6 = .ok (.iload 7, 2) := by decide +kernel
theorem dX4_countsByTracks_8 : decode cX4_countsByTracks 8 = .ok (.aload_n 0, 1) := by decide +kernel
theorem dX4_countsByTracks_9 : decode cX4_countsByTracks 9 = .ok (.getfield 12, 3) := by decide +kernel
theorem dX4_countsByTracks_12 : decode cX4_countsByTracks 12 = .ok (.invokevirtual 126, 3) := by decide +kernel
theorem dX4_countsByTracks_15 : decode cX4_countsByTracks 15 = .ok (.if_icmp .ge 83, 3) := by decide +kernel
theorem dX4_countsByTracks_18 : decode cX4_countsByTracks 18 = .ok (.aload_n 0, 1) := by decide +kernel
theorem dX4_countsByTracks_19 : decode cX4_countsByTracks 19 = .ok (.getfield 12, 3) := by decide +kernel
theorem dX4_countsByTracks_22 : decode cX4_countsByTracks 22 = .ok (.getfield 180, 3) := by decide +kernel
theorem dX4_countsByTracks_25 : decode cX4_countsByTracks 25 = .ok (.iload 7, 2) := by decide +kernel
theorem dX4_countsByTracks_27 : decode cX4_countsByTracks 27 = .ok (.iaload, 1) := by decide +kernel
theorem dX4_countsByTracks_28 : decode cX4_countsByTracks 28 = .ok (.iload_n 1, 1) := by decide +kernel
theorem dX4_countsByTracks_29 : decode cX4_countsByTracks 29 = .ok (.if_icmp .ne 19, 3) := by decide +kernel
theorem dX4_countsByTracks_32 : decode cX4_countsByTracks 32 = .ok (.aload_n 0, 1) := by decide +kernel
theorem dX4_countsByTracks_33 : decode cX4_countsByTracks 33 = .ok (.getfield 19, 3) := by decide +kernel
theorem dX4_countsByTracks_36 : decode cX4_countsByTracks 36 = .ok (.aload_n 0, 1) := by decide +kernel
theorem dX4_countsByTracks_37 : decode cX4_countsByTracks 37 = .ok (.getfield 12, 3) := by decide +kernel
theorem dX4_countsByTracks_40 : decode cX4_countsByTracks 40 = .ok (.iload 7, 2) := by decide +kernel
theorem dX4_countsByTracks_42 : decode cX4_countsByTracks 42 = .ok (.invokevirtual 194, 3) := by decide +kernel
theorem dX4_countsByTracks_45 : decode cX4_countsByTracks 45 = .ok (.goto 4, 3) := by decide +kernel
theorem dX4_countsByTracks_48 : decode cX4_countsByTracks 48 = .ok (.iconst (-1), 1) := by decide +kernel
theorem dX4_countsByTracks_49 : decode cX4_countsByTracks 49 = .ok (.istore 8, 2) := by decide +kernel
theorem dX4_countsByTracks_51 : decode cX4_countsByTracks 51 = .ok (.iload 8, 2) := by decide +kernel
theorem dX4_countsByTracks_53 : decode cX4_countsByTracks 53 = .ok (.iconst (-1), 1) := by decide +kernel
theorem dX4_countsByTracks_54 : decode cX4_countsByTracks 54 = .ok (.if_icmp .eq 38, 3) := by decide +kernel
theorem dX4_countsByTracks_57 : decode cX4_countsByTracks 57 = .ok (.lload 5, 2) := by decide +kernel
theorem dX4_countsByTracks_59 : decode cX4_countsByTracks 59 = .ok (.iload 8, 2) := by decide +kernel
theorem dX4_countsByTracks_61 : decode cX4_countsByTracks 61 = .ok (.aload_n 0, 1) := by decide +kernel
theorem dX4_countsByTracks_62 : decode cX4_countsByTracks 62 = .ok (.getfield 19, 3) := by decide +kernel
theorem dX4_countsByTracks_65 : decode cX4_countsByTracks 65 = .ok (.getfield 137, 3) := by decide +kernel
theorem dX4_countsByTracks_68 : decode cX4_countsByTracks 68 = .ok (.iload 7, 2) := by decide +kernel
theorem dX4_countsByTracks_70 : decode cX4_countsByTracks 70 = .ok (.iaload, 1) := by decide +kernel
theorem dX4_countsByTracks_71 : decode cX4_countsByTracks 71 = .ok (.aload_n 0, 1) := by decide +kernel
theorem dX4_countsByTracks_72 : decode cX4_countsByTracks 72 = .ok (.getfield 19, 3) := by decide +kernel
theorem dX4_countsByTracks_75 : decode cX4_countsByTracks 75 = .ok (.getfield 138, 3) := by decide +kernel
theorem dX4_countsByTracks_78 : decode cX4_countsByTracks 78 = .ok (.iload 7, 2) := by decide +kernel
theorem dX4_countsByTracks_80 : decode cX4_countsByTracks 80 = .ok (.iaload, 1) := by decide +kernel
theorem dX4_countsByTracks_81 : decode cX4_countsByTracks 81 = .ok (.iload_n 2, 1) := by decide +kernel
theorem dX4_countsByTracks_82 : decode cX4_countsByTracks 82 = .ok (.iload_n 3, 1) := by decide +kernel
theorem dX4_countsByTracks_83 : decode cX4_countsByTracks 83 = .ok (.iload 4, 2) := by decide +kernel
theorem dX4_countsByTracks_85 : decode cX4_countsByTracks 85 = .ok (.invokestatic 190, 3) := by decide +kernel
theorem dX4_countsByTracks_88 : decode cX4_countsByTracks 88 = .ok (.i2l, 1) := by decide +kernel
theorem dX4_countsByTracks_89 : decode cX4_countsByTracks 89 = .ok (.ladd, 1) := by decide +kernel
theorem dX4_countsByTracks_90 : decode cX4_countsByTracks 90 = .ok (.lstore 5, 2) := by decide +kernel
theorem dX4_countsByTracks_92 : decode cX4_countsByTracks 92 = .ok (.iinc 7 1, 3) := by decide +kernel
theorem dX4_countsByTracks_95 : decode cX4_countsByTracks 95 = .ok (.goto (-89), 3) := by decide +kernel
theorem dX4_countsByTracks_98 : decode cX4_countsByTracks 98 = .ok (.lload 5, 2) := by decide +kernel
theorem dX4_countsByTracks_100 : decode cX4_countsByTracks 100 = .ok (.lreturn, 1) := by decide +kernel
theorem dX4_share_0 : decode cX4_share 0 = .ok (.iload 5, 2) := by decide +kernel
theorem dX4_share_2 : decode cX4_share 2 = .ok (.tableswitch 69 0 2 #[26, 43, 60], 26) := by decide +kernel
theorem dX4_share_28 : decode cX4_share 28 = .ok (.iload_n 0, 1) := by decide +kernel
theorem dX4_share_29 : decode cX4_share 29 = .ok (.iload_n 3, 1) := by decide +kernel
theorem dX4_share_30 : decode cX4_share 30 = .ok (.if_icmp .lt 13, 3) := by decide +kernel
theorem dX4_share_33 : decode cX4_share 33 = .ok (.iload_n 0, 1) := by decide +kernel
theorem dX4_share_34 : decode cX4_share 34 = .ok (.iload 4, 2) := by decide +kernel
theorem dX4_share_36 : decode cX4_share 36 = .ok (.if_icmp .ge 7, 3) := by decide +kernel
theorem dX4_share_39 : decode cX4_share 39 = .ok (.iconst 1, 1) := by decide +kernel
theorem dX4_share_40 : decode cX4_share 40 = .ok (.goto 4, 3) := by decide +kernel
theorem dX4_share_43 : decode cX4_share 43 = .ok (.iconst 0, 1) := by decide +kernel
theorem dX4_share_44 : decode cX4_share 44 = .ok (.ireturn, 1) := by decide +kernel
theorem dX4_share_45 : decode cX4_share 45 = .ok (.iload_n 2, 1) := by decide +kernel
theorem dX4_share_46 : decode cX4_share 46 = .ok (.iload_n 3, 1) := by decide +kernel
theorem dX4_share_47 : decode cX4_share 47 = .ok (.if_icmp .lt 13, 3) := by decide +kernel
theorem dX4_share_50 : decode cX4_share 50 = .ok (.iload_n 2, 1) := by decide +kernel
theorem dX4_share_51 : decode cX4_share 51 = .ok (.iload 4, 2) := by decide +kernel
theorem dX4_share_53 : decode cX4_share 53 = .ok (.if_icmp .ge 7, 3) := by decide +kernel
theorem dX4_share_56 : decode cX4_share 56 = .ok (.iconst 1, 1) := by decide +kernel
theorem dX4_share_57 : decode cX4_share 57 = .ok (.goto 4, 3) := by decide +kernel
theorem dX4_share_60 : decode cX4_share 60 = .ok (.iconst 0, 1) := by decide +kernel
theorem dX4_share_61 : decode cX4_share 61 = .ok (.ireturn, 1) := by decide +kernel
theorem dX4_share_62 : decode cX4_share 62 = .ok (.iload_n 0, 1) := by decide +kernel
theorem dX4_share_63 : decode cX4_share 63 = .ok (.iload_n 2, 1) := by decide +kernel
theorem dX4_share_64 : decode cX4_share 64 = .ok (.iload_n 3, 1) := by decide +kernel
theorem dX4_share_65 : decode cX4_share 65 = .ok (.iload 4, 2) := by decide +kernel
theorem dX4_share_67 : decode cX4_share 67 = .ok (.invokestatic 198, 3) := by decide +kernel
theorem dX4_share_70 : decode cX4_share 70 = .ok (.ireturn, 1) := by decide +kernel
theorem dX4_share_71 : decode cX4_share 71 = .ok (.iload_n 1, 1) := by decide +kernel
theorem dX4_share_72 : decode cX4_share 72 = .ok (.iload_n 2, 1) := by decide +kernel
theorem dX4_share_73 : decode cX4_share 73 = .ok (.iload_n 3, 1) := by decide +kernel
theorem dX4_share_74 : decode cX4_share 74 = .ok (.iload 4, 2) := by decide +kernel
theorem dX4_share_76 : decode cX4_share 76 = .ok (.invokestatic 198, 3) := by decide +kernel
theorem dX4_share_79 : decode cX4_share 79 = .ok (.ireturn, 1) := by decide +kernel
theorem dX4_ticksShared_0 : decode cX4_ticksShared 0 = .ok (.iconst 0, 1) := by decide +kernel
theorem dX4_ticksShared_1 : decode cX4_ticksShared 1 = .ok (.iload_n 1, 1) := by decide +kernel
theorem dX4_ticksShared_2 : decode cX4_ticksShared 2 = .ok (.iload_n 3, 1) := by decide +kernel
theorem dX4_ticksShared_3 : decode cX4_ticksShared 3 = .ok (.invokestatic 202, 3) := by decide +kernel
theorem dX4_ticksShared_6 : decode cX4_ticksShared 6 = .ok (.iload_n 0, 1) := by decide +kernel
theorem dX4_ticksShared_7 : decode cX4_ticksShared 7 = .ok (.iload_n 2, 1) := by decide +kernel
theorem dX4_ticksShared_8 : decode cX4_ticksShared 8 = .ok (.invokestatic 207, 3) := by decide +kernel
theorem dX4_ticksShared_11 : decode cX4_ticksShared 11 = .ok (.isub, 1) := by decide +kernel
theorem dX4_ticksShared_12 : decode cX4_ticksShared 12 = .ok (.invokestatic 207, 3) := by decide +kernel
theorem dX4_ticksShared_15 : decode cX4_ticksShared 15 = .ok (.ireturn, 1) := by decide +kernel
theorem dX4_gainAt_0 : decode cX4_gainAt 0 = .ok (.aload_n 0, 1) := by decide +kernel
theorem dX4_gainAt_1 : decode cX4_gainAt 1 = .ok (.getfield 37, 3) := by decide +kernel
theorem dX4_gainAt_4 : decode cX4_gainAt 4 = .ok (.aload_n 0, 1) := by decide +kernel
theorem dX4_gainAt_5 : decode cX4_gainAt 5 = .ok (.getfield 12, 3) := by decide +kernel
theorem dX4_gainAt_8 : decode cX4_gainAt 8 = .ok (.iload_n 1, 1) := by decide +kernel
theorem dX4_gainAt_9 : decode cX4_gainAt 9 = .ok (.invokevirtual 210, 3) := by decide +kernel
theorem dX4_gainAt_12 : decode cX4_gainAt 12 = .ok (.aload_n 0, 1) := by decide +kernel
theorem dX4_gainAt_13 : decode cX4_gainAt 13 = .ok (.getfield 33, 3) := by decide +kernel
theorem dX4_gainAt_16 : decode cX4_gainAt 16 = .ok (.aload_n 0, 1) := by decide +kernel
theorem dX4_gainAt_17 : decode cX4_gainAt 17 = .ok (.getfield 12, 3) := by decide +kernel
theorem dX4_gainAt_20 : decode cX4_gainAt 20 = .ok (.invokevirtual 159, 3) := by decide +kernel
theorem dX4_gainAt_23 : decode cX4_gainAt 23 = .ok (.aload_n 0, 1) := by decide +kernel
theorem dX4_gainAt_24 : decode cX4_gainAt 24 = .ok (.getfield 37, 3) := by decide +kernel
theorem dX4_gainAt_27 : decode cX4_gainAt 27 = .ok (.aload_n 0, 1) := by decide +kernel
theorem dX4_gainAt_28 : decode cX4_gainAt 28 = .ok (.getfield 12, 3) := by decide +kernel
theorem dX4_gainAt_31 : decode cX4_gainAt 31 = .ok (.invokevirtual 159, 3) := by decide +kernel
theorem dX4_gainAt_34 : decode cX4_gainAt 34 = .ok (.lsub, 1) := by decide +kernel
theorem dX4_gainAt_35 : decode cX4_gainAt 35 = .ok (.lreturn, 1) := by decide +kernel
theorem dX4_refreshPlay_0 : decode cX4_refreshPlay 0 = .ok (.aload_n 0, 1) := by decide +kernel
theorem dX4_refreshPlay_1 : decode cX4_refreshPlay 1 = .ok (.getfield 40, 3) := by decide +kernel
theorem dX4_refreshPlay_4 : decode cX4_refreshPlay 4 = .ok (.ifCond .ne 20, 3) := by decide +kernel
theorem dX4_refreshPlay_7 : decode cX4_refreshPlay 7 = .ok (.aload_n 0, 1) := by decide +kernel
theorem dX4_refreshPlay_8 : decode cX4_refreshPlay 8 = .ok (.getfield 33, 3) := by decide +kernel
theorem dX4_refreshPlay_11 : decode cX4_refreshPlay 11 = .ok (.aload_n 0, 1) := by decide +kernel
theorem dX4_refreshPlay_12 : decode cX4_refreshPlay 12 = .ok (.getfield 12, 3) := by decide +kernel
theorem dX4_refreshPlay_15 : decode cX4_refreshPlay 15 = .ok (.iconst (-1), 1) := by decide +kernel
theorem dX4_refreshPlay_16 : decode cX4_refreshPlay 16 = .ok (.invokevirtual 210, 3) := by decide +kernel
theorem dX4_refreshPlay_19 : decode cX4_refreshPlay 19 = .ok (.aload_n 0, 1) := by decide +kernel
theorem dX4_refreshPlay_20 : decode cX4_refreshPlay 20 = .ok (.iconst 1, 1) := by decide +kernel
theorem dX4_refreshPlay_21 : decode cX4_refreshPlay 21 = .ok (.putfield 40, 3) := by decide +kernel
theorem dX4_refreshPlay_24 : decode cX4_refreshPlay 24 = .ok (.return_, 1) := by decide +kernel
theorem dX4_needPlace_0 : decode cX4_needPlace 0 = .ok (.iload_n 1, 1) := by decide +kernel
theorem dX4_needPlace_1 : decode cX4_needPlace 1 = .ok (.ifCond .lt 14, 3) := by decide +kernel
theorem dX4_needPlace_4 : decode cX4_needPlace 4 = .ok (.iload_n 1, 1) := by decide +kernel
theorem dX4_needPlace_5 : decode cX4_needPlace 5 = .ok (.aload_n 0, 1) := by decide +kernel
theorem dX4_needPlace_6 : decode cX4_needPlace 6 = .ok (.getfield 12, 3) := by decide +kernel
theorem dX4_needPlace_9 : decode cX4_needPlace 9 = .ok (.getfield 48, 3) := by decide +kernel
theorem dX4_needPlace_12 : decode cX4_needPlace 12 = .ok (.if_icmp .lt 13, 3) := by decide +kernel
theorem dX4_needPlace_15 : decode cX4_needPlace 15 = .ok (.new 214, 3) := by decide +kernel
theorem dX4_needPlace_18 : decode cX4_needPlace 18 = .ok (.dup, 1) := by decide +kernel
theorem dX4_needPlace_19 : decode cX4_needPlace 19 = .ok (.ldc 216, 2) := by decide +kernel
theorem dX4_needPlace_21 : decode cX4_needPlace 21 = .ok (.invokespecial 218, 3) := by decide +kernel
theorem dX4_needPlace_24 : decode cX4_needPlace 24 = .ok (.athrow, 1) := by decide +kernel
theorem dX4_needPlace_25 : decode cX4_needPlace 25 = .ok (.return_, 1) := by decide +kernel
theorem dX4_needAsk_0 : decode cX4_needAsk 0 = .ok (.iload_n 1, 1) := by decide +kernel
theorem dX4_needAsk_1 : decode cX4_needAsk 1 = .ok (.ifCond .lt 14, 3) := by decide +kernel
theorem dX4_needAsk_4 : decode cX4_needAsk 4 = .ok (.iload_n 1, 1) := by decide +kernel
theorem dX4_needAsk_5 : decode cX4_needAsk 5 = .ok (.aload_n 0, 1) := by decide +kernel
theorem dX4_needAsk_6 : decode cX4_needAsk 6 = .ok (.getfield 12, 3) := by decide +kernel
theorem dX4_needAsk_9 : decode cX4_needAsk 9 = .ok (.getfield 71, 3) := by decide +kernel
theorem dX4_needAsk_12 : decode cX4_needAsk 12 = .ok (.if_icmp .lt 13, 3) := by decide +kernel
theorem dX4_needAsk_15 : decode cX4_needAsk 15 = .ok (.new 214, 3) := by decide +kernel
theorem dX4_needAsk_18 : decode cX4_needAsk 18 = .ok (.dup, 1) := by decide +kernel
theorem dX4_needAsk_19 : decode cX4_needAsk 19 = .ok (.ldc 219, 2) := by decide +kernel
theorem dX4_needAsk_21 : decode cX4_needAsk 21 = .ok (.invokespecial 218, 3) := by decide +kernel
theorem dX4_needAsk_24 : decode cX4_needAsk 24 = .ok (.athrow, 1) := by decide +kernel
theorem dX4_needAsk_25 : decode cX4_needAsk 25 = .ok (.return_, 1) := by decide +kernel
theorem dX4_needStep_0 : decode cX4_needStep 0 = .ok (.aload_n 0, 1) := by decide +kernel
theorem dX4_needStep_1 : decode cX4_needStep 1 = .ok (.iload_n 1, 1) := by decide +kernel
theorem dX4_needStep_2 : decode cX4_needStep 2 = .ok (.invokevirtual 87, 3) := by decide +kernel
theorem dX4_needStep_5 : decode cX4_needStep 5 = .ok (.iload_n 2, 1) := by decide +kernel
theorem dX4_needStep_6 : decode cX4_needStep 6 = .ok (.ifCond .lt 16, 3) := by decide +kernel
theorem dX4_needStep_9 : decode cX4_needStep 9 = .ok (.iload_n 2, 1) := by decide +kernel
theorem dX4_needStep_10 : decode cX4_needStep 10 = .ok (.aload_n 0, 1) := by decide +kernel
theorem dX4_needStep_11 : decode cX4_needStep 11 = .ok (.getfield 12, 3) := by decide +kernel
theorem dX4_needStep_14 : decode cX4_needStep 14 = .ok (.getfield 90, 3) := by decide +kernel
theorem dX4_needStep_17 : decode cX4_needStep 17 = .ok (.iload_n 1, 1) := by decide +kernel
theorem dX4_needStep_18 : decode cX4_needStep 18 = .ok (.iaload, 1) := by decide +kernel
theorem dX4_needStep_19 : decode cX4_needStep 19 = .ok (.if_icmp .lt 13, 3) := by decide +kernel
theorem dX4_needStep_22 : decode cX4_needStep 22 = .ok (.new 214, 3) := by decide +kernel
theorem dX4_needStep_25 : decode cX4_needStep 25 = .ok (.dup, 1) := by decide +kernel
theorem dX4_needStep_26 : decode cX4_needStep 26 = .ok (.ldc 221, 2) := by decide +kernel
theorem dX4_needStep_28 : decode cX4_needStep 28 = .ok (.invokespecial 218, 3) := by decide +kernel
theorem dX4_needStep_31 : decode cX4_needStep 31 = .ok (.athrow, 1) := by decide +kernel
theorem dX4_needStep_32 : decode cX4_needStep 32 = .ok (.aload_n 0, 1) := by decide +kernel
theorem dX4_needStep_33 : decode cX4_needStep 33 = .ok (.getfield 12, 3) := by decide +kernel
theorem dX4_needStep_36 : decode cX4_needStep 36 = .ok (.iload_n 1, 1) := by decide +kernel
theorem dX4_needStep_37 : decode cX4_needStep 37 = .ok (.invokevirtual 167, 3) := by decide +kernel
theorem dX4_needStep_40 : decode cX4_needStep 40 = .ok (.iload_n 2, 1) := by decide +kernel
theorem dX4_needStep_41 : decode cX4_needStep 41 = .ok (.iadd, 1) := by decide +kernel
theorem dX4_needStep_42 : decode cX4_needStep 42 = .ok (.ireturn, 1) := by decide +kernel
theorem dX4_needPlaceNumbers_0 : decode cX4_needPlaceNumbers 0 = .ok (.iload_n 0, 1) := by decide +kernel
theorem dX4_needPlaceNumbers_1 : decode cX4_needPlaceNumbers 1 = .ok (.iconst 1, 1) := by decide +kernel
theorem dX4_needPlaceNumbers_2 : decode cX4_needPlaceNumbers 2 = .ok (.bipush 8, 2) := by decide +kernel
theorem dX4_needPlaceNumbers_4 : decode cX4_needPlaceNumbers 4 = .ok (.invokestatic 67, 3) := by decide +kernel
theorem dX4_needPlaceNumbers_7 : decode cX4_needPlaceNumbers 7 = .ok (.iload_n 1, 1) := by decide +kernel
theorem dX4_needPlaceNumbers_8 : decode cX4_needPlaceNumbers 8 = .ok (.iconst 0, 1) := by decide +kernel
theorem dX4_needPlaceNumbers_9 : decode cX4_needPlaceNumbers 9 = .ok (.iconst 3, 1) := by decide +kernel
theorem dX4_needPlaceNumbers_10 : decode cX4_needPlaceNumbers 10 = .ok (.invokestatic 67, 3) := by decide +kernel
theorem dX4_needPlaceNumbers_13 : decode cX4_needPlaceNumbers 13 = .ok (.iload_n 2, 1) := by decide +kernel
theorem dX4_needPlaceNumbers_14 : decode cX4_needPlaceNumbers 14 = .ok (.iconst 0, 1) := by decide +kernel
theorem dX4_needPlaceNumbers_15 : decode cX4_needPlaceNumbers 15 = .ok (.sipush 1000, 3) := by decide +kernel
theorem dX4_needPlaceNumbers_18 : decode cX4_needPlaceNumbers 18 = .ok (.invokestatic 67, 3) := by decide +kernel
theorem dX4_needPlaceNumbers_21 : decode cX4_needPlaceNumbers 21 = .ok (.return_, 1) := by decide +kernel
theorem dX4_needWithin_0 : decode cX4_needWithin 0 = .ok (.iload_n 0, 1) := by decide +kernel
theorem dX4_needWithin_1 : decode cX4_needWithin 1 = .ok (.iload_n 1, 1) := by decide +kernel
theorem dX4_needWithin_2 : decode cX4_needWithin 2 = .ok (.if_icmp .lt 8, 3) := by decide +kernel
theorem dX4_needWithin_5 : decode cX4_needWithin 5 = .ok (.iload_n 0, 1) := by decide +kernel
theorem dX4_needWithin_6 : decode cX4_needWithin 6 = .ok (.iload_n 2, 1) := by decide +kernel
theorem dX4_needWithin_7 : decode cX4_needWithin 7 = .ok (.if_icmp .le 13, 3) := by decide +kernel
theorem dX4_needWithin_10 : decode cX4_needWithin 10 = .ok (.new 98, 3) := by decide +kernel
theorem dX4_needWithin_13 : decode cX4_needWithin 13 = .ok (.dup, 1) := by decide +kernel
theorem dX4_needWithin_14 : decode cX4_needWithin 14 = .ok (.ldc 223, 2) := by decide +kernel
theorem dX4_needWithin_16 : decode cX4_needWithin 16 = .ok (.invokespecial 102, 3) := by decide +kernel
theorem dX4_needWithin_19 : decode cX4_needWithin 19 = .ok (.athrow, 1) := by decide +kernel
theorem dX4_needWithin_20 : decode cX4_needWithin 20 = .ok (.return_, 1) := by decide +kernel
theorem dX4_needWhat_0 : decode cX4_needWhat 0 = .ok (.iload_n 0, 1) := by decide +kernel
theorem dX4_needWhat_1 : decode cX4_needWhat 1 = .ok (.ifCond .lt 8, 3) := by decide +kernel
theorem dX4_needWhat_4 : decode cX4_needWhat 4 = .ok (.iload_n 0, 1) := by decide +kernel
theorem dX4_needWhat_5 : decode cX4_needWhat 5 = .ok (.iload_n 1, 1) := by decide +kernel
theorem dX4_needWhat_6 : decode cX4_needWhat 6 = .ok (.if_icmp .le 13, 3) := by decide +kernel
theorem dX4_needWhat_9 : decode cX4_needWhat 9 = .ok (.new 225, 3) := by decide +kernel
theorem dX4_needWhat_12 : decode cX4_needWhat 12 = .ok (.dup, 1) := by decide +kernel
theorem dX4_needWhat_13 : decode cX4_needWhat 13 = .ok (.ldc 227, 2) := by decide +kernel
theorem dX4_needWhat_15 : decode cX4_needWhat 15 = .ok (.invokespecial 229, 3) := by decide +kernel
theorem dX4_needWhat_18 : decode cX4_needWhat 18 = .ok (.athrow, 1) := by decide +kernel
theorem dX4_needWhat_19 : decode cX4_needWhat 19 = .ok (.return_, 1) := by decide +kernel
theorem dX4_rank_0 : decode cX4_rank 0 = .ok (.iload_n 0, 1) := by decide +kernel
theorem dX4_rank_1 : decode cX4_rank 1 = .ok (.tableswitch 51 1 3 #[27, 31, 41], 27) := by decide +kernel
theorem dX4_rank_28 : decode cX4_rank 28 = .ok (.iload_n 1, 1) := by decide +kernel
theorem dX4_rank_29 : decode cX4_rank 29 = .ok (.i2l, 1) := by decide +kernel
theorem dX4_rank_30 : decode cX4_rank 30 = .ok (.lneg, 1) := by decide +kernel
theorem dX4_rank_31 : decode cX4_rank 31 = .ok (.lreturn, 1) := by decide +kernel
theorem dX4_rank_32 : decode cX4_rank 32 = .ok (.iload_n 2, 1) := by decide +kernel
theorem dX4_rank_33 : decode cX4_rank 33 = .ok (.i2l, 1) := by decide +kernel
theorem dX4_rank_34 : decode cX4_rank 34 = .ok (.ldc2_w 230, 3) := by decide +kernel
theorem dX4_rank_37 : decode cX4_rank 37 = .ok (.lmul, 1) := by decide +kernel
theorem dX4_rank_38 : decode cX4_rank 38 = .ok (.iload_n 1, 1) := by decide +kernel
theorem dX4_rank_39 : decode cX4_rank 39 = .ok (.i2l, 1) := by decide +kernel
theorem dX4_rank_40 : decode cX4_rank 40 = .ok (.ladd, 1) := by decide +kernel
theorem dX4_rank_41 : decode cX4_rank 41 = .ok (.lreturn, 1) := by decide +kernel
theorem dX4_rank_42 : decode cX4_rank 42 = .ok (.iload_n 3, 1) := by decide +kernel
theorem dX4_rank_43 : decode cX4_rank 43 = .ok (.i2l, 1) := by decide +kernel
theorem dX4_rank_44 : decode cX4_rank 44 = .ok (.ldc2_w 230, 3) := by decide +kernel
theorem dX4_rank_47 : decode cX4_rank 47 = .ok (.lmul, 1) := by decide +kernel
theorem dX4_rank_48 : decode cX4_rank 48 = .ok (.iload_n 1, 1) := by decide +kernel
theorem dX4_rank_49 : decode cX4_rank 49 = .ok (.i2l, 1) := by decide +kernel
theorem dX4_rank_50 : decode cX4_rank 50 = .ok (.ladd, 1) := by decide +kernel
theorem dX4_rank_51 : decode cX4_rank 51 = .ok (.lreturn, 1) := by decide +kernel
theorem dX4_rank_52 : decode cX4_rank 52 = .ok (.iload_n 1, 1) := by decide +kernel
theorem dX4_rank_53 : decode cX4_rank 53 = .ok (.i2l, 1) := by decide +kernel
theorem dX4_rank_54 : decode cX4_rank 54 = .ok (.lreturn, 1) := by decide +kernel
theorem dX5_init_0 : decode cX5_init 0 = .ok (.aload_n 0, 1) := by decide +kernel
theorem dX5_init_1 : decode cX5_init 1 = .ok (.invokespecial 3, 3) := by decide +kernel
theorem dX5_init_4 : decode cX5_init 4 = .ok (.aload_n 0, 1) := by decide +kernel
theorem dX5_init_5 : decode cX5_init 5 = .ok (.iconst 5, 1) := by decide +kernel
theorem dX5_init_6 : decode cX5_init 6 = .ok (.newarray .int, 2) := by decide +kernel
theorem dX5_init_8 : decode cX5_init 8 = .ok (.putfield 9, 3) := by decide +kernel
theorem dX5_init_11 : decode cX5_init 11 = .ok (.aload_n 0, 1) := by decide +kernel
theorem dX5_init_12 : decode cX5_init 12 = .ok (.iconst 5, 1) := by decide +kernel
theorem dX5_init_13 : decode cX5_init 13 = .ok (.newarray .int, 2) := by decide +kernel
theorem dX5_init_15 : decode cX5_init 15 = .ok (.putfield 13, 3) := by decide +kernel
theorem dX5_init_18 : decode cX5_init 18 = .ok (.aload_n 0, 1) := by decide +kernel
theorem dX5_init_19 : decode cX5_init 19 = .ok (.iconst 5, 1) := by decide +kernel
theorem dX5_init_20 : decode cX5_init 20 = .ok (.newarray .int, 2) := by decide +kernel
theorem dX5_init_22 : decode cX5_init 22 = .ok (.putfield 16, 3) := by decide +kernel
theorem dX5_init_25 : decode cX5_init 25 = .ok (.aload_n 0, 1) := by decide +kernel
theorem dX5_init_26 : decode cX5_init 26 = .ok (.bipush 60, 2) := by decide +kernel
theorem dX5_init_28 : decode cX5_init 28 = .ok (.newarray .int, 2) := by decide +kernel
theorem dX5_init_30 : decode cX5_init 30 = .ok (.putfield 19, 3) := by decide +kernel
theorem dX5_init_33 : decode cX5_init 33 = .ok (.aload_n 0, 1) := by decide +kernel
theorem dX5_init_34 : decode cX5_init 34 = .ok (.bipush 60, 2) := by decide +kernel
theorem dX5_init_36 : decode cX5_init 36 = .ok (.newarray .int, 2) := by decide +kernel
theorem dX5_init_38 : decode cX5_init 38 = .ok (.putfield 22, 3) := by decide +kernel
theorem dX5_init_41 : decode cX5_init 41 = .ok (.aload_n 0, 1) := by decide +kernel
theorem dX5_init_42 : decode cX5_init 42 = .ok (.bipush 60, 2) := by decide +kernel
theorem dX5_init_44 : decode cX5_init 44 = .ok (.newarray .int, 2) := by decide +kernel
theorem dX5_init_46 : decode cX5_init 46 = .ok (.putfield 25, 3) := by decide +kernel
theorem dX5_init_49 : decode cX5_init 49 = .ok (.aload_n 0, 1) := by decide +kernel
theorem dX5_init_50 : decode cX5_init 50 = .ok (.sipush 300, 3) := by decide +kernel
theorem dX5_init_53 : decode cX5_init 53 = .ok (.newarray .int, 2) := by decide +kernel
theorem dX5_init_55 : decode cX5_init 55 = .ok (.putfield 28, 3) := by decide +kernel
theorem dX5_init_58 : decode cX5_init 58 = .ok (.aload_n 0, 1) := by decide +kernel
theorem dX5_init_59 : decode cX5_init 59 = .ok (.sipush 300, 3) := by decide +kernel
theorem dX5_init_62 : decode cX5_init 62 = .ok (.newarray .int, 2) := by decide +kernel
theorem dX5_init_64 : decode cX5_init 64 = .ok (.putfield 31, 3) := by decide +kernel
theorem dX5_init_67 : decode cX5_init 67 = .ok (.aload_n 0, 1) := by decide +kernel
theorem dX5_init_68 : decode cX5_init 68 = .ok (.sipush 300, 3) := by decide +kernel
theorem dX5_init_71 : decode cX5_init 71 = .ok (.newarray .boolean, 2) := by decide +kernel
theorem dX5_init_73 : decode cX5_init 73 = .ok (.putfield 34, 3) := by decide +kernel
theorem dX5_init_76 : decode cX5_init 76 = .ok (.aload_n 0, 1) := by decide +kernel
theorem dX5_init_77 : decode cX5_init 77 = .ok (.sipush 300, 3) := by decide +kernel
theorem dX5_init_80 : decode cX5_init 80 = .ok (.newarray .int, 2) := by decide +kernel
theorem dX5_init_82 : decode cX5_init 82 = .ok (.putfield 38, 3) := by decide +kernel
theorem dX5_init_85 : decode cX5_init 85 = .ok (.aload_n 0, 1) := by decide +kernel
theorem dX5_init_86 : decode cX5_init 86 = .ok (.sipush 300, 3) := by decide +kernel
theorem dX5_init_89 : decode cX5_init 89 = .ok (.newarray .int, 2) := by decide +kernel
theorem dX5_init_91 : decode cX5_init 91 = .ok (.putfield 41, 3) := by decide +kernel
theorem dX5_init_94 : decode cX5_init 94 = .ok (.aload_n 0, 1) := by decide +kernel
theorem dX5_init_95 : decode cX5_init 95 = .ok (.sipush 300, 3) := by decide +kernel
theorem dX5_init_98 : decode cX5_init 98 = .ok (.newarray .int, 2) := by decide +kernel
theorem dX5_init_100 : decode cX5_init 100 = .ok (.putfield 44, 3) := by decide +kernel
theorem dX5_init_103 : decode cX5_init 103 = .ok (.aload_n 0, 1) := by decide +kernel
theorem dX5_init_104 : decode cX5_init 104 = .ok (.sipush 300, 3) := by decide +kernel
theorem dX5_init_107 : decode cX5_init 107 = .ok (.newarray .int, 2) := by decide +kernel
theorem dX5_init_109 : decode cX5_init 109 = .ok (.putfield 47, 3) := by decide +kernel
theorem dX5_init_112 : decode cX5_init 112 = .ok (.aload_n 0, 1) := by decide +kernel
theorem dX5_init_113 : decode cX5_init 113 = .ok (.sipush 300, 3) := by decide +kernel
theorem dX5_init_116 : decode cX5_init 116 = .ok (.newarray .int, 2) := by decide +kernel
theorem dX5_init_118 : decode cX5_init 118 = .ok (.putfield 50, 3) := by decide +kernel
theorem dX5_init_121 : decode cX5_init 121 = .ok (.aload_n 0, 1) := by decide +kernel
theorem dX5_init_122 : decode cX5_init 122 = .ok (.sipush 300, 3) := by decide +kernel
theorem dX5_init_125 : decode cX5_init 125 = .ok (.newarray .boolean, 2) := by decide +kernel
theorem dX5_init_127 : decode cX5_init 127 = .ok (.putfield 53, 3) := by decide +kernel
theorem dX5_init_130 : decode cX5_init 130 = .ok (.aload_n 0, 1) := by decide +kernel
theorem dX5_init_131 : decode cX5_init 131 = .ok (.sipush 300, 3) := by decide +kernel
theorem dX5_init_134 : decode cX5_init 134 = .ok (.newarray .int, 2) := by decide +kernel
theorem dX5_init_136 : decode cX5_init 136 = .ok (.putfield 56, 3) := by decide +kernel
theorem dX5_init_139 : decode cX5_init 139 = .ok (.return_, 1) := by decide +kernel
theorem dX5_thrown_0 : decode cX5_thrown 0 = .ok (.aload_n 0, 1) := by decide +kernel
theorem dX5_thrown_1 : decode cX5_thrown 1 = .ok (.getfield 59, 3) := by decide +kernel
theorem dX5_thrown_4 : decode cX5_thrown 4 = .ok (.ireturn, 1) := by decide +kernel
theorem dX5_throwsIf_0 : decode cX5_throwsIf 0 = .ok (.iload_n 1, 1) := by decide +kernel
theorem dX5_throwsIf_1 : decode cX5_throwsIf 1 = .ok (.ifCond .eq 8, 3) := by decide +kernel
theorem dX5_throwsIf_4 : decode cX5_throwsIf 4 = .ok (.aload_n 0, 1) := by decide +kernel
theorem dX5_throwsIf_5 : decode cX5_throwsIf 5 = .ok (.iload_n 2, 1) := by decide +kernel
theorem dX5_throwsIf_6 : decode cX5_throwsIf 6 = .ok (.putfield 59, 3) := by decide +kernel
theorem dX5_throwsIf_9 : decode cX5_throwsIf 9 = .ok (.iload_n 1, 1) := by decide +kernel
theorem dX5_throwsIf_10 : decode cX5_throwsIf 10 = .ok (.ireturn, 1) := by decide +kernel
theorem dX5_in_0 : decode cX5_in 0 = .ok (.iload_n 0, 1) := by decide +kernel
theorem dX5_in_1 : decode cX5_in 1 = .ok (.iload_n 1, 1) := by decide +kernel
theorem dX5_in_2 : decode cX5_in 2 = .ok (.if_icmp .lt 12, 3) := by decide +kernel
theorem dX5_in_5 : decode cX5_in 5 = .ok (.iload_n 0, 1) := by decide +kernel
theorem dX5_in_6 : decode cX5_in 6 = .ok (.iload_n 2, 1) := by decide +kernel
theorem dX5_in_7 : decode cX5_in 7 = .ok (.if_icmp .gt 7, 3) := by decide +kernel
theorem dX5_in_10 : decode cX5_in 10 = .ok (.iconst 1, 1) := by decide +kernel
theorem dX5_in_11 : decode cX5_in 11 = .ok (.goto 4, 3) := by decide +kernel
theorem dX5_in_14 : decode cX5_in 14 = .ok (.iconst 0, 1) := by decide +kernel
theorem dX5_in_15 : decode cX5_in 15 = .ok (.ireturn, 1) := by decide +kernel
theorem dX5_noPlace_0 : decode cX5_noPlace 0 = .ok (.iload_n 1, 1) := by decide +kernel
theorem dX5_noPlace_1 : decode cX5_noPlace 1 = .ok (.iconst 0, 1) := by decide +kernel
theorem dX5_noPlace_2 : decode cX5_noPlace 2 = .ok (.aload_n 0, 1) := by decide +kernel
theorem dX5_noPlace_3 : decode cX5_noPlace 3 = .ok (.getfield 63, 3) := by decide +kernel
theorem dX5_noPlace_6 : decode cX5_noPlace 6 = .ok (.iconst 1, 1) := by decide +kernel
theorem dX5_noPlace_7 : decode cX5_noPlace 7 = .ok (.isub, 1) := by decide +kernel
theorem dX5_noPlace_8 : decode cX5_noPlace 8 = .ok (.invokestatic 66, 3) := by decide +kernel
theorem dX5_noPlace_11 : decode cX5_noPlace 11 = .ok (.ifCond .ne 7, 3) := by decide +kernel
theorem dX5_noPlace_14 : decode cX5_noPlace 14 = .ok (.iconst 1, 1) := by decide +kernel
theorem dX5_noPlace_15 : decode cX5_noPlace 15 = .ok (.goto 4, 3) := by decide +kernel
theorem dX5_noPlace_18 : decode cX5_noPlace 18 = .ok (.iconst 0, 1) := by decide +kernel
theorem dX5_noPlace_19 : decode cX5_noPlace 19 = .ok (.ireturn, 1) := by decide +kernel
theorem dX5_noAsk_0 : decode cX5_noAsk 0 = .ok (.iload_n 1, 1) := by decide +kernel
theorem dX5_noAsk_1 : decode cX5_noAsk 1 = .ok (.iconst 0, 1) := by decide +kernel
theorem dX5_noAsk_2 : decode cX5_noAsk 2 = .ok (.aload_n 0, 1) := by decide +kernel
theorem dX5_noAsk_3 : decode cX5_noAsk 3 = .ok (.getfield 70, 3) := by decide +kernel
theorem dX5_noAsk_6 : decode cX5_noAsk 6 = .ok (.iconst 1, 1) := by decide +kernel
theorem dX5_noAsk_7 : decode cX5_noAsk 7 = .ok (.isub, 1) := by decide +kernel
theorem dX5_noAsk_8 : decode cX5_noAsk 8 = .ok (.invokestatic 66, 3) := by decide +kernel
theorem dX5_noAsk_11 : decode cX5_noAsk 11 = .ok (.ifCond .ne 7, 3) := by decide +kernel
theorem dX5_noAsk_14 : decode cX5_noAsk 14 = .ok (.iconst 1, 1) := by decide +kernel
theorem dX5_noAsk_15 : decode cX5_noAsk 15 = .ok (.goto 4, 3) := by decide +kernel
theorem dX5_noAsk_18 : decode cX5_noAsk 18 = .ok (.iconst 0, 1) := by decide +kernel
theorem dX5_noAsk_19 : decode cX5_noAsk 19 = .ok (.ireturn, 1) := by decide +kernel
theorem dX5_noStep_0 : decode cX5_noStep 0 = .ok (.aload_n 0, 1) := by decide +kernel
theorem dX5_noStep_1 : decode cX5_noStep 1 = .ok (.iload_n 1, 1) := by decide +kernel
theorem dX5_noStep_2 : decode cX5_noStep 2 = .ok (.invokevirtual 73, 3) := by decide +kernel
theorem dX5_noStep_5 : decode cX5_noStep 5 = .ok (.ifCond .ne 19, 3) := by decide +kernel
theorem dX5_noStep_8 : decode cX5_noStep 8 = .ok (.iload_n 2, 1) := by decide +kernel
theorem dX5_noStep_9 : decode cX5_noStep 9 = .ok (.iconst 0, 1) := by decide +kernel
theorem dX5_noStep_10 : decode cX5_noStep 10 = .ok (.aload_n 0, 1) := by decide +kernel
theorem dX5_noStep_11 : decode cX5_noStep 11 = .ok (.getfield 25, 3) := by decide +kernel
theorem dX5_noStep_14 : decode cX5_noStep 14 = .ok (.iload_n 1, 1) := by decide +kernel
theorem dX5_noStep_15 : decode cX5_noStep 15 = .ok (.iaload, 1) := by decide +kernel
theorem dX5_noStep_16 : decode cX5_noStep 16 = .ok (.iconst 1, 1) := by decide +kernel
theorem dX5_noStep_17 : decode cX5_noStep 17 = .ok (.isub, 1) := by decide +kernel
theorem dX5_noStep_18 : decode cX5_noStep 18 = .ok (.invokestatic 66, 3) := by decide +kernel
theorem dX5_noStep_21 : decode cX5_noStep 21 = .ok (.ifCond .ne 7, 3) := by decide +kernel
theorem dX5_noStep_24 : decode cX5_noStep 24 = .ok (.iconst 1, 1) := by decide +kernel
theorem dX5_noStep_25 : decode cX5_noStep 25 = .ok (.goto 4, 3) := by decide +kernel
theorem dX5_noStep_28 : decode cX5_noStep 28 = .ok (.iconst 0, 1) := by decide +kernel
theorem dX5_noStep_29 : decode cX5_noStep 29 = .ok (.ireturn, 1) := by decide +kernel
theorem dX5_isPlace_0 : decode cX5_isPlace 0 = .ok (.iload_n 0, 1) := by decide +kernel
theorem dX5_isPlace_1 : decode cX5_isPlace 1 = .ok (.iconst 1, 1) := by decide +kernel
theorem dX5_isPlace_2 : decode cX5_isPlace 2 = .ok (.bipush 8, 2) := by decide +kernel
theorem dX5_isPlace_4 : decode cX5_isPlace 4 = .ok (.invokestatic 66, 3) := by decide +kernel
theorem dX5_isPlace_7 : decode cX5_isPlace 7 = .ok (.ifCond .eq 27, 3) := by decide +kernel
theorem dX5_isPlace_10 : decode cX5_isPlace 10 = .ok (.iload_n 1, 1) := by decide +kernel
theorem dX5_isPlace_11 : decode cX5_isPlace 11 = .ok (.iconst 0, 1) := by decide +kernel
theorem dX5_isPlace_12 : decode cX5_isPlace 12 = .ok (.iconst 3, 1) := by decide +kernel
theorem dX5_isPlace_13 : decode cX5_isPlace 13 = .ok (.invokestatic 66, 3) := by decide +kernel
theorem dX5_isPlace_16 : decode cX5_isPlace 16 = .ok (.ifCond .eq 18, 3) := by decide +kernel
theorem dX5_isPlace_19 : decode cX5_isPlace 19 = .ok (.iload_n 2, 1) := by decide +kernel
theorem dX5_isPlace_20 : decode cX5_isPlace 20 = .ok (.iconst 0, 1) := by decide +kernel
theorem dX5_isPlace_21 : decode cX5_isPlace 21 = .ok (.sipush 1000, 3) := by decide +kernel
theorem dX5_isPlace_24 : decode cX5_isPlace 24 = .ok (.invokestatic 66, 3) := by decide +kernel
theorem dX5_isPlace_27 : decode cX5_isPlace 27 = .ok (.ifCond .eq 7, 3) := by decide +kernel
theorem dX5_isPlace_30 : decode cX5_isPlace 30 = .ok (.iconst 1, 1) := by decide +kernel
theorem dX5_isPlace_31 : decode cX5_isPlace 31 = .ok (.goto 4, 3) := by decide +kernel
theorem dX5_isPlace_34 : decode cX5_isPlace 34 = .ok (.iconst 0, 1) := by decide +kernel
theorem dX5_isPlace_35 : decode cX5_isPlace 35 = .ok (.ireturn, 1) := by decide +kernel
theorem dX5_place_0 : decode cX5_place 0 = .ok (.aload_n 0, 1) := by decide +kernel
theorem dX5_place_1 : decode cX5_place 1 = .ok (.iconst 0, 1) := by decide +kernel
theorem dX5_place_2 : decode cX5_place 2 = .ok (.putfield 59, 3) := by decide +kernel
theorem dX5_place_5 : decode cX5_place 5 = .ok (.aload_n 0, 1) := by decide +kernel
theorem dX5_place_6 : decode cX5_place 6 = .ok (.iload_n 1, 1) := by decide +kernel
theorem dX5_place_7 : decode cX5_place 7 = .ok (.iload_n 2, 1) := by decide +kernel
theorem dX5_place_8 : decode cX5_place 8 = .ok (.iload_n 3, 1) := by decide +kernel
theorem dX5_place_9 : decode cX5_place 9 = .ok (.invokestatic 77, 3) := by decide +kernel
theorem dX5_place_12 : decode cX5_place 12 = .ok (.ifCond .ne 7, 3) := by decide +kernel
theorem dX5_place_15 : decode cX5_place 15 = .ok (.iconst 1, 1) := by decide +kernel
theorem dX5_place_16 : decode cX5_place 16 = .ok (.goto 4, 3) := by decide +kernel
theorem dX5_place_19 : decode cX5_place 19 = .ok (.iconst 0, 1) := by decide +kernel
theorem dX5_place_20 : decode cX5_place 20 = .ok (.iconst 1, 1) := by decide +kernel
theorem dX5_place_21 : decode cX5_place 21 = .ok (.invokevirtual 80, 3) := by decide +kernel
theorem dX5_place_24 : decode cX5_place 24 = .ok (.ifCond .ne 24, 3) := by decide +kernel
theorem dX5_place_27 : decode cX5_place 27 = .ok (.aload_n 0, 1) := by decide +kernel
theorem dX5_place_28 : decode cX5_place 28 = .ok (.aload_n 0, 1) := by decide +kernel
theorem dX5_place_29 : decode cX5_place 29 = .ok (.getfield 63, 3) := by decide +kernel
theorem dX5_place_32 : decode cX5_place 32 = .ok (.iconst 5, 1) := by decide +kernel
theorem dX5_place_33 : decode cX5_place 33 = .ok (.if_icmp .ne 7, 3) := by decide +kernel
theorem dX5_place_36 : decode cX5_place 36 = .ok (.iconst 1, 1) := by decide +kernel
theorem dX5_place_37 : decode cX5_place 37 = .ok (.goto 4, 3) := by decide +kernel
theorem dX5_place_40 : decode cX5_place 40 = .ok (.iconst 0, 1) := by decide +kernel
theorem dX5_place_41 : decode cX5_place 41 = .ok (.iconst 2, 1) := by decide +kernel
theorem dX5_place_42 : decode cX5_place 42 = .ok (.invokevirtual 80, 3) := by decide +kernel
theorem dX5_place_45 : decode cX5_place 45 = .ok (.ifCond .eq 5, 3) := by decide +kernel
theorem dX5_place_48 : decode cX5_place 48 = .ok (.iconst 0, 1) := by decide +kernel
theorem dX5_place_49 : decode cX5_place 49 = .ok (.ireturn, 1) := by decide +kernel
theorem dX5_place_50 : decode cX5_place 50 = .ok (.aload_n 0, 1) := by decide +kernel
theorem dX5_place_51 : decode cX5_place 51 = .ok (.getfield 9, 3) := by decide +kernel
theorem dX5_place_54 : decode cX5_place 54 = .ok (.aload_n 0, 1) := by decide +kernel
theorem dX5_place_55 : decode cX5_place 55 = .ok (.getfield 63, 3) := by decide +kernel
theorem dX5_place_58 : decode cX5_place 58 = .ok (.iload_n 1, 1) := by decide +kernel
theorem dX5_place_59 : decode cX5_place 59 = .ok (.iastore, 1) := by decide +kernel
theorem dX5_place_60 : decode cX5_place 60 = .ok (.aload_n 0, 1) := by decide +kernel
theorem dX5_place_61 : decode cX5_place 61 = .ok (.getfield 13, 3) := by decide +kernel
theorem dX5_place_64 : decode cX5_place 64 = .ok (.aload_n 0, 1) := by decide +kernel
theorem dX5_place_65 : decode cX5_place 65 = .ok (.getfield 63, 3) := by decide +kernel
theorem dX5_place_68 : decode cX5_place 68 = .ok (.iload_n 2, 1) := by decide +kernel
theorem dX5_place_69 : decode cX5_place 69 = .ok (.iastore, 1) := by decide +kernel
theorem dX5_place_70 : decode cX5_place 70 = .ok (.aload_n 0, 1) := by decide +kernel
theorem dX5_place_71 : decode cX5_place 71 = .ok (.getfield 16, 3) := by decide +kernel
theorem dX5_place_74 : decode cX5_place 74 = .ok (.aload_n 0, 1) := by decide +kernel
theorem dX5_place_75 : decode cX5_place 75 = .ok (.getfield 63, 3) := by decide +kernel
theorem dX5_place_78 : decode cX5_place 78 = .ok (.iload_n 3, 1) := by decide +kernel
theorem dX5_place_79 : decode cX5_place 79 = .ok (.iastore, 1) := by decide +kernel
theorem dX5_place_80 : decode cX5_place 80 = .ok (.aload_n 0, 1) := by decide +kernel
theorem dX5_place_81 : decode cX5_place 81 = .ok (.dup, 1) := by decide +kernel
theorem dX5_place_82 : decode cX5_place 82 = .ok (.getfield 63, 3) := by decide +kernel
theorem dX5_place_85 : decode cX5_place 85 = .ok (.iconst 1, 1) := by decide +kernel
theorem dX5_place_86 : decode cX5_place 86 = .ok (.iadd, 1) := by decide +kernel
theorem dX5_place_87 : decode cX5_place 87 = .ok (.putfield 63, 3) := by decide +kernel
theorem dX5_place_90 : decode cX5_place 90 = .ok (.aload_n 0, 1) := by decide +kernel
theorem dX5_place_91 : decode cX5_place 91 = .ok (.getfield 63, 3) := by decide +kernel
theorem dX5_place_94 : decode cX5_place 94 = .ok (.iconst 1, 1) := by decide +kernel
theorem dX5_place_95 : decode cX5_place 95 = .ok (.isub, 1) := by decide +kernel
theorem dX5_place_96 : decode cX5_place 96 = .ok (.ireturn, 1) := by decide +kernel
theorem dX5_change_0 : decode cX5_change 0 = .ok (.aload_n 0, 1) := by decide +kernel
theorem dX5_change_1 : decode cX5_change 1 = .ok (.iconst 0, 1) := by decide +kernel
theorem dX5_change_2 : decode cX5_change 2 = .ok (.putfield 59, 3) := by decide +kernel
theorem dX5_change_5 : decode cX5_change 5 = .ok (.aload_n 0, 1) := by decide +kernel
theorem dX5_change_6 : decode cX5_change 6 = .ok (.aload_n 0, 1) := by decide +kernel
theorem dX5_change_7 : decode cX5_change 7 = .ok (.iload_n 1, 1) := by decide +kernel
theorem dX5_change_8 : decode cX5_change 8 = .ok (.invokevirtual 84, 3) := by decide +kernel
theorem dX5_change_11 : decode cX5_change 11 = .ok (.iconst 1, 1) := by decide +kernel
theorem dX5_change_12 : decode cX5_change 12 = .ok (.invokevirtual 80, 3) := by decide +kernel
theorem dX5_change_15 : decode cX5_change 15 = .ok (.ifCond .ne 26, 3) := by decide +kernel
theorem dX5_change_18 : decode cX5_change 18 = .ok (.aload_n 0, 1) := by decide +kernel
theorem dX5_change_19 : decode cX5_change 19 = .ok (.iload_n 2, 1) := by decide +kernel
theorem dX5_change_20 : decode cX5_change 20 = .ok (.iload_n 3, 1) := by decide +kernel
theorem dX5_change_21 : decode cX5_change 21 = .ok (.iload 4, 2) := by decide +kernel
theorem dX5_change_23 : decode cX5_change 23 = .ok (.invokestatic 77, 3) := by decide +kernel
theorem dX5_change_26 : decode cX5_change 26 = .ok (.ifCond .ne 7, 3) := by decide +kernel
theorem dX5_change_29 : decode cX5_change 29 = .ok (.iconst 1, 1) := by decide +kernel
theorem dX5_change_30 : decode cX5_change 30 = .ok (.goto 4, 3) := by decide +kernel
theorem dX5_change_33 : decode cX5_change 33 = .ok (.iconst 0, 1) := by decide +kernel
theorem dX5_change_34 : decode cX5_change 34 = .ok (.iconst 2, 1) := by decide +kernel
theorem dX5_change_35 : decode cX5_change 35 = .ok (.invokevirtual 80, 3) := by decide +kernel
theorem dX5_change_38 : decode cX5_change 38 = .ok (.ifCond .eq 4, 3) := by decide +kernel
theorem dX5_change_41 : decode cX5_change 41 = .ok (.return_, 1) := by decide +kernel
theorem dX5_change_42 : decode cX5_change 42 = .ok (.aload_n 0, 1) := by decide +kernel
theorem dX5_change_43 : decode cX5_change 43 = .ok (.getfield 9, 3) := by decide +kernel
theorem dX5_change_46 : decode cX5_change 46 = .ok (.iload_n 1, 1) := by decide +kernel
theorem dX5_change_47 : decode cX5_change 47 = .ok (.iload_n 2, 1) := by decide +kernel
theorem dX5_change_48 : decode cX5_change 48 = .ok (.iastore, 1) := by decide +kernel
theorem dX5_change_49 : decode cX5_change 49 = .ok (.aload_n 0, 1) := by decide +kernel
theorem dX5_change_50 : decode cX5_change 50 = .ok (.getfield 13, 3) := by decide +kernel
theorem dX5_change_53 : decode cX5_change 53 = .ok (.iload_n 1, 1) := by decide +kernel
theorem dX5_change_54 : decode cX5_change 54 = .ok (.iload_n 3, 1) := by decide +kernel
theorem dX5_change_55 : decode cX5_change 55 = .ok (.iastore, 1) := by decide +kernel
theorem dX5_change_56 : decode cX5_change 56 = .ok (.aload_n 0, 1) := by decide +kernel
theorem dX5_change_57 : decode cX5_change 57 = .ok (.getfield 16, 3) := by decide +kernel
theorem dX5_change_60 : decode cX5_change 60 = .ok (.iload_n 1, 1) := by decide +kernel
theorem dX5_change_61 : decode cX5_change 61 = .ok (.iload 4, 2) := by decide +kernel
theorem dX5_change_63 : decode cX5_change 63 = .ok (.iastore, 1) := by decide +kernel
theorem dX5_change_64 : decode cX5_change 64 = .ok (.return_, 1) := by decide +kernel
theorem dX5_ask_0 : decode cX5_ask 0 = .ok (.aload_n 0, 1) := by decide +kernel
theorem dX5_ask_1 : decode cX5_ask 1 = .ok (.iconst 0, 1) := by decide +kernel
theorem dX5_ask_2 : decode cX5_ask 2 = .ok (.putfield 59, 3) := by decide +kernel
theorem dX5_ask_5 : decode cX5_ask 5 = .ok (.aload_n 0, 1) := by decide +kernel
theorem dX5_ask_6 : decode cX5_ask 6 = .ok (.aload_n 0, 1) := by decide +kernel
theorem dX5_ask_7 : decode cX5_ask 7 = .ok (.iload_n 3, 1) := by decide +kernel
theorem dX5_ask_8 : decode cX5_ask 8 = .ok (.invokevirtual 84, 3) := by decide +kernel
theorem dX5_ask_11 : decode cX5_ask 11 = .ok (.iconst 1, 1) := by decide +kernel
theorem dX5_ask_12 : decode cX5_ask 12 = .ok (.invokevirtual 80, 3) := by decide +kernel
theorem dX5_ask_15 : decode cX5_ask 15 = .ok (.ifCond .ne 69, 3) := by decide +kernel
theorem dX5_ask_18 : decode cX5_ask 18 = .ok (.aload_n 0, 1) := by decide +kernel
theorem dX5_ask_19 : decode cX5_ask 19 = .ok (.iload_n 1, 1) := by decide +kernel
theorem dX5_ask_20 : decode cX5_ask 20 = .ok (.iconst 0, 1) := by decide +kernel
theorem dX5_ask_21 : decode cX5_ask 21 = .ok (.iconst 3, 1) := by decide +kernel
theorem dX5_ask_22 : decode cX5_ask 22 = .ok (.invokestatic 66, 3) := by decide +kernel
theorem dX5_ask_25 : decode cX5_ask 25 = .ok (.ifCond .eq 25, 3) := by decide +kernel
theorem dX5_ask_28 : decode cX5_ask 28 = .ok (.iload_n 2, 1) := by decide +kernel
theorem dX5_ask_29 : decode cX5_ask 29 = .ok (.iconst 0, 1) := by decide +kernel
theorem dX5_ask_30 : decode cX5_ask 30 = .ok (.ldc 87, 2) := by decide +kernel
theorem dX5_ask_32 : decode cX5_ask 32 = .ok (.invokestatic 66, 3) := by decide +kernel
theorem dX5_ask_35 : decode cX5_ask 35 = .ok (.ifCond .eq 15, 3) := by decide +kernel
theorem dX5_ask_38 : decode cX5_ask 38 = .ok (.iload 4, 2) := by decide +kernel
theorem dX5_ask_40 : decode cX5_ask 40 = .ok (.iconst 1, 1) := by decide +kernel
theorem dX5_ask_41 : decode cX5_ask 41 = .ok (.sipush 1000, 3) := by decide +kernel
theorem dX5_ask_44 : decode cX5_ask 44 = .ok (.invokestatic 66, 3) := by decide +kernel
theorem dX5_ask_47 : decode cX5_ask 47 = .ok (.ifCond .ne 7, 3) := by decide +kernel
theorem dX5_ask_50 : decode cX5_ask 50 = .ok (.iconst 1, 1) := by decide +kernel
theorem dX5_ask_51 : decode cX5_ask 51 = .ok (.goto 4, 3) := by decide +kernel
theorem dX5_ask_54 : decode cX5_ask 54 = .ok (.iconst 0, 1) := by decide +kernel
theorem dX5_ask_55 : decode cX5_ask 55 = .ok (.iconst 2, 1) := by decide +kernel
theorem dX5_ask_56 : decode cX5_ask 56 = .ok (.invokevirtual 80, 3) := by decide +kernel
theorem dX5_ask_59 : decode cX5_ask 59 = .ok (.ifCond .ne 25, 3) := by decide +kernel
theorem dX5_ask_62 : decode cX5_ask 62 = .ok (.aload_n 0, 1) := by decide +kernel
theorem dX5_ask_63 : decode cX5_ask 63 = .ok (.aload_n 0, 1) := by decide +kernel
theorem dX5_ask_64 : decode cX5_ask 64 = .ok (.getfield 70, 3) := by decide +kernel
theorem dX5_ask_67 : decode cX5_ask 67 = .ok (.bipush 60, 2) := by decide +kernel
theorem dX5_ask_69 : decode cX5_ask 69 = .ok (.if_icmp .ne 7, 3) := by decide +kernel
theorem dX5_ask_72 : decode cX5_ask 72 = .ok (.iconst 1, 1) := by decide +kernel
theorem dX5_ask_73 : decode cX5_ask 73 = .ok (.goto 4, 3) := by decide +kernel
theorem dX5_ask_76 : decode cX5_ask 76 = .ok (.iconst 0, 1) := by decide +kernel
theorem dX5_ask_77 : decode cX5_ask 77 = .ok (.iconst 3, 1) := by decide +kernel
theorem dX5_ask_78 : decode cX5_ask 78 = .ok (.invokevirtual 80, 3) := by decide +kernel
theorem dX5_ask_81 : decode cX5_ask 81 = .ok (.ifCond .eq 5, 3) := by decide +kernel
theorem dX5_ask_84 : decode cX5_ask 84 = .ok (.iconst 0, 1) := by decide +kernel
theorem dX5_ask_85 : decode cX5_ask 85 = .ok (.ireturn, 1) := by decide +kernel
theorem dX5_ask_86 : decode cX5_ask 86 = .ok (.aload_n 0, 1) := by decide +kernel
theorem dX5_ask_87 : decode cX5_ask 87 = .ok (.getfield 19, 3) := by decide +kernel
theorem dX5_ask_90 : decode cX5_ask 90 = .ok (.aload_n 0, 1) := by decide +kernel
theorem dX5_ask_91 : decode cX5_ask 91 = .ok (.getfield 70, 3) := by decide +kernel
theorem dX5_ask_94 : decode cX5_ask 94 = .ok (.iload_n 1, 1) := by decide +kernel
theorem dX5_ask_95 : decode cX5_ask 95 = .ok (.iastore, 1) := by decide +kernel
theorem dX5_ask_96 : decode cX5_ask 96 = .ok (.aload_n 0, 1) := by decide +kernel
theorem dX5_ask_97 : decode cX5_ask 97 = .ok (.getfield 22, 3) := by decide +kernel
theorem dX5_ask_100 : decode cX5_ask 100 = .ok (.aload_n 0, 1) := by decide +kernel
theorem dX5_ask_101 : decode cX5_ask 101 = .ok (.getfield 70, 3) := by decide +kernel
theorem dX5_ask_104 : decode cX5_ask 104 = .ok (.iload_n 2, 1) := by decide +kernel
theorem dX5_ask_105 : decode cX5_ask 105 = .ok (.iastore, 1) := by decide +kernel
theorem dX5_ask_106 : decode cX5_ask 106 = .ok (.aload_n 0, 1) := by decide +kernel
theorem dX5_ask_107 : decode cX5_ask 107 = .ok (.getfield 28, 3) := by decide +kernel
theorem dX5_ask_110 : decode cX5_ask 110 = .ok (.iconst 5, 1) := by decide +kernel
theorem dX5_ask_111 : decode cX5_ask 111 = .ok (.aload_n 0, 1) := by decide +kernel
theorem dX5_ask_112 : decode cX5_ask 112 = .ok (.getfield 70, 3) := by decide +kernel
theorem dX5_ask_115 : decode cX5_ask 115 = .ok (.imul, 1) := by decide +kernel
theorem dX5_ask_116 : decode cX5_ask 116 = .ok (.iload_n 3, 1) := by decide +kernel
theorem dX5_ask_117 : decode cX5_ask 117 = .ok (.iastore, 1) := by decide +kernel
theorem dX5_ask_118 : decode cX5_ask 118 = .ok (.aload_n 0, 1) := by decide +kernel
theorem dX5_ask_119 : decode cX5_ask 119 = .ok (.getfield 31, 3) := by decide +kernel
theorem dX5_ask_122 : decode cX5_ask 122 = .ok (.iconst 5, 1) := by decide +kernel
theorem dX5_ask_123 : decode cX5_ask 123 = .ok (.aload_n 0, 1) := by decide +kernel
theorem dX5_ask_124 : decode cX5_ask 124 = .ok (.getfield 70, 3) := by decide +kernel
theorem dX5_ask_127 : decode cX5_ask 127 = .ok (.imul, 1) := by decide +kernel
theorem dX5_ask_128 : decode cX5_ask 128 = .ok (.iload 4, 2) := by decide +kernel
theorem dX5_ask_130 : decode cX5_ask 130 = .ok (.iastore, 1) := by decide +kernel
theorem dX5_ask_131 : decode cX5_ask 131 = .ok (.aload_n 0, 1) := by decide +kernel
theorem dX5_ask_132 : decode cX5_ask 132 = .ok (.getfield 25, 3) := by decide +kernel
theorem dX5_ask_135 : decode cX5_ask 135 = .ok (.aload_n 0, 1) := by decide +kernel
theorem dX5_ask_136 : decode cX5_ask 136 = .ok (.getfield 70, 3) := by decide +kernel
theorem dX5_ask_139 : decode cX5_ask 139 = .ok (.iconst 1, 1) := by decide +kernel
theorem dX5_ask_140 : decode cX5_ask 140 = .ok (.iastore, 1) := by decide +kernel
theorem dX5_ask_141 : decode cX5_ask 141 = .ok (.aload_n 0, 1) := by decide +kernel
theorem dX5_ask_142 : decode cX5_ask 142 = .ok (.dup, 1) := by decide +kernel
theorem dX5_ask_143 : decode cX5_ask 143 = .ok (.getfield 70, 3) := by decide +kernel
theorem dX5_ask_146 : decode cX5_ask 146 = .ok (.iconst 1, 1) := by decide +kernel
theorem dX5_ask_147 : decode cX5_ask 147 = .ok (.iadd, 1) := by decide +kernel
theorem dX5_ask_148 : decode cX5_ask 148 = .ok (.putfield 70, 3) := by decide +kernel
theorem dX5_ask_151 : decode cX5_ask 151 = .ok (.aload_n 0, 1) := by decide +kernel
theorem dX5_ask_152 : decode cX5_ask 152 = .ok (.getfield 70, 3) := by decide +kernel
theorem dX5_ask_155 : decode cX5_ask 155 = .ok (.iconst 1, 1) := by decide +kernel
theorem dX5_ask_156 : decode cX5_ask 156 = .ok (.isub, 1) := by decide +kernel
theorem dX5_ask_157 : decode cX5_ask 157 = .ok (.ireturn, 1) := by decide +kernel
theorem dX5_step_0 : decode cX5_step 0 = .ok (.aload_n 0, 1) := by decide +kernel
theorem dX5_step_1 : decode cX5_step 1 = .ok (.iconst 0, 1) := by decide +kernel
theorem dX5_step_2 : decode cX5_step 2 = .ok (.putfield 59, 3) := by decide +kernel
theorem dX5_step_5 : decode cX5_step 5 = .ok (.aload_n 0, 1) := by decide +kernel
theorem dX5_step_6 : decode cX5_step 6 = .ok (.aload_n 0, 1) := by decide +kernel
theorem dX5_step_7 : decode cX5_step 7 = .ok (.iload_n 1, 1) := by decide +kernel
theorem dX5_step_8 : decode cX5_step 8 = .ok (.invokevirtual 73, 3) := by decide +kernel
theorem dX5_step_11 : decode cX5_step 11 = .ok (.ifCond .ne 11, 3) := by decide +kernel
theorem dX5_step_14 : decode cX5_step 14 = .ok (.aload_n 0, 1) := by decide +kernel
theorem dX5_step_15 : decode cX5_step 15 = .ok (.iload_n 2, 1) := by decide +kernel
theorem dX5_step_16 : decode cX5_step 16 = .ok (.invokevirtual 84, 3) := by decide +kernel
theorem dX5_step_19 : decode cX5_step 19 = .ok (.ifCond .eq 7, 3) := by decide +kernel
theorem dX5_step_22 : decode cX5_step 22 = .ok (.iconst 1, 1) := by decide +kernel
theorem dX5_step_23 : decode cX5_step 23 = .ok (.goto 4, 3) := by decide +kernel
theorem dX5_step_26 : decode cX5_step 26 = .ok (.iconst 0, 1) := by decide +kernel
theorem dX5_step_27 : decode cX5_step 27 = .ok (.iconst 1, 1) := by decide +kernel
theorem dX5_step_28 : decode cX5_step 28 = .ok (.invokevirtual 80, 3) := by decide +kernel
theorem dX5_step_31 : decode cX5_step 31 = .ok (.ifCond .ne 27, 3) := by decide +kernel
theorem dX5_step_34 : decode cX5_step 34 = .ok (.aload_n 0, 1) := by decide +kernel
theorem dX5_step_35 : decode cX5_step 35 = .ok (.iload_n 3, 1) := by decide +kernel
theorem dX5_step_36 : decode cX5_step 36 = .ok (.iconst 1, 1) := by decide +kernel
theorem dX5_step_37 : decode cX5_step 37 = .ok (.sipush 1000, 3) := by decide +kernel
theorem dX5_step_40 : decode cX5_step 40 = .ok (.invokestatic 66, 3) := by decide +kernel
theorem dX5_step_43 : decode cX5_step 43 = .ok (.ifCond .ne 7, 3) := by decide +kernel
theorem dX5_step_46 : decode cX5_step 46 = .ok (.iconst 1, 1) := by decide +kernel
theorem dX5_step_47 : decode cX5_step 47 = .ok (.goto 4, 3) := by decide +kernel
theorem dX5_step_50 : decode cX5_step 50 = .ok (.iconst 0, 1) := by decide +kernel
theorem dX5_step_51 : decode cX5_step 51 = .ok (.iconst 2, 1) := by decide +kernel
theorem dX5_step_52 : decode cX5_step 52 = .ok (.invokevirtual 80, 3) := by decide +kernel
theorem dX5_step_55 : decode cX5_step 55 = .ok (.ifCond .eq 5, 3) := by decide +kernel
theorem dX5_step_58 : decode cX5_step 58 = .ok (.iconst 0, 1) := by decide +kernel
theorem dX5_step_59 : decode cX5_step 59 = .ok (.ireturn, 1) := by decide +kernel
theorem dX5_step_60 : decode cX5_step 60 = .ok (.aload_n 0, 1) := by decide +kernel
theorem dX5_step_61 : decode cX5_step 61 = .ok (.getfield 25, 3) := by decide +kernel
theorem dX5_step_64 : decode cX5_step 64 = .ok (.iload_n 1, 1) := by decide +kernel
theorem dX5_step_65 : decode cX5_step 65 = .ok (.iaload, 1) := by decide +kernel
theorem dX5_step_66 : decode cX5_step 66 = .ok (.iconst 5, 1) := by decide +kernel
theorem dX5_step_67 : decode cX5_step 67 = .ok (.if_icmp .ne 5, 3) := by decide +kernel
theorem dX5_step_70 : decode cX5_step 70 = .ok (.iconst (-1), 1) := by decide +kernel
theorem dX5_step_71 : decode cX5_step 71 = .ok (.ireturn, 1) := by decide +kernel
theorem dX5_step_72 : decode cX5_step 72 = .ok (.aload_n 0, 1) := by decide +kernel
theorem dX5_step_73 : decode cX5_step 73 = .ok (.getfield 28, 3) := by decide +kernel
theorem dX5_step_76 : decode cX5_step 76 = .ok (.iconst 5, 1) := by decide +kernel
theorem dX5_step_77 : decode cX5_step 77 = .ok (.iload_n 1, 1) := by decide +kernel
theorem dX5_step_78 : decode cX5_step 78 = .ok (.imul, 1) := by decide +kernel
theorem dX5_step_79 : decode cX5_step 79 = .ok (.aload_n 0, 1) := by decide +kernel
theorem dX5_step_80 : decode cX5_step 80 = .ok (.getfield 25, 3) := by decide +kernel
theorem dX5_step_83 : decode cX5_step 83 = .ok (.iload_n 1, 1) := by decide +kernel
theorem dX5_step_84 : decode cX5_step 84 = .ok (.iaload, 1) := by decide +kernel
theorem dX5_step_85 : decode cX5_step 85 = .ok (.iadd, 1) := by decide +kernel
theorem dX5_step_86 : decode cX5_step 86 = .ok (.iload_n 2, 1) := by decide +kernel
theorem dX5_step_87 : decode cX5_step 87 = .ok (.iastore, 1) := by decide +kernel
theorem dX5_step_88 : decode cX5_step 88 = .ok (.aload_n 0, 1) := by decide +kernel
theorem dX5_step_89 : decode cX5_step 89 = .ok (.getfield 31, 3) := by decide +kernel
theorem dX5_step_92 : decode cX5_step 92 = .ok (.iconst 5, 1) := by decide +kernel
theorem dX5_step_93 : decode cX5_step 93 = .ok (.iload_n 1, 1) := by decide +kernel
theorem dX5_step_94 : decode cX5_step 94 = .ok (.imul, 1) := by decide +kernel
theorem dX5_step_95 : decode cX5_step 95 = .ok (.aload_n 0, 1) := by decide +kernel
theorem dX5_step_96 : decode cX5_step 96 = .ok (.getfield 25, 3) := by decide +kernel
theorem dX5_step_99 : decode cX5_step 99 = .ok (.iload_n 1, 1) := by decide +kernel
theorem dX5_step_100 : decode cX5_step 100 = .ok (.iaload, 1) := by decide +kernel
theorem dX5_step_101 : decode cX5_step 101 = .ok (.iadd, 1) := by decide +kernel
theorem dX5_step_102 : decode cX5_step 102 = .ok (.iload_n 3, 1) := by decide +kernel
theorem dX5_step_103 : decode cX5_step 103 = .ok (.iastore, 1) := by decide +kernel
theorem dX5_step_104 : decode cX5_step 104 = .ok (.aload_n 0, 1) := by decide +kernel
theorem dX5_step_105 : decode cX5_step 105 = .ok (.getfield 25, 3) := by decide +kernel
theorem dX5_step_108 : decode cX5_step 108 = .ok (.iload_n 1, 1) := by decide +kernel
theorem dX5_step_109 : decode cX5_step 109 = .ok (.dup2, 1) := by decide +kernel
theorem dX5_step_110 : decode cX5_step 110 = .ok (.iaload, 1) := by decide +kernel
theorem dX5_step_111 : decode cX5_step 111 = .ok (.iconst 1, 1) := by decide +kernel
theorem dX5_step_112 : decode cX5_step 112 = .ok (.iadd, 1) := by decide +kernel
theorem dX5_step_113 : decode cX5_step 113 = .ok (.iastore, 1) := by decide +kernel
theorem dX5_step_114 : decode cX5_step 114 = .ok (.aload_n 0, 1) := by decide +kernel
theorem dX5_step_115 : decode cX5_step 115 = .ok (.getfield 25, 3) := by decide +kernel
theorem dX5_step_118 : decode cX5_step 118 = .ok (.iload_n 1, 1) := by decide +kernel
theorem dX5_step_119 : decode cX5_step 119 = .ok (.iaload, 1) := by decide +kernel
theorem dX5_step_120 : decode cX5_step 120 = .ok (.iconst 1, 1) := by decide +kernel
theorem dX5_step_121 : decode cX5_step 121 = .ok (.isub, 1) := by decide +kernel
theorem dX5_step_122 : decode cX5_step 122 = .ok (.ireturn, 1) := by decide +kernel
theorem dX5_seen_0 : decode cX5_seen 0 = .ok (.aload_n 0, 1) := by decide +kernel
theorem dX5_seen_1 : decode cX5_seen 1 = .ok (.iconst 0, 1) := by decide +kernel
theorem dX5_seen_2 : decode cX5_seen 2 = .ok (.putfield 59, 3) := by decide +kernel
theorem dX5_seen_5 : decode cX5_seen 5 = .ok (.aload_n 0, 1) := by decide +kernel
theorem dX5_seen_6 : decode cX5_seen 6 = .ok (.aload_n 0, 1) := by decide +kernel
theorem dX5_seen_7 : decode cX5_seen 7 = .ok (.iload_n 1, 1) := by decide +kernel
theorem dX5_seen_8 : decode cX5_seen 8 = .ok (.iload_n 2, 1) := by decide +kernel
theorem dX5_seen_9 : decode cX5_seen 9 = .ok (.invokevirtual 88, 3) := by decide +kernel
theorem dX5_seen_12 : decode cX5_seen 12 = .ok (.iconst 1, 1) := by decide +kernel
theorem dX5_seen_13 : decode cX5_seen 13 = .ok (.invokevirtual 80, 3) := by decide +kernel
theorem dX5_seen_16 : decode cX5_seen 16 = .ok (.ifCond .ne 43, 3) := by decide +kernel
theorem dX5_seen_19 : decode cX5_seen 19 = .ok (.aload_n 0, 1) := by decide +kernel
theorem dX5_seen_20 : decode cX5_seen 20 = .ok (.iload_n 3, 1) := by decide +kernel
theorem dX5_seen_21 : decode cX5_seen 21 = .ok (.iconst 0, 1) := by decide +kernel
theorem dX5_seen_22 : decode cX5_seen 22 = .ok (.ldc 92, 2) := by decide +kernel
theorem dX5_seen_24 : decode cX5_seen 24 = .ok (.invokestatic 66, 3) := by decide +kernel
theorem dX5_seen_27 : decode cX5_seen 27 = .ok (.ifCond .eq 20, 3) := by decide +kernel
theorem dX5_seen_30 : decode cX5_seen 30 = .ok (.iload 4, 2) := by decide +kernel
theorem dX5_seen_32 : decode cX5_seen 32 = .ok (.iconst 0, 1) := by decide +kernel
theorem dX5_seen_33 : decode cX5_seen 33 = .ok (.ldc 92, 2) := by decide +kernel
theorem dX5_seen_35 : decode cX5_seen 35 = .ok (.invokestatic 66, 3) := by decide +kernel
theorem dX5_seen_38 : decode cX5_seen 38 = .ok (.ifCond .eq 9, 3) := by decide +kernel
theorem dX5_seen_41 : decode cX5_seen 41 = .ok (.iload 4, 2) := by decide +kernel
theorem dX5_seen_43 : decode cX5_seen 43 = .ok (.iload_n 3, 1) := by decide +kernel
theorem dX5_seen_44 : decode cX5_seen 44 = .ok (.if_icmp .gt 7, 3) := by decide +kernel
theorem dX5_seen_47 : decode cX5_seen 47 = .ok (.iconst 1, 1) := by decide +kernel
theorem dX5_seen_48 : decode cX5_seen 48 = .ok (.goto 4, 3) := by decide +kernel
theorem dX5_seen_51 : decode cX5_seen 51 = .ok (.iconst 0, 1) := by decide +kernel
theorem dX5_seen_52 : decode cX5_seen 52 = .ok (.iconst 2, 1) := by decide +kernel
theorem dX5_seen_53 : decode cX5_seen 53 = .ok (.invokevirtual 80, 3) := by decide +kernel
theorem dX5_seen_56 : decode cX5_seen 56 = .ok (.ifCond .eq 4, 3) := by decide +kernel
theorem dX5_seen_59 : decode cX5_seen 59 = .ok (.return_, 1) := by decide +kernel
theorem dX5_seen_60 : decode cX5_seen 60 = .ok (.aload_n 0, 1) := by decide +kernel
theorem dX5_seen_61 : decode cX5_seen 61 = .ok (.getfield 34, 3) := by decide +kernel
theorem dX5_seen_64 : decode cX5_seen 64 = .ok (.iconst 5, 1) := by decide +kernel
theorem dX5_seen_65 : decode cX5_seen 65 = .ok (.iload_n 1, 1) := by decide +kernel
theorem dX5_seen_66 : decode cX5_seen 66 = .ok (.imul, 1) := by decide +kernel
theorem dX5_seen_67 : decode cX5_seen 67 = .ok (.iload_n 2, 1) := by decide +kernel
theorem dX5_seen_68 : decode cX5_seen 68 = .ok (.iadd, 1) := by decide +kernel
theorem dX5_seen_69 : decode cX5_seen 69 = .ok (.iconst 1, 1) := by decide +kernel
theorem dX5_seen_70 : decode cX5_seen 70 = .ok (.bastore, 1) := by decide +kernel
theorem dX5_seen_71 : decode cX5_seen 71 = .ok (.aload_n 0, 1) := by decide +kernel
theorem dX5_seen_72 : decode cX5_seen 72 = .ok (.getfield 38, 3) := by decide +kernel
theorem dX5_seen_75 : decode cX5_seen 75 = .ok (.iconst 5, 1) := by decide +kernel
theorem dX5_seen_76 : decode cX5_seen 76 = .ok (.iload_n 1, 1) := by decide +kernel
theorem dX5_seen_77 : decode cX5_seen 77 = .ok (.imul, 1) := by decide +kernel
theorem dX5_seen_78 : decode cX5_seen 78 = .ok (.iload_n 2, 1) := by decide +kernel
theorem dX5_seen_79 : decode cX5_seen 79 = .ok (.iadd, 1) := by decide +kernel
theorem dX5_seen_80 : decode cX5_seen 80 = .ok (.iload_n 3, 1) := by decide +kernel
theorem dX5_seen_81 : decode cX5_seen 81 = .ok (.iastore, 1) := by decide +kernel
theorem dX5_seen_82 : decode cX5_seen 82 = .ok (.aload_n 0, 1) := by decide +kernel
theorem dX5_seen_83 : decode cX5_seen 83 = .ok (.getfield 41, 3) := by decide +kernel
theorem dX5_seen_86 : decode cX5_seen 86 = .ok (.iconst 5, 1) := by decide +kernel
theorem dX5_seen_87 : decode cX5_seen 87 = .ok (.iload_n 1, 1) := by decide +kernel
theorem dX5_seen_88 : decode cX5_seen 88 = .ok (.imul, 1) := by decide +kernel
theorem dX5_seen_89 : decode cX5_seen 89 = .ok (.iload_n 2, 1) := by decide +kernel
theorem dX5_seen_90 : decode cX5_seen 90 = .ok (.iadd, 1) := by decide +kernel
theorem dX5_seen_91 : decode cX5_seen 91 = .ok (.iload 4, 2) := by decide +kernel
theorem dX5_seen_93 : decode cX5_seen 93 = .ok (.iastore, 1) := by decide +kernel
theorem dX5_seen_94 : decode cX5_seen 94 = .ok (.return_, 1) := by decide +kernel
theorem dX5_unsee_0 : decode cX5_unsee 0 = .ok (.aload_n 0, 1) := by decide +kernel
theorem dX5_unsee_1 : decode cX5_unsee 1 = .ok (.iconst 0, 1) := by decide +kernel
theorem dX5_unsee_2 : decode cX5_unsee 2 = .ok (.putfield 59, 3) := by decide +kernel
theorem dX5_unsee_5 : decode cX5_unsee 5 = .ok (.aload_n 0, 1) := by decide +kernel
theorem dX5_unsee_6 : decode cX5_unsee 6 = .ok (.aload_n 0, 1) := by decide +kernel
theorem dX5_unsee_7 : decode cX5_unsee 7 = .ok (.iload_n 1, 1) := by decide +kernel
theorem dX5_unsee_8 : decode cX5_unsee 8 = .ok (.iload_n 2, 1) := by decide +kernel
theorem dX5_unsee_9 : decode cX5_unsee 9 = .ok (.invokevirtual 88, 3) := by decide +kernel
theorem dX5_unsee_12 : decode cX5_unsee 12 = .ok (.iconst 1, 1) := by decide +kernel
theorem dX5_unsee_13 : decode cX5_unsee 13 = .ok (.invokevirtual 80, 3) := by decide +kernel
theorem dX5_unsee_16 : decode cX5_unsee 16 = .ok (.ifCond .eq 5, 3) := by decide +kernel
theorem dX5_unsee_19 : decode cX5_unsee 19 = .ok (.iconst 0, 1) := by decide +kernel
theorem dX5_unsee_20 : decode cX5_unsee 20 = .ok (.ireturn, 1) := by decide +kernel
theorem dX5_unsee_21 : decode cX5_unsee 21 = .ok (.aload_n 0, 1) := by decide +kernel
theorem dX5_unsee_22 : decode cX5_unsee 22 = .ok (.getfield 34, 3) := by decide +kernel
theorem dX5_unsee_25 : decode cX5_unsee 25 = .ok (.iconst 5, 1) := by decide +kernel
theorem dX5_unsee_26 : decode cX5_unsee 26 = .ok (.iload_n 1, 1) := by decide +kernel
theorem dX5_unsee_27 : decode cX5_unsee 27 = .ok (.imul, 1) := by decide +kernel
theorem dX5_unsee_28 : decode cX5_unsee 28 = .ok (.iload_n 2, 1) := by decide +kernel
theorem dX5_unsee_29 : decode cX5_unsee 29 = .ok (.iadd, 1) := by decide +kernel
theorem dX5_unsee_30 : decode cX5_unsee 30 = .ok (.baload, 1) := by decide +kernel
theorem dX5_unsee_31 : decode cX5_unsee 31 = .ok (.istore_n 3, 1) := by decide +kernel
theorem dX5_unsee_32 : decode cX5_unsee 32 = .ok (.aload_n 0, 1) := by decide +kernel
theorem dX5_unsee_33 : decode cX5_unsee 33 = .ok (.getfield 34, 3) := by decide +kernel
theorem dX5_unsee_36 : decode cX5_unsee 36 = .ok (.iconst 5, 1) := by decide +kernel
theorem dX5_unsee_37 : decode cX5_unsee 37 = .ok (.iload_n 1, 1) := by decide +kernel
theorem dX5_unsee_38 : decode cX5_unsee 38 = .ok (.imul, 1) := by decide +kernel
theorem dX5_unsee_39 : decode cX5_unsee 39 = .ok (.iload_n 2, 1) := by decide +kernel
theorem dX5_unsee_40 : decode cX5_unsee 40 = .ok (.iadd, 1) := by decide +kernel
theorem dX5_unsee_41 : decode cX5_unsee 41 = .ok (.iconst 0, 1) := by decide +kernel
theorem dX5_unsee_42 : decode cX5_unsee 42 = .ok (.bastore, 1) := by decide +kernel
theorem dX5_unsee_43 : decode cX5_unsee 43 = .ok (.iload_n 3, 1) := by decide +kernel
theorem dX5_unsee_44 : decode cX5_unsee 44 = .ok (.ireturn, 1) := by decide +kernel
theorem dX5_isAhead_0 : decode cX5_isAhead 0 = .ok (.iload_n 3, 1) := by decide +kernel
theorem dX5_isAhead_1 : decode cX5_isAhead 1 = .ok (.iconst 1, 1) := by decide +kernel
theorem dX5_isAhead_2 : decode cX5_isAhead 2 = .ok (.if_icmp .ne 39, 3) := by decide +kernel
theorem dX5_isAhead_5 : decode cX5_isAhead 5 = .ok (.aload_n 0, 1) := by decide +kernel
theorem dX5_isAhead_6 : decode cX5_isAhead 6 = .ok (.getfield 44, 3) := by decide +kernel
theorem dX5_isAhead_9 : decode cX5_isAhead 9 = .ok (.iload_n 1, 1) := by decide +kernel
theorem dX5_isAhead_10 : decode cX5_isAhead 10 = .ok (.iaload, 1) := by decide +kernel
theorem dX5_isAhead_11 : decode cX5_isAhead 11 = .ok (.aload_n 0, 1) := by decide +kernel
theorem dX5_isAhead_12 : decode cX5_isAhead 12 = .ok (.getfield 44, 3) := by decide +kernel
theorem dX5_isAhead_15 : decode cX5_isAhead 15 = .ok (.iload_n 2, 1) := by decide +kernel
theorem dX5_isAhead_16 : decode cX5_isAhead 16 = .ok (.iaload, 1) := by decide +kernel
theorem dX5_isAhead_17 : decode cX5_isAhead 17 = .ok (.if_icmp .eq 24, 3) := by decide +kernel
theorem dX5_isAhead_20 : decode cX5_isAhead 20 = .ok (.aload_n 0, 1) := by decide +kernel
theorem dX5_isAhead_21 : decode cX5_isAhead 21 = .ok (.getfield 44, 3) := by decide +kernel
theorem dX5_isAhead_24 : decode cX5_isAhead 24 = .ok (.iload_n 1, 1) := by decide +kernel
theorem dX5_isAhead_25 : decode cX5_isAhead 25 = .ok (.iaload, 1) := by decide +kernel
theorem dX5_isAhead_26 : decode cX5_isAhead 26 = .ok (.aload_n 0, 1) := by decide +kernel
theorem dX5_isAhead_27 : decode cX5_isAhead 27 = .ok (.getfield 44, 3) := by decide +kernel
theorem dX5_isAhead_30 : decode cX5_isAhead 30 = .ok (.iload_n 2, 1) := by decide +kernel
theorem dX5_isAhead_31 : decode cX5_isAhead 31 = .ok (.iaload, 1) := by decide +kernel
theorem dX5_isAhead_32 : decode cX5_isAhead 32 = .ok (.if_icmp .le 7, 3) := by decide +kernel
theorem dX5_isAhead_35 : decode cX5_isAhead 35 = .ok (.iconst 1, 1) := by decide +kernel
theorem dX5_isAhead_36 : decode cX5_isAhead 36 = .ok (.goto 4, 3) := by decide +kernel
theorem dX5_isAhead_39 : decode cX5_isAhead 39 = .ok (.iconst 0, 1) := by decide +kernel
theorem dX5_isAhead_40 : decode cX5_isAhead 40 = .ok (.ireturn, 1) := by decide +kernel
theorem dX5_isAhead_41 : decode cX5_isAhead 41 = .ok (.iload_n 3, 1) := by decide +kernel
theorem dX5_isAhead_42 : decode cX5_isAhead 42 = .ok (.iconst 2, 1) := by decide +kernel
theorem dX5_isAhead_43 : decode cX5_isAhead 43 = .ok (.if_icmp .ne 39, 3) := by decide +kernel
theorem dX5_isAhead_46 : decode cX5_isAhead 46 = .ok (.aload_n 0, 1) := by decide +kernel
theorem dX5_isAhead_47 : decode cX5_isAhead 47 = .ok (.getfield 56, 3) := by decide +kernel
theorem dX5_isAhead_50 : decode cX5_isAhead 50 = .ok (.iload_n 1, 1) := by decide +kernel
theorem dX5_isAhead_51 : decode cX5_isAhead 51 = .ok (.iaload, 1) := by decide +kernel
theorem dX5_isAhead_52 : decode cX5_isAhead 52 = .ok (.aload_n 0, 1) := by decide +kernel
theorem dX5_isAhead_53 : decode cX5_isAhead 53 = .ok (.getfield 56, 3) := by decide +kernel
theorem dX5_isAhead_56 : decode cX5_isAhead 56 = .ok (.iload_n 2, 1) := by decide +kernel
theorem dX5_isAhead_57 : decode cX5_isAhead 57 = .ok (.iaload, 1) := by decide +kernel
theorem dX5_isAhead_58 : decode cX5_isAhead 58 = .ok (.if_icmp .eq 24, 3) := by decide +kernel
theorem dX5_isAhead_61 : decode cX5_isAhead 61 = .ok (.aload_n 0, 1) := by decide +kernel
theorem dX5_isAhead_62 : decode cX5_isAhead 62 = .ok (.getfield 56, 3) := by decide +kernel
theorem dX5_isAhead_65 : decode cX5_isAhead 65 = .ok (.iload_n 1, 1) := by decide +kernel
theorem dX5_isAhead_66 : decode cX5_isAhead 66 = .ok (.iaload, 1) := by decide +kernel
theorem dX5_isAhead_67 : decode cX5_isAhead 67 = .ok (.aload_n 0, 1) := by decide +kernel
theorem dX5_isAhead_68 : decode cX5_isAhead 68 = .ok (.getfield 56, 3) := by decide +kernel
theorem dX5_isAhead_71 : decode cX5_isAhead 71 = .ok (.iload_n 2, 1) := by decide +kernel
theorem dX5_isAhead_72 : decode cX5_isAhead 72 = .ok (.iaload, 1) := by decide +kernel
theorem dX5_isAhead_73 : decode cX5_isAhead 73 = .ok (.if_icmp .ge 7, 3) := by decide +kernel
theorem dX5_isAhead_76 : decode cX5_isAhead 76 = .ok (.iconst 1, 1) := by decide +kernel
theorem dX5_isAhead_77 : decode cX5_isAhead 77 = .ok (.goto 4, 3) := by decide +kernel
theorem dX5_isAhead_80 : decode cX5_isAhead 80 = .ok (.iconst 0, 1) := by decide +kernel
theorem dX5_isAhead_81 : decode cX5_isAhead 81 = .ok (.ireturn, 1) := by decide +kernel
theorem dX5_isAhead_82 : decode cX5_isAhead 82 = .ok (.iload_n 3, 1) := by decide +kernel
theorem dX5_isAhead_83 : decode cX5_isAhead 83 = .ok (.iconst 3, 1) := by decide +kernel
theorem dX5_isAhead_84 : decode cX5_isAhead 84 = .ok (.if_icmp .ne 47, 3) := by decide +kernel
theorem dX5_isAhead_87 : decode cX5_isAhead 87 = .ok (.aload_n 0, 1) := by decide +kernel
theorem dX5_isAhead_88 : decode cX5_isAhead 88 = .ok (.getfield 19, 3) := by decide +kernel
theorem dX5_isAhead_91 : decode cX5_isAhead 91 = .ok (.iload_n 1, 1) := by decide +kernel
theorem dX5_isAhead_92 : decode cX5_isAhead 92 = .ok (.iconst 5, 1) := by decide +kernel
theorem dX5_isAhead_93 : decode cX5_isAhead 93 = .ok (.idiv, 1) := by decide +kernel
theorem dX5_isAhead_94 : decode cX5_isAhead 94 = .ok (.iaload, 1) := by decide +kernel
theorem dX5_isAhead_95 : decode cX5_isAhead 95 = .ok (.aload_n 0, 1) := by decide +kernel
theorem dX5_isAhead_96 : decode cX5_isAhead 96 = .ok (.getfield 19, 3) := by decide +kernel
theorem dX5_isAhead_99 : decode cX5_isAhead 99 = .ok (.iload_n 2, 1) := by decide +kernel
theorem dX5_isAhead_100 : decode cX5_isAhead 100 = .ok (.iconst 5, 1) := by decide +kernel
theorem dX5_isAhead_101 : decode cX5_isAhead 101 = .ok (.idiv, 1) := by decide +kernel
theorem dX5_isAhead_102 : decode cX5_isAhead 102 = .ok (.iaload, 1) := by decide +kernel
theorem dX5_isAhead_103 : decode cX5_isAhead 103 = .ok (.if_icmp .eq 28, 3) := by decide +kernel
theorem dX5_isAhead_106 : decode cX5_isAhead 106 = .ok (.aload_n 0, 1) := by decide +kernel
theorem dX5_isAhead_107 : decode cX5_isAhead 107 = .ok (.getfield 19, 3) := by decide +kernel
theorem dX5_isAhead_110 : decode cX5_isAhead 110 = .ok (.iload_n 1, 1) := by decide +kernel
theorem dX5_isAhead_111 : decode cX5_isAhead 111 = .ok (.iconst 5, 1) := by decide +kernel
theorem dX5_isAhead_112 : decode cX5_isAhead 112 = .ok (.idiv, 1) := by decide +kernel
theorem dX5_isAhead_113 : decode cX5_isAhead 113 = .ok (.iaload, 1) := by decide +kernel
theorem dX5_isAhead_114 : decode cX5_isAhead 114 = .ok (.aload_n 0, 1) := by decide +kernel
theorem dX5_isAhead_115 : decode cX5_isAhead 115 = .ok (.getfield 19, 3) := by decide +kernel
theorem dX5_isAhead_118 : decode cX5_isAhead 118 = .ok (.iload_n 2, 1) := by decide +kernel
theorem dX5_isAhead_119 : decode cX5_isAhead 119 = .ok (.iconst 5, 1) := by decide +kernel
theorem dX5_isAhead_120 : decode cX5_isAhead 120 = .ok (.idiv, 1) := by decide +kernel
theorem dX5_isAhead_121 : decode cX5_isAhead 121 = .ok (.iaload, 1) := by decide +kernel
theorem dX5_isAhead_122 : decode cX5_isAhead 122 = .ok (.if_icmp .ge 7, 3) := by decide +kernel
theorem dX5_isAhead_125 : decode cX5_isAhead 125 = .ok (.iconst 1, 1) := by decide +kernel
theorem dX5_isAhead_126 : decode cX5_isAhead 126 = .ok (.goto 4, 3) := by decide +kernel
theorem dX5_isAhead_129 : decode cX5_isAhead 129 = .ok (.iconst 0, 1) := by decide +kernel
theorem dX5_isAhead_130 : decode cX5_isAhead 130 = .ok (.ireturn, 1) := by decide +kernel
theorem dX5_isAhead_131 : decode cX5_isAhead 131 = .ok (.aload_n 0, 1) := by decide +kernel
theorem dX5_isAhead_132 : decode cX5_isAhead 132 = .ok (.getfield 44, 3) := by decide +kernel
theorem dX5_isAhead_135 : decode cX5_isAhead 135 = .ok (.iload_n 1, 1) := by decide +kernel
theorem dX5_isAhead_136 : decode cX5_isAhead 136 = .ok (.iaload, 1) := by decide +kernel
theorem dX5_isAhead_137 : decode cX5_isAhead 137 = .ok (.aload_n 0, 1) := by decide +kernel
theorem dX5_isAhead_138 : decode cX5_isAhead 138 = .ok (.getfield 44, 3) := by decide +kernel
theorem dX5_isAhead_141 : decode cX5_isAhead 141 = .ok (.iload_n 2, 1) := by decide +kernel
theorem dX5_isAhead_142 : decode cX5_isAhead 142 = .ok (.iaload, 1) := by decide +kernel
theorem dX5_isAhead_143 : decode cX5_isAhead 143 = .ok (.if_icmp .eq 26, 3) := by decide +kernel
theorem dX5_isAhead_146 : decode cX5_isAhead 146 = .ok (.aload_n 0, 1) := by decide +kernel
theorem dX5_isAhead_147 : decode cX5_isAhead 147 = .ok (.getfield 44, 3) := by decide +kernel
theorem dX5_isAhead_150 : decode cX5_isAhead 150 = .ok (.iload_n 1, 1) := by decide +kernel
theorem dX5_isAhead_151 : decode cX5_isAhead 151 = .ok (.iaload, 1) := by decide +kernel
theorem dX5_isAhead_152 : decode cX5_isAhead 152 = .ok (.aload_n 0, 1) := by decide +kernel
theorem dX5_isAhead_153 : decode cX5_isAhead 153 = .ok (.getfield 44, 3) := by decide +kernel
theorem dX5_isAhead_156 : decode cX5_isAhead 156 = .ok (.iload_n 2, 1) := by decide +kernel
theorem dX5_isAhead_157 : decode cX5_isAhead 157 = .ok (.iaload, 1) := by decide +kernel
theorem dX5_isAhead_158 : decode cX5_isAhead 158 = .ok (.if_icmp .ge 7, 3) := by decide +kernel
theorem dX5_isAhead_161 : decode cX5_isAhead 161 = .ok (.iconst 1, 1) := by decide +kernel
theorem dX5_isAhead_162 : decode cX5_isAhead 162 = .ok (.goto 17, 3) := by decide +kernel
theorem dX5_isAhead_165 : decode cX5_isAhead 165 = .ok (.iconst 0, 1) := by decide +kernel
theorem dX5_isAhead_166 : decode cX5_isAhead 166 = .ok (.goto 13, 3) := by decide +kernel
theorem dX5_isAhead_169 : decode cX5_isAhead 169 = .ok (.iload_n 1, 1) := by decide +kernel
theorem dX5_isAhead_170 : decode cX5_isAhead 170 = .ok (.iload_n 2, 1) := by decide +kernel
theorem dX5_isAhead_171 : decode cX5_isAhead 171 = .ok (.if_icmp .ge 7, 3) := by decide +kernel
theorem dX5_isAhead_174 : decode cX5_isAhead 174 = .ok (.iconst 1, 1) := by decide +kernel
theorem dX5_isAhead_175 : decode cX5_isAhead 175 = .ok (.goto 4, 3) := by decide +kernel
theorem dX5_isAhead_178 : decode cX5_isAhead 178 = .ok (.iconst 0, 1) := by decide +kernel
theorem dX5_isAhead_179 : decode cX5_isAhead 179 = .ok (.ireturn, 1) := by decide +kernel
theorem dX5_next_0 : decode cX5_next 0 = .ok (.iconst (-1), 1) := by decide +kernel
theorem dX5_next_1 : decode cX5_next 1 = .ok (.istore_n 3, 1) := by decide +kernel
theorem dX5_next_2 : decode cX5_next 2 = .ok (.iconst 0, 1) := by decide +kernel
theorem dX5_next_3 : decode cX5_next 3 = .ok (.istore 4, 2) := by decide +kernel
theorem dX5_next_5 : decode cX5_next 5 = .ok (.iload 4, 2) := by decide +kernel
theorem dX5_next_7 : decode cX5_next 7 = .ok (.iconst 5, 1) := by decide +kernel
theorem dX5_next_8 : decode cX5_next 8 = .ok (.aload_n 0, 1) := by decide +kernel
theorem dX5_next_9 : decode cX5_next 9 = .ok (.getfield 70, 3) := by decide +kernel
theorem dX5_next_12 : decode cX5_next 12 = .ok (.imul, 1) := by decide +kernel
theorem dX5_next_13 : decode cX5_next 13 = .ok (.if_icmp .ge 48, 3) := by decide +kernel
theorem dX5_next_16 : decode cX5_next 16 = .ok (.aload_n 0, 1) := by decide +kernel
theorem dX5_next_17 : decode cX5_next 17 = .ok (.getfield 53, 3) := by decide +kernel
theorem dX5_next_20 : decode cX5_next 20 = .ok (.iload 4, 2) := by decide +kernel
theorem dX5_next_22 : decode cX5_next 22 = .ok (.baload, 1) := by decide +kernel
theorem dX5_next_23 : decode cX5_next 23 = .ok (.ifCond .eq 32, 3) := by decide +kernel
theorem dX5_next_26 : decode cX5_next 26 = .ok (.aload_n 0, 1) := by decide +kernel
theorem dX5_next_27 : decode cX5_next 27 = .ok (.getfield 28, 3) := by decide +kernel
theorem dX5_next_30 : decode cX5_next 30 = .ok (.iload 4, 2) := by decide +kernel
theorem dX5_next_32 : decode cX5_next 32 = .ok (.iaload, 1) := by decide +kernel
theorem dX5_next_33 : decode cX5_next 33 = .ok (.iload_n 1, 1) := by decide +kernel
theorem dX5_next_34 : decode cX5_next 34 = .ok (.if_icmp .ne 21, 3) := by decide +kernel
theorem dX5_next_37 : decode cX5_next 37 = .ok (.iload_n 3, 1) := by decide +kernel
theorem dX5_next_38 : decode cX5_next 38 = .ok (.ifCond .lt 14, 3) := by decide +kernel
theorem dX5_next_41 : decode cX5_next 41 = .ok (.aload_n 0, 1) := by decide +kernel
theorem dX5_next_42 : decode cX5_next 42 = .ok (.iload 4, 2) := by decide +kernel
theorem dX5_next_44 : decode cX5_next 44 = .ok (.iload_n 3, 1) := by decide +kernel
theorem dX5_next_45 : decode cX5_next 45 = .ok (.iload_n 2, 1) := by decide +kernel
theorem dX5_next_46 : decode cX5_next 46 = .ok (.invokevirtual 93, 3) := by decide +kernel
theorem dX5_next_49 : decode cX5_next 49 = .ok (.ifCond .eq 6, 3) := by decide +kernel
theorem dX5_next_52 : decode cX5_next 52 = .ok (.iload 4, 2) := by decide +kernel
theorem dX5_next_54 : decode cX5_next 54 = .ok (.istore_n 3, 1) := by decide +kernel
theorem dX5_next_55 : decode cX5_next 55 = .ok (.iinc 4 1, 3) := by decide +kernel
theorem dX5_next_58 : decode cX5_next 58 = .ok (.goto (-53), 3) := by decide +kernel
theorem dX5_next_61 : decode cX5_next 61 = .ok (.iload_n 3, 1) := by decide +kernel
theorem dX5_next_62 : decode cX5_next 62 = .ok (.ireturn, 1) := by decide +kernel
theorem dX5_busy_0 : decode cX5_busy 0 = .ok (.iconst 0, 1) := by decide +kernel
theorem dX5_busy_1 : decode cX5_busy 1 = .ok (.istore_n 3, 1) := by decide +kernel
theorem dX5_busy_2 : decode cX5_busy 2 = .ok (.iconst 0, 1) := by decide +kernel
theorem dX5_busy_3 : decode cX5_busy 3 = .ok (.istore 4, 2) := by decide +kernel
theorem dX5_busy_5 : decode cX5_busy 5 = .ok (.iload 4, 2) := by decide +kernel
theorem dX5_busy_7 : decode cX5_busy 7 = .ok (.iconst 5, 1) := by decide +kernel
theorem dX5_busy_8 : decode cX5_busy 8 = .ok (.aload_n 0, 1) := by decide +kernel
theorem dX5_busy_9 : decode cX5_busy 9 = .ok (.getfield 70, 3) := by decide +kernel
theorem dX5_busy_12 : decode cX5_busy 12 = .ok (.imul, 1) := by decide +kernel
theorem dX5_busy_13 : decode cX5_busy 13 = .ok (.if_icmp .ge 62, 3) := by decide +kernel
theorem dX5_busy_16 : decode cX5_busy 16 = .ok (.iload_n 3, 1) := by decide +kernel
theorem dX5_busy_17 : decode cX5_busy 17 = .ok (.aload_n 0, 1) := by decide +kernel
theorem dX5_busy_18 : decode cX5_busy 18 = .ok (.getfield 28, 3) := by decide +kernel
theorem dX5_busy_21 : decode cX5_busy 21 = .ok (.iload 4, 2) := by decide +kernel
theorem dX5_busy_23 : decode cX5_busy 23 = .ok (.iaload, 1) := by decide +kernel
theorem dX5_busy_24 : decode cX5_busy 24 = .ok (.iload_n 1, 1) := by decide +kernel
theorem dX5_busy_25 : decode cX5_busy 25 = .ok (.if_icmp .ne 41, 3) := by decide +kernel
theorem dX5_busy_28 : decode cX5_busy 28 = .ok (.aload_n 0, 1) := by decide +kernel
theorem dX5_busy_29 : decode cX5_busy 29 = .ok (.getfield 47, 3) := by decide +kernel
theorem dX5_busy_32 : decode cX5_busy 32 = .ok (.iload 4, 2) := by decide +kernel
theorem dX5_busy_34 : decode cX5_busy 34 = .ok (.iaload, 1) := by decide +kernel
theorem dX5_busy_35 : decode cX5_busy 35 = .ok (.iload_n 2, 1) := by decide +kernel
theorem dX5_busy_36 : decode cX5_busy 36 = .ok (.if_icmp .gt 30, 3) := by decide +kernel
theorem dX5_busy_39 : decode cX5_busy 39 = .ok (.aload_n 0, 1) := by decide +kernel
theorem dX5_busy_40 : decode cX5_busy 40 = .ok (.getfield 50, 3) := by decide +kernel
theorem dX5_busy_43 : decode cX5_busy 43 = .ok (.iload 4, 2) := by decide +kernel
theorem dX5_busy_45 : decode cX5_busy 45 = .ok (.iaload, 1) := by decide +kernel
theorem dX5_busy_46 : decode cX5_busy 46 = .ok (.iload_n 2, 1) := by decide +kernel
theorem dX5_busy_47 : decode cX5_busy 47 = .ok (.if_icmp .le 19, 3) := by decide +kernel
theorem dX5_busy_50 : decode cX5_busy 50 = .ok (.aload_n 0, 1) := by decide +kernel
theorem dX5_busy_51 : decode cX5_busy 51 = .ok (.getfield 50, 3) := by decide +kernel
theorem dX5_busy_54 : decode cX5_busy 54 = .ok (.iload 4, 2) := by decide +kernel
theorem dX5_busy_56 : decode cX5_busy 56 = .ok (.iaload, 1) := by decide +kernel
theorem dX5_busy_57 : decode cX5_busy 57 = .ok (.ldc 96, 2) := by decide +kernel
theorem dX5_busy_59 : decode cX5_busy 59 = .ok (.if_icmp .ge 7, 3) := by decide +kernel
theorem dX5_busy_62 : decode cX5_busy 62 = .ok (.iconst 1, 1) := by decide +kernel
theorem dX5_busy_63 : decode cX5_busy 63 = .ok (.goto 4, 3) := by decide +kernel
theorem dX5_busy_66 : decode cX5_busy 66 = .ok (.iconst 0, 1) := by decide +kernel
theorem dX5_busy_67 : decode cX5_busy 67 = .ok (.iadd, 1) := by decide +kernel
theorem dX5_busy_68 : decode cX5_busy 68 = .ok (.istore_n 3, 1) := by decide +kernel
theorem dX5_busy_69 : decode cX5_busy 69 = .ok (.iinc 4 1, 3) := by decide +kernel
theorem dX5_busy_72 : decode cX5_busy 72 = .ok (.goto (-67), 3) := by decide +kernel
theorem dX5_busy_75 : decode cX5_busy 75 = .ok (.iload_n 3, 1) := by decide +kernel
theorem dX5_busy_76 : decode cX5_busy 76 = .ok (.ireturn, 1) := by decide +kernel
theorem dX5_begins_0 : decode cX5_begins 0 = .ok (.iload_n 2, 1) := by decide +kernel
theorem dX5_begins_1 : decode cX5_begins 1 = .ok (.aload_n 0, 1) := by decide +kernel
theorem dX5_begins_2 : decode cX5_begins 2 = .ok (.iload_n 1, 1) := by decide +kernel
theorem dX5_begins_3 : decode cX5_begins 3 = .ok (.iload 4, 2) := by decide +kernel
theorem dX5_begins_5 : decode cX5_begins 5 = .ok (.invokevirtual 97, 3) := by decide +kernel
theorem dX5_begins_8 : decode cX5_begins 8 = .ok (.isub, 1) := by decide +kernel
theorem dX5_begins_9 : decode cX5_begins 9 = .ok (.istore 5, 2) := by decide +kernel
theorem dX5_begins_11 : decode cX5_begins 11 = .ok (.aload_n 0, 1) := by decide +kernel
theorem dX5_begins_12 : decode cX5_begins 12 = .ok (.iload_n 1, 1) := by decide +kernel
theorem dX5_begins_13 : decode cX5_begins 13 = .ok (.iload_n 3, 1) := by decide +kernel
theorem dX5_begins_14 : decode cX5_begins 14 = .ok (.invokevirtual 101, 3) := by decide +kernel
theorem dX5_begins_17 : decode cX5_begins 17 = .ok (.istore 6, 2) := by decide +kernel
theorem dX5_begins_19 : decode cX5_begins 19 = .ok (.iload 5, 2) := by decide +kernel
theorem dX5_begins_21 : decode cX5_begins 21 = .ok (.ifCond .le 56, 3) := by decide +kernel
theorem dX5_begins_24 : decode cX5_begins 24 = .ok (.iload 6, 2) := by decide +kernel
theorem dX5_begins_26 : decode cX5_begins 26 = .ok (.ifCond .lt 51, 3) := by decide +kernel
theorem dX5_begins_29 : decode cX5_begins 29 = .ok (.aload_n 0, 1) := by decide +kernel
theorem dX5_begins_30 : decode cX5_begins 30 = .ok (.getfield 53, 3) := by decide +kernel
theorem dX5_begins_33 : decode cX5_begins 33 = .ok (.iload 6, 2) := by decide +kernel
theorem dX5_begins_35 : decode cX5_begins 35 = .ok (.iconst 0, 1) := by decide +kernel
theorem dX5_begins_36 : decode cX5_begins 36 = .ok (.bastore, 1) := by decide +kernel
theorem dX5_begins_37 : decode cX5_begins 37 = .ok (.aload_n 0, 1) := by decide +kernel
theorem dX5_begins_38 : decode cX5_begins 38 = .ok (.getfield 47, 3) := by decide +kernel
theorem dX5_begins_41 : decode cX5_begins 41 = .ok (.iload 6, 2) := by decide +kernel
theorem dX5_begins_43 : decode cX5_begins 43 = .ok (.iload 4, 2) := by decide +kernel
theorem dX5_begins_45 : decode cX5_begins 45 = .ok (.iastore, 1) := by decide +kernel
theorem dX5_begins_46 : decode cX5_begins 46 = .ok (.aload_n 0, 1) := by decide +kernel
theorem dX5_begins_47 : decode cX5_begins 47 = .ok (.getfield 50, 3) := by decide +kernel
theorem dX5_begins_50 : decode cX5_begins 50 = .ok (.iload 6, 2) := by decide +kernel
theorem dX5_begins_52 : decode cX5_begins 52 = .ok (.iload 4, 2) := by decide +kernel
theorem dX5_begins_54 : decode cX5_begins 54 = .ok (.aload_n 0, 1) := by decide +kernel
theorem dX5_begins_55 : decode cX5_begins 55 = .ok (.getfield 56, 3) := by decide +kernel
theorem dX5_begins_58 : decode cX5_begins 58 = .ok (.iload 6, 2) := by decide +kernel
theorem dX5_begins_60 : decode cX5_begins 60 = .ok (.iaload, 1) := by decide +kernel
theorem dX5_begins_61 : decode cX5_begins 61 = .ok (.iadd, 1) := by decide +kernel
theorem dX5_begins_62 : decode cX5_begins 62 = .ok (.iastore, 1) := by decide +kernel
theorem dX5_begins_63 : decode cX5_begins 63 = .ok (.iinc 5 (-1), 3) := by decide +kernel
theorem dX5_begins_66 : decode cX5_begins 66 = .ok (.aload_n 0, 1) := by decide +kernel
