theorem dM_rest_26 : decode cM_rest 26 = .ok (.iaload, 1) := by decide +kernel
theorem dM_rest_27 : decode cM_rest 27 = .ok (.iload_n 1, 1) := by decide +kernel
theorem dM_rest_28 : decode cM_rest 28 = .ok (.if_icmp .ne 9, 3) := by decide +kernel
theorem dM_rest_31 : decode cM_rest 31 = .ok (.iload_n 2, 1) := by decide +kernel
theorem dM_rest_32 : decode cM_rest 32 = .ok (.iconst 1, 1) := by decide +kernel
theorem dM_rest_33 : decode cM_rest 33 = .ok (.iadd, 1) := by decide +kernel
theorem dM_rest_34 : decode cM_rest 34 = .ok (.goto 4, 3) := by decide +kernel
theorem dM_rest_37 : decode cM_rest 37 = .ok (.iload_n 2, 1) := by decide +kernel
theorem dM_rest_38 : decode cM_rest 38 = .ok (.istore_n 2, 1) := by decide +kernel
theorem dM_rest_39 : decode cM_rest 39 = .ok (.iinc 3 1, 3) := by decide +kernel
theorem dM_rest_42 : decode cM_rest 42 = .ok (.goto (-38), 3) := by decide +kernel
theorem dM_rest_45 : decode cM_rest 45 = .ok (.iload_n 2, 1) := by decide +kernel
theorem dM_rest_46 : decode cM_rest 46 = .ok (.iconst 1, 1) := by decide +kernel
theorem dM_rest_47 : decode cM_rest 47 = .ok (.isub, 1) := by decide +kernel
theorem dM_rest_48 : decode cM_rest 48 = .ok (.aload_n 0, 1) := by decide +kernel
theorem dM_rest_49 : decode cM_rest 49 = .ok (.iload_n 1, 1) := by decide +kernel
theorem dM_rest_50 : decode cM_rest 50 = .ok (.iconst (-1), 1) := by decide +kernel
theorem dM_rest_51 : decode cM_rest 51 = .ok (.invokevirtual 68, 3) := by decide +kernel
theorem dM_rest_54 : decode cM_rest 54 = .ok (.isub, 1) := by decide +kernel
theorem dM_rest_55 : decode cM_rest 55 = .ok (.ireturn, 1) := by decide +kernel
theorem dM_count_0 : decode cM_count 0 = .ok (.iconst 0, 1) := by decide +kernel
theorem dM_count_1 : decode cM_count 1 = .ok (.istore_n 3, 1) := by decide +kernel
theorem dM_count_2 : decode cM_count 2 = .ok (.iconst 4, 1) := by decide +kernel
theorem dM_count_3 : decode cM_count 3 = .ok (.istore 4, 2) := by decide +kernel
theorem dM_count_5 : decode cM_count 5 = .ok (.iload 4, 2) := by decide +kernel
theorem dM_count_7 : decode cM_count 7 = .ok (.bipush 16, 2) := by decide +kernel
theorem dM_count_9 : decode cM_count 9 = .ok (.if_icmp .gt 114, 3) := by decide +kernel
theorem dM_count_12 : decode cM_count 12 = .ok (.iconst 0, 1) := by decide +kernel
theorem dM_count_13 : decode cM_count 13 = .ok (.istore 5, 2) := by decide +kernel
theorem dM_count_15 : decode cM_count 15 = .ok (.iload 5, 2) := by decide +kernel
theorem dM_count_17 : decode cM_count 17 = .ok (.bipush 64, 2) := by decide +kernel
theorem dM_count_19 : decode cM_count 19 = .ok (.iload 4, 2) := by decide +kernel
theorem dM_count_21 : decode cM_count 21 = .ok (.idiv, 1) := by decide +kernel
theorem dM_count_22 : decode cM_count 22 = .ok (.if_icmp .ge 95, 3) := by decide +kernel
theorem dM_count_25 : decode cM_count 25 = .ok (.iload_n 2, 1) := by decide +kernel
theorem dM_count_26 : decode cM_count 26 = .ok (.ifCond .lt 16, 3) := by decide +kernel
theorem dM_count_29 : decode cM_count 29 = .ok (.iload_n 2, 1) := by decide +kernel
theorem dM_count_30 : decode cM_count 30 = .ok (.iload 4, 2) := by decide +kernel
theorem dM_count_32 : decode cM_count 32 = .ok (.idiv, 1) := by decide +kernel
theorem dM_count_33 : decode cM_count 33 = .ok (.iload 5, 2) := by decide +kernel
theorem dM_count_35 : decode cM_count 35 = .ok (.if_icmp .ne 7, 3) := by decide +kernel
theorem dM_count_38 : decode cM_count 38 = .ok (.iconst 1, 1) := by decide +kernel
theorem dM_count_39 : decode cM_count 39 = .ok (.goto 4, 3) := by decide +kernel
theorem dM_count_42 : decode cM_count 42 = .ok (.iconst 0, 1) := by decide +kernel
theorem dM_count_43 : decode cM_count 43 = .ok (.istore 6, 2) := by decide +kernel
theorem dM_count_45 : decode cM_count 45 = .ok (.iconst 0, 1) := by decide +kernel
theorem dM_count_46 : decode cM_count 46 = .ok (.istore 7, 2) := by decide +kernel
theorem dM_count_48 : decode cM_count 48 = .ok (.iload 7, 2) := by decide +kernel
theorem dM_count_50 : decode cM_count 50 = .ok (.bipush 24, 2) := by decide +kernel
theorem dM_count_52 : decode cM_count 52 = .ok (.if_icmp .ge 46, 3) := by decide +kernel
theorem dM_count_55 : decode cM_count 55 = .ok (.iload 6, 2) := by decide +kernel
theorem dM_count_57 : decode cM_count 57 = .ok (.ifCond .ne 28, 3) := by decide +kernel
theorem dM_count_60 : decode cM_count 60 = .ok (.aload_n 0, 1) := by decide +kernel
theorem dM_count_61 : decode cM_count 61 = .ok (.iload 7, 2) := by decide +kernel
theorem dM_count_63 : decode cM_count 63 = .ok (.invokevirtual 64, 3) := by decide +kernel
theorem dM_count_66 : decode cM_count 66 = .ok (.iload_n 1, 1) := by decide +kernel
theorem dM_count_67 : decode cM_count 67 = .ok (.if_icmp .ne 22, 3) := by decide +kernel
theorem dM_count_70 : decode cM_count 70 = .ok (.aload_n 0, 1) := by decide +kernel
theorem dM_count_71 : decode cM_count 71 = .ok (.getfield 22, 3) := by decide +kernel
theorem dM_count_74 : decode cM_count 74 = .ok (.iload 7, 2) := by decide +kernel
theorem dM_count_76 : decode cM_count 76 = .ok (.iaload, 1) := by decide +kernel
theorem dM_count_77 : decode cM_count 77 = .ok (.iload 4, 2) := by decide +kernel
theorem dM_count_79 : decode cM_count 79 = .ok (.idiv, 1) := by decide +kernel
theorem dM_count_80 : decode cM_count 80 = .ok (.iload 5, 2) := by decide +kernel
theorem dM_count_82 : decode cM_count 82 = .ok (.if_icmp .ne 7, 3) := by decide +kernel
theorem dM_count_85 : decode cM_count 85 = .ok (.iconst 1, 1) := by decide +kernel
theorem dM_count_86 : decode cM_count 86 = .ok (.goto 4, 3) := by decide +kernel
theorem dM_count_89 : decode cM_count 89 = .ok (.iconst 0, 1) := by decide +kernel
theorem dM_count_90 : decode cM_count 90 = .ok (.istore 6, 2) := by decide +kernel
theorem dM_count_92 : decode cM_count 92 = .ok (.iinc 7 1, 3) := by decide +kernel
theorem dM_count_95 : decode cM_count 95 = .ok (.goto (-47), 3) := by decide +kernel
theorem dM_count_98 : decode cM_count 98 = .ok (.iload 6, 2) := by decide +kernel
theorem dM_count_100 : decode cM_count 100 = .ok (.ifCond .eq 9, 3) := by decide +kernel
theorem dM_count_103 : decode cM_count 103 = .ok (.iload_n 3, 1) := by decide +kernel
theorem dM_count_104 : decode cM_count 104 = .ok (.iconst 1, 1) := by decide +kernel
theorem dM_count_105 : decode cM_count 105 = .ok (.iadd, 1) := by decide +kernel
theorem dM_count_106 : decode cM_count 106 = .ok (.goto 4, 3) := by decide +kernel
theorem dM_count_109 : decode cM_count 109 = .ok (.iload_n 3, 1) := by decide +kernel
theorem dM_count_110 : decode cM_count 110 = .ok (.istore_n 3, 1) := by decide +kernel
theorem dM_count_111 : decode cM_count 111 = .ok (.iinc 5 1, 3) := by decide +kernel
theorem dM_count_114 : decode cM_count 114 = .ok (.goto (-99), 3) := by decide +kernel
theorem dM_count_117 : decode cM_count 117 = .ok (.iinc 4 12, 3) := by decide +kernel
theorem dM_count_120 : decode cM_count 120 = .ok (.goto (-115), 3) := by decide +kernel
theorem dM_count_123 : decode cM_count 123 = .ok (.iload_n 3, 1) := by decide +kernel
theorem dM_count_124 : decode cM_count 124 = .ok (.ireturn, 1) := by decide +kernel
theorem dM_holder_0 : decode cM_holder 0 = .ok (.aload_n 0, 1) := by decide +kernel
theorem dM_holder_1 : decode cM_holder 1 = .ok (.getfield 19, 3) := by decide +kernel
theorem dM_holder_4 : decode cM_holder 4 = .ok (.iload_n 1, 1) := by decide +kernel
theorem dM_holder_5 : decode cM_holder 5 = .ok (.iaload, 1) := by decide +kernel
theorem dM_holder_6 : decode cM_holder 6 = .ok (.ifCond .le 12, 3) := by decide +kernel
theorem dM_holder_9 : decode cM_holder 9 = .ok (.aload_n 0, 1) := by decide +kernel
theorem dM_holder_10 : decode cM_holder 10 = .ok (.getfield 19, 3) := by decide +kernel
theorem dM_holder_13 : decode cM_holder 13 = .ok (.iload_n 1, 1) := by decide +kernel
theorem dM_holder_14 : decode cM_holder 14 = .ok (.iaload, 1) := by decide +kernel
theorem dM_holder_15 : decode cM_holder 15 = .ok (.goto 34, 3) := by decide +kernel
theorem dM_holder_18 : decode cM_holder 18 = .ok (.aload_n 0, 1) := by decide +kernel
theorem dM_holder_19 : decode cM_holder 19 = .ok (.getfield 13, 3) := by decide +kernel
theorem dM_holder_22 : decode cM_holder 22 = .ok (.iload_n 1, 1) := by decide +kernel
theorem dM_holder_23 : decode cM_holder 23 = .ok (.iaload, 1) := by decide +kernel
theorem dM_holder_24 : decode cM_holder 24 = .ok (.iconst 1, 1) := by decide +kernel
theorem dM_holder_25 : decode cM_holder 25 = .ok (.if_icmp .lt 23, 3) := by decide +kernel
theorem dM_holder_28 : decode cM_holder 28 = .ok (.aload_n 0, 1) := by decide +kernel
theorem dM_holder_29 : decode cM_holder 29 = .ok (.getfield 13, 3) := by decide +kernel
theorem dM_holder_32 : decode cM_holder 32 = .ok (.iload_n 1, 1) := by decide +kernel
theorem dM_holder_33 : decode cM_holder 33 = .ok (.iaload, 1) := by decide +kernel
theorem dM_holder_34 : decode cM_holder 34 = .ok (.bipush 6, 2) := by decide +kernel
theorem dM_holder_36 : decode cM_holder 36 = .ok (.if_icmp .gt 12, 3) := by decide +kernel
theorem dM_holder_39 : decode cM_holder 39 = .ok (.aload_n 0, 1) := by decide +kernel
theorem dM_holder_40 : decode cM_holder 40 = .ok (.getfield 13, 3) := by decide +kernel
theorem dM_holder_43 : decode cM_holder 43 = .ok (.iload_n 1, 1) := by decide +kernel
theorem dM_holder_44 : decode cM_holder 44 = .ok (.iaload, 1) := by decide +kernel
theorem dM_holder_45 : decode cM_holder 45 = .ok (.goto 4, 3) := by decide +kernel
theorem dM_holder_48 : decode cM_holder 48 = .ok (.iconst 0, 1) := by decide +kernel
theorem dM_holder_49 : decode cM_holder 49 = .ok (.ireturn, 1) := by decide +kernel
theorem dM_donate_0 : decode cM_donate 0 = .ok (.aload_n 0, 1) := by decide +kernel
theorem dM_donate_1 : decode cM_donate 1 = .ok (.iload_n 1, 1) := by decide +kernel
theorem dM_donate_2 : decode cM_donate 2 = .ok (.iload_n 2, 1) := by decide +kernel
theorem dM_donate_3 : decode cM_donate 3 = .ok (.iload_n 3, 1) := by decide +kernel
theorem dM_donate_4 : decode cM_donate 4 = .ok (.invokevirtual 104, 3) := by decide +kernel
theorem dM_donate_7 : decode cM_donate 7 = .ok (.istore 4, 2) := by decide +kernel
theorem dM_donate_9 : decode cM_donate 9 = .ok (.iload 4, 2) := by decide +kernel
theorem dM_donate_11 : decode cM_donate 11 = .ok (.ifCond .ge 6, 3) := by decide +kernel
theorem dM_donate_14 : decode cM_donate 14 = .ok (.iload 4, 2) := by decide +kernel
theorem dM_donate_16 : decode cM_donate 16 = .ok (.ireturn, 1) := by decide +kernel
theorem dM_donate_17 : decode cM_donate 17 = .ok (.aload_n 0, 1) := by decide +kernel
theorem dM_donate_18 : decode cM_donate 18 = .ok (.getfield 13, 3) := by decide +kernel
theorem dM_donate_21 : decode cM_donate 21 = .ok (.iload_n 2, 1) := by decide +kernel
theorem dM_donate_22 : decode cM_donate 22 = .ok (.iload_n 1, 1) := by decide +kernel
theorem dM_donate_23 : decode cM_donate 23 = .ok (.iastore, 1) := by decide +kernel
theorem dM_donate_24 : decode cM_donate 24 = .ok (.aload_n 0, 1) := by decide +kernel
theorem dM_donate_25 : decode cM_donate 25 = .ok (.getfield 22, 3) := by decide +kernel
theorem dM_donate_28 : decode cM_donate 28 = .ok (.iload_n 2, 1) := by decide +kernel
theorem dM_donate_29 : decode cM_donate 29 = .ok (.iload_n 3, 1) := by decide +kernel
theorem dM_donate_30 : decode cM_donate 30 = .ok (.iastore, 1) := by decide +kernel
theorem dM_donate_31 : decode cM_donate 31 = .ok (.aload_n 0, 1) := by decide +kernel
theorem dM_donate_32 : decode cM_donate 32 = .ok (.getfield 25, 3) := by decide +kernel
theorem dM_donate_35 : decode cM_donate 35 = .ok (.iload_n 2, 1) := by decide +kernel
theorem dM_donate_36 : decode cM_donate 36 = .ok (.iconst 0, 1) := by decide +kernel
theorem dM_donate_37 : decode cM_donate 37 = .ok (.bastore, 1) := by decide +kernel
theorem dM_donate_38 : decode cM_donate 38 = .ok (.aload_n 0, 1) := by decide +kernel
theorem dM_donate_39 : decode cM_donate 39 = .ok (.getfield 35, 3) := by decide +kernel
theorem dM_donate_42 : decode cM_donate 42 = .ok (.iload_n 1, 1) := by decide +kernel
theorem dM_donate_43 : decode cM_donate 43 = .ok (.baload, 1) := by decide +kernel
theorem dM_donate_44 : decode cM_donate 44 = .ok (.ifCond .eq 8, 3) := by decide +kernel
theorem dM_donate_47 : decode cM_donate 47 = .ok (.aload_n 0, 1) := by decide +kernel
theorem dM_donate_48 : decode cM_donate 48 = .ok (.iload_n 2, 1) := by decide +kernel
theorem dM_donate_49 : decode cM_donate 49 = .ok (.invokevirtual 81, 3) := by decide +kernel
theorem dM_donate_52 : decode cM_donate 52 = .ok (.aload_n 0, 1) := by decide +kernel
theorem dM_donate_53 : decode cM_donate 53 = .ok (.iload_n 2, 1) := by decide +kernel
theorem dM_donate_54 : decode cM_donate 54 = .ok (.invokevirtual 85, 3) := by decide +kernel
theorem dM_donate_57 : decode cM_donate 57 = .ok (.iconst 0, 1) := by decide +kernel
theorem dM_donate_58 : decode cM_donate 58 = .ok (.ireturn, 1) := by decide +kernel
theorem dM_refusal_0 : decode cM_refusal 0 = .ok (.aload_n 0, 1) := by decide +kernel
theorem dM_refusal_1 : decode cM_refusal 1 = .ok (.iload_n 1, 1) := by decide +kernel
theorem dM_refusal_2 : decode cM_refusal 2 = .ok (.invokevirtual 95, 3) := by decide +kernel
theorem dM_refusal_5 : decode cM_refusal 5 = .ok (.ifCond .ne 5, 3) := by decide +kernel
theorem dM_refusal_8 : decode cM_refusal 8 = .ok (.iconst (-1), 1) := by decide +kernel
theorem dM_refusal_9 : decode cM_refusal 9 = .ok (.ireturn, 1) := by decide +kernel
theorem dM_refusal_10 : decode cM_refusal 10 = .ok (.aload_n 0, 1) := by decide +kernel
theorem dM_refusal_11 : decode cM_refusal 11 = .ok (.iload_n 2, 1) := by decide +kernel
theorem dM_refusal_12 : decode cM_refusal 12 = .ok (.invokevirtual 88, 3) := by decide +kernel
theorem dM_refusal_15 : decode cM_refusal 15 = .ok (.ifCond .ne 6, 3) := by decide +kernel
theorem dM_refusal_18 : decode cM_refusal 18 = .ok (.bipush (-2), 2) := by decide +kernel
theorem dM_refusal_20 : decode cM_refusal 20 = .ok (.ireturn, 1) := by decide +kernel
theorem dM_refusal_21 : decode cM_refusal 21 = .ok (.iload_n 3, 1) := by decide +kernel
theorem dM_refusal_22 : decode cM_refusal 22 = .ok (.ifCond .lt 18, 3) := by decide +kernel
theorem dM_refusal_25 : decode cM_refusal 25 = .ok (.iload_n 3, 1) := by decide +kernel
theorem dM_refusal_26 : decode cM_refusal 26 = .ok (.bipush 63, 2) := by decide +kernel
theorem dM_refusal_28 : decode cM_refusal 28 = .ok (.if_icmp .gt 12, 3) := by decide +kernel
theorem dM_refusal_31 : decode cM_refusal 31 = .ok (.aload_n 0, 1) := by decide +kernel
theorem dM_refusal_32 : decode cM_refusal 32 = .ok (.iload_n 1, 1) := by decide +kernel
theorem dM_refusal_33 : decode cM_refusal 33 = .ok (.iload_n 3, 1) := by decide +kernel
theorem dM_refusal_34 : decode cM_refusal 34 = .ok (.invokevirtual 101, 3) := by decide +kernel
theorem dM_refusal_37 : decode cM_refusal 37 = .ok (.ifCond .lt 6, 3) := by decide +kernel
theorem dM_refusal_40 : decode cM_refusal 40 = .ok (.bipush (-3), 2) := by decide +kernel
theorem dM_refusal_42 : decode cM_refusal 42 = .ok (.ireturn, 1) := by decide +kernel
theorem dM_refusal_43 : decode cM_refusal 43 = .ok (.aload_n 0, 1) := by decide +kernel
theorem dM_refusal_44 : decode cM_refusal 44 = .ok (.iload_n 1, 1) := by decide +kernel
theorem dM_refusal_45 : decode cM_refusal 45 = .ok (.iload_n 3, 1) := by decide +kernel
theorem dM_refusal_46 : decode cM_refusal 46 = .ok (.invokevirtual 68, 3) := by decide +kernel
theorem dM_refusal_49 : decode cM_refusal 49 = .ok (.aload_n 0, 1) := by decide +kernel
theorem dM_refusal_50 : decode cM_refusal 50 = .ok (.iload_n 1, 1) := by decide +kernel
theorem dM_refusal_51 : decode cM_refusal 51 = .ok (.iconst (-1), 1) := by decide +kernel
theorem dM_refusal_52 : decode cM_refusal 52 = .ok (.invokevirtual 68, 3) := by decide +kernel
theorem dM_refusal_55 : decode cM_refusal 55 = .ok (.isub, 1) := by decide +kernel
theorem dM_refusal_56 : decode cM_refusal 56 = .ok (.istore 4, 2) := by decide +kernel
theorem dM_refusal_58 : decode cM_refusal 58 = .ok (.iload 4, 2) := by decide +kernel
theorem dM_refusal_60 : decode cM_refusal 60 = .ok (.aload_n 0, 1) := by decide +kernel
theorem dM_refusal_61 : decode cM_refusal 61 = .ok (.iload_n 1, 1) := by decide +kernel
theorem dM_refusal_62 : decode cM_refusal 62 = .ok (.invokevirtual 98, 3) := by decide +kernel
theorem dM_refusal_65 : decode cM_refusal 65 = .ok (.if_icmp .le 8, 3) := by decide +kernel
theorem dM_refusal_68 : decode cM_refusal 68 = .ok (.bipush (-4), 2) := by decide +kernel
theorem dM_refusal_70 : decode cM_refusal 70 = .ok (.goto 4, 3) := by decide +kernel
theorem dM_refusal_73 : decode cM_refusal 73 = .ok (.iconst 0, 1) := by decide +kernel
theorem dM_refusal_74 : decode cM_refusal 74 = .ok (.ireturn, 1) := by decide +kernel
theorem dM_held_0 : decode cM_held 0 = .ok (.iconst 0, 1) := by decide +kernel
theorem dM_held_1 : decode cM_held 1 = .ok (.istore_n 3, 1) := by decide +kernel
theorem dM_held_2 : decode cM_held 2 = .ok (.iload_n 3, 1) := by decide +kernel
theorem dM_held_3 : decode cM_held 3 = .ok (.bipush 24, 2) := by decide +kernel
theorem dM_held_5 : decode cM_held 5 = .ok (.if_icmp .ge 30, 3) := by decide +kernel
theorem dM_held_8 : decode cM_held 8 = .ok (.aload_n 0, 1) := by decide +kernel
theorem dM_held_9 : decode cM_held 9 = .ok (.iload_n 3, 1) := by decide +kernel
theorem dM_held_10 : decode cM_held 10 = .ok (.invokevirtual 64, 3) := by decide +kernel
theorem dM_held_13 : decode cM_held 13 = .ok (.iload_n 1, 1) := by decide +kernel
theorem dM_held_14 : decode cM_held 14 = .ok (.if_icmp .ne 15, 3) := by decide +kernel
theorem dM_held_17 : decode cM_held 17 = .ok (.aload_n 0, 1) := by decide +kernel
theorem dM_held_18 : decode cM_held 18 = .ok (.getfield 22, 3) := by decide +kernel
theorem dM_held_21 : decode cM_held 21 = .ok (.iload_n 3, 1) := by decide +kernel
theorem dM_held_22 : decode cM_held 22 = .ok (.iaload, 1) := by decide +kernel
theorem dM_held_23 : decode cM_held 23 = .ok (.iload_n 2, 1) := by decide +kernel
theorem dM_held_24 : decode cM_held 24 = .ok (.if_icmp .ne 5, 3) := by decide +kernel
theorem dM_held_27 : decode cM_held 27 = .ok (.iload_n 3, 1) := by decide +kernel
theorem dM_held_28 : decode cM_held 28 = .ok (.ireturn, 1) := by decide +kernel
theorem dM_held_29 : decode cM_held 29 = .ok (.iinc 3 1, 3) := by decide +kernel
theorem dM_held_32 : decode cM_held 32 = .ok (.goto (-30), 3) := by decide +kernel
theorem dM_held_35 : decode cM_held 35 = .ok (.iconst (-1), 1) := by decide +kernel
theorem dM_held_36 : decode cM_held 36 = .ok (.ireturn, 1) := by decide +kernel
theorem dM_lend_0 : decode cM_lend 0 = .ok (.aload_n 0, 1) := by decide +kernel
theorem dM_lend_1 : decode cM_lend 1 = .ok (.iload_n 1, 1) := by decide +kernel
theorem dM_lend_2 : decode cM_lend 2 = .ok (.iload_n 2, 1) := by decide +kernel
theorem dM_lend_3 : decode cM_lend 3 = .ok (.iload_n 3, 1) := by decide +kernel
theorem dM_lend_4 : decode cM_lend 4 = .ok (.invokevirtual 104, 3) := by decide +kernel
theorem dM_lend_7 : decode cM_lend 7 = .ok (.istore 4, 2) := by decide +kernel
theorem dM_lend_9 : decode cM_lend 9 = .ok (.iload 4, 2) := by decide +kernel
theorem dM_lend_11 : decode cM_lend 11 = .ok (.ifCond .ne 17, 3) := by decide +kernel
theorem dM_lend_14 : decode cM_lend 14 = .ok (.aload_n 0, 1) := by decide +kernel
theorem dM_lend_15 : decode cM_lend 15 = .ok (.getfield 19, 3) := by decide +kernel
theorem dM_lend_18 : decode cM_lend 18 = .ok (.iload_n 2, 1) := by decide +kernel
theorem dM_lend_19 : decode cM_lend 19 = .ok (.iload_n 1, 1) := by decide +kernel
theorem dM_lend_20 : decode cM_lend 20 = .ok (.iastore, 1) := by decide +kernel
theorem dM_lend_21 : decode cM_lend 21 = .ok (.aload_n 0, 1) := by decide +kernel
theorem dM_lend_22 : decode cM_lend 22 = .ok (.getfield 22, 3) := by decide +kernel
theorem dM_lend_25 : decode cM_lend 25 = .ok (.iload_n 2, 1) := by decide +kernel
theorem dM_lend_26 : decode cM_lend 26 = .ok (.iload_n 3, 1) := by decide +kernel
theorem dM_lend_27 : decode cM_lend 27 = .ok (.iastore, 1) := by decide +kernel
theorem dM_lend_28 : decode cM_lend 28 = .ok (.iload 4, 2) := by decide +kernel
theorem dM_lend_30 : decode cM_lend 30 = .ok (.ireturn, 1) := by decide +kernel
theorem dM_takeBack_0 : decode cM_takeBack 0 = .ok (.iload_n 1, 1) := by decide +kernel
theorem dM_takeBack_1 : decode cM_takeBack 1 = .ok (.invokestatic 54, 3) := by decide +kernel
theorem dM_takeBack_4 : decode cM_takeBack 4 = .ok (.ifCond .eq 12, 3) := by decide +kernel
theorem dM_takeBack_7 : decode cM_takeBack 7 = .ok (.aload_n 0, 1) := by decide +kernel
theorem dM_takeBack_8 : decode cM_takeBack 8 = .ok (.getfield 19, 3) := by decide +kernel
theorem dM_takeBack_11 : decode cM_takeBack 11 = .ok (.iload_n 1, 1) := by decide +kernel
theorem dM_takeBack_12 : decode cM_takeBack 12 = .ok (.iaload, 1) := by decide +kernel
theorem dM_takeBack_13 : decode cM_takeBack 13 = .ok (.ifCond .ne 5, 3) := by decide +kernel
theorem dM_takeBack_16 : decode cM_takeBack 16 = .ok (.iconst 0, 1) := by decide +kernel
theorem dM_takeBack_17 : decode cM_takeBack 17 = .ok (.ireturn, 1) := by decide +kernel
theorem dM_takeBack_18 : decode cM_takeBack 18 = .ok (.aload_n 0, 1) := by decide +kernel
theorem dM_takeBack_19 : decode cM_takeBack 19 = .ok (.getfield 19, 3) := by decide +kernel
theorem dM_takeBack_22 : decode cM_takeBack 22 = .ok (.iload_n 1, 1) := by decide +kernel
theorem dM_takeBack_23 : decode cM_takeBack 23 = .ok (.iconst 0, 1) := by decide +kernel
theorem dM_takeBack_24 : decode cM_takeBack 24 = .ok (.iastore, 1) := by decide +kernel
theorem dM_takeBack_25 : decode cM_takeBack 25 = .ok (.iconst 1, 1) := by decide +kernel
theorem dM_takeBack_26 : decode cM_takeBack 26 = .ok (.ireturn, 1) := by decide +kernel
theorem dM_destroy_0 : decode cM_destroy 0 = .ok (.aload_n 0, 1) := by decide +kernel
theorem dM_destroy_1 : decode cM_destroy 1 = .ok (.iload_n 1, 1) := by decide +kernel
theorem dM_destroy_2 : decode cM_destroy 2 = .ok (.invokevirtual 95, 3) := by decide +kernel
theorem dM_destroy_5 : decode cM_destroy 5 = .ok (.ifCond .eq 20, 3) := by decide +kernel
theorem dM_destroy_8 : decode cM_destroy 8 = .ok (.aload_n 0, 1) := by decide +kernel
theorem dM_destroy_9 : decode cM_destroy 9 = .ok (.getfield 47, 3) := by decide +kernel
theorem dM_destroy_12 : decode cM_destroy 12 = .ok (.ifCond .lt 15, 3) := by decide +kernel
theorem dM_destroy_15 : decode cM_destroy 15 = .ok (.aload_n 0, 1) := by decide +kernel
theorem dM_destroy_16 : decode cM_destroy 16 = .ok (.getfield 47, 3) := by decide +kernel
theorem dM_destroy_19 : decode cM_destroy 19 = .ok (.iconst 2, 1) := by decide +kernel
theorem dM_destroy_20 : decode cM_destroy 20 = .ok (.idiv, 1) := by decide +kernel
theorem dM_destroy_21 : decode cM_destroy 21 = .ok (.iload_n 1, 1) := by decide +kernel
theorem dM_destroy_22 : decode cM_destroy 22 = .ok (.if_icmp .ne 5, 3) := by decide +kernel
theorem dM_destroy_25 : decode cM_destroy 25 = .ok (.iconst 0, 1) := by decide +kernel
theorem dM_destroy_26 : decode cM_destroy 26 = .ok (.ireturn, 1) := by decide +kernel
theorem dM_destroy_27 : decode cM_destroy 27 = .ok (.aload_n 0, 1) := by decide +kernel
theorem dM_destroy_28 : decode cM_destroy 28 = .ok (.getfield 32, 3) := by decide +kernel
theorem dM_destroy_31 : decode cM_destroy 31 = .ok (.iload_n 1, 1) := by decide +kernel
theorem dM_destroy_32 : decode cM_destroy 32 = .ok (.iconst 0, 1) := by decide +kernel
theorem dM_destroy_33 : decode cM_destroy 33 = .ok (.bastore, 1) := by decide +kernel
theorem dM_destroy_34 : decode cM_destroy 34 = .ok (.iconst 0, 1) := by decide +kernel
theorem dM_destroy_35 : decode cM_destroy 35 = .ok (.istore_n 2, 1) := by decide +kernel
theorem dM_destroy_36 : decode cM_destroy 36 = .ok (.iload_n 2, 1) := by decide +kernel
theorem dM_destroy_37 : decode cM_destroy 37 = .ok (.bipush 24, 2) := by decide +kernel
theorem dM_destroy_39 : decode cM_destroy 39 = .ok (.if_icmp .ge 86, 3) := by decide +kernel
theorem dM_destroy_42 : decode cM_destroy 42 = .ok (.aload_n 0, 1) := by decide +kernel
theorem dM_destroy_43 : decode cM_destroy 43 = .ok (.getfield 13, 3) := by decide +kernel
theorem dM_destroy_46 : decode cM_destroy 46 = .ok (.iload_n 2, 1) := by decide +kernel
theorem dM_destroy_47 : decode cM_destroy 47 = .ok (.iaload, 1) := by decide +kernel
theorem dM_destroy_48 : decode cM_destroy 48 = .ok (.iload_n 1, 1) := by decide +kernel
theorem dM_destroy_49 : decode cM_destroy 49 = .ok (.if_icmp .eq 24, 3) := by decide +kernel
theorem dM_destroy_52 : decode cM_destroy 52 = .ok (.aload_n 0, 1) := by decide +kernel
theorem dM_destroy_53 : decode cM_destroy 53 = .ok (.getfield 13, 3) := by decide +kernel
theorem dM_destroy_56 : decode cM_destroy 56 = .ok (.iload_n 2, 1) := by decide +kernel
theorem dM_destroy_57 : decode cM_destroy 57 = .ok (.iaload, 1) := by decide +kernel
theorem dM_destroy_58 : decode cM_destroy 58 = .ok (.bipush 7, 2) := by decide +kernel
theorem dM_destroy_60 : decode cM_destroy 60 = .ok (.if_icmp .ne 33, 3) := by decide +kernel
theorem dM_destroy_63 : decode cM_destroy 63 = .ok (.aload_n 0, 1) := by decide +kernel
theorem dM_destroy_64 : decode cM_destroy 64 = .ok (.getfield 16, 3) := by decide +kernel
theorem dM_destroy_67 : decode cM_destroy 67 = .ok (.iload_n 2, 1) := by decide +kernel
theorem dM_destroy_68 : decode cM_destroy 68 = .ok (.iaload, 1) := by decide +kernel
theorem dM_destroy_69 : decode cM_destroy 69 = .ok (.iload_n 1, 1) := by decide +kernel
theorem dM_destroy_70 : decode cM_destroy 70 = .ok (.if_icmp .ne 23, 3) := by decide +kernel
theorem dM_destroy_73 : decode cM_destroy 73 = .ok (.aload_n 0, 1) := by decide +kernel
theorem dM_destroy_74 : decode cM_destroy 74 = .ok (.getfield 13, 3) := by decide +kernel
theorem dM_destroy_77 : decode cM_destroy 77 = .ok (.iload_n 2, 1) := by decide +kernel
theorem dM_destroy_78 : decode cM_destroy 78 = .ok (.bipush 8, 2) := by decide +kernel
theorem dM_destroy_80 : decode cM_destroy 80 = .ok (.iastore, 1) := by decide +kernel
theorem dM_destroy_81 : decode cM_destroy 81 = .ok (.aload_n 0, 1) := by decide +kernel
theorem dM_destroy_82 : decode cM_destroy 82 = .ok (.getfield 25, 3) := by decide +kernel
theorem dM_destroy_85 : decode cM_destroy 85 = .ok (.iload_n 2, 1) := by decide +kernel
theorem dM_destroy_86 : decode cM_destroy 86 = .ok (.iconst 0, 1) := by decide +kernel
theorem dM_destroy_87 : decode cM_destroy 87 = .ok (.bastore, 1) := by decide +kernel
theorem dM_destroy_88 : decode cM_destroy 88 = .ok (.aload_n 0, 1) := by decide +kernel
theorem dM_destroy_89 : decode cM_destroy 89 = .ok (.iload_n 2, 1) := by decide +kernel
theorem dM_destroy_90 : decode cM_destroy 90 = .ok (.invokevirtual 85, 3) := by decide +kernel
theorem dM_destroy_93 : decode cM_destroy 93 = .ok (.aload_n 0, 1) := by decide +kernel
theorem dM_destroy_94 : decode cM_destroy 94 = .ok (.getfield 19, 3) := by decide +kernel
theorem dM_destroy_97 : decode cM_destroy 97 = .ok (.iload_n 2, 1) := by decide +kernel
theorem dM_destroy_98 : decode cM_destroy 98 = .ok (.aload_n 0, 1) := by decide +kernel
theorem dM_destroy_99 : decode cM_destroy 99 = .ok (.getfield 19, 3) := by decide +kernel
theorem dM_destroy_102 : decode cM_destroy 102 = .ok (.iload_n 2, 1) := by decide +kernel
theorem dM_destroy_103 : decode cM_destroy 103 = .ok (.iaload, 1) := by decide +kernel
theorem dM_destroy_104 : decode cM_destroy 104 = .ok (.iload_n 1, 1) := by decide +kernel
theorem dM_destroy_105 : decode cM_destroy 105 = .ok (.if_icmp .ne 7, 3) := by decide +kernel
theorem dM_destroy_108 : decode cM_destroy 108 = .ok (.iconst 0, 1) := by decide +kernel
theorem dM_destroy_109 : decode cM_destroy 109 = .ok (.goto 9, 3) := by decide +kernel
theorem dM_destroy_112 : decode cM_destroy 112 = .ok (.aload_n 0, 1) := by decide +kernel
theorem dM_destroy_113 : decode cM_destroy 113 = .ok (.getfield 19, 3) := by decide +kernel
theorem dM_destroy_116 : decode cM_destroy 116 = .ok (.iload_n 2, 1) := by decide +kernel
theorem dM_destroy_117 : decode cM_destroy 117 = .ok (.iaload, 1) := by decide +kernel
theorem dM_destroy_118 : decode cM_destroy 118 = .ok (.iastore, 1) := by decide +kernel
theorem dM_destroy_119 : decode cM_destroy 119 = .ok (.iinc 2 1, 3) := by decide +kernel
theorem dM_destroy_122 : decode cM_destroy 122 = .ok (.goto (-86), 3) := by decide +kernel
theorem dM_destroy_125 : decode cM_destroy 125 = .ok (.iconst 1, 1) := by decide +kernel
theorem dM_destroy_126 : decode cM_destroy 126 = .ok (.ireturn, 1) := by decide +kernel
theorem dM_reclaim_0 : decode cM_reclaim 0 = .ok (.iload_n 1, 1) := by decide +kernel
theorem dM_reclaim_1 : decode cM_reclaim 1 = .ok (.invokestatic 54, 3) := by decide +kernel
theorem dM_reclaim_4 : decode cM_reclaim 4 = .ok (.ifCond .eq 14, 3) := by decide +kernel
theorem dM_reclaim_7 : decode cM_reclaim 7 = .ok (.aload_n 0, 1) := by decide +kernel
theorem dM_reclaim_8 : decode cM_reclaim 8 = .ok (.getfield 13, 3) := by decide +kernel
theorem dM_reclaim_11 : decode cM_reclaim 11 = .ok (.iload_n 1, 1) := by decide +kernel
theorem dM_reclaim_12 : decode cM_reclaim 12 = .ok (.iaload, 1) := by decide +kernel
theorem dM_reclaim_13 : decode cM_reclaim 13 = .ok (.bipush 8, 2) := by decide +kernel
theorem dM_reclaim_15 : decode cM_reclaim 15 = .ok (.if_icmp .eq 5, 3) := by decide +kernel
theorem dM_reclaim_18 : decode cM_reclaim 18 = .ok (.iconst 0, 1) := by decide +kernel
theorem dM_reclaim_19 : decode cM_reclaim 19 = .ok (.ireturn, 1) := by decide +kernel
theorem dM_reclaim_20 : decode cM_reclaim 20 = .ok (.aload_n 0, 1) := by decide +kernel
theorem dM_reclaim_21 : decode cM_reclaim 21 = .ok (.getfield 13, 3) := by decide +kernel
theorem dM_reclaim_24 : decode cM_reclaim 24 = .ok (.iload_n 1, 1) := by decide +kernel
theorem dM_reclaim_25 : decode cM_reclaim 25 = .ok (.iconst 0, 1) := by decide +kernel
theorem dM_reclaim_26 : decode cM_reclaim 26 = .ok (.iastore, 1) := by decide +kernel
theorem dM_reclaim_27 : decode cM_reclaim 27 = .ok (.aload_n 0, 1) := by decide +kernel
theorem dM_reclaim_28 : decode cM_reclaim 28 = .ok (.iload_n 1, 1) := by decide +kernel
theorem dM_reclaim_29 : decode cM_reclaim 29 = .ok (.invokevirtual 81, 3) := by decide +kernel
theorem dM_reclaim_32 : decode cM_reclaim 32 = .ok (.iconst 1, 1) := by decide +kernel
theorem dM_reclaim_33 : decode cM_reclaim 33 = .ok (.ireturn, 1) := by decide +kernel
theorem dM_load_0 : decode cM_load 0 = .ok (.aload_n 0, 1) := by decide +kernel
theorem dM_load_1 : decode cM_load 1 = .ok (.getfield 47, 3) := by decide +kernel
theorem dM_load_4 : decode cM_load 4 = .ok (.ifCond .ge 20, 3) := by decide +kernel
theorem dM_load_7 : decode cM_load 7 = .ok (.aload_n 0, 1) := by decide +kernel
theorem dM_load_8 : decode cM_load 8 = .ok (.iload_n 1, 1) := by decide +kernel
theorem dM_load_9 : decode cM_load 9 = .ok (.invokevirtual 95, 3) := by decide +kernel
theorem dM_load_12 : decode cM_load 12 = .ok (.ifCond .eq 12, 3) := by decide +kernel
theorem dM_load_15 : decode cM_load 15 = .ok (.iload_n 2, 1) := by decide +kernel
theorem dM_load_16 : decode cM_load 16 = .ok (.ifCond .lt 8, 3) := by decide +kernel
theorem dM_load_19 : decode cM_load 19 = .ok (.iload_n 2, 1) := by decide +kernel
theorem dM_load_20 : decode cM_load 20 = .ok (.iconst 1, 1) := by decide +kernel
theorem dM_load_21 : decode cM_load 21 = .ok (.if_icmp .le 5, 3) := by decide +kernel
theorem dM_load_24 : decode cM_load 24 = .ok (.iconst 0, 1) := by decide +kernel
theorem dM_load_25 : decode cM_load 25 = .ok (.ireturn, 1) := by decide +kernel
theorem dM_load_26 : decode cM_load 26 = .ok (.aload_n 0, 1) := by decide +kernel
theorem dM_load_27 : decode cM_load 27 = .ok (.iconst 2, 1) := by decide +kernel
theorem dM_load_28 : decode cM_load 28 = .ok (.iload_n 1, 1) := by decide +kernel
theorem dM_load_29 : decode cM_load 29 = .ok (.imul, 1) := by decide +kernel
theorem dM_load_30 : decode cM_load 30 = .ok (.iload_n 2, 1) := by decide +kernel
theorem dM_load_31 : decode cM_load 31 = .ok (.iadd, 1) := by decide +kernel
theorem dM_load_32 : decode cM_load 32 = .ok (.putfield 47, 3) := by decide +kernel
theorem dM_load_35 : decode cM_load 35 = .ok (.aload_n 0, 1) := by decide +kernel
theorem dM_load_36 : decode cM_load 36 = .ok (.getfield 35, 3) := by decide +kernel
theorem dM_load_39 : decode cM_load 39 = .ok (.iload_n 1, 1) := by decide +kernel
theorem dM_load_40 : decode cM_load 40 = .ok (.iconst 1, 1) := by decide +kernel
theorem dM_load_41 : decode cM_load 41 = .ok (.bastore, 1) := by decide +kernel
theorem dM_load_42 : decode cM_load 42 = .ok (.iconst 1, 1) := by decide +kernel
theorem dM_load_43 : decode cM_load 43 = .ok (.ireturn, 1) := by decide +kernel
theorem dM_put_0 : decode cM_put 0 = .ok (.aload_n 0, 1) := by decide +kernel
theorem dM_put_1 : decode cM_put 1 = .ok (.getfield 47, 3) := by decide +kernel
theorem dM_put_4 : decode cM_put 4 = .ok (.ifCond .lt 7, 3) := by decide +kernel
theorem dM_put_7 : decode cM_put 7 = .ok (.iconst 1, 1) := by decide +kernel
theorem dM_put_8 : decode cM_put 8 = .ok (.goto 4, 3) := by decide +kernel
theorem dM_put_11 : decode cM_put 11 = .ok (.iconst 0, 1) := by decide +kernel
theorem dM_put_12 : decode cM_put 12 = .ok (.istore_n 1, 1) := by decide +kernel
theorem dM_put_13 : decode cM_put 13 = .ok (.aload_n 0, 1) := by decide +kernel
theorem dM_put_14 : decode cM_put 14 = .ok (.iconst (-1), 1) := by decide +kernel
theorem dM_put_15 : decode cM_put 15 = .ok (.putfield 47, 3) := by decide +kernel
theorem dM_put_18 : decode cM_put 18 = .ok (.iload_n 1, 1) := by decide +kernel
theorem dM_put_19 : decode cM_put 19 = .ok (.ireturn, 1) := by decide +kernel
theorem dM_run_0 : decode cM_run 0 = .ok (.aload_n 0, 1) := by decide +kernel
theorem dM_run_1 : decode cM_run 1 = .ok (.getfield 47, 3) := by decide +kernel
theorem dM_run_4 : decode cM_run 4 = .ok (.ifCond .lt 14, 3) := by decide +kernel
theorem dM_run_7 : decode cM_run 7 = .ok (.iload_n 1, 1) := by decide +kernel
theorem dM_run_8 : decode cM_run 8 = .ok (.iconst 1, 1) := by decide +kernel
theorem dM_run_9 : decode cM_run 9 = .ok (.if_icmp .lt 9, 3) := by decide +kernel
theorem dM_run_12 : decode cM_run 12 = .ok (.iload_n 1, 1) := by decide +kernel
theorem dM_run_13 : decode cM_run 13 = .ok (.bipush 64, 2) := by decide +kernel
theorem dM_run_15 : decode cM_run 15 = .ok (.if_icmp .le 5, 3) := by decide +kernel
theorem dM_run_18 : decode cM_run 18 = .ok (.iconst (-1), 1) := by decide +kernel
theorem dM_run_19 : decode cM_run 19 = .ok (.ireturn, 1) := by decide +kernel
theorem dM_run_20 : decode cM_run 20 = .ok (.aload_n 0, 1) := by decide +kernel
theorem dM_run_21 : decode cM_run 21 = .ok (.getfield 47, 3) := by decide +kernel
theorem dM_run_24 : decode cM_run 24 = .ok (.istore_n 3, 1) := by decide +kernel
theorem dM_run_25 : decode cM_run 25 = .ok (.aload_n 0, 1) := by decide +kernel
theorem dM_run_26 : decode cM_run 26 = .ok (.getfield 44, 3) := by decide +kernel
theorem dM_run_29 : decode cM_run 29 = .ok (.iload_n 3, 1) := by decide +kernel
theorem dM_run_30 : decode cM_run 30 = .ok (.iaload, 1) := by decide +kernel
theorem dM_run_31 : decode cM_run 31 = .ok (.ifCond .le 28, 3) := by decide +kernel
theorem dM_run_34 : decode cM_run 34 = .ok (.aload_n 0, 1) := by decide +kernel
theorem dM_run_35 : decode cM_run 35 = .ok (.getfield 38, 3) := by decide +kernel
theorem dM_run_38 : decode cM_run 38 = .ok (.iconst 4, 1) := by decide +kernel
theorem dM_run_39 : decode cM_run 39 = .ok (.iload_n 3, 1) := by decide +kernel
theorem dM_run_40 : decode cM_run 40 = .ok (.imul, 1) := by decide +kernel
theorem dM_run_41 : decode cM_run 41 = .ok (.aload_n 0, 1) := by decide +kernel
theorem dM_run_42 : decode cM_run 42 = .ok (.getfield 44, 3) := by decide +kernel
theorem dM_run_45 : decode cM_run 45 = .ok (.iload_n 3, 1) := by decide +kernel
theorem dM_run_46 : decode cM_run 46 = .ok (.iaload, 1) := by decide +kernel
theorem dM_run_47 : decode cM_run 47 = .ok (.iadd, 1) := by decide +kernel
theorem dM_run_48 : decode cM_run 48 = .ok (.iconst 1, 1) := by decide +kernel
theorem dM_run_49 : decode cM_run 49 = .ok (.isub, 1) := by decide +kernel
theorem dM_run_50 : decode cM_run 50 = .ok (.iload_n 2, 1) := by decide +kernel
theorem dM_run_51 : decode cM_run 51 = .ok (.iastore, 1) := by decide +kernel
theorem dM_run_52 : decode cM_run 52 = .ok (.aload_n 0, 1) := by decide +kernel
theorem dM_run_53 : decode cM_run 53 = .ok (.getfield 44, 3) := by decide +kernel
theorem dM_run_56 : decode cM_run 56 = .ok (.iload_n 3, 1) := by decide +kernel
theorem dM_run_57 : decode cM_run 57 = .ok (.iconst 0, 1) := by decide +kernel
theorem dM_run_58 : decode cM_run 58 = .ok (.iastore, 1) := by decide +kernel
theorem dM_run_59 : decode cM_run 59 = .ok (.aload_n 0, 1) := by decide +kernel
theorem dM_run_60 : decode cM_run 60 = .ok (.iconst 0, 1) := by decide +kernel
theorem dM_run_61 : decode cM_run 61 = .ok (.putfield 108, 3) := by decide +kernel
theorem dM_run_64 : decode cM_run 64 = .ok (.iconst 0, 1) := by decide +kernel
theorem dM_run_65 : decode cM_run 65 = .ok (.istore 4, 2) := by decide +kernel
theorem dM_run_67 : decode cM_run 67 = .ok (.iconst 0, 1) := by decide +kernel
theorem dM_run_68 : decode cM_run 68 = .ok (.istore 5, 2) := by decide +kernel
theorem dM_run_70 : decode cM_run 70 = .ok (.iload 5, 2) := by decide +kernel
theorem dM_run_72 : decode cM_run 72 = .ok (.iload_n 1, 1) := by decide +kernel
theorem dM_run_73 : decode cM_run 73 = .ok (.if_icmp .ge 21, 3) := by decide +kernel
theorem dM_run_76 : decode cM_run 76 = .ok (.iload 4, 2) := by decide +kernel
theorem dM_run_78 : decode cM_run 78 = .ok (.ifCond .ne 16, 3) := by decide +kernel
theorem dM_run_81 : decode cM_run 81 = .ok (.aload_n 0, 1) := by decide +kernel
theorem dM_run_82 : decode cM_run 82 = .ok (.iload_n 3, 1) := by decide +kernel
theorem dM_run_83 : decode cM_run 83 = .ok (.invokevirtual 111, 3) := by decide +kernel
theorem dM_run_86 : decode cM_run 86 = .ok (.istore 4, 2) := by decide +kernel
theorem dM_run_88 : decode cM_run 88 = .ok (.iinc 5 1, 3) := by decide +kernel
theorem dM_run_91 : decode cM_run 91 = .ok (.goto (-21), 3) := by decide +kernel
theorem dM_run_94 : decode cM_run 94 = .ok (.iload 4, 2) := by decide +kernel
theorem dM_run_96 : decode cM_run 96 = .ok (.ireturn, 1) := by decide +kernel
theorem dM_step_0 : decode cM_step 0 = .ok (.iload_n 1, 1) := by decide +kernel
theorem dM_step_1 : decode cM_step 1 = .ok (.iconst 2, 1) := by decide +kernel
theorem dM_step_2 : decode cM_step 2 = .ok (.idiv, 1) := by decide +kernel
theorem dM_step_3 : decode cM_step 3 = .ok (.istore_n 2, 1) := by decide +kernel
theorem dM_step_4 : decode cM_step 4 = .ok (.aload_n 0, 1) := by decide +kernel
theorem dM_step_5 : decode cM_step 5 = .ok (.iload_n 2, 1) := by decide +kernel
theorem dM_step_6 : decode cM_step 6 = .ok (.aload_n 0, 1) := by decide +kernel
theorem dM_step_7 : decode cM_step 7 = .ok (.getfield 41, 3) := by decide +kernel
theorem dM_step_10 : decode cM_step 10 = .ok (.iload_n 1, 1) := by decide +kernel
theorem dM_step_11 : decode cM_step 11 = .ok (.iaload, 1) := by decide +kernel
theorem dM_step_12 : decode cM_step 12 = .ok (.invokevirtual 114, 3) := by decide +kernel
theorem dM_step_15 : decode cM_step 15 = .ok (.istore_n 3, 1) := by decide +kernel
theorem dM_step_16 : decode cM_step 16 = .ok (.iload_n 3, 1) := by decide +kernel
theorem dM_step_17 : decode cM_step 17 = .ok (.ifCond .ge 5, 3) := by decide +kernel
theorem dM_step_20 : decode cM_step 20 = .ok (.iconst 1, 1) := by decide +kernel
theorem dM_step_21 : decode cM_step 21 = .ok (.ireturn, 1) := by decide +kernel
theorem dM_step_22 : decode cM_step 22 = .ok (.aload_n 0, 1) := by decide +kernel
theorem dM_step_23 : decode cM_step 23 = .ok (.getfield 7, 3) := by decide +kernel
theorem dM_step_26 : decode cM_step 26 = .ok (.iload_n 3, 1) := by decide +kernel
theorem dM_step_27 : decode cM_step 27 = .ok (.iaload, 1) := by decide +kernel
theorem dM_step_28 : decode cM_step 28 = .ok (.istore 4, 2) := by decide +kernel
theorem dM_step_30 : decode cM_step 30 = .ok (.iload 4, 2) := by decide +kernel
theorem dM_step_32 : decode cM_step 32 = .ok (.bipush 15, 2) := by decide +kernel
theorem dM_step_34 : decode cM_step 34 = .ok (.iand, 1) := by decide +kernel
theorem dM_step_35 : decode cM_step 35 = .ok (.istore 5, 2) := by decide +kernel
theorem dM_step_37 : decode cM_step 37 = .ok (.iconst 4, 1) := by decide +kernel
theorem dM_step_38 : decode cM_step 38 = .ok (.iload_n 1, 1) := by decide +kernel
theorem dM_step_39 : decode cM_step 39 = .ok (.imul, 1) := by decide +kernel
theorem dM_step_40 : decode cM_step 40 = .ok (.iload 4, 2) := by decide +kernel
theorem dM_step_42 : decode cM_step 42 = .ok (.iconst 4, 1) := by decide +kernel
theorem dM_step_43 : decode cM_step 43 = .ok (.ishr, 1) := by decide +kernel
theorem dM_step_44 : decode cM_step 44 = .ok (.iconst 3, 1) := by decide +kernel
theorem dM_step_45 : decode cM_step 45 = .ok (.iand, 1) := by decide +kernel
theorem dM_step_46 : decode cM_step 46 = .ok (.iadd, 1) := by decide +kernel
theorem dM_step_47 : decode cM_step 47 = .ok (.istore 6, 2) := by decide +kernel
theorem dM_step_49 : decode cM_step 49 = .ok (.aload_n 0, 1) := by decide +kernel
theorem dM_step_50 : decode cM_step 50 = .ok (.getfield 38, 3) := by decide +kernel
theorem dM_step_53 : decode cM_step 53 = .ok (.iconst 4, 1) := by decide +kernel
theorem dM_step_54 : decode cM_step 54 = .ok (.iload_n 1, 1) := by decide +kernel
theorem dM_step_55 : decode cM_step 55 = .ok (.imul, 1) := by decide +kernel
theorem dM_step_56 : decode cM_step 56 = .ok (.iload 4, 2) := by decide +kernel
theorem dM_step_58 : decode cM_step 58 = .ok (.bipush 6, 2) := by decide +kernel
theorem dM_step_60 : decode cM_step 60 = .ok (.ishr, 1) := by decide +kernel
theorem dM_step_61 : decode cM_step 61 = .ok (.iconst 3, 1) := by decide +kernel
theorem dM_step_62 : decode cM_step 62 = .ok (.iand, 1) := by decide +kernel
theorem dM_step_63 : decode cM_step 63 = .ok (.iadd, 1) := by decide +kernel
theorem dM_step_64 : decode cM_step 64 = .ok (.iaload, 1) := by decide +kernel
theorem dM_step_65 : decode cM_step 65 = .ok (.istore 7, 2) := by decide +kernel
theorem dM_step_67 : decode cM_step 67 = .ok (.iload 4, 2) := by decide +kernel
theorem dM_step_69 : decode cM_step 69 = .ok (.bipush 8, 2) := by decide +kernel
theorem dM_step_71 : decode cM_step 71 = .ok (.ishr, 1) := by decide +kernel
theorem dM_step_72 : decode cM_step 72 = .ok (.istore 8, 2) := by decide +kernel
theorem dM_step_74 : decode cM_step 74 = .ok (.iload 5, 2) := by decide +kernel
theorem dM_step_76 : decode cM_step 76 = .ok (.bipush 10, 2) := by decide +kernel
theorem dM_step_78 : decode cM_step 78 = .ok (.if_icmp .le 5, 3) := by decide +kernel
theorem dM_step_81 : decode cM_step 81 = .ok (.iconst 5, 1) := by decide +kernel
theorem dM_step_82 : decode cM_step 82 = .ok (.ireturn, 1) := by decide +kernel
theorem dM_step_83 : decode cM_step 83 = .ok (.aload_n 0, 1) := by decide +kernel
theorem dM_step_84 : decode cM_step 84 = .ok (.getfield 41, 3) := by decide +kernel
theorem dM_step_87 : decode cM_step 87 = .ok (.iload_n 1, 1) := by decide +kernel
theorem dM_step_88 : decode cM_step 88 = .ok (.iaload, 1) := by decide +kernel
theorem dM_step_89 : decode cM_step 89 = .ok (.iconst 1, 1) := by decide +kernel
theorem dM_step_90 : decode cM_step 90 = .ok (.iadd, 1) := by decide +kernel
theorem dM_step_91 : decode cM_step 91 = .ok (.sipush 255, 3) := by decide +kernel
theorem dM_step_94 : decode cM_step 94 = .ok (.iand, 1) := by decide +kernel
theorem dM_step_95 : decode cM_step 95 = .ok (.istore 9, 2) := by decide +kernel
theorem dM_step_97 : decode cM_step 97 = .ok (.iload 5, 2) := by decide +kernel
theorem dM_step_99 : decode cM_step 99 = .ok (.iconst 3, 1) := by decide +kernel
theorem dM_step_100 : decode cM_step 100 = .ok (.if_icmp .eq 9, 3) := by decide +kernel
theorem dM_step_103 : decode cM_step 103 = .ok (.iload 5, 2) := by decide +kernel
theorem dM_step_105 : decode cM_step 105 = .ok (.iconst 4, 1) := by decide +kernel
theorem dM_step_106 : decode cM_step 106 = .ok (.if_icmp .ne 66, 3) := by decide +kernel
theorem dM_step_109 : decode cM_step 109 = .ok (.aload_n 0, 1) := by decide +kernel
theorem dM_step_110 : decode cM_step 110 = .ok (.iload_n 2, 1) := by decide +kernel
theorem dM_step_111 : decode cM_step 111 = .ok (.iload 7, 2) := by decide +kernel
theorem dM_step_113 : decode cM_step 113 = .ok (.iload 8, 2) := by decide +kernel
theorem dM_step_115 : decode cM_step 115 = .ok (.iadd, 1) := by decide +kernel
theorem dM_step_116 : decode cM_step 116 = .ok (.sipush 255, 3) := by decide +kernel
theorem dM_step_119 : decode cM_step 119 = .ok (.iand, 1) := by decide +kernel
theorem dM_step_120 : decode cM_step 120 = .ok (.invokevirtual 114, 3) := by decide +kernel
theorem dM_step_123 : decode cM_step 123 = .ok (.istore 10, 2) := by decide +kernel
theorem dM_step_125 : decode cM_step 125 = .ok (.iload 10, 2) := by decide +kernel
theorem dM_step_127 : decode cM_step 127 = .ok (.ifCond .ge 5, 3) := by decide +kernel
theorem dM_step_130 : decode cM_step 130 = .ok (.iconst 1, 1) := by decide +kernel
theorem dM_step_131 : decode cM_step 131 = .ok (.ireturn, 1) := by decide +kernel
theorem dM_step_132 : decode cM_step 132 = .ok (.iload 5, 2) := by decide +kernel
theorem dM_step_134 : decode cM_step 134 = .ok (.iconst 3, 1) := by decide +kernel
theorem dM_step_135 : decode cM_step 135 = .ok (.if_icmp .ne 20, 3) := by decide +kernel
theorem dM_step_138 : decode cM_step 138 = .ok (.aload_n 0, 1) := by decide +kernel
theorem dM_step_139 : decode cM_step 139 = .ok (.getfield 38, 3) := by decide +kernel
theorem dM_step_142 : decode cM_step 142 = .ok (.iload 6, 2) := by decide +kernel
theorem dM_step_144 : decode cM_step 144 = .ok (.aload_n 0, 1) := by decide +kernel
theorem dM_step_145 : decode cM_step 145 = .ok (.getfield 7, 3) := by decide +kernel
theorem dM_step_148 : decode cM_step 148 = .ok (.iload 10, 2) := by decide +kernel
theorem dM_step_150 : decode cM_step 150 = .ok (.iaload, 1) := by decide +kernel
theorem dM_step_151 : decode cM_step 151 = .ok (.iastore, 1) := by decide +kernel
theorem dM_step_152 : decode cM_step 152 = .ok (.goto 17, 3) := by decide +kernel
theorem dM_step_155 : decode cM_step 155 = .ok (.aload_n 0, 1) := by decide +kernel
theorem dM_step_156 : decode cM_step 156 = .ok (.getfield 7, 3) := by decide +kernel
theorem dM_step_159 : decode cM_step 159 = .ok (.iload 10, 2) := by decide +kernel
theorem dM_step_161 : decode cM_step 161 = .ok (.aload_n 0, 1) := by decide +kernel
theorem dM_step_162 : decode cM_step 162 = .ok (.getfield 38, 3) := by decide +kernel
theorem dM_step_165 : decode cM_step 165 = .ok (.iload 6, 2) := by decide +kernel
theorem dM_step_167 : decode cM_step 167 = .ok (.iaload, 1) := by decide +kernel
theorem dM_step_168 : decode cM_step 168 = .ok (.iastore, 1) := by decide +kernel
theorem dM_step_169 : decode cM_step 169 = .ok (.goto 152, 3) := by decide +kernel
theorem dM_step_172 : decode cM_step 172 = .ok (.iload 5, 2) := by decide +kernel
theorem dM_step_174 : decode cM_step 174 = .ok (.bipush 6, 2) := by decide +kernel
theorem dM_step_176 : decode cM_step 176 = .ok (.if_icmp .eq 10, 3) := by decide +kernel
theorem dM_step_179 : decode cM_step 179 = .ok (.iload 5, 2) := by decide +kernel
theorem dM_step_181 : decode cM_step 181 = .ok (.bipush 7, 2) := by decide +kernel
theorem dM_step_183 : decode cM_step 183 = .ok (.if_icmp .ne 48, 3) := by decide +kernel
theorem dM_step_186 : decode cM_step 186 = .ok (.aload_n 0, 1) := by decide +kernel
theorem dM_step_187 : decode cM_step 187 = .ok (.getfield 38, 3) := by decide +kernel
theorem dM_step_190 : decode cM_step 190 = .ok (.iload 6, 2) := by decide +kernel
theorem dM_step_192 : decode cM_step 192 = .ok (.aload_n 0, 1) := by decide +kernel
theorem dM_step_193 : decode cM_step 193 = .ok (.iload_n 2, 1) := by decide +kernel
theorem dM_step_194 : decode cM_step 194 = .ok (.aload_n 0, 1) := by decide +kernel
theorem dM_step_195 : decode cM_step 195 = .ok (.getfield 38, 3) := by decide +kernel
theorem dM_step_198 : decode cM_step 198 = .ok (.iload 6, 2) := by decide +kernel
theorem dM_step_200 : decode cM_step 200 = .ok (.iaload, 1) := by decide +kernel
theorem dM_step_201 : decode cM_step 201 = .ok (.bipush 63, 2) := by decide +kernel
theorem dM_step_203 : decode cM_step 203 = .ok (.iand, 1) := by decide +kernel
theorem dM_step_204 : decode cM_step 204 = .ok (.iload 5, 2) := by decide +kernel
theorem dM_step_206 : decode cM_step 206 = .ok (.bipush 6, 2) := by decide +kernel
theorem dM_step_208 : decode cM_step 208 = .ok (.if_icmp .ne 7, 3) := by decide +kernel
theorem dM_step_211 : decode cM_step 211 = .ok (.iconst 1, 1) := by decide +kernel
theorem dM_step_212 : decode cM_step 212 = .ok (.goto 4, 3) := by decide +kernel
theorem dM_step_215 : decode cM_step 215 = .ok (.iconst 0, 1) := by decide +kernel
theorem dM_step_216 : decode cM_step 216 = .ok (.invokevirtual 117, 3) := by decide +kernel
theorem dM_step_219 : decode cM_step 219 = .ok (.ifCond .eq 7, 3) := by decide +kernel
theorem dM_step_222 : decode cM_step 222 = .ok (.iconst 1, 1) := by decide +kernel
theorem dM_step_223 : decode cM_step 223 = .ok (.goto 4, 3) := by decide +kernel
theorem dM_step_226 : decode cM_step 226 = .ok (.iconst 0, 1) := by decide +kernel
theorem dM_step_227 : decode cM_step 227 = .ok (.iastore, 1) := by decide +kernel
theorem dM_step_228 : decode cM_step 228 = .ok (.goto 93, 3) := by decide +kernel
theorem dM_step_231 : decode cM_step 231 = .ok (.iload 5, 2) := by decide +kernel
theorem dM_step_233 : decode cM_step 233 = .ok (.iconst 5, 1) := by decide +kernel
theorem dM_step_234 : decode cM_step 234 = .ok (.if_icmp .ne 29, 3) := by decide +kernel
theorem dM_step_237 : decode cM_step 237 = .ok (.aload_n 0, 1) := by decide +kernel
theorem dM_step_238 : decode cM_step 238 = .ok (.getfield 38, 3) := by decide +kernel
theorem dM_step_241 : decode cM_step 241 = .ok (.iload 6, 2) := by decide +kernel
theorem dM_step_243 : decode cM_step 243 = .ok (.iaload, 1) := by decide +kernel
theorem dM_step_244 : decode cM_step 244 = .ok (.ifCond .eq 12, 3) := by decide +kernel
theorem dM_step_247 : decode cM_step 247 = .ok (.iload 8, 2) := by decide +kernel
theorem dM_step_249 : decode cM_step 249 = .ok (.sipush 255, 3) := by decide +kernel
theorem dM_step_252 : decode cM_step 252 = .ok (.iand, 1) := by decide +kernel
theorem dM_step_253 : decode cM_step 253 = .ok (.goto 5, 3) := by decide +kernel
theorem dM_step_256 : decode cM_step 256 = .ok (.iload 9, 2) := by decide +kernel
theorem dM_step_258 : decode cM_step 258 = .ok (.istore 9, 2) := by decide +kernel
theorem dM_step_260 : decode cM_step 260 = .ok (.goto 61, 3) := by decide +kernel
theorem dM_step_263 : decode cM_step 263 = .ok (.iload 5, 2) := by decide +kernel
theorem dM_step_265 : decode cM_step 265 = .ok (.iconst 1, 1) := by decide +kernel
theorem dM_step_266 : decode cM_step 266 = .ok (.if_icmp .ne 15, 3) := by decide +kernel
theorem dM_step_269 : decode cM_step 269 = .ok (.aload_n 0, 1) := by decide +kernel
theorem dM_step_270 : decode cM_step 270 = .ok (.getfield 38, 3) := by decide +kernel
theorem dM_step_273 : decode cM_step 273 = .ok (.iload 6, 2) := by decide +kernel
theorem dM_step_275 : decode cM_step 275 = .ok (.iload 8, 2) := by decide +kernel
theorem dM_step_277 : decode cM_step 277 = .ok (.iastore, 1) := by decide +kernel
theorem dM_step_278 : decode cM_step 278 = .ok (.goto 43, 3) := by decide +kernel
theorem dM_step_281 : decode cM_step 281 = .ok (.iload 5, 2) := by decide +kernel
theorem dM_step_283 : decode cM_step 283 = .ok (.iconst 2, 1) := by decide +kernel
theorem dM_step_284 : decode cM_step 284 = .ok (.if_icmp .ne 18, 3) := by decide +kernel
theorem dM_step_287 : decode cM_step 287 = .ok (.aload_n 0, 1) := by decide +kernel
theorem dM_step_288 : decode cM_step 288 = .ok (.getfield 38, 3) := by decide +kernel
theorem dM_step_291 : decode cM_step 291 = .ok (.iload 6, 2) := by decide +kernel
theorem dM_step_293 : decode cM_step 293 = .ok (.dup2, 1) := by decide +kernel
theorem dM_step_294 : decode cM_step 294 = .ok (.iaload, 1) := by decide +kernel
theorem dM_step_295 : decode cM_step 295 = .ok (.iload 7, 2) := by decide +kernel
theorem dM_step_297 : decode cM_step 297 = .ok (.iadd, 1) := by decide +kernel
theorem dM_step_298 : decode cM_step 298 = .ok (.iastore, 1) := by decide +kernel
theorem dM_step_299 : decode cM_step 299 = .ok (.goto 22, 3) := by decide +kernel
theorem dM_step_302 : decode cM_step 302 = .ok (.iload 5, 2) := by decide +kernel
theorem dM_step_304 : decode cM_step 304 = .ok (.bipush 10, 2) := by decide +kernel
theorem dM_step_306 : decode cM_step 306 = .ok (.if_icmp .ne 15, 3) := by decide +kernel
theorem dM_step_309 : decode cM_step 309 = .ok (.aload_n 0, 1) := by decide +kernel
theorem dM_step_310 : decode cM_step 310 = .ok (.getfield 38, 3) := by decide +kernel
theorem dM_step_313 : decode cM_step 313 = .ok (.iload 6, 2) := by decide +kernel
theorem dM_step_315 : decode cM_step 315 = .ok (.dup2, 1) := by decide +kernel
theorem dM_step_316 : decode cM_step 316 = .ok (.iaload, 1) := by decide +kernel
theorem dM_step_317 : decode cM_step 317 = .ok (.iload 7, 2) := by decide +kernel
theorem dM_step_319 : decode cM_step 319 = .ok (.ixor, 1) := by decide +kernel
theorem dM_step_320 : decode cM_step 320 = .ok (.iastore, 1) := by decide +kernel
theorem dM_step_321 : decode cM_step 321 = .ok (.aload_n 0, 1) := by decide +kernel
theorem dM_step_322 : decode cM_step 322 = .ok (.getfield 41, 3) := by decide +kernel
theorem dM_step_325 : decode cM_step 325 = .ok (.iload_n 1, 1) := by decide +kernel
theorem dM_step_326 : decode cM_step 326 = .ok (.iload 9, 2) := by decide +kernel
theorem dM_step_328 : decode cM_step 328 = .ok (.iastore, 1) := by decide +kernel
theorem dM_step_329 : decode cM_step 329 = .ok (.aload_n 0, 1) := by decide +kernel
theorem dM_step_330 : decode cM_step 330 = .ok (.iload 5, 2) := by decide +kernel
theorem dM_step_332 : decode cM_step 332 = .ok (.bipush 8, 2) := by decide +kernel
theorem dM_step_334 : decode cM_step 334 = .ok (.if_icmp .ne 13, 3) := by decide +kernel
theorem dM_step_337 : decode cM_step 337 = .ok (.aload_n 0, 1) := by decide +kernel
theorem dM_step_338 : decode cM_step 338 = .ok (.getfield 38, 3) := by decide +kernel
theorem dM_step_341 : decode cM_step 341 = .ok (.iload 6, 2) := by decide +kernel
theorem dM_step_343 : decode cM_step 343 = .ok (.iaload, 1) := by decide +kernel
theorem dM_step_344 : decode cM_step 344 = .ok (.goto 4, 3) := by decide +kernel
theorem dM_step_347 : decode cM_step 347 = .ok (.iconst 0, 1) := by decide +kernel
theorem dM_step_348 : decode cM_step 348 = .ok (.putfield 108, 3) := by decide +kernel
theorem dM_step_351 : decode cM_step 351 = .ok (.aload_n 0, 1) := by decide +kernel
theorem dM_step_352 : decode cM_step 352 = .ok (.getfield 44, 3) := by decide +kernel
theorem dM_step_355 : decode cM_step 355 = .ok (.iload_n 1, 1) := by decide +kernel
theorem dM_step_356 : decode cM_step 356 = .ok (.iload 5, 2) := by decide +kernel
theorem dM_step_358 : decode cM_step 358 = .ok (.bipush 9, 2) := by decide +kernel
theorem dM_step_360 : decode cM_step 360 = .ok (.if_icmp .ne 14, 3) := by decide +kernel
theorem dM_step_363 : decode cM_step 363 = .ok (.iconst 1, 1) := by decide +kernel
theorem dM_step_364 : decode cM_step 364 = .ok (.iload 4, 2) := by decide +kernel
theorem dM_step_366 : decode cM_step 366 = .ok (.iconst 4, 1) := by decide +kernel
theorem dM_step_367 : decode cM_step 367 = .ok (.ishr, 1) := by decide +kernel
theorem dM_step_368 : decode cM_step 368 = .ok (.iconst 3, 1) := by decide +kernel
theorem dM_step_369 : decode cM_step 369 = .ok (.iand, 1) := by decide +kernel
theorem dM_step_370 : decode cM_step 370 = .ok (.iadd, 1) := by decide +kernel
theorem dM_step_371 : decode cM_step 371 = .ok (.goto 4, 3) := by decide +kernel
theorem dM_step_374 : decode cM_step 374 = .ok (.iconst 0, 1) := by decide +kernel
theorem dM_step_375 : decode cM_step 375 = .ok (.iastore, 1) := by decide +kernel
theorem dM_step_376 : decode cM_step 376 = .ok (.iload 5, 2) := by decide +kernel
theorem dM_step_378 : decode cM_step 378 = .ok (.bipush 8, 2) := by decide +kernel
theorem dM_step_380 : decode cM_step 380 = .ok (.if_icmp .ne 7, 3) := by decide +kernel
theorem dM_step_383 : decode cM_step 383 = .ok (.iconst 2, 1) := by decide +kernel
theorem dM_step_384 : decode cM_step 384 = .ok (.goto 24, 3) := by decide +kernel
theorem dM_step_387 : decode cM_step 387 = .ok (.iload 5, 2) := by decide +kernel
theorem dM_step_389 : decode cM_step 389 = .ok (.bipush 9, 2) := by decide +kernel
theorem dM_step_391 : decode cM_step 391 = .ok (.if_icmp .ne 7, 3) := by decide +kernel
theorem dM_step_394 : decode cM_step 394 = .ok (.iconst 3, 1) := by decide +kernel
theorem dM_step_395 : decode cM_step 395 = .ok (.goto 13, 3) := by decide +kernel
theorem dM_step_398 : decode cM_step 398 = .ok (.iload 5, 2) := by decide +kernel
theorem dM_step_400 : decode cM_step 400 = .ok (.ifCond .ne 7, 3) := by decide +kernel
theorem dM_step_403 : decode cM_step 403 = .ok (.iconst 4, 1) := by decide +kernel
theorem dM_step_404 : decode cM_step 404 = .ok (.goto 4, 3) := by decide +kernel
theorem dM_step_407 : decode cM_step 407 = .ok (.iconst 0, 1) := by decide +kernel
theorem dM_step_408 : decode cM_step 408 = .ok (.ireturn, 1) := by decide +kernel
theorem dM_word_0 : decode cM_word 0 = .ok (.aload_n 0, 1) := by decide +kernel
theorem dM_word_1 : decode cM_word 1 = .ok (.iload_n 1, 1) := by decide +kernel
theorem dM_word_2 : decode cM_word 2 = .ok (.iload_n 2, 1) := by decide +kernel
theorem dM_word_3 : decode cM_word 3 = .ok (.iconst 4, 1) := by decide +kernel
theorem dM_word_4 : decode cM_word 4 = .ok (.idiv, 1) := by decide +kernel
theorem dM_word_5 : decode cM_word 5 = .ok (.invokevirtual 101, 3) := by decide +kernel
theorem dM_word_8 : decode cM_word 8 = .ok (.istore_n 3, 1) := by decide +kernel
theorem dM_word_9 : decode cM_word 9 = .ok (.iload_n 3, 1) := by decide +kernel
theorem dM_word_10 : decode cM_word 10 = .ok (.ifCond .ge 10, 3) := by decide +kernel
theorem dM_word_13 : decode cM_word 13 = .ok (.aload_n 0, 1) := by decide +kernel
theorem dM_word_14 : decode cM_word 14 = .ok (.iload_n 2, 1) := by decide +kernel
theorem dM_word_15 : decode cM_word 15 = .ok (.putfield 108, 3) := by decide +kernel
theorem dM_word_18 : decode cM_word 18 = .ok (.iconst (-1), 1) := by decide +kernel
theorem dM_word_19 : decode cM_word 19 = .ok (.ireturn, 1) := by decide +kernel
theorem dM_word_20 : decode cM_word 20 = .ok (.iconst 4, 1) := by decide +kernel
theorem dM_word_21 : decode cM_word 21 = .ok (.iload_n 3, 1) := by decide +kernel
theorem dM_word_22 : decode cM_word 22 = .ok (.imul, 1) := by decide +kernel
theorem dM_word_23 : decode cM_word 23 = .ok (.iload_n 2, 1) := by decide +kernel
theorem dM_word_24 : decode cM_word 24 = .ok (.iconst 4, 1) := by decide +kernel
theorem dM_word_25 : decode cM_word 25 = .ok (.irem, 1) := by decide +kernel
