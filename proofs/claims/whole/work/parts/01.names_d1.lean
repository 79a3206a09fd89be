theorem dK_init_0 : decode cK_init 0 = .ok (.aload_n 0, 1) := by decide +kernel
theorem dK_init_1 : decode cK_init 1 = .ok (.invokespecial 1, 3) := by decide +kernel
theorem dK_init_4 : decode cK_init 4 = .ok (.aload_n 0, 1) := by decide +kernel
theorem dK_init_5 : decode cK_init 5 = .ok (.bipush 24, 2) := by decide +kernel
theorem dK_init_7 : decode cK_init 7 = .ok (.anewarray 9, 3) := by decide +kernel
theorem dK_init_10 : decode cK_init 10 = .ok (.putfield 11, 3) := by decide +kernel
theorem dK_init_13 : decode cK_init 13 = .ok (.iconst 0, 1) := by decide +kernel
theorem dK_init_14 : decode cK_init 14 = .ok (.istore_n 1, 1) := by decide +kernel
theorem dK_init_15 : decode cK_init 15 = .ok (.iload_n 1, 1) := by decide +kernel
theorem dK_init_16 : decode cK_init 16 = .ok (.bipush 24, 2) := by decide +kernel
theorem dK_init_18 : decode cK_init 18 = .ok (.if_icmp .ge 22, 3) := by decide +kernel
theorem dK_init_21 : decode cK_init 21 = .ok (.aload_n 0, 1) := by decide +kernel
theorem dK_init_22 : decode cK_init 22 = .ok (.getfield 11, 3) := by decide +kernel
theorem dK_init_25 : decode cK_init 25 = .ok (.iload_n 1, 1) := by decide +kernel
theorem dK_init_26 : decode cK_init 26 = .ok (.new 9, 3) := by decide +kernel
theorem dK_init_29 : decode cK_init 29 = .ok (.dup, 1) := by decide +kernel
theorem dK_init_30 : decode cK_init 30 = .ok (.invokespecial 15, 3) := by decide +kernel
theorem dK_init_33 : decode cK_init 33 = .ok (.aastore, 1) := by decide +kernel
theorem dK_init_34 : decode cK_init 34 = .ok (.iinc 1 1, 3) := by decide +kernel
theorem dK_init_37 : decode cK_init 37 = .ok (.goto (-22), 3) := by decide +kernel
theorem dK_init_40 : decode cK_init 40 = .ok (.aload_n 0, 1) := by decide +kernel
theorem dK_init_41 : decode cK_init 41 = .ok (.bipush 6, 2) := by decide +kernel
theorem dK_init_43 : decode cK_init 43 = .ok (.anewarray 16, 3) := by decide +kernel
theorem dK_init_46 : decode cK_init 46 = .ok (.putfield 18, 3) := by decide +kernel
theorem dK_init_49 : decode cK_init 49 = .ok (.aload_n 0, 1) := by decide +kernel
theorem dK_init_50 : decode cK_init 50 = .ok (.iconst 4, 1) := by decide +kernel
theorem dK_init_51 : decode cK_init 51 = .ok (.newarray .int, 2) := by decide +kernel
theorem dK_init_53 : decode cK_init 53 = .ok (.putfield 22, 3) := by decide +kernel
theorem dK_init_56 : decode cK_init 56 = .ok (.return_, 1) := by decide +kernel
theorem dP_init_0 : decode cP_init 0 = .ok (.aload_n 0, 1) := by decide +kernel
theorem dP_init_1 : decode cP_init 1 = .ok (.invokespecial 3, 3) := by decide +kernel
theorem dP_init_4 : decode cP_init 4 = .ok (.aload_n 0, 1) := by decide +kernel
theorem dP_init_5 : decode cP_init 5 = .ok (.iconst 4, 1) := by decide +kernel
theorem dP_init_6 : decode cP_init 6 = .ok (.newarray .int, 2) := by decide +kernel
theorem dP_init_8 : decode cP_init 8 = .ok (.putfield 9, 3) := by decide +kernel
theorem dP_init_11 : decode cP_init 11 = .ok (.aload_n 0, 1) := by decide +kernel
theorem dP_init_12 : decode cP_init 12 = .ok (.iconst 0, 1) := by decide +kernel
theorem dP_init_13 : decode cP_init 13 = .ok (.putfield 15, 3) := by decide +kernel
theorem dP_init_16 : decode cP_init 16 = .ok (.aload_n 0, 1) := by decide +kernel
theorem dP_init_17 : decode cP_init 17 = .ok (.iconst 0, 1) := by decide +kernel
theorem dP_init_18 : decode cP_init 18 = .ok (.putfield 19, 3) := by decide +kernel
theorem dP_init_21 : decode cP_init 21 = .ok (.aload_n 0, 1) := by decide +kernel
theorem dP_init_22 : decode cP_init 22 = .ok (.iconst 0, 1) := by decide +kernel
theorem dP_init_23 : decode cP_init 23 = .ok (.putfield 22, 3) := by decide +kernel
theorem dP_init_26 : decode cP_init 26 = .ok (.return_, 1) := by decide +kernel
theorem dK_read_0 : decode cK_read 0 = .ok (.iload_n 1, 1) := by decide +kernel
theorem dK_read_1 : decode cK_read 1 = .ok (.invokestatic 26, 3) := by decide +kernel
theorem dK_read_4 : decode cK_read 4 = .ok (.ifCond .eq 23, 3) := by decide +kernel
theorem dK_read_7 : decode cK_read 7 = .ok (.iload_n 2, 1) := by decide +kernel
theorem dK_read_8 : decode cK_read 8 = .ok (.invokestatic 30, 3) := by decide +kernel
theorem dK_read_11 : decode cK_read 11 = .ok (.ifCond .eq 16, 3) := by decide +kernel
theorem dK_read_14 : decode cK_read 14 = .ok (.aload_n 0, 1) := by decide +kernel
theorem dK_read_15 : decode cK_read 15 = .ok (.aload_n 0, 1) := by decide +kernel
theorem dK_read_16 : decode cK_read 16 = .ok (.getfield 11, 3) := by decide +kernel
theorem dK_read_19 : decode cK_read 19 = .ok (.iload_n 1, 1) := by decide +kernel
theorem dK_read_20 : decode cK_read 20 = .ok (.aaload, 1) := by decide +kernel
theorem dK_read_21 : decode cK_read 21 = .ok (.invokevirtual 33, 3) := by decide +kernel
theorem dK_read_24 : decode cK_read 24 = .ok (.ifCond .ne 7, 3) := by decide +kernel
theorem dK_read_27 : decode cK_read 27 = .ok (.ldc2_w 37, 3) := by decide +kernel
theorem dK_read_30 : decode cK_read 30 = .ok (.lreturn, 1) := by decide +kernel
theorem dK_read_31 : decode cK_read 31 = .ok (.aload_n 0, 1) := by decide +kernel
theorem dK_read_32 : decode cK_read 32 = .ok (.getfield 11, 3) := by decide +kernel
theorem dK_read_35 : decode cK_read 35 = .ok (.iload_n 1, 1) := by decide +kernel
theorem dK_read_36 : decode cK_read 36 = .ok (.aaload, 1) := by decide +kernel
theorem dK_read_37 : decode cK_read 37 = .ok (.getfield 39, 3) := by decide +kernel
theorem dK_read_40 : decode cK_read 40 = .ok (.iload_n 2, 1) := by decide +kernel
theorem dK_read_41 : decode cK_read 41 = .ok (.iaload, 1) := by decide +kernel
theorem dK_read_42 : decode cK_read 42 = .ok (.i2l, 1) := by decide +kernel
theorem dK_read_43 : decode cK_read 43 = .ok (.lreturn, 1) := by decide +kernel
theorem dK_isPage_0 : decode cK_isPage 0 = .ok (.iload_n 0, 1) := by decide +kernel
theorem dK_isPage_1 : decode cK_isPage 1 = .ok (.ifCond .lt 13, 3) := by decide +kernel
theorem dK_isPage_4 : decode cK_isPage 4 = .ok (.iload_n 0, 1) := by decide +kernel
theorem dK_isPage_5 : decode cK_isPage 5 = .ok (.bipush 24, 2) := by decide +kernel
theorem dK_isPage_7 : decode cK_isPage 7 = .ok (.if_icmp .ge 7, 3) := by decide +kernel
theorem dK_isPage_10 : decode cK_isPage 10 = .ok (.iconst 1, 1) := by decide +kernel
theorem dK_isPage_11 : decode cK_isPage 11 = .ok (.goto 4, 3) := by decide +kernel
theorem dK_isPage_14 : decode cK_isPage 14 = .ok (.iconst 0, 1) := by decide +kernel
theorem dK_isPage_15 : decode cK_isPage 15 = .ok (.ireturn, 1) := by decide +kernel
theorem dK_isWord_0 : decode cK_isWord 0 = .ok (.iload_n 0, 1) := by decide +kernel
theorem dK_isWord_1 : decode cK_isWord 1 = .ok (.ifCond .lt 12, 3) := by decide +kernel
theorem dK_isWord_4 : decode cK_isWord 4 = .ok (.iload_n 0, 1) := by decide +kernel
theorem dK_isWord_5 : decode cK_isWord 5 = .ok (.iconst 4, 1) := by decide +kernel
theorem dK_isWord_6 : decode cK_isWord 6 = .ok (.if_icmp .ge 7, 3) := by decide +kernel
theorem dK_isWord_9 : decode cK_isWord 9 = .ok (.iconst 1, 1) := by decide +kernel
theorem dK_isWord_10 : decode cK_isWord 10 = .ok (.goto 4, 3) := by decide +kernel
theorem dK_isWord_13 : decode cK_isWord 13 = .ok (.iconst 0, 1) := by decide +kernel
theorem dK_isWord_14 : decode cK_isWord 14 = .ok (.ireturn, 1) := by decide +kernel
theorem dK_hostReaches_0 : decode cK_hostReaches 0 = .ok (.aload_n 1, 1) := by decide +kernel
theorem dK_hostReaches_1 : decode cK_hostReaches 1 = .ok (.getfield 135, 3) := by decide +kernel
theorem dK_hostReaches_4 : decode cK_hostReaches 4 = .ok (.ifCond .eq 5, 3) := by decide +kernel
theorem dK_hostReaches_7 : decode cK_hostReaches 7 = .ok (.iconst 1, 1) := by decide +kernel
theorem dK_hostReaches_8 : decode cK_hostReaches 8 = .ok (.ireturn, 1) := by decide +kernel
theorem dK_hostReaches_9 : decode cK_hostReaches 9 = .ok (.aload_n 0, 1) := by decide +kernel
theorem dK_hostReaches_10 : decode cK_hostReaches 10 = .ok (.dup, 1) := by decide +kernel
theorem dK_hostReaches_11 : decode cK_hostReaches 11 = .ok (.getfield 42, 3) := by decide +kernel
theorem dK_hostReaches_14 : decode cK_hostReaches 14 = .ok (.iconst 1, 1) := by decide +kernel
theorem dK_hostReaches_15 : decode cK_hostReaches 15 = .ok (.iadd, 1) := by decide +kernel
theorem dK_hostReaches_16 : decode cK_hostReaches 16 = .ok (.putfield 42, 3) := by decide +kernel
theorem dK_hostReaches_19 : decode cK_hostReaches 19 = .ok (.aload_n 1, 1) := by decide +kernel
theorem dK_hostReaches_20 : decode cK_hostReaches 20 = .ok (.aload_n 1, 1) := by decide +kernel
theorem dK_hostReaches_21 : decode cK_hostReaches 21 = .ok (.invokevirtual 141, 3) := by decide +kernel
theorem dK_hostReaches_24 : decode cK_hostReaches 24 = .ok (.putfield 135, 3) := by decide +kernel
theorem dK_hostReaches_27 : decode cK_hostReaches 27 = .ok (.aload_n 1, 1) := by decide +kernel
theorem dK_hostReaches_28 : decode cK_hostReaches 28 = .ok (.getfield 135, 3) := by decide +kernel
theorem dK_hostReaches_31 : decode cK_hostReaches 31 = .ok (.ireturn, 1) := by decide +kernel
theorem dP_isOpenToHost_0 : decode cP_isOpenToHost 0 = .ok (.aload_n 0, 1) := by decide +kernel
theorem dP_isOpenToHost_1 : decode cP_isOpenToHost 1 = .ok (.getfield 15, 3) := by decide +kernel
theorem dP_isOpenToHost_4 : decode cP_isOpenToHost 4 = .ok (.ifCond .eq 10, 3) := by decide +kernel
theorem dP_isOpenToHost_7 : decode cP_isOpenToHost 7 = .ok (.aload_n 0, 1) := by decide +kernel
theorem dP_isOpenToHost_8 : decode cP_isOpenToHost 8 = .ok (.getfield 25, 3) := by decide +kernel
theorem dP_isOpenToHost_11 : decode cP_isOpenToHost 11 = .ok (.ifCond .eq 7, 3) := by decide +kernel
theorem dP_isOpenToHost_14 : decode cP_isOpenToHost 14 = .ok (.iconst 1, 1) := by decide +kernel
theorem dP_isOpenToHost_15 : decode cP_isOpenToHost 15 = .ok (.goto 4, 3) := by decide +kernel
theorem dP_isOpenToHost_18 : decode cP_isOpenToHost 18 = .ok (.iconst 0, 1) := by decide +kernel
theorem dP_isOpenToHost_19 : decode cP_isOpenToHost 19 = .ok (.ireturn, 1) := by decide +kernel
theorem dK_write_0 : decode cK_write 0 = .ok (.iload_n 1, 1) := by decide +kernel
theorem dK_write_1 : decode cK_write 1 = .ok (.invokestatic 26, 3) := by decide +kernel
theorem dK_write_4 : decode cK_write 4 = .ok (.ifCond .eq 23, 3) := by decide +kernel
theorem dK_write_7 : decode cK_write 7 = .ok (.iload_n 2, 1) := by decide +kernel
theorem dK_write_8 : decode cK_write 8 = .ok (.invokestatic 30, 3) := by decide +kernel
theorem dK_write_11 : decode cK_write 11 = .ok (.ifCond .eq 16, 3) := by decide +kernel
theorem dK_write_14 : decode cK_write 14 = .ok (.aload_n 0, 1) := by decide +kernel
theorem dK_write_15 : decode cK_write 15 = .ok (.aload_n 0, 1) := by decide +kernel
theorem dK_write_16 : decode cK_write 16 = .ok (.getfield 11, 3) := by decide +kernel
theorem dK_write_19 : decode cK_write 19 = .ok (.iload_n 1, 1) := by decide +kernel
theorem dK_write_20 : decode cK_write 20 = .ok (.aaload, 1) := by decide +kernel
theorem dK_write_21 : decode cK_write 21 = .ok (.invokevirtual 33, 3) := by decide +kernel
theorem dK_write_24 : decode cK_write 24 = .ok (.ifCond .ne 5, 3) := by decide +kernel
theorem dK_write_27 : decode cK_write 27 = .ok (.iconst 0, 1) := by decide +kernel
theorem dK_write_28 : decode cK_write 28 = .ok (.ireturn, 1) := by decide +kernel
theorem dK_write_29 : decode cK_write 29 = .ok (.aload_n 0, 1) := by decide +kernel
theorem dK_write_30 : decode cK_write 30 = .ok (.getfield 11, 3) := by decide +kernel
theorem dK_write_33 : decode cK_write 33 = .ok (.iload_n 1, 1) := by decide +kernel
theorem dK_write_34 : decode cK_write 34 = .ok (.aaload, 1) := by decide +kernel
theorem dK_write_35 : decode cK_write 35 = .ok (.getfield 39, 3) := by decide +kernel
theorem dK_write_38 : decode cK_write 38 = .ok (.iload_n 2, 1) := by decide +kernel
theorem dK_write_39 : decode cK_write 39 = .ok (.iload_n 3, 1) := by decide +kernel
theorem dK_write_40 : decode cK_write 40 = .ok (.iastore, 1) := by decide +kernel
theorem dK_write_41 : decode cK_write 41 = .ok (.iconst 1, 1) := by decide +kernel
theorem dK_write_42 : decode cK_write 42 = .ok (.ireturn, 1) := by decide +kernel
theorem dK_faults_0 : decode cK_faults 0 = .ok (.aload_n 0, 1) := by decide +kernel
theorem dK_faults_1 : decode cK_faults 1 = .ok (.getfield 42, 3) := by decide +kernel
theorem dK_faults_4 : decode cK_faults 4 = .ok (.ireturn, 1) := by decide +kernel
theorem dK_create_0 : decode cK_create 0 = .ok (.aload_n 0, 1) := by decide +kernel
theorem dK_create_1 : decode cK_create 1 = .ok (.iload_n 1, 1) := by decide +kernel
theorem dK_create_2 : decode cK_create 2 = .ok (.invokevirtual 46, 3) := by decide +kernel
theorem dK_create_5 : decode cK_create 5 = .ok (.ifCond .ne 5, 3) := by decide +kernel
theorem dK_create_8 : decode cK_create 8 = .ok (.iconst (-1), 1) := by decide +kernel
theorem dK_create_9 : decode cK_create 9 = .ok (.ireturn, 1) := by decide +kernel
theorem dK_create_10 : decode cK_create 10 = .ok (.aload_n 0, 1) := by decide +kernel
theorem dK_create_11 : decode cK_create 11 = .ok (.getfield 49, 3) := by decide +kernel
theorem dK_create_14 : decode cK_create 14 = .ok (.bipush 6, 2) := by decide +kernel
theorem dK_create_16 : decode cK_create 16 = .ok (.if_icmp .lt 6, 3) := by decide +kernel
theorem dK_create_19 : decode cK_create 19 = .ok (.bipush (-2), 2) := by decide +kernel
theorem dK_create_21 : decode cK_create 21 = .ok (.ireturn, 1) := by decide +kernel
theorem dK_create_22 : decode cK_create 22 = .ok (.aload_n 0, 1) := by decide +kernel
theorem dK_create_23 : decode cK_create 23 = .ok (.getfield 18, 3) := by decide +kernel
theorem dK_create_26 : decode cK_create 26 = .ok (.aload_n 0, 1) := by decide +kernel
theorem dK_create_27 : decode cK_create 27 = .ok (.getfield 49, 3) := by decide +kernel
theorem dK_create_30 : decode cK_create 30 = .ok (.new 16, 3) := by decide +kernel
theorem dK_create_33 : decode cK_create 33 = .ok (.dup, 1) := by decide +kernel
theorem dK_create_34 : decode cK_create 34 = .ok (.aload_n 0, 1) := by decide +kernel
theorem dK_create_35 : decode cK_create 35 = .ok (.getfield 49, 3) := by decide +kernel
theorem dK_create_38 : decode cK_create 38 = .ok (.iconst 1, 1) := by decide +kernel
theorem dK_create_39 : decode cK_create 39 = .ok (.iadd, 1) := by decide +kernel
theorem dK_create_40 : decode cK_create 40 = .ok (.invokespecial 52, 3) := by decide +kernel
theorem dK_create_43 : decode cK_create 43 = .ok (.aastore, 1) := by decide +kernel
theorem dK_create_44 : decode cK_create 44 = .ok (.aload_n 0, 1) := by decide +kernel
theorem dK_create_45 : decode cK_create 45 = .ok (.dup, 1) := by decide +kernel
theorem dK_create_46 : decode cK_create 46 = .ok (.getfield 49, 3) := by decide +kernel
theorem dK_create_49 : decode cK_create 49 = .ok (.iconst 1, 1) := by decide +kernel
theorem dK_create_50 : decode cK_create 50 = .ok (.iadd, 1) := by decide +kernel
theorem dK_create_51 : decode cK_create 51 = .ok (.putfield 49, 3) := by decide +kernel
theorem dK_create_54 : decode cK_create 54 = .ok (.aload_n 0, 1) := by decide +kernel
theorem dK_create_55 : decode cK_create 55 = .ok (.getfield 11, 3) := by decide +kernel
theorem dK_create_58 : decode cK_create 58 = .ok (.iload_n 1, 1) := by decide +kernel
theorem dK_create_59 : decode cK_create 59 = .ok (.aaload, 1) := by decide +kernel
theorem dK_create_60 : decode cK_create 60 = .ok (.aload_n 0, 1) := by decide +kernel
theorem dK_create_61 : decode cK_create 61 = .ok (.getfield 49, 3) := by decide +kernel
theorem dK_create_64 : decode cK_create 64 = .ok (.invokevirtual 55, 3) := by decide +kernel
theorem dK_create_67 : decode cK_create 67 = .ok (.aload_n 0, 1) := by decide +kernel
theorem dK_create_68 : decode cK_create 68 = .ok (.getfield 49, 3) := by decide +kernel
theorem dK_create_71 : decode cK_create 71 = .ok (.ireturn, 1) := by decide +kernel
theorem dK_isFreePage_0 : decode cK_isFreePage 0 = .ok (.iload_n 1, 1) := by decide +kernel
theorem dK_isFreePage_1 : decode cK_isFreePage 1 = .ok (.invokestatic 26, 3) := by decide +kernel
theorem dK_isFreePage_4 : decode cK_isFreePage 4 = .ok (.ifCond .eq 31, 3) := by decide +kernel
theorem dK_isFreePage_7 : decode cK_isFreePage 7 = .ok (.aload_n 0, 1) := by decide +kernel
theorem dK_isFreePage_8 : decode cK_isFreePage 8 = .ok (.getfield 11, 3) := by decide +kernel
theorem dK_isFreePage_11 : decode cK_isFreePage 11 = .ok (.iload_n 1, 1) := by decide +kernel
theorem dK_isFreePage_12 : decode cK_isFreePage 12 = .ok (.aaload, 1) := by decide +kernel
theorem dK_isFreePage_13 : decode cK_isFreePage 13 = .ok (.getfield 103, 3) := by decide +kernel
theorem dK_isFreePage_16 : decode cK_isFreePage 16 = .ok (.ifCond .ne 19, 3) := by decide +kernel
theorem dK_isFreePage_19 : decode cK_isFreePage 19 = .ok (.aload_n 0, 1) := by decide +kernel
theorem dK_isFreePage_20 : decode cK_isFreePage 20 = .ok (.getfield 11, 3) := by decide +kernel
theorem dK_isFreePage_23 : decode cK_isFreePage 23 = .ok (.iload_n 1, 1) := by decide +kernel
theorem dK_isFreePage_24 : decode cK_isFreePage 24 = .ok (.aaload, 1) := by decide +kernel
theorem dK_isFreePage_25 : decode cK_isFreePage 25 = .ok (.getfield 86, 3) := by decide +kernel
theorem dK_isFreePage_28 : decode cK_isFreePage 28 = .ok (.ifCond .ne 7, 3) := by decide +kernel
theorem dK_isFreePage_31 : decode cK_isFreePage 31 = .ok (.iconst 1, 1) := by decide +kernel
theorem dK_isFreePage_32 : decode cK_isFreePage 32 = .ok (.goto 4, 3) := by decide +kernel
theorem dK_isFreePage_35 : decode cK_isFreePage 35 = .ok (.iconst 0, 1) := by decide +kernel
theorem dK_isFreePage_36 : decode cK_isFreePage 36 = .ok (.ireturn, 1) := by decide +kernel
theorem dG_init_0 : decode cG_init 0 = .ok (.aload_n 0, 1) := by decide +kernel
theorem dG_init_1 : decode cG_init 1 = .ok (.invokespecial 3, 3) := by decide +kernel
theorem dG_init_4 : decode cG_init 4 = .ok (.aload_n 0, 1) := by decide +kernel
theorem dG_init_5 : decode cG_init 5 = .ok (.bipush 64, 2) := by decide +kernel
theorem dG_init_7 : decode cG_init 7 = .ok (.anewarray 9, 3) := by decide +kernel
theorem dG_init_10 : decode cG_init 10 = .ok (.putfield 11, 3) := by decide +kernel
theorem dG_init_13 : decode cG_init 13 = .ok (.aload_n 0, 1) := by decide +kernel
theorem dG_init_14 : decode cG_init 14 = .ok (.iconst 2, 1) := by decide +kernel
theorem dG_init_15 : decode cG_init 15 = .ok (.anewarray 17, 3) := by decide +kernel
theorem dG_init_18 : decode cG_init 18 = .ok (.putfield 19, 3) := by decide +kernel
theorem dG_init_21 : decode cG_init 21 = .ok (.aload_n 0, 1) := by decide +kernel
theorem dG_init_22 : decode cG_init 22 = .ok (.iconst 1, 1) := by decide +kernel
theorem dG_init_23 : decode cG_init 23 = .ok (.putfield 23, 3) := by decide +kernel
theorem dG_init_26 : decode cG_init 26 = .ok (.aload_n 0, 1) := by decide +kernel
theorem dG_init_27 : decode cG_init 27 = .ok (.iload_n 1, 1) := by decide +kernel
theorem dG_init_28 : decode cG_init 28 = .ok (.putfield 27, 3) := by decide +kernel
theorem dG_init_31 : decode cG_init 31 = .ok (.iconst 0, 1) := by decide +kernel
theorem dG_init_32 : decode cG_init 32 = .ok (.istore_n 2, 1) := by decide +kernel
theorem dG_init_33 : decode cG_init 33 = .ok (.iload_n 2, 1) := by decide +kernel
theorem dG_init_34 : decode cG_init 34 = .ok (.iconst 2, 1) := by decide +kernel
theorem dG_init_35 : decode cG_init 35 = .ok (.if_icmp .ge 22, 3) := by decide +kernel
theorem dG_init_38 : decode cG_init 38 = .ok (.aload_n 0, 1) := by decide +kernel
theorem dG_init_39 : decode cG_init 39 = .ok (.getfield 19, 3) := by decide +kernel
theorem dG_init_42 : decode cG_init 42 = .ok (.iload_n 2, 1) := by decide +kernel
theorem dG_init_43 : decode cG_init 43 = .ok (.new 17, 3) := by decide +kernel
theorem dG_init_46 : decode cG_init 46 = .ok (.dup, 1) := by decide +kernel
theorem dG_init_47 : decode cG_init 47 = .ok (.invokespecial 31, 3) := by decide +kernel
theorem dG_init_50 : decode cG_init 50 = .ok (.aastore, 1) := by decide +kernel
theorem dG_init_51 : decode cG_init 51 = .ok (.iinc 2 1, 3) := by decide +kernel
theorem dG_init_54 : decode cG_init 54 = .ok (.goto (-21), 3) := by decide +kernel
theorem dG_init_57 : decode cG_init 57 = .ok (.return_, 1) := by decide +kernel
theorem dR_init_0 : decode cR_init 0 = .ok (.aload_n 0, 1) := by decide +kernel
theorem dR_init_1 : decode cR_init 1 = .ok (.invokespecial 3, 3) := by decide +kernel
theorem dR_init_4 : decode cR_init 4 = .ok (.aload_n 0, 1) := by decide +kernel
theorem dR_init_5 : decode cR_init 5 = .ok (.iconst 4, 1) := by decide +kernel
theorem dR_init_6 : decode cR_init 6 = .ok (.newarray .int, 2) := by decide +kernel
theorem dR_init_8 : decode cR_init 8 = .ok (.putfield 9, 3) := by decide +kernel
theorem dR_init_11 : decode cR_init 11 = .ok (.aload_n 0, 1) := by decide +kernel
theorem dR_init_12 : decode cR_init 12 = .ok (.iconst (-1), 1) := by decide +kernel
theorem dR_init_13 : decode cR_init 13 = .ok (.putfield 15, 3) := by decide +kernel
theorem dR_init_16 : decode cR_init 16 = .ok (.return_, 1) := by decide +kernel
theorem dP_becomeKeepers_0 : decode cP_becomeKeepers 0 = .ok (.aload_n 0, 1) := by decide +kernel
theorem dP_becomeKeepers_1 : decode cP_becomeKeepers 1 = .ok (.invokevirtual 40, 3) := by decide +kernel
theorem dP_becomeKeepers_4 : decode cP_becomeKeepers 4 = .ok (.aload_n 0, 1) := by decide +kernel
theorem dP_becomeKeepers_5 : decode cP_becomeKeepers 5 = .ok (.bipush 7, 2) := by decide +kernel
theorem dP_becomeKeepers_7 : decode cP_becomeKeepers 7 = .ok (.invokevirtual 43, 3) := by decide +kernel
theorem dP_becomeKeepers_10 : decode cP_becomeKeepers 10 = .ok (.aload_n 0, 1) := by decide +kernel
theorem dP_becomeKeepers_11 : decode cP_becomeKeepers 11 = .ok (.iload_n 1, 1) := by decide +kernel
theorem dP_becomeKeepers_12 : decode cP_becomeKeepers 12 = .ok (.putfield 22, 3) := by decide +kernel
theorem dP_becomeKeepers_15 : decode cP_becomeKeepers 15 = .ok (.return_, 1) := by decide +kernel
theorem dP_wipe_0 : decode cP_wipe 0 = .ok (.iconst 0, 1) := by decide +kernel
theorem dP_wipe_1 : decode cP_wipe 1 = .ok (.istore_n 1, 1) := by decide +kernel
theorem dP_wipe_2 : decode cP_wipe 2 = .ok (.iload_n 1, 1) := by decide +kernel
theorem dP_wipe_3 : decode cP_wipe 3 = .ok (.iconst 4, 1) := by decide +kernel
theorem dP_wipe_4 : decode cP_wipe 4 = .ok (.if_icmp .ge 16, 3) := by decide +kernel
theorem dP_wipe_7 : decode cP_wipe 7 = .ok (.aload_n 0, 1) := by decide +kernel
theorem dP_wipe_8 : decode cP_wipe 8 = .ok (.getfield 9, 3) := by decide +kernel
theorem dP_wipe_11 : decode cP_wipe 11 = .ok (.iload_n 1, 1) := by decide +kernel
theorem dP_wipe_12 : decode cP_wipe 12 = .ok (.iconst 0, 1) := by decide +kernel
theorem dP_wipe_13 : decode cP_wipe 13 = .ok (.iastore, 1) := by decide +kernel
theorem dP_wipe_14 : decode cP_wipe 14 = .ok (.iinc 1 1, 3) := by decide +kernel
theorem dP_wipe_17 : decode cP_wipe 17 = .ok (.goto (-15), 3) := by decide +kernel
theorem dP_wipe_20 : decode cP_wipe 20 = .ok (.return_, 1) := by decide +kernel
theorem dP_changeOwner_0 : decode cP_changeOwner 0 = .ok (.aload_n 0, 1) := by decide +kernel
theorem dP_changeOwner_1 : decode cP_changeOwner 1 = .ok (.iload_n 1, 1) := by decide +kernel
theorem dP_changeOwner_2 : decode cP_changeOwner 2 = .ok (.putfield 15, 3) := by decide +kernel
theorem dP_changeOwner_5 : decode cP_changeOwner 5 = .ok (.aload_n 0, 1) := by decide +kernel
theorem dP_changeOwner_6 : decode cP_changeOwner 6 = .ok (.iconst 0, 1) := by decide +kernel
theorem dP_changeOwner_7 : decode cP_changeOwner 7 = .ok (.putfield 22, 3) := by decide +kernel
theorem dP_changeOwner_10 : decode cP_changeOwner 10 = .ok (.aload_n 0, 1) := by decide +kernel
theorem dP_changeOwner_11 : decode cP_changeOwner 11 = .ok (.iconst 0, 1) := by decide +kernel
theorem dP_changeOwner_12 : decode cP_changeOwner 12 = .ok (.invokevirtual 29, 3) := by decide +kernel
theorem dP_changeOwner_15 : decode cP_changeOwner 15 = .ok (.return_, 1) := by decide +kernel
theorem dP_changeSharing_0 : decode cP_changeSharing 0 = .ok (.aload_n 0, 1) := by decide +kernel
theorem dP_changeSharing_1 : decode cP_changeSharing 1 = .ok (.iload_n 1, 1) := by decide +kernel
theorem dP_changeSharing_2 : decode cP_changeSharing 2 = .ok (.putfield 25, 3) := by decide +kernel
theorem dP_changeSharing_5 : decode cP_changeSharing 5 = .ok (.aload_n 0, 1) := by decide +kernel
theorem dP_changeSharing_6 : decode cP_changeSharing 6 = .ok (.invokevirtual 33, 3) := by decide +kernel
theorem dP_changeSharing_9 : decode cP_changeSharing 9 = .ok (.ifCond .ne 8, 3) := by decide +kernel
theorem dP_changeSharing_12 : decode cP_changeSharing 12 = .ok (.aload_n 0, 1) := by decide +kernel
theorem dP_changeSharing_13 : decode cP_changeSharing 13 = .ok (.iconst 0, 1) := by decide +kernel
theorem dP_changeSharing_14 : decode cP_changeSharing 14 = .ok (.putfield 37, 3) := by decide +kernel
theorem dP_changeSharing_17 : decode cP_changeSharing 17 = .ok (.return_, 1) := by decide +kernel
theorem dK_feed_0 : decode cK_feed 0 = .ok (.aload_n 0, 1) := by decide +kernel
theorem dK_feed_1 : decode cK_feed 1 = .ok (.iload_n 1, 1) := by decide +kernel
theorem dK_feed_2 : decode cK_feed 2 = .ok (.invokevirtual 58, 3) := by decide +kernel
theorem dK_feed_5 : decode cK_feed 5 = .ok (.astore_n 3, 1) := by decide +kernel
theorem dK_feed_6 : decode cK_feed 6 = .ok (.aload_n 3, 1) := by decide +kernel
theorem dK_feed_7 : decode cK_feed 7 = .ok (.ifnonnull 5, 3) := by decide +kernel
theorem dK_feed_10 : decode cK_feed 10 = .ok (.iconst (-1), 1) := by decide +kernel
theorem dK_feed_11 : decode cK_feed 11 = .ok (.ireturn, 1) := by decide +kernel
theorem dK_feed_12 : decode cK_feed 12 = .ok (.aload_n 0, 1) := by decide +kernel
theorem dK_feed_13 : decode cK_feed 13 = .ok (.iload_n 2, 1) := by decide +kernel
theorem dK_feed_14 : decode cK_feed 14 = .ok (.invokevirtual 46, 3) := by decide +kernel
theorem dK_feed_17 : decode cK_feed 17 = .ok (.ifCond .ne 6, 3) := by decide +kernel
theorem dK_feed_20 : decode cK_feed 20 = .ok (.bipush (-2), 2) := by decide +kernel
theorem dK_feed_22 : decode cK_feed 22 = .ok (.ireturn, 1) := by decide +kernel
theorem dK_feed_23 : decode cK_feed 23 = .ok (.aload_n 0, 1) := by decide +kernel
theorem dK_feed_24 : decode cK_feed 24 = .ok (.getfield 11, 3) := by decide +kernel
theorem dK_feed_27 : decode cK_feed 27 = .ok (.iload_n 2, 1) := by decide +kernel
theorem dK_feed_28 : decode cK_feed 28 = .ok (.aaload, 1) := by decide +kernel
theorem dK_feed_29 : decode cK_feed 29 = .ok (.iload_n 1, 1) := by decide +kernel
theorem dK_feed_30 : decode cK_feed 30 = .ok (.invokevirtual 55, 3) := by decide +kernel
theorem dK_feed_33 : decode cK_feed 33 = .ok (.aload_n 3, 1) := by decide +kernel
theorem dK_feed_34 : decode cK_feed 34 = .ok (.dup, 1) := by decide +kernel
theorem dK_feed_35 : decode cK_feed 35 = .ok (.getfield 62, 3) := by decide +kernel
theorem dK_feed_38 : decode cK_feed 38 = .ok (.iconst 1, 1) := by decide +kernel
theorem dK_feed_39 : decode cK_feed 39 = .ok (.iadd, 1) := by decide +kernel
theorem dK_feed_40 : decode cK_feed 40 = .ok (.putfield 62, 3) := by decide +kernel
theorem dK_feed_43 : decode cK_feed 43 = .ok (.aload_n 3, 1) := by decide +kernel
theorem dK_feed_44 : decode cK_feed 44 = .ok (.invokevirtual 65, 3) := by decide +kernel
theorem dK_feed_47 : decode cK_feed 47 = .ok (.ireturn, 1) := by decide +kernel
theorem dK_livingGuest_0 : decode cK_livingGuest 0 = .ok (.iload_n 1, 1) := by decide +kernel
theorem dK_livingGuest_1 : decode cK_livingGuest 1 = .ok (.iconst 1, 1) := by decide +kernel
theorem dK_livingGuest_2 : decode cK_livingGuest 2 = .ok (.if_icmp .lt 17, 3) := by decide +kernel
theorem dK_livingGuest_5 : decode cK_livingGuest 5 = .ok (.iload_n 1, 1) := by decide +kernel
theorem dK_livingGuest_6 : decode cK_livingGuest 6 = .ok (.aload_n 0, 1) := by decide +kernel
theorem dK_livingGuest_7 : decode cK_livingGuest 7 = .ok (.getfield 49, 3) := by decide +kernel
theorem dK_livingGuest_10 : decode cK_livingGuest 10 = .ok (.if_icmp .gt 9, 3) := by decide +kernel
theorem dK_livingGuest_13 : decode cK_livingGuest 13 = .ok (.iload_n 1, 1) := by decide +kernel
theorem dK_livingGuest_14 : decode cK_livingGuest 14 = .ok (.bipush 6, 2) := by decide +kernel
theorem dK_livingGuest_16 : decode cK_livingGuest 16 = .ok (.if_icmp .le 5, 3) := by decide +kernel
theorem dK_livingGuest_19 : decode cK_livingGuest 19 = .ok (.aconst_null, 1) := by decide +kernel
theorem dK_livingGuest_20 : decode cK_livingGuest 20 = .ok (.areturn, 1) := by decide +kernel
theorem dK_livingGuest_21 : decode cK_livingGuest 21 = .ok (.aload_n 0, 1) := by decide +kernel
theorem dK_livingGuest_22 : decode cK_livingGuest 22 = .ok (.getfield 18, 3) := by decide +kernel
theorem dK_livingGuest_25 : decode cK_livingGuest 25 = .ok (.iload_n 1, 1) := by decide +kernel
theorem dK_livingGuest_26 : decode cK_livingGuest 26 = .ok (.iconst 1, 1) := by decide +kernel
theorem dK_livingGuest_27 : decode cK_livingGuest 27 = .ok (.isub, 1) := by decide +kernel
theorem dK_livingGuest_28 : decode cK_livingGuest 28 = .ok (.aaload, 1) := by decide +kernel
theorem dK_livingGuest_29 : decode cK_livingGuest 29 = .ok (.astore_n 2, 1) := by decide +kernel
theorem dK_livingGuest_30 : decode cK_livingGuest 30 = .ok (.aload_n 2, 1) := by decide +kernel
theorem dK_livingGuest_31 : decode cK_livingGuest 31 = .ok (.ifnull 14, 3) := by decide +kernel
theorem dK_livingGuest_34 : decode cK_livingGuest 34 = .ok (.aload_n 2, 1) := by decide +kernel
theorem dK_livingGuest_35 : decode cK_livingGuest 35 = .ok (.getfield 97, 3) := by decide +kernel
theorem dK_livingGuest_38 : decode cK_livingGuest 38 = .ok (.ifCond .eq 7, 3) := by decide +kernel
theorem dK_livingGuest_41 : decode cK_livingGuest 41 = .ok (.aload_n 2, 1) := by decide +kernel
theorem dK_livingGuest_42 : decode cK_livingGuest 42 = .ok (.goto 4, 3) := by decide +kernel
theorem dK_livingGuest_45 : decode cK_livingGuest 45 = .ok (.aconst_null, 1) := by decide +kernel
theorem dK_livingGuest_46 : decode cK_livingGuest 46 = .ok (.areturn, 1) := by decide +kernel
theorem dG_poolSize_0 : decode cG_poolSize 0 = .ok (.aload_n 0, 1) := by decide +kernel
theorem dG_poolSize_1 : decode cG_poolSize 1 = .ok (.getfield 32, 3) := by decide +kernel
theorem dG_poolSize_4 : decode cG_poolSize 4 = .ok (.aload_n 0, 1) := by decide +kernel
theorem dG_poolSize_5 : decode cG_poolSize 5 = .ok (.invokevirtual 35, 3) := by decide +kernel
theorem dG_poolSize_8 : decode cG_poolSize 8 = .ok (.isub, 1) := by decide +kernel
theorem dG_poolSize_9 : decode cG_poolSize 9 = .ok (.ireturn, 1) := by decide +kernel
theorem dG_countTables_0 : decode cG_countTables 0 = .ok (.aload_n 0, 1) := by decide +kernel
theorem dG_countTables_1 : decode cG_countTables 1 = .ok (.bipush 16, 2) := by decide +kernel
theorem dG_countTables_3 : decode cG_countTables 3 = .ok (.invokevirtual 39, 3) := by decide +kernel
theorem dG_countTables_6 : decode cG_countTables 6 = .ok (.aload_n 0, 1) := by decide +kernel
theorem dG_countTables_7 : decode cG_countTables 7 = .ok (.iconst 4, 1) := by decide +kernel
theorem dG_countTables_8 : decode cG_countTables 8 = .ok (.invokevirtual 39, 3) := by decide +kernel
theorem dG_countTables_11 : decode cG_countTables 11 = .ok (.iadd, 1) := by decide +kernel
theorem dG_countTables_12 : decode cG_countTables 12 = .ok (.ireturn, 1) := by decide +kernel
theorem dG_countTablesOf_0 : decode cG_countTablesOf 0 = .ok (.iconst 0, 1) := by decide +kernel
theorem dG_countTablesOf_1 : decode cG_countTablesOf 1 = .ok (.istore_n 2, 1) := by decide +kernel
theorem dG_countTablesOf_2 : decode cG_countTablesOf 2 = .ok (.iconst 0, 1) := by decide +kernel
theorem dG_countTablesOf_3 : decode cG_countTablesOf 3 = .ok (.istore_n 3, 1) := by decide +kernel
theorem dG_countTablesOf_4 : decode cG_countTablesOf 4 = .ok (.iload_n 3, 1) := by decide +kernel
theorem dG_countTablesOf_5 : decode cG_countTablesOf 5 = .ok (.bipush 64, 2) := by decide +kernel
theorem dG_countTablesOf_7 : decode cG_countTablesOf 7 = .ok (.iload_n 1, 1) := by decide +kernel
theorem dG_countTablesOf_8 : decode cG_countTablesOf 8 = .ok (.idiv, 1) := by decide +kernel
theorem dG_countTablesOf_9 : decode cG_countTablesOf 9 = .ok (.if_icmp .ge 21, 3) := by decide +kernel
theorem dG_countTablesOf_12 : decode cG_countTablesOf 12 = .ok (.aload_n 0, 1) := by decide +kernel
theorem dG_countTablesOf_13 : decode cG_countTablesOf 13 = .ok (.iload_n 3, 1) := by decide +kernel
theorem dG_countTablesOf_14 : decode cG_countTablesOf 14 = .ok (.iload_n 1, 1) := by decide +kernel
theorem dG_countTablesOf_15 : decode cG_countTablesOf 15 = .ok (.invokevirtual 43, 3) := by decide +kernel
theorem dG_countTablesOf_18 : decode cG_countTablesOf 18 = .ok (.ifCond .eq 6, 3) := by decide +kernel
theorem dG_countTablesOf_21 : decode cG_countTablesOf 21 = .ok (.iinc 2 1, 3) := by decide +kernel
theorem dG_countTablesOf_24 : decode cG_countTablesOf 24 = .ok (.iinc 3 1, 3) := by decide +kernel
theorem dG_countTablesOf_27 : decode cG_countTablesOf 27 = .ok (.goto (-23), 3) := by decide +kernel
theorem dG_countTablesOf_30 : decode cG_countTablesOf 30 = .ok (.iload_n 2, 1) := by decide +kernel
theorem dG_countTablesOf_31 : decode cG_countTablesOf 31 = .ok (.ireturn, 1) := by decide +kernel
theorem dG_needsTable_0 : decode cG_needsTable 0 = .ok (.iconst 0, 1) := by decide +kernel
theorem dG_needsTable_1 : decode cG_needsTable 1 = .ok (.istore_n 3, 1) := by decide +kernel
theorem dG_needsTable_2 : decode cG_needsTable 2 = .ok (.iload_n 3, 1) := by decide +kernel
theorem dG_needsTable_3 : decode cG_needsTable 3 = .ok (.iload_n 2, 1) := by decide +kernel
theorem dG_needsTable_4 : decode cG_needsTable 4 = .ok (.if_icmp .ge 24, 3) := by decide +kernel
theorem dG_needsTable_7 : decode cG_needsTable 7 = .ok (.aload_n 0, 1) := by decide +kernel
theorem dG_needsTable_8 : decode cG_needsTable 8 = .ok (.getfield 11, 3) := by decide +kernel
theorem dG_needsTable_11 : decode cG_needsTable 11 = .ok (.iload_n 1, 1) := by decide +kernel
theorem dG_needsTable_12 : decode cG_needsTable 12 = .ok (.iload_n 2, 1) := by decide +kernel
theorem dG_needsTable_13 : decode cG_needsTable 13 = .ok (.imul, 1) := by decide +kernel
theorem dG_needsTable_14 : decode cG_needsTable 14 = .ok (.iload_n 3, 1) := by decide +kernel
theorem dG_needsTable_15 : decode cG_needsTable 15 = .ok (.iadd, 1) := by decide +kernel
theorem dG_needsTable_16 : decode cG_needsTable 16 = .ok (.aaload, 1) := by decide +kernel
theorem dG_needsTable_17 : decode cG_needsTable 17 = .ok (.ifnull 5, 3) := by decide +kernel
theorem dG_needsTable_20 : decode cG_needsTable 20 = .ok (.iconst 1, 1) := by decide +kernel
theorem dG_needsTable_21 : decode cG_needsTable 21 = .ok (.ireturn, 1) := by decide +kernel
theorem dG_needsTable_22 : decode cG_needsTable 22 = .ok (.iinc 3 1, 3) := by decide +kernel
theorem dG_needsTable_25 : decode cG_needsTable 25 = .ok (.goto (-23), 3) := by decide +kernel
theorem dG_needsTable_28 : decode cG_needsTable 28 = .ok (.iconst 0, 1) := by decide +kernel
theorem dG_needsTable_29 : decode cG_needsTable 29 = .ok (.ireturn, 1) := by decide +kernel
theorem dK_donate_0 : decode cK_donate 0 = .ok (.aload_n 0, 1) := by decide +kernel
theorem dK_donate_1 : decode cK_donate 1 = .ok (.iload_n 1, 1) := by decide +kernel
theorem dK_donate_2 : decode cK_donate 2 = .ok (.invokevirtual 58, 3) := by decide +kernel
theorem dK_donate_5 : decode cK_donate 5 = .ok (.astore 4, 2) := by decide +kernel
theorem dK_donate_7 : decode cK_donate 7 = .ok (.aload_n 0, 1) := by decide +kernel
theorem dK_donate_8 : decode cK_donate 8 = .ok (.aload 4, 2) := by decide +kernel
theorem dK_donate_10 : decode cK_donate 10 = .ok (.iload_n 2, 1) := by decide +kernel
theorem dK_donate_11 : decode cK_donate 11 = .ok (.iload_n 3, 1) := by decide +kernel
theorem dK_donate_12 : decode cK_donate 12 = .ok (.invokevirtual 69, 3) := by decide +kernel
theorem dK_donate_15 : decode cK_donate 15 = .ok (.istore 5, 2) := by decide +kernel
theorem dK_donate_17 : decode cK_donate 17 = .ok (.aload 4, 2) := by decide +kernel
theorem dK_donate_19 : decode cK_donate 19 = .ok (.ifnull 8, 3) := by decide +kernel
theorem dK_donate_22 : decode cK_donate 22 = .ok (.iload 5, 2) := by decide +kernel
theorem dK_donate_24 : decode cK_donate 24 = .ok (.ifCond .eq 6, 3) := by decide +kernel
theorem dK_donate_27 : decode cK_donate 27 = .ok (.iload 5, 2) := by decide +kernel
theorem dK_donate_29 : decode cK_donate 29 = .ok (.ireturn, 1) := by decide +kernel
theorem dK_donate_30 : decode cK_donate 30 = .ok (.aload_n 0, 1) := by decide +kernel
theorem dK_donate_31 : decode cK_donate 31 = .ok (.getfield 11, 3) := by decide +kernel
theorem dK_donate_34 : decode cK_donate 34 = .ok (.iload_n 2, 1) := by decide +kernel
theorem dK_donate_35 : decode cK_donate 35 = .ok (.aaload, 1) := by decide +kernel
theorem dK_donate_36 : decode cK_donate 36 = .ok (.astore 6, 2) := by decide +kernel
theorem dK_donate_38 : decode cK_donate 38 = .ok (.aload 4, 2) := by decide +kernel
theorem dK_donate_40 : decode cK_donate 40 = .ok (.getfield 73, 3) := by decide +kernel
theorem dK_donate_43 : decode cK_donate 43 = .ok (.ifCond .eq 8, 3) := by decide +kernel
theorem dK_donate_46 : decode cK_donate 46 = .ok (.aload 6, 2) := by decide +kernel
theorem dK_donate_48 : decode cK_donate 48 = .ok (.invokevirtual 77, 3) := by decide +kernel
theorem dK_donate_51 : decode cK_donate 51 = .ok (.aload 6, 2) := by decide +kernel
theorem dK_donate_53 : decode cK_donate 53 = .ok (.iload_n 1, 1) := by decide +kernel
theorem dK_donate_54 : decode cK_donate 54 = .ok (.invokevirtual 80, 3) := by decide +kernel
theorem dK_donate_57 : decode cK_donate 57 = .ok (.aload 4, 2) := by decide +kernel
theorem dK_donate_59 : decode cK_donate 59 = .ok (.getfield 83, 3) := by decide +kernel
theorem dK_donate_62 : decode cK_donate 62 = .ok (.iload_n 3, 1) := by decide +kernel
theorem dK_donate_63 : decode cK_donate 63 = .ok (.aload 6, 2) := by decide +kernel
theorem dK_donate_65 : decode cK_donate 65 = .ok (.aastore, 1) := by decide +kernel
theorem dK_donate_66 : decode cK_donate 66 = .ok (.iconst 0, 1) := by decide +kernel
theorem dK_donate_67 : decode cK_donate 67 = .ok (.ireturn, 1) := by decide +kernel
theorem dK_placingRefusal_0 : decode cK_placingRefusal 0 = .ok (.aload_n 1, 1) := by decide +kernel
theorem dK_placingRefusal_1 : decode cK_placingRefusal 1 = .ok (.ifnonnull 5, 3) := by decide +kernel
theorem dK_placingRefusal_4 : decode cK_placingRefusal 4 = .ok (.iconst (-1), 1) := by decide +kernel
theorem dK_placingRefusal_5 : decode cK_placingRefusal 5 = .ok (.ireturn, 1) := by decide +kernel
theorem dK_placingRefusal_6 : decode cK_placingRefusal 6 = .ok (.aload_n 0, 1) := by decide +kernel
theorem dK_placingRefusal_7 : decode cK_placingRefusal 7 = .ok (.iload_n 2, 1) := by decide +kernel
theorem dK_placingRefusal_8 : decode cK_placingRefusal 8 = .ok (.invokevirtual 46, 3) := by decide +kernel
theorem dK_placingRefusal_11 : decode cK_placingRefusal 11 = .ok (.ifCond .ne 6, 3) := by decide +kernel
theorem dK_placingRefusal_14 : decode cK_placingRefusal 14 = .ok (.bipush (-2), 2) := by decide +kernel
theorem dK_placingRefusal_16 : decode cK_placingRefusal 16 = .ok (.ireturn, 1) := by decide +kernel
theorem dK_placingRefusal_17 : decode cK_placingRefusal 17 = .ok (.iload_n 3, 1) := by decide +kernel
theorem dK_placingRefusal_18 : decode cK_placingRefusal 18 = .ok (.ifCond .lt 18, 3) := by decide +kernel
theorem dK_placingRefusal_21 : decode cK_placingRefusal 21 = .ok (.iload_n 3, 1) := by decide +kernel
theorem dK_placingRefusal_22 : decode cK_placingRefusal 22 = .ok (.bipush 64, 2) := by decide +kernel
theorem dK_placingRefusal_24 : decode cK_placingRefusal 24 = .ok (.if_icmp .ge 12, 3) := by decide +kernel
theorem dK_placingRefusal_27 : decode cK_placingRefusal 27 = .ok (.aload_n 1, 1) := by decide +kernel
theorem dK_placingRefusal_28 : decode cK_placingRefusal 28 = .ok (.getfield 83, 3) := by decide +kernel
theorem dK_placingRefusal_31 : decode cK_placingRefusal 31 = .ok (.iload_n 3, 1) := by decide +kernel
theorem dK_placingRefusal_32 : decode cK_placingRefusal 32 = .ok (.aaload, 1) := by decide +kernel
theorem dK_placingRefusal_33 : decode cK_placingRefusal 33 = .ok (.ifnull 6, 3) := by decide +kernel
theorem dK_placingRefusal_36 : decode cK_placingRefusal 36 = .ok (.bipush (-3), 2) := by decide +kernel
theorem dK_placingRefusal_38 : decode cK_placingRefusal 38 = .ok (.ireturn, 1) := by decide +kernel
theorem dK_placingRefusal_39 : decode cK_placingRefusal 39 = .ok (.aload_n 1, 1) := by decide +kernel
theorem dK_placingRefusal_40 : decode cK_placingRefusal 40 = .ok (.invokevirtual 65, 3) := by decide +kernel
theorem dK_placingRefusal_43 : decode cK_placingRefusal 43 = .ok (.aload_n 1, 1) := by decide +kernel
theorem dK_placingRefusal_44 : decode cK_placingRefusal 44 = .ok (.iload_n 3, 1) := by decide +kernel
theorem dK_placingRefusal_45 : decode cK_placingRefusal 45 = .ok (.invokevirtual 145, 3) := by decide +kernel
theorem dK_placingRefusal_48 : decode cK_placingRefusal 48 = .ok (.if_icmp .ge 8, 3) := by decide +kernel
theorem dK_placingRefusal_51 : decode cK_placingRefusal 51 = .ok (.bipush (-4), 2) := by decide +kernel
theorem dK_placingRefusal_53 : decode cK_placingRefusal 53 = .ok (.goto 4, 3) := by decide +kernel
theorem dK_placingRefusal_56 : decode cK_placingRefusal 56 = .ok (.iconst 0, 1) := by decide +kernel
theorem dK_placingRefusal_57 : decode cK_placingRefusal 57 = .ok (.ireturn, 1) := by decide +kernel
theorem dG_newTablesFor_0 : decode cG_newTablesFor 0 = .ok (.aload_n 0, 1) := by decide +kernel
theorem dG_newTablesFor_1 : decode cG_newTablesFor 1 = .ok (.iload_n 1, 1) := by decide +kernel
theorem dG_newTablesFor_2 : decode cG_newTablesFor 2 = .ok (.bipush 16, 2) := by decide +kernel
theorem dG_newTablesFor_4 : decode cG_newTablesFor 4 = .ok (.idiv, 1) := by decide +kernel
theorem dG_newTablesFor_5 : decode cG_newTablesFor 5 = .ok (.bipush 16, 2) := by decide +kernel
theorem dG_newTablesFor_7 : decode cG_newTablesFor 7 = .ok (.invokevirtual 43, 3) := by decide +kernel
theorem dG_newTablesFor_10 : decode cG_newTablesFor 10 = .ok (.ifCond .eq 7, 3) := by decide +kernel
theorem dG_newTablesFor_13 : decode cG_newTablesFor 13 = .ok (.iconst 0, 1) := by decide +kernel
theorem dG_newTablesFor_14 : decode cG_newTablesFor 14 = .ok (.goto 4, 3) := by decide +kernel
theorem dG_newTablesFor_17 : decode cG_newTablesFor 17 = .ok (.iconst 1, 1) := by decide +kernel
theorem dG_newTablesFor_18 : decode cG_newTablesFor 18 = .ok (.istore_n 2, 1) := by decide +kernel
theorem dG_newTablesFor_19 : decode cG_newTablesFor 19 = .ok (.aload_n 0, 1) := by decide +kernel
theorem dG_newTablesFor_20 : decode cG_newTablesFor 20 = .ok (.iload_n 1, 1) := by decide +kernel
theorem dG_newTablesFor_21 : decode cG_newTablesFor 21 = .ok (.iconst 4, 1) := by decide +kernel
theorem dG_newTablesFor_22 : decode cG_newTablesFor 22 = .ok (.idiv, 1) := by decide +kernel
theorem dG_newTablesFor_23 : decode cG_newTablesFor 23 = .ok (.iconst 4, 1) := by decide +kernel
theorem dG_newTablesFor_24 : decode cG_newTablesFor 24 = .ok (.invokevirtual 43, 3) := by decide +kernel
theorem dG_newTablesFor_27 : decode cG_newTablesFor 27 = .ok (.ifCond .eq 7, 3) := by decide +kernel
theorem dG_newTablesFor_30 : decode cG_newTablesFor 30 = .ok (.iconst 0, 1) := by decide +kernel
theorem dG_newTablesFor_31 : decode cG_newTablesFor 31 = .ok (.goto 4, 3) := by decide +kernel
theorem dG_newTablesFor_34 : decode cG_newTablesFor 34 = .ok (.iconst 1, 1) := by decide +kernel
theorem dG_newTablesFor_35 : decode cG_newTablesFor 35 = .ok (.istore_n 3, 1) := by decide +kernel
theorem dG_newTablesFor_36 : decode cG_newTablesFor 36 = .ok (.iload_n 2, 1) := by decide +kernel
theorem dG_newTablesFor_37 : decode cG_newTablesFor 37 = .ok (.iload_n 3, 1) := by decide +kernel
theorem dG_newTablesFor_38 : decode cG_newTablesFor 38 = .ok (.iadd, 1) := by decide +kernel
theorem dG_newTablesFor_39 : decode cG_newTablesFor 39 = .ok (.ireturn, 1) := by decide +kernel
theorem dK_lend_0 : decode cK_lend 0 = .ok (.aload_n 0, 1) := by decide +kernel
theorem dK_lend_1 : decode cK_lend 1 = .ok (.iload_n 1, 1) := by decide +kernel
theorem dK_lend_2 : decode cK_lend 2 = .ok (.invokevirtual 58, 3) := by decide +kernel
theorem dK_lend_5 : decode cK_lend 5 = .ok (.astore 4, 2) := by decide +kernel
theorem dK_lend_7 : decode cK_lend 7 = .ok (.aload_n 0, 1) := by decide +kernel
theorem dK_lend_8 : decode cK_lend 8 = .ok (.aload 4, 2) := by decide +kernel
theorem dK_lend_10 : decode cK_lend 10 = .ok (.iload_n 2, 1) := by decide +kernel
theorem dK_lend_11 : decode cK_lend 11 = .ok (.iload_n 3, 1) := by decide +kernel
theorem dK_lend_12 : decode cK_lend 12 = .ok (.invokevirtual 69, 3) := by decide +kernel
theorem dK_lend_15 : decode cK_lend 15 = .ok (.istore 5, 2) := by decide +kernel
theorem dK_lend_17 : decode cK_lend 17 = .ok (.aload 4, 2) := by decide +kernel
theorem dK_lend_19 : decode cK_lend 19 = .ok (.ifnull 8, 3) := by decide +kernel
theorem dK_lend_22 : decode cK_lend 22 = .ok (.iload 5, 2) := by decide +kernel
theorem dK_lend_24 : decode cK_lend 24 = .ok (.ifCond .eq 6, 3) := by decide +kernel
theorem dK_lend_27 : decode cK_lend 27 = .ok (.iload 5, 2) := by decide +kernel
theorem dK_lend_29 : decode cK_lend 29 = .ok (.ireturn, 1) := by decide +kernel
theorem dK_lend_30 : decode cK_lend 30 = .ok (.aload_n 0, 1) := by decide +kernel
theorem dK_lend_31 : decode cK_lend 31 = .ok (.getfield 11, 3) := by decide +kernel
theorem dK_lend_34 : decode cK_lend 34 = .ok (.iload_n 2, 1) := by decide +kernel
theorem dK_lend_35 : decode cK_lend 35 = .ok (.aaload, 1) := by decide +kernel
theorem dK_lend_36 : decode cK_lend 36 = .ok (.iload_n 1, 1) := by decide +kernel
theorem dK_lend_37 : decode cK_lend 37 = .ok (.putfield 86, 3) := by decide +kernel
theorem dK_lend_40 : decode cK_lend 40 = .ok (.aload 4, 2) := by decide +kernel
theorem dK_lend_42 : decode cK_lend 42 = .ok (.getfield 83, 3) := by decide +kernel
theorem dK_lend_45 : decode cK_lend 45 = .ok (.iload_n 3, 1) := by decide +kernel
theorem dK_lend_46 : decode cK_lend 46 = .ok (.aload_n 0, 1) := by decide +kernel
theorem dK_lend_47 : decode cK_lend 47 = .ok (.getfield 11, 3) := by decide +kernel
theorem dK_lend_50 : decode cK_lend 50 = .ok (.iload_n 2, 1) := by decide +kernel
theorem dK_lend_51 : decode cK_lend 51 = .ok (.aaload, 1) := by decide +kernel
theorem dK_lend_52 : decode cK_lend 52 = .ok (.aastore, 1) := by decide +kernel
theorem dK_lend_53 : decode cK_lend 53 = .ok (.iconst 0, 1) := by decide +kernel
theorem dK_lend_54 : decode cK_lend 54 = .ok (.ireturn, 1) := by decide +kernel
theorem dK_takeBack_0 : decode cK_takeBack 0 = .ok (.iload_n 1, 1) := by decide +kernel
theorem dK_takeBack_1 : decode cK_takeBack 1 = .ok (.invokestatic 26, 3) := by decide +kernel
theorem dK_takeBack_4 : decode cK_takeBack 4 = .ok (.ifCond .eq 15, 3) := by decide +kernel
theorem dK_takeBack_7 : decode cK_takeBack 7 = .ok (.aload_n 0, 1) := by decide +kernel
theorem dK_takeBack_8 : decode cK_takeBack 8 = .ok (.getfield 11, 3) := by decide +kernel
theorem dK_takeBack_11 : decode cK_takeBack 11 = .ok (.iload_n 1, 1) := by decide +kernel
theorem dK_takeBack_12 : decode cK_takeBack 12 = .ok (.aaload, 1) := by decide +kernel
theorem dK_takeBack_13 : decode cK_takeBack 13 = .ok (.getfield 86, 3) := by decide +kernel
theorem dK_takeBack_16 : decode cK_takeBack 16 = .ok (.ifCond .ne 5, 3) := by decide +kernel
theorem dK_takeBack_19 : decode cK_takeBack 19 = .ok (.iconst 0, 1) := by decide +kernel
theorem dK_takeBack_20 : decode cK_takeBack 20 = .ok (.ireturn, 1) := by decide +kernel
theorem dK_takeBack_21 : decode cK_takeBack 21 = .ok (.aload_n 0, 1) := by decide +kernel
theorem dK_takeBack_22 : decode cK_takeBack 22 = .ok (.getfield 11, 3) := by decide +kernel
theorem dK_takeBack_25 : decode cK_takeBack 25 = .ok (.iload_n 1, 1) := by decide +kernel
theorem dK_takeBack_26 : decode cK_takeBack 26 = .ok (.aaload, 1) := by decide +kernel
theorem dK_takeBack_27 : decode cK_takeBack 27 = .ok (.astore_n 2, 1) := by decide +kernel
theorem dK_takeBack_28 : decode cK_takeBack 28 = .ok (.aload_n 0, 1) := by decide +kernel
theorem dK_takeBack_29 : decode cK_takeBack 29 = .ok (.aload_n 2, 1) := by decide +kernel
theorem dK_takeBack_30 : decode cK_takeBack 30 = .ok (.getfield 86, 3) := by decide +kernel
theorem dK_takeBack_33 : decode cK_takeBack 33 = .ok (.invokevirtual 58, 3) := by decide +kernel
theorem dK_takeBack_36 : decode cK_takeBack 36 = .ok (.astore_n 3, 1) := by decide +kernel
theorem dK_takeBack_37 : decode cK_takeBack 37 = .ok (.aload_n 3, 1) := by decide +kernel
theorem dK_takeBack_38 : decode cK_takeBack 38 = .ok (.ifnull 8, 3) := by decide +kernel
theorem dK_takeBack_41 : decode cK_takeBack 41 = .ok (.aload_n 3, 1) := by decide +kernel
theorem dK_takeBack_42 : decode cK_takeBack 42 = .ok (.aload_n 2, 1) := by decide +kernel
theorem dK_takeBack_43 : decode cK_takeBack 43 = .ok (.invokevirtual 89, 3) := by decide +kernel
theorem dK_takeBack_46 : decode cK_takeBack 46 = .ok (.aload_n 2, 1) := by decide +kernel
theorem dK_takeBack_47 : decode cK_takeBack 47 = .ok (.iconst 0, 1) := by decide +kernel
theorem dK_takeBack_48 : decode cK_takeBack 48 = .ok (.putfield 86, 3) := by decide +kernel
theorem dK_takeBack_51 : decode cK_takeBack 51 = .ok (.iconst 1, 1) := by decide +kernel
theorem dK_takeBack_52 : decode cK_takeBack 52 = .ok (.ireturn, 1) := by decide +kernel
theorem dG_removePage_0 : decode cG_removePage 0 = .ok (.iconst 0, 1) := by decide +kernel
theorem dG_removePage_1 : decode cG_removePage 1 = .ok (.istore_n 2, 1) := by decide +kernel
theorem dG_removePage_2 : decode cG_removePage 2 = .ok (.iload_n 2, 1) := by decide +kernel
theorem dG_removePage_3 : decode cG_removePage 3 = .ok (.bipush 64, 2) := by decide +kernel
theorem dG_removePage_5 : decode cG_removePage 5 = .ok (.if_icmp .ge 26, 3) := by decide +kernel
theorem dG_removePage_8 : decode cG_removePage 8 = .ok (.aload_n 0, 1) := by decide +kernel
theorem dG_removePage_9 : decode cG_removePage 9 = .ok (.getfield 11, 3) := by decide +kernel
theorem dG_removePage_12 : decode cG_removePage 12 = .ok (.iload_n 2, 1) := by decide +kernel
theorem dG_removePage_13 : decode cG_removePage 13 = .ok (.aaload, 1) := by decide +kernel
theorem dG_removePage_14 : decode cG_removePage 14 = .ok (.aload_n 1, 1) := by decide +kernel
theorem dG_removePage_15 : decode cG_removePage 15 = .ok (.if_acmp .ne 10, 3) := by decide +kernel
theorem dG_removePage_18 : decode cG_removePage 18 = .ok (.aload_n 0, 1) := by decide +kernel
theorem dG_removePage_19 : decode cG_removePage 19 = .ok (.getfield 11, 3) := by decide +kernel
theorem dG_removePage_22 : decode cG_removePage 22 = .ok (.iload_n 2, 1) := by decide +kernel
theorem dG_removePage_23 : decode cG_removePage 23 = .ok (.aconst_null, 1) := by decide +kernel
theorem dG_removePage_24 : decode cG_removePage 24 = .ok (.aastore, 1) := by decide +kernel
theorem dG_removePage_25 : decode cG_removePage 25 = .ok (.iinc 2 1, 3) := by decide +kernel
theorem dG_removePage_28 : decode cG_removePage 28 = .ok (.goto (-26), 3) := by decide +kernel
theorem dG_removePage_31 : decode cG_removePage 31 = .ok (.return_, 1) := by decide +kernel
theorem dK_destroy_0 : decode cK_destroy 0 = .ok (.aload_n 0, 1) := by decide +kernel
theorem dK_destroy_1 : decode cK_destroy 1 = .ok (.iload_n 1, 1) := by decide +kernel
theorem dK_destroy_2 : decode cK_destroy 2 = .ok (.invokevirtual 58, 3) := by decide +kernel
theorem dK_destroy_5 : decode cK_destroy 5 = .ok (.astore_n 2, 1) := by decide +kernel
theorem dK_destroy_6 : decode cK_destroy 6 = .ok (.aload_n 2, 1) := by decide +kernel
theorem dK_destroy_7 : decode cK_destroy 7 = .ok (.ifnull 11, 3) := by decide +kernel
theorem dK_destroy_10 : decode cK_destroy 10 = .ok (.aload_n 2, 1) := by decide +kernel
theorem dK_destroy_11 : decode cK_destroy 11 = .ok (.aload_n 0, 1) := by decide +kernel
theorem dK_destroy_12 : decode cK_destroy 12 = .ok (.getfield 93, 3) := by decide +kernel
theorem dK_destroy_15 : decode cK_destroy 15 = .ok (.if_acmp .ne 5, 3) := by decide +kernel
theorem dK_destroy_18 : decode cK_destroy 18 = .ok (.iconst 0, 1) := by decide +kernel
theorem dK_destroy_19 : decode cK_destroy 19 = .ok (.ireturn, 1) := by decide +kernel
theorem dK_destroy_20 : decode cK_destroy 20 = .ok (.aload_n 2, 1) := by decide +kernel
theorem dK_destroy_21 : decode cK_destroy 21 = .ok (.iconst 0, 1) := by decide +kernel
theorem dK_destroy_22 : decode cK_destroy 22 = .ok (.putfield 97, 3) := by decide +kernel
theorem dK_destroy_25 : decode cK_destroy 25 = .ok (.iconst 0, 1) := by decide +kernel
theorem dK_destroy_26 : decode cK_destroy 26 = .ok (.istore_n 3, 1) := by decide +kernel
theorem dK_destroy_27 : decode cK_destroy 27 = .ok (.iload_n 3, 1) := by decide +kernel
theorem dK_destroy_28 : decode cK_destroy 28 = .ok (.bipush 24, 2) := by decide +kernel
theorem dK_destroy_30 : decode cK_destroy 30 = .ok (.if_icmp .ge 19, 3) := by decide +kernel
theorem dK_destroy_33 : decode cK_destroy 33 = .ok (.aload_n 0, 1) := by decide +kernel
theorem dK_destroy_34 : decode cK_destroy 34 = .ok (.getfield 11, 3) := by decide +kernel
theorem dK_destroy_37 : decode cK_destroy 37 = .ok (.iload_n 3, 1) := by decide +kernel
theorem dK_destroy_38 : decode cK_destroy 38 = .ok (.aaload, 1) := by decide +kernel
theorem dK_destroy_39 : decode cK_destroy 39 = .ok (.iload_n 1, 1) := by decide +kernel
theorem dK_destroy_40 : decode cK_destroy 40 = .ok (.invokevirtual 100, 3) := by decide +kernel
theorem dK_destroy_43 : decode cK_destroy 43 = .ok (.iinc 3 1, 3) := by decide +kernel
theorem dK_destroy_46 : decode cK_destroy 46 = .ok (.goto (-19), 3) := by decide +kernel
theorem dK_destroy_49 : decode cK_destroy 49 = .ok (.iconst 1, 1) := by decide +kernel
theorem dK_destroy_50 : decode cK_destroy 50 = .ok (.ireturn, 1) := by decide +kernel
theorem dP_loseGuest_0 : decode cP_loseGuest 0 = .ok (.aload_n 0, 1) := by decide +kernel
theorem dP_loseGuest_1 : decode cP_loseGuest 1 = .ok (.getfield 15, 3) := by decide +kernel
theorem dP_loseGuest_4 : decode cP_loseGuest 4 = .ok (.iload_n 1, 1) := by decide +kernel
theorem dP_loseGuest_5 : decode cP_loseGuest 5 = .ok (.if_icmp .eq 11, 3) := by decide +kernel
theorem dP_loseGuest_8 : decode cP_loseGuest 8 = .ok (.aload_n 0, 1) := by decide +kernel
theorem dP_loseGuest_9 : decode cP_loseGuest 9 = .ok (.getfield 22, 3) := by decide +kernel
theorem dP_loseGuest_12 : decode cP_loseGuest 12 = .ok (.iload_n 1, 1) := by decide +kernel
theorem dP_loseGuest_13 : decode cP_loseGuest 13 = .ok (.if_icmp .ne 9, 3) := by decide +kernel
theorem dP_loseGuest_16 : decode cP_loseGuest 16 = .ok (.aload_n 0, 1) := by decide +kernel
theorem dP_loseGuest_17 : decode cP_loseGuest 17 = .ok (.bipush 8, 2) := by decide +kernel
theorem dP_loseGuest_19 : decode cP_loseGuest 19 = .ok (.invokevirtual 43, 3) := by decide +kernel
theorem dP_loseGuest_22 : decode cP_loseGuest 22 = .ok (.aload_n 0, 1) := by decide +kernel
theorem dP_loseGuest_23 : decode cP_loseGuest 23 = .ok (.getfield 19, 3) := by decide +kernel
theorem dP_loseGuest_26 : decode cP_loseGuest 26 = .ok (.iload_n 1, 1) := by decide +kernel
theorem dP_loseGuest_27 : decode cP_loseGuest 27 = .ok (.if_icmp .ne 8, 3) := by decide +kernel
theorem dP_loseGuest_30 : decode cP_loseGuest 30 = .ok (.aload_n 0, 1) := by decide +kernel
theorem dP_loseGuest_31 : decode cP_loseGuest 31 = .ok (.iconst 0, 1) := by decide +kernel
theorem dP_loseGuest_32 : decode cP_loseGuest 32 = .ok (.putfield 19, 3) := by decide +kernel
theorem dP_loseGuest_35 : decode cP_loseGuest 35 = .ok (.return_, 1) := by decide +kernel
theorem dK_reclaim_0 : decode cK_reclaim 0 = .ok (.iload_n 1, 1) := by decide +kernel
theorem dK_reclaim_1 : decode cK_reclaim 1 = .ok (.invokestatic 26, 3) := by decide +kernel
theorem dK_reclaim_4 : decode cK_reclaim 4 = .ok (.ifCond .eq 17, 3) := by decide +kernel
theorem dK_reclaim_7 : decode cK_reclaim 7 = .ok (.aload_n 0, 1) := by decide +kernel
theorem dK_reclaim_8 : decode cK_reclaim 8 = .ok (.getfield 11, 3) := by decide +kernel
theorem dK_reclaim_11 : decode cK_reclaim 11 = .ok (.iload_n 1, 1) := by decide +kernel
theorem dK_reclaim_12 : decode cK_reclaim 12 = .ok (.aaload, 1) := by decide +kernel
theorem dK_reclaim_13 : decode cK_reclaim 13 = .ok (.getfield 103, 3) := by decide +kernel
theorem dK_reclaim_16 : decode cK_reclaim 16 = .ok (.bipush 8, 2) := by decide +kernel
theorem dK_reclaim_18 : decode cK_reclaim 18 = .ok (.if_icmp .eq 5, 3) := by decide +kernel
theorem dK_reclaim_21 : decode cK_reclaim 21 = .ok (.iconst 0, 1) := by decide +kernel
theorem dK_reclaim_22 : decode cK_reclaim 22 = .ok (.ireturn, 1) := by decide +kernel
theorem dK_reclaim_23 : decode cK_reclaim 23 = .ok (.aload_n 0, 1) := by decide +kernel
theorem dK_reclaim_24 : decode cK_reclaim 24 = .ok (.getfield 11, 3) := by decide +kernel
theorem dK_reclaim_27 : decode cK_reclaim 27 = .ok (.iload_n 1, 1) := by decide +kernel
theorem dK_reclaim_28 : decode cK_reclaim 28 = .ok (.aaload, 1) := by decide +kernel
theorem dK_reclaim_29 : decode cK_reclaim 29 = .ok (.invokevirtual 77, 3) := by decide +kernel
theorem dK_reclaim_32 : decode cK_reclaim 32 = .ok (.aload_n 0, 1) := by decide +kernel
theorem dK_reclaim_33 : decode cK_reclaim 33 = .ok (.getfield 11, 3) := by decide +kernel
theorem dK_reclaim_36 : decode cK_reclaim 36 = .ok (.iload_n 1, 1) := by decide +kernel
theorem dK_reclaim_37 : decode cK_reclaim 37 = .ok (.aaload, 1) := by decide +kernel
theorem dK_reclaim_38 : decode cK_reclaim 38 = .ok (.iconst 0, 1) := by decide +kernel
theorem dK_reclaim_39 : decode cK_reclaim 39 = .ok (.invokevirtual 80, 3) := by decide +kernel
theorem dK_reclaim_42 : decode cK_reclaim 42 = .ok (.iconst 1, 1) := by decide +kernel
theorem dK_reclaim_43 : decode cK_reclaim 43 = .ok (.ireturn, 1) := by decide +kernel
theorem dK_load_0 : decode cK_load 0 = .ok (.aload_n 0, 1) := by decide +kernel
theorem dK_load_1 : decode cK_load 1 = .ok (.iload_n 1, 1) := by decide +kernel
theorem dK_load_2 : decode cK_load 2 = .ok (.invokevirtual 58, 3) := by decide +kernel
theorem dK_load_5 : decode cK_load 5 = .ok (.astore_n 3, 1) := by decide +kernel
theorem dK_load_6 : decode cK_load 6 = .ok (.aload_n 0, 1) := by decide +kernel
theorem dK_load_7 : decode cK_load 7 = .ok (.getfield 106, 3) := by decide +kernel
theorem dK_load_10 : decode cK_load 10 = .ok (.ifnonnull 16, 3) := by decide +kernel
theorem dK_load_13 : decode cK_load 13 = .ok (.aload_n 3, 1) := by decide +kernel
theorem dK_load_14 : decode cK_load 14 = .ok (.ifnull 12, 3) := by decide +kernel
theorem dK_load_17 : decode cK_load 17 = .ok (.iload_n 2, 1) := by decide +kernel
theorem dK_load_18 : decode cK_load 18 = .ok (.ifCond .lt 8, 3) := by decide +kernel
theorem dK_load_21 : decode cK_load 21 = .ok (.iload_n 2, 1) := by decide +kernel
theorem dK_load_22 : decode cK_load 22 = .ok (.iconst 2, 1) := by decide +kernel
theorem dK_load_23 : decode cK_load 23 = .ok (.if_icmp .lt 5, 3) := by decide +kernel
theorem dK_load_26 : decode cK_load 26 = .ok (.iconst 0, 1) := by decide +kernel
theorem dK_load_27 : decode cK_load 27 = .ok (.ireturn, 1) := by decide +kernel
theorem dK_load_28 : decode cK_load 28 = .ok (.aload_n 3, 1) := by decide +kernel
theorem dK_load_29 : decode cK_load 29 = .ok (.iconst 1, 1) := by decide +kernel
theorem dK_load_30 : decode cK_load 30 = .ok (.putfield 73, 3) := by decide +kernel
theorem dK_load_33 : decode cK_load 33 = .ok (.aload_n 0, 1) := by decide +kernel
theorem dK_load_34 : decode cK_load 34 = .ok (.aload_n 3, 1) := by decide +kernel
theorem dK_load_35 : decode cK_load 35 = .ok (.putfield 93, 3) := by decide +kernel
theorem dK_load_38 : decode cK_load 38 = .ok (.aload_n 0, 1) := by decide +kernel
theorem dK_load_39 : decode cK_load 39 = .ok (.aload_n 3, 1) := by decide +kernel
theorem dK_load_40 : decode cK_load 40 = .ok (.getfield 110, 3) := by decide +kernel
theorem dK_load_43 : decode cK_load 43 = .ok (.iload_n 2, 1) := by decide +kernel
theorem dK_load_44 : decode cK_load 44 = .ok (.aaload, 1) := by decide +kernel
theorem dK_load_45 : decode cK_load 45 = .ok (.putfield 106, 3) := by decide +kernel
theorem dK_load_48 : decode cK_load 48 = .ok (.iconst 1, 1) := by decide +kernel
theorem dK_load_49 : decode cK_load 49 = .ok (.ireturn, 1) := by decide +kernel
theorem dK_put_0 : decode cK_put 0 = .ok (.aload_n 0, 1) := by decide +kernel
theorem dK_put_1 : decode cK_put 1 = .ok (.getfield 106, 3) := by decide +kernel
theorem dK_put_4 : decode cK_put 4 = .ok (.ifnonnull 5, 3) := by decide +kernel
theorem dK_put_7 : decode cK_put 7 = .ok (.iconst 0, 1) := by decide +kernel
theorem dK_put_8 : decode cK_put 8 = .ok (.ireturn, 1) := by decide +kernel
theorem dK_put_9 : decode cK_put 9 = .ok (.aload_n 0, 1) := by decide +kernel
theorem dK_put_10 : decode cK_put 10 = .ok (.aconst_null, 1) := by decide +kernel
theorem dK_put_11 : decode cK_put 11 = .ok (.putfield 93, 3) := by decide +kernel
theorem dK_put_14 : decode cK_put 14 = .ok (.aload_n 0, 1) := by decide +kernel
theorem dK_put_15 : decode cK_put 15 = .ok (.aconst_null, 1) := by decide +kernel
theorem dK_put_16 : decode cK_put 16 = .ok (.putfield 106, 3) := by decide +kernel
theorem dK_put_19 : decode cK_put 19 = .ok (.iconst 1, 1) := by decide +kernel
theorem dK_put_20 : decode cK_put 20 = .ok (.ireturn, 1) := by decide +kernel
theorem dK_run_0 : decode cK_run 0 = .ok (.aload_n 0, 1) := by decide +kernel
theorem dK_run_1 : decode cK_run 1 = .ok (.getfield 106, 3) := by decide +kernel
theorem dK_run_4 : decode cK_run 4 = .ok (.ifnull 21, 3) := by decide +kernel
theorem dK_run_7 : decode cK_run 7 = .ok (.aload_n 0, 1) := by decide +kernel
theorem dK_run_8 : decode cK_run 8 = .ok (.getfield 93, 3) := by decide +kernel
theorem dK_run_11 : decode cK_run 11 = .ok (.ifnull 14, 3) := by decide +kernel
theorem dK_run_14 : decode cK_run 14 = .ok (.iload_n 1, 1) := by decide +kernel
theorem dK_run_15 : decode cK_run 15 = .ok (.iconst 1, 1) := by decide +kernel
theorem dK_run_16 : decode cK_run 16 = .ok (.if_icmp .lt 9, 3) := by decide +kernel
theorem dK_run_19 : decode cK_run 19 = .ok (.iload_n 1, 1) := by decide +kernel
theorem dK_run_20 : decode cK_run 20 = .ok (.bipush 64, 2) := by decide +kernel
theorem dK_run_22 : decode cK_run 22 = .ok (.if_icmp .le 5, 3) := by decide +kernel
