theorem dX0_init_0 : decode cX0_init 0 = .ok (.aload_n 0, 1) := by decide +kernel
theorem dX0_init_1 : decode cX0_init 1 = .ok (.invokespecial 3, 3) := by decide +kernel
theorem dX0_init_4 : decode cX0_init 4 = .ok (.aload_n 0, 1) := by decide +kernel
theorem dX0_init_5 : decode cX0_init 5 = .ok (.bipush 64, 2) := by decide +kernel
theorem dX0_init_7 : decode cX0_init 7 = .ok (.newarray .int, 2) := by decide +kernel
theorem dX0_init_9 : decode cX0_init 9 = .ok (.putfield 9, 3) := by decide +kernel
theorem dX0_init_12 : decode cX0_init 12 = .ok (.return_, 1) := by decide +kernel
theorem dX0_install_0 : decode cX0_install 0 = .ok (.aload_n 0, 1) := by decide +kernel
theorem dX0_install_1 : decode cX0_install 1 = .ok (.iconst 0, 1) := by decide +kernel
theorem dX0_install_2 : decode cX0_install 2 = .ok (.putfield 15, 3) := by decide +kernel
theorem dX0_install_5 : decode cX0_install 5 = .ok (.aload_n 0, 1) := by decide +kernel
theorem dX0_install_6 : decode cX0_install 6 = .ok (.iconst 0, 1) := by decide +kernel
theorem dX0_install_7 : decode cX0_install 7 = .ok (.putfield 19, 3) := by decide +kernel
theorem dX0_install_10 : decode cX0_install 10 = .ok (.aload_n 0, 1) := by decide +kernel
theorem dX0_install_11 : decode cX0_install 11 = .ok (.iconst 0, 1) := by decide +kernel
theorem dX0_install_12 : decode cX0_install 12 = .ok (.putfield 22, 3) := by decide +kernel
theorem dX0_install_15 : decode cX0_install 15 = .ok (.return_, 1) := by decide +kernel
theorem dX0_copyFrom_0 : decode cX0_copyFrom 0 = .ok (.aload_n 0, 1) := by decide +kernel
theorem dX0_copyFrom_1 : decode cX0_copyFrom 1 = .ok (.aload_n 1, 1) := by decide +kernel
theorem dX0_copyFrom_2 : decode cX0_copyFrom 2 = .ok (.getfield 15, 3) := by decide +kernel
theorem dX0_copyFrom_5 : decode cX0_copyFrom 5 = .ok (.putfield 15, 3) := by decide +kernel
theorem dX0_copyFrom_8 : decode cX0_copyFrom 8 = .ok (.aload_n 0, 1) := by decide +kernel
theorem dX0_copyFrom_9 : decode cX0_copyFrom 9 = .ok (.aload_n 1, 1) := by decide +kernel
theorem dX0_copyFrom_10 : decode cX0_copyFrom 10 = .ok (.getfield 19, 3) := by decide +kernel
theorem dX0_copyFrom_13 : decode cX0_copyFrom 13 = .ok (.putfield 19, 3) := by decide +kernel
theorem dX0_copyFrom_16 : decode cX0_copyFrom 16 = .ok (.aload_n 0, 1) := by decide +kernel
theorem dX0_copyFrom_17 : decode cX0_copyFrom 17 = .ok (.aload_n 1, 1) := by decide +kernel
theorem dX0_copyFrom_18 : decode cX0_copyFrom 18 = .ok (.getfield 22, 3) := by decide +kernel
theorem dX0_copyFrom_21 : decode cX0_copyFrom 21 = .ok (.putfield 22, 3) := by decide +kernel
theorem dX0_copyFrom_24 : decode cX0_copyFrom 24 = .ok (.aload_n 1, 1) := by decide +kernel
theorem dX0_copyFrom_25 : decode cX0_copyFrom 25 = .ok (.getfield 9, 3) := by decide +kernel
theorem dX0_copyFrom_28 : decode cX0_copyFrom 28 = .ok (.iconst 0, 1) := by decide +kernel
theorem dX0_copyFrom_29 : decode cX0_copyFrom 29 = .ok (.aload_n 0, 1) := by decide +kernel
theorem dX0_copyFrom_30 : decode cX0_copyFrom 30 = .ok (.getfield 9, 3) := by decide +kernel
theorem dX0_copyFrom_33 : decode cX0_copyFrom 33 = .ok (.iconst 0, 1) := by decide +kernel
theorem dX0_copyFrom_34 : decode cX0_copyFrom 34 = .ok (.bipush 64, 2) := by decide +kernel
theorem dX0_copyFrom_36 : decode cX0_copyFrom 36 = .ok (.invokestatic 25, 3) := by decide +kernel
theorem dX0_copyFrom_39 : decode cX0_copyFrom 39 = .ok (.return_, 1) := by decide +kernel
theorem dX0_add_0 : decode cX0_add 0 = .ok (.aload_n 0, 1) := by decide +kernel
theorem dX0_add_1 : decode cX0_add 1 = .ok (.dup, 1) := by decide +kernel
theorem dX0_add_2 : decode cX0_add 2 = .ok (.getfield 15, 3) := by decide +kernel
theorem dX0_add_5 : decode cX0_add 5 = .ok (.iconst 1, 1) := by decide +kernel
theorem dX0_add_6 : decode cX0_add 6 = .ok (.iadd, 1) := by decide +kernel
theorem dX0_add_7 : decode cX0_add 7 = .ok (.putfield 15, 3) := by decide +kernel
theorem dX0_add_10 : decode cX0_add 10 = .ok (.aload_n 0, 1) := by decide +kernel
theorem dX0_add_11 : decode cX0_add 11 = .ok (.getfield 9, 3) := by decide +kernel
theorem dX0_add_14 : decode cX0_add 14 = .ok (.aload_n 0, 1) := by decide +kernel
theorem dX0_add_15 : decode cX0_add 15 = .ok (.getfield 22, 3) := by decide +kernel
theorem dX0_add_18 : decode cX0_add 18 = .ok (.bipush 64, 2) := by decide +kernel
theorem dX0_add_20 : decode cX0_add 20 = .ok (.irem, 1) := by decide +kernel
theorem dX0_add_21 : decode cX0_add 21 = .ok (.iload_n 1, 1) := by decide +kernel
theorem dX0_add_22 : decode cX0_add 22 = .ok (.iastore, 1) := by decide +kernel
theorem dX0_add_23 : decode cX0_add 23 = .ok (.aload_n 0, 1) := by decide +kernel
theorem dX0_add_24 : decode cX0_add 24 = .ok (.dup, 1) := by decide +kernel
theorem dX0_add_25 : decode cX0_add 25 = .ok (.getfield 22, 3) := by decide +kernel
theorem dX0_add_28 : decode cX0_add 28 = .ok (.iconst 1, 1) := by decide +kernel
theorem dX0_add_29 : decode cX0_add 29 = .ok (.iadd, 1) := by decide +kernel
theorem dX0_add_30 : decode cX0_add 30 = .ok (.putfield 22, 3) := by decide +kernel
theorem dX0_add_33 : decode cX0_add 33 = .ok (.return_, 1) := by decide +kernel
theorem dX0_countRecent_0 : decode cX0_countRecent 0 = .ok (.aload_n 0, 1) := by decide +kernel
theorem dX0_countRecent_1 : decode cX0_countRecent 1 = .ok (.getfield 22, 3) := by decide +kernel
theorem dX0_countRecent_4 : decode cX0_countRecent 4 = .ok (.bipush 64, 2) := by decide +kernel
theorem dX0_countRecent_6 : decode cX0_countRecent 6 = .ok (.invokestatic 31, 3) := by decide +kernel
theorem dX0_countRecent_9 : decode cX0_countRecent 9 = .ok (.ireturn, 1) := by decide +kernel
theorem dX0_recentAt_0 : decode cX0_recentAt 0 = .ok (.aload_n 0, 1) := by decide +kernel
theorem dX0_recentAt_1 : decode cX0_recentAt 1 = .ok (.getfield 9, 3) := by decide +kernel
theorem dX0_recentAt_4 : decode cX0_recentAt 4 = .ok (.aload_n 0, 1) := by decide +kernel
theorem dX0_recentAt_5 : decode cX0_recentAt 5 = .ok (.getfield 22, 3) := by decide +kernel
theorem dX0_recentAt_8 : decode cX0_recentAt 8 = .ok (.iconst 1, 1) := by decide +kernel
theorem dX0_recentAt_9 : decode cX0_recentAt 9 = .ok (.isub, 1) := by decide +kernel
theorem dX0_recentAt_10 : decode cX0_recentAt 10 = .ok (.iload_n 1, 1) := by decide +kernel
theorem dX0_recentAt_11 : decode cX0_recentAt 11 = .ok (.isub, 1) := by decide +kernel
theorem dX0_recentAt_12 : decode cX0_recentAt 12 = .ok (.bipush 64, 2) := by decide +kernel
theorem dX0_recentAt_14 : decode cX0_recentAt 14 = .ok (.irem, 1) := by decide +kernel
theorem dX0_recentAt_15 : decode cX0_recentAt 15 = .ok (.iaload, 1) := by decide +kernel
theorem dX0_recentAt_16 : decode cX0_recentAt 16 = .ok (.ireturn, 1) := by decide +kernel
theorem dX0_countDifferent_0 : decode cX0_countDifferent 0 = .ok (.iload_n 1, 1) := by decide +kernel
theorem dX0_countDifferent_1 : decode cX0_countDifferent 1 = .ok (.aload_n 0, 1) := by decide +kernel
theorem dX0_countDifferent_2 : decode cX0_countDifferent 2 = .ok (.invokevirtual 37, 3) := by decide +kernel
theorem dX0_countDifferent_5 : decode cX0_countDifferent 5 = .ok (.invokestatic 31, 3) := by decide +kernel
theorem dX0_countDifferent_8 : decode cX0_countDifferent 8 = .ok (.istore_n 2, 1) := by decide +kernel
theorem dX0_countDifferent_9 : decode cX0_countDifferent 9 = .ok (.lconst 0, 1) := by decide +kernel
theorem dX0_countDifferent_10 : decode cX0_countDifferent 10 = .ok (.lstore_n 3, 1) := by decide +kernel
theorem dX0_countDifferent_11 : decode cX0_countDifferent 11 = .ok (.iconst 0, 1) := by decide +kernel
theorem dX0_countDifferent_12 : decode cX0_countDifferent 12 = .ok (.istore 5, 2) := by decide +kernel
theorem dX0_countDifferent_14 : decode cX0_countDifferent 14 = .ok (.iload 5, 2) := by decide +kernel
theorem dX0_countDifferent_16 : decode cX0_countDifferent 16 = .ok (.iload_n 2, 1) := by decide +kernel
theorem dX0_countDifferent_17 : decode cX0_countDifferent 17 = .ok (.if_icmp .ge 20, 3) := by decide +kernel
theorem dX0_countDifferent_20 : decode cX0_countDifferent 20 = .ok (.lload_n 3, 1) := by decide +kernel
theorem dX0_countDifferent_21 : decode cX0_countDifferent 21 = .ok (.lconst 1, 1) := by decide +kernel
theorem dX0_countDifferent_22 : decode cX0_countDifferent 22 = .ok (.aload_n 0, 1) := by decide +kernel
theorem dX0_countDifferent_23 : decode cX0_countDifferent 23 = .ok (.iload 5, 2) := by decide +kernel
theorem dX0_countDifferent_25 : decode cX0_countDifferent 25 = .ok (.invokevirtual 41, 3) := by decide +kernel
theorem dX0_countDifferent_28 : decode cX0_countDifferent 28 = .ok (.lshl, 1) := by decide +kernel
theorem dX0_countDifferent_29 : decode cX0_countDifferent 29 = .ok (.lor, 1) := by decide +kernel
theorem dX0_countDifferent_30 : decode cX0_countDifferent 30 = .ok (.lstore_n 3, 1) := by decide +kernel
theorem dX0_countDifferent_31 : decode cX0_countDifferent 31 = .ok (.iinc 5 1, 3) := by decide +kernel
theorem dX0_countDifferent_34 : decode cX0_countDifferent 34 = .ok (.goto (-20), 3) := by decide +kernel
theorem dX0_countDifferent_37 : decode cX0_countDifferent 37 = .ok (.lload_n 3, 1) := by decide +kernel
theorem dX0_countDifferent_38 : decode cX0_countDifferent 38 = .ok (.invokestatic 45, 3) := by decide +kernel
theorem dX0_countDifferent_41 : decode cX0_countDifferent 41 = .ok (.ireturn, 1) := by decide +kernel
theorem dX0_mostFrequent_0 : decode cX0_mostFrequent 0 = .ok (.iconst (-1), 1) := by decide +kernel
theorem dX0_mostFrequent_1 : decode cX0_mostFrequent 1 = .ok (.istore_n 1, 1) := by decide +kernel
theorem dX0_mostFrequent_2 : decode cX0_mostFrequent 2 = .ok (.iconst 0, 1) := by decide +kernel
theorem dX0_mostFrequent_3 : decode cX0_mostFrequent 3 = .ok (.istore_n 2, 1) := by decide +kernel
theorem dX0_mostFrequent_4 : decode cX0_mostFrequent 4 = .ok (.iconst 0, 1) := by decide +kernel
theorem dX0_mostFrequent_5 : decode cX0_mostFrequent 5 = .ok (.istore_n 3, 1) := by decide +kernel
theorem dX0_mostFrequent_6 : decode cX0_mostFrequent 6 = .ok (.iload_n 3, 1) := by decide +kernel
theorem dX0_mostFrequent_7 : decode cX0_mostFrequent 7 = .ok (.bipush 48, 2) := by decide +kernel
theorem dX0_mostFrequent_9 : decode cX0_mostFrequent 9 = .ok (.if_icmp .ge 27, 3) := by decide +kernel
theorem dX0_mostFrequent_12 : decode cX0_mostFrequent 12 = .ok (.aload_n 0, 1) := by decide +kernel
theorem dX0_mostFrequent_13 : decode cX0_mostFrequent 13 = .ok (.iload_n 3, 1) := by decide +kernel
theorem dX0_mostFrequent_14 : decode cX0_mostFrequent 14 = .ok (.invokevirtual 51, 3) := by decide +kernel
theorem dX0_mostFrequent_17 : decode cX0_mostFrequent 17 = .ok (.istore 4, 2) := by decide +kernel
theorem dX0_mostFrequent_19 : decode cX0_mostFrequent 19 = .ok (.iload 4, 2) := by decide +kernel
theorem dX0_mostFrequent_21 : decode cX0_mostFrequent 21 = .ok (.iload_n 2, 1) := by decide +kernel
theorem dX0_mostFrequent_22 : decode cX0_mostFrequent 22 = .ok (.if_icmp .le 8, 3) := by decide +kernel
theorem dX0_mostFrequent_25 : decode cX0_mostFrequent 25 = .ok (.iload_n 3, 1) := by decide +kernel
theorem dX0_mostFrequent_26 : decode cX0_mostFrequent 26 = .ok (.istore_n 1, 1) := by decide +kernel
theorem dX0_mostFrequent_27 : decode cX0_mostFrequent 27 = .ok (.iload 4, 2) := by decide +kernel
theorem dX0_mostFrequent_29 : decode cX0_mostFrequent 29 = .ok (.istore_n 2, 1) := by decide +kernel
theorem dX0_mostFrequent_30 : decode cX0_mostFrequent 30 = .ok (.iinc 3 1, 3) := by decide +kernel
theorem dX0_mostFrequent_33 : decode cX0_mostFrequent 33 = .ok (.goto (-27), 3) := by decide +kernel
theorem dX0_mostFrequent_36 : decode cX0_mostFrequent 36 = .ok (.iload_n 1, 1) := by decide +kernel
theorem dX0_mostFrequent_37 : decode cX0_mostFrequent 37 = .ok (.ireturn, 1) := by decide +kernel
theorem dX0_countOf_0 : decode cX0_countOf 0 = .ok (.iconst 0, 1) := by decide +kernel
theorem dX0_countOf_1 : decode cX0_countOf 1 = .ok (.istore_n 2, 1) := by decide +kernel
theorem dX0_countOf_2 : decode cX0_countOf 2 = .ok (.iconst 0, 1) := by decide +kernel
theorem dX0_countOf_3 : decode cX0_countOf 3 = .ok (.istore_n 3, 1) := by decide +kernel
theorem dX0_countOf_4 : decode cX0_countOf 4 = .ok (.iload_n 3, 1) := by decide +kernel
theorem dX0_countOf_5 : decode cX0_countOf 5 = .ok (.aload_n 0, 1) := by decide +kernel
theorem dX0_countOf_6 : decode cX0_countOf 6 = .ok (.invokevirtual 37, 3) := by decide +kernel
theorem dX0_countOf_9 : decode cX0_countOf 9 = .ok (.if_icmp .ge 22, 3) := by decide +kernel
theorem dX0_countOf_12 : decode cX0_countOf 12 = .ok (.aload_n 0, 1) := by decide +kernel
theorem dX0_countOf_13 : decode cX0_countOf 13 = .ok (.getfield 9, 3) := by decide +kernel
theorem dX0_countOf_16 : decode cX0_countOf 16 = .ok (.iload_n 3, 1) := by decide +kernel
theorem dX0_countOf_17 : decode cX0_countOf 17 = .ok (.iaload, 1) := by decide +kernel
theorem dX0_countOf_18 : decode cX0_countOf 18 = .ok (.iload_n 1, 1) := by decide +kernel
theorem dX0_countOf_19 : decode cX0_countOf 19 = .ok (.if_icmp .ne 6, 3) := by decide +kernel
theorem dX0_countOf_22 : decode cX0_countOf 22 = .ok (.iinc 2 1, 3) := by decide +kernel
theorem dX0_countOf_25 : decode cX0_countOf 25 = .ok (.iinc 3 1, 3) := by decide +kernel
theorem dX0_countOf_28 : decode cX0_countOf 28 = .ok (.goto (-24), 3) := by decide +kernel
theorem dX0_countOf_31 : decode cX0_countOf 31 = .ok (.iload_n 2, 1) := by decide +kernel
theorem dX0_countOf_32 : decode cX0_countOf 32 = .ok (.ireturn, 1) := by decide +kernel
theorem dX1_init_0 : decode cX1_init 0 = .ok (.aload_n 0, 1) := by decide +kernel
theorem dX1_init_1 : decode cX1_init 1 = .ok (.invokespecial 3, 3) := by decide +kernel
theorem dX1_init_4 : decode cX1_init 4 = .ok (.aload_n 0, 1) := by decide +kernel
theorem dX1_init_5 : decode cX1_init 5 = .ok (.bipush 48, 2) := by decide +kernel
theorem dX1_init_7 : decode cX1_init 7 = .ok (.newarray .int, 2) := by decide +kernel
theorem dX1_init_9 : decode cX1_init 9 = .ok (.putfield 9, 3) := by decide +kernel
theorem dX1_init_12 : decode cX1_init 12 = .ok (.aload_n 0, 1) := by decide +kernel
theorem dX1_init_13 : decode cX1_init 13 = .ok (.bipush 6, 2) := by decide +kernel
theorem dX1_init_15 : decode cX1_init 15 = .ok (.newarray .int, 2) := by decide +kernel
theorem dX1_init_17 : decode cX1_init 17 = .ok (.putfield 15, 3) := by decide +kernel
theorem dX1_init_20 : decode cX1_init 20 = .ok (.aload_n 0, 1) := by decide +kernel
theorem dX1_init_21 : decode cX1_init 21 = .ok (.bipush 48, 2) := by decide +kernel
theorem dX1_init_23 : decode cX1_init 23 = .ok (.newarray .int, 2) := by decide +kernel
theorem dX1_init_25 : decode cX1_init 25 = .ok (.putfield 18, 3) := by decide +kernel
theorem dX1_init_28 : decode cX1_init 28 = .ok (.aload_n 0, 1) := by decide +kernel
theorem dX1_init_29 : decode cX1_init 29 = .ok (.bipush 32, 2) := by decide +kernel
theorem dX1_init_31 : decode cX1_init 31 = .ok (.newarray .int, 2) := by decide +kernel
theorem dX1_init_33 : decode cX1_init 33 = .ok (.putfield 21, 3) := by decide +kernel
theorem dX1_init_36 : decode cX1_init 36 = .ok (.return_, 1) := by decide +kernel
theorem dX1_install_0 : decode cX1_install 0 = .ok (.aload_n 0, 1) := by decide +kernel
theorem dX1_install_1 : decode cX1_install 1 = .ok (.iconst 0, 1) := by decide +kernel
theorem dX1_install_2 : decode cX1_install 2 = .ok (.putfield 24, 3) := by decide +kernel
theorem dX1_install_5 : decode cX1_install 5 = .ok (.aload_n 0, 1) := by decide +kernel
theorem dX1_install_6 : decode cX1_install 6 = .ok (.iconst 0, 1) := by decide +kernel
theorem dX1_install_7 : decode cX1_install 7 = .ok (.putfield 28, 3) := by decide +kernel
theorem dX1_install_10 : decode cX1_install 10 = .ok (.aload_n 0, 1) := by decide +kernel
theorem dX1_install_11 : decode cX1_install 11 = .ok (.invokevirtual 31, 3) := by decide +kernel
theorem dX1_install_14 : decode cX1_install 14 = .ok (.iconst 0, 1) := by decide +kernel
theorem dX1_install_15 : decode cX1_install 15 = .ok (.istore_n 1, 1) := by decide +kernel
theorem dX1_install_16 : decode cX1_install 16 = .ok (.iload_n 1, 1) := by decide +kernel
theorem dX1_install_17 : decode cX1_install 17 = .ok (.bipush 6, 2) := by decide +kernel
theorem dX1_install_19 : decode cX1_install 19 = .ok (.if_icmp .ge 16, 3) := by decide +kernel
theorem dX1_install_22 : decode cX1_install 22 = .ok (.aload_n 0, 1) := by decide +kernel
theorem dX1_install_23 : decode cX1_install 23 = .ok (.getfield 15, 3) := by decide +kernel
theorem dX1_install_26 : decode cX1_install 26 = .ok (.iload_n 1, 1) := by decide +kernel
theorem dX1_install_27 : decode cX1_install 27 = .ok (.iconst (-1), 1) := by decide +kernel
theorem dX1_install_28 : decode cX1_install 28 = .ok (.iastore, 1) := by decide +kernel
theorem dX1_install_29 : decode cX1_install 29 = .ok (.iinc 1 1, 3) := by decide +kernel
theorem dX1_install_32 : decode cX1_install 32 = .ok (.goto (-16), 3) := by decide +kernel
theorem dX1_install_35 : decode cX1_install 35 = .ok (.iconst 0, 1) := by decide +kernel
theorem dX1_install_36 : decode cX1_install 36 = .ok (.istore_n 1, 1) := by decide +kernel
theorem dX1_install_37 : decode cX1_install 37 = .ok (.iload_n 1, 1) := by decide +kernel
theorem dX1_install_38 : decode cX1_install 38 = .ok (.bipush 48, 2) := by decide +kernel
theorem dX1_install_40 : decode cX1_install 40 = .ok (.if_icmp .ge 16, 3) := by decide +kernel
theorem dX1_install_43 : decode cX1_install 43 = .ok (.aload_n 0, 1) := by decide +kernel
theorem dX1_install_44 : decode cX1_install 44 = .ok (.getfield 18, 3) := by decide +kernel
theorem dX1_install_47 : decode cX1_install 47 = .ok (.iload_n 1, 1) := by decide +kernel
theorem dX1_install_48 : decode cX1_install 48 = .ok (.iconst (-1), 1) := by decide +kernel
theorem dX1_install_49 : decode cX1_install 49 = .ok (.iastore, 1) := by decide +kernel
theorem dX1_install_50 : decode cX1_install 50 = .ok (.iinc 1 1, 3) := by decide +kernel
theorem dX1_install_53 : decode cX1_install 53 = .ok (.goto (-16), 3) := by decide +kernel
theorem dX1_install_56 : decode cX1_install 56 = .ok (.return_, 1) := by decide +kernel
theorem dX1_copyFrom_0 : decode cX1_copyFrom 0 = .ok (.aload_n 0, 1) := by decide +kernel
theorem dX1_copyFrom_1 : decode cX1_copyFrom 1 = .ok (.aload_n 1, 1) := by decide +kernel
theorem dX1_copyFrom_2 : decode cX1_copyFrom 2 = .ok (.getfield 24, 3) := by decide +kernel
theorem dX1_copyFrom_5 : decode cX1_copyFrom 5 = .ok (.putfield 24, 3) := by decide +kernel
theorem dX1_copyFrom_8 : decode cX1_copyFrom 8 = .ok (.aload_n 0, 1) := by decide +kernel
theorem dX1_copyFrom_9 : decode cX1_copyFrom 9 = .ok (.aload_n 1, 1) := by decide +kernel
theorem dX1_copyFrom_10 : decode cX1_copyFrom 10 = .ok (.getfield 34, 3) := by decide +kernel
theorem dX1_copyFrom_13 : decode cX1_copyFrom 13 = .ok (.putfield 34, 3) := by decide +kernel
theorem dX1_copyFrom_16 : decode cX1_copyFrom 16 = .ok (.aload_n 0, 1) := by decide +kernel
theorem dX1_copyFrom_17 : decode cX1_copyFrom 17 = .ok (.aload_n 1, 1) := by decide +kernel
theorem dX1_copyFrom_18 : decode cX1_copyFrom 18 = .ok (.getfield 37, 3) := by decide +kernel
theorem dX1_copyFrom_21 : decode cX1_copyFrom 21 = .ok (.putfield 37, 3) := by decide +kernel
theorem dX1_copyFrom_24 : decode cX1_copyFrom 24 = .ok (.aload_n 0, 1) := by decide +kernel
theorem dX1_copyFrom_25 : decode cX1_copyFrom 25 = .ok (.aload_n 1, 1) := by decide +kernel
theorem dX1_copyFrom_26 : decode cX1_copyFrom 26 = .ok (.getfield 28, 3) := by decide +kernel
theorem dX1_copyFrom_29 : decode cX1_copyFrom 29 = .ok (.putfield 28, 3) := by decide +kernel
theorem dX1_copyFrom_32 : decode cX1_copyFrom 32 = .ok (.aload_n 1, 1) := by decide +kernel
theorem dX1_copyFrom_33 : decode cX1_copyFrom 33 = .ok (.getfield 9, 3) := by decide +kernel
theorem dX1_copyFrom_36 : decode cX1_copyFrom 36 = .ok (.iconst 0, 1) := by decide +kernel
theorem dX1_copyFrom_37 : decode cX1_copyFrom 37 = .ok (.aload_n 0, 1) := by decide +kernel
theorem dX1_copyFrom_38 : decode cX1_copyFrom 38 = .ok (.getfield 9, 3) := by decide +kernel
theorem dX1_copyFrom_41 : decode cX1_copyFrom 41 = .ok (.iconst 0, 1) := by decide +kernel
theorem dX1_copyFrom_42 : decode cX1_copyFrom 42 = .ok (.bipush 48, 2) := by decide +kernel
theorem dX1_copyFrom_44 : decode cX1_copyFrom 44 = .ok (.invokestatic 40, 3) := by decide +kernel
theorem dX1_copyFrom_47 : decode cX1_copyFrom 47 = .ok (.aload_n 1, 1) := by decide +kernel
theorem dX1_copyFrom_48 : decode cX1_copyFrom 48 = .ok (.getfield 15, 3) := by decide +kernel
theorem dX1_copyFrom_51 : decode cX1_copyFrom 51 = .ok (.iconst 0, 1) := by decide +kernel
theorem dX1_copyFrom_52 : decode cX1_copyFrom 52 = .ok (.aload_n 0, 1) := by decide +kernel
theorem dX1_copyFrom_53 : decode cX1_copyFrom 53 = .ok (.getfield 15, 3) := by decide +kernel
theorem dX1_copyFrom_56 : decode cX1_copyFrom 56 = .ok (.iconst 0, 1) := by decide +kernel
theorem dX1_copyFrom_57 : decode cX1_copyFrom 57 = .ok (.bipush 6, 2) := by decide +kernel
theorem dX1_copyFrom_59 : decode cX1_copyFrom 59 = .ok (.invokestatic 40, 3) := by decide +kernel
theorem dX1_copyFrom_62 : decode cX1_copyFrom 62 = .ok (.aload_n 1, 1) := by decide +kernel
theorem dX1_copyFrom_63 : decode cX1_copyFrom 63 = .ok (.getfield 18, 3) := by decide +kernel
theorem dX1_copyFrom_66 : decode cX1_copyFrom 66 = .ok (.iconst 0, 1) := by decide +kernel
theorem dX1_copyFrom_67 : decode cX1_copyFrom 67 = .ok (.aload_n 0, 1) := by decide +kernel
theorem dX1_copyFrom_68 : decode cX1_copyFrom 68 = .ok (.getfield 18, 3) := by decide +kernel
theorem dX1_copyFrom_71 : decode cX1_copyFrom 71 = .ok (.iconst 0, 1) := by decide +kernel
theorem dX1_copyFrom_72 : decode cX1_copyFrom 72 = .ok (.bipush 48, 2) := by decide +kernel
theorem dX1_copyFrom_74 : decode cX1_copyFrom 74 = .ok (.invokestatic 40, 3) := by decide +kernel
theorem dX1_copyFrom_77 : decode cX1_copyFrom 77 = .ok (.aload_n 1, 1) := by decide +kernel
theorem dX1_copyFrom_78 : decode cX1_copyFrom 78 = .ok (.getfield 21, 3) := by decide +kernel
theorem dX1_copyFrom_81 : decode cX1_copyFrom 81 = .ok (.iconst 0, 1) := by decide +kernel
theorem dX1_copyFrom_82 : decode cX1_copyFrom 82 = .ok (.aload_n 0, 1) := by decide +kernel
theorem dX1_copyFrom_83 : decode cX1_copyFrom 83 = .ok (.getfield 21, 3) := by decide +kernel
theorem dX1_copyFrom_86 : decode cX1_copyFrom 86 = .ok (.iconst 0, 1) := by decide +kernel
theorem dX1_copyFrom_87 : decode cX1_copyFrom 87 = .ok (.bipush 32, 2) := by decide +kernel
theorem dX1_copyFrom_89 : decode cX1_copyFrom 89 = .ok (.invokestatic 40, 3) := by decide +kernel
theorem dX1_copyFrom_92 : decode cX1_copyFrom 92 = .ok (.return_, 1) := by decide +kernel
theorem dX1_covers_0 : decode cX1_covers 0 = .ok (.aload_n 0, 1) := by decide +kernel
theorem dX1_covers_1 : decode cX1_covers 1 = .ok (.getfield 34, 3) := by decide +kernel
theorem dX1_covers_4 : decode cX1_covers 4 = .ok (.iconst 1, 1) := by decide +kernel
theorem dX1_covers_5 : decode cX1_covers 5 = .ok (.iload_n 1, 1) := by decide +kernel
theorem dX1_covers_6 : decode cX1_covers 6 = .ok (.ishl, 1) := by decide +kernel
theorem dX1_covers_7 : decode cX1_covers 7 = .ok (.iand, 1) := by decide +kernel
theorem dX1_covers_8 : decode cX1_covers 8 = .ok (.ifCond .eq 7, 3) := by decide +kernel
theorem dX1_covers_11 : decode cX1_covers 11 = .ok (.iconst 1, 1) := by decide +kernel
theorem dX1_covers_12 : decode cX1_covers 12 = .ok (.goto 4, 3) := by decide +kernel
theorem dX1_covers_15 : decode cX1_covers 15 = .ok (.iconst 0, 1) := by decide +kernel
theorem dX1_covers_16 : decode cX1_covers 16 = .ok (.ireturn, 1) := by decide +kernel
theorem dX1_clearRecords_0 : decode cX1_clearRecords 0 = .ok (.aload_n 0, 1) := by decide +kernel
theorem dX1_clearRecords_1 : decode cX1_clearRecords 1 = .ok (.iconst 0, 1) := by decide +kernel
theorem dX1_clearRecords_2 : decode cX1_clearRecords 2 = .ok (.putfield 34, 3) := by decide +kernel
theorem dX1_clearRecords_5 : decode cX1_clearRecords 5 = .ok (.aload_n 0, 1) := by decide +kernel
theorem dX1_clearRecords_6 : decode cX1_clearRecords 6 = .ok (.iconst 0, 1) := by decide +kernel
theorem dX1_clearRecords_7 : decode cX1_clearRecords 7 = .ok (.putfield 37, 3) := by decide +kernel
theorem dX1_clearRecords_10 : decode cX1_clearRecords 10 = .ok (.iconst 0, 1) := by decide +kernel
theorem dX1_clearRecords_11 : decode cX1_clearRecords 11 = .ok (.istore_n 1, 1) := by decide +kernel
theorem dX1_clearRecords_12 : decode cX1_clearRecords 12 = .ok (.iload_n 1, 1) := by decide +kernel
theorem dX1_clearRecords_13 : decode cX1_clearRecords 13 = .ok (.bipush 48, 2) := by decide +kernel
theorem dX1_clearRecords_15 : decode cX1_clearRecords 15 = .ok (.if_icmp .ge 16, 3) := by decide +kernel
theorem dX1_clearRecords_18 : decode cX1_clearRecords 18 = .ok (.aload_n 0, 1) := by decide +kernel
theorem dX1_clearRecords_19 : decode cX1_clearRecords 19 = .ok (.getfield 9, 3) := by decide +kernel
theorem dX1_clearRecords_22 : decode cX1_clearRecords 22 = .ok (.iload_n 1, 1) := by decide +kernel
theorem dX1_clearRecords_23 : decode cX1_clearRecords 23 = .ok (.iconst (-1), 1) := by decide +kernel
theorem dX1_clearRecords_24 : decode cX1_clearRecords 24 = .ok (.iastore, 1) := by decide +kernel
theorem dX1_clearRecords_25 : decode cX1_clearRecords 25 = .ok (.iinc 1 1, 3) := by decide +kernel
theorem dX1_clearRecords_28 : decode cX1_clearRecords 28 = .ok (.goto (-16), 3) := by decide +kernel
theorem dX1_clearRecords_31 : decode cX1_clearRecords 31 = .ok (.return_, 1) := by decide +kernel
theorem dX1_countPending_0 : decode cX1_countPending 0 = .ok (.iconst 0, 1) := by decide +kernel
theorem dX1_countPending_1 : decode cX1_countPending 1 = .ok (.istore_n 1, 1) := by decide +kernel
theorem dX1_countPending_2 : decode cX1_countPending 2 = .ok (.iconst 0, 1) := by decide +kernel
theorem dX1_countPending_3 : decode cX1_countPending 3 = .ok (.istore_n 2, 1) := by decide +kernel
theorem dX1_countPending_4 : decode cX1_countPending 4 = .ok (.iload_n 2, 1) := by decide +kernel
theorem dX1_countPending_5 : decode cX1_countPending 5 = .ok (.bipush 48, 2) := by decide +kernel
theorem dX1_countPending_7 : decode cX1_countPending 7 = .ok (.if_icmp .ge 23, 3) := by decide +kernel
theorem dX1_countPending_10 : decode cX1_countPending 10 = .ok (.aload_n 0, 1) := by decide +kernel
theorem dX1_countPending_11 : decode cX1_countPending 11 = .ok (.getfield 9, 3) := by decide +kernel
theorem dX1_countPending_14 : decode cX1_countPending 14 = .ok (.iload_n 2, 1) := by decide +kernel
theorem dX1_countPending_15 : decode cX1_countPending 15 = .ok (.iaload, 1) := by decide +kernel
theorem dX1_countPending_16 : decode cX1_countPending 16 = .ok (.bipush (-2), 2) := by decide +kernel
theorem dX1_countPending_18 : decode cX1_countPending 18 = .ok (.if_icmp .ne 6, 3) := by decide +kernel
theorem dX1_countPending_21 : decode cX1_countPending 21 = .ok (.iinc 1 1, 3) := by decide +kernel
theorem dX1_countPending_24 : decode cX1_countPending 24 = .ok (.iinc 2 1, 3) := by decide +kernel
theorem dX1_countPending_27 : decode cX1_countPending 27 = .ok (.goto (-23), 3) := by decide +kernel
theorem dX1_countPending_30 : decode cX1_countPending 30 = .ok (.iload_n 1, 1) := by decide +kernel
theorem dX1_countPending_31 : decode cX1_countPending 31 = .ok (.ireturn, 1) := by decide +kernel
theorem dX1_pendingAt_0 : decode cX1_pendingAt 0 = .ok (.iconst 0, 1) := by decide +kernel
theorem dX1_pendingAt_1 : decode cX1_pendingAt 1 = .ok (.istore_n 2, 1) := by decide +kernel
theorem dX1_pendingAt_2 : decode cX1_pendingAt 2 = .ok (.iconst 0, 1) := by decide +kernel
theorem dX1_pendingAt_3 : decode cX1_pendingAt 3 = .ok (.istore_n 3, 1) := by decide +kernel
theorem dX1_pendingAt_4 : decode cX1_pendingAt 4 = .ok (.iload_n 3, 1) := by decide +kernel
theorem dX1_pendingAt_5 : decode cX1_pendingAt 5 = .ok (.bipush 48, 2) := by decide +kernel
theorem dX1_pendingAt_7 : decode cX1_pendingAt 7 = .ok (.if_icmp .ge 30, 3) := by decide +kernel
theorem dX1_pendingAt_10 : decode cX1_pendingAt 10 = .ok (.aload_n 0, 1) := by decide +kernel
theorem dX1_pendingAt_11 : decode cX1_pendingAt 11 = .ok (.getfield 9, 3) := by decide +kernel
theorem dX1_pendingAt_14 : decode cX1_pendingAt 14 = .ok (.iload_n 3, 1) := by decide +kernel
theorem dX1_pendingAt_15 : decode cX1_pendingAt 15 = .ok (.iaload, 1) := by decide +kernel
theorem dX1_pendingAt_16 : decode cX1_pendingAt 16 = .ok (.bipush (-2), 2) := by decide +kernel
theorem dX1_pendingAt_18 : decode cX1_pendingAt 18 = .ok (.if_icmp .ne 13, 3) := by decide +kernel
theorem dX1_pendingAt_21 : decode cX1_pendingAt 21 = .ok (.iload_n 2, 1) := by decide +kernel
theorem dX1_pendingAt_22 : decode cX1_pendingAt 22 = .ok (.iload_n 1, 1) := by decide +kernel
theorem dX1_pendingAt_23 : decode cX1_pendingAt 23 = .ok (.if_icmp .ne 5, 3) := by decide +kernel
theorem dX1_pendingAt_26 : decode cX1_pendingAt 26 = .ok (.iload_n 3, 1) := by decide +kernel
theorem dX1_pendingAt_27 : decode cX1_pendingAt 27 = .ok (.ireturn, 1) := by decide +kernel
theorem dX1_pendingAt_28 : decode cX1_pendingAt 28 = .ok (.iinc 2 1, 3) := by decide +kernel
theorem dX1_pendingAt_31 : decode cX1_pendingAt 31 = .ok (.iinc 3 1, 3) := by decide +kernel
theorem dX1_pendingAt_34 : decode cX1_pendingAt 34 = .ok (.goto (-30), 3) := by decide +kernel
theorem dX1_pendingAt_37 : decode cX1_pendingAt 37 = .ok (.iconst (-1), 1) := by decide +kernel
theorem dX1_pendingAt_38 : decode cX1_pendingAt 38 = .ok (.ireturn, 1) := by decide +kernel
theorem dX1_recordsBecomeCheckpoints_0 : decode cX1_recordsBecomeCheckpoints 0 = .ok (.iconst 0, 1) := by decide +kernel
theorem dX1_recordsBecomeCheckpoints_1 : decode cX1_recordsBecomeCheckpoints 1 = .ok (.istore_n 1, 1) := by decide +kernel
theorem dX1_recordsBecomeCheckpoints_2 : decode cX1_recordsBecomeCheckpoints 2 = .ok (.iload_n 1, 1) := by decide +kernel
theorem dX1_recordsBecomeCheckpoints_3 : decode cX1_recordsBecomeCheckpoints 3 = .ok (.bipush 48, 2) := by decide +kernel
theorem dX1_recordsBecomeCheckpoints_5 : decode cX1_recordsBecomeCheckpoints 5 = .ok (.if_icmp .ge 44, 3) := by decide +kernel
theorem dX1_recordsBecomeCheckpoints_8 : decode cX1_recordsBecomeCheckpoints 8 = .ok (.iload_n 1, 1) := by decide +kernel
theorem dX1_recordsBecomeCheckpoints_9 : decode cX1_recordsBecomeCheckpoints 9 = .ok (.bipush 8, 2) := by decide +kernel
theorem dX1_recordsBecomeCheckpoints_11 : decode cX1_recordsBecomeCheckpoints 11 = .ok (.idiv, 1) := by decide +kernel
theorem dX1_recordsBecomeCheckpoints_12 : decode cX1_recordsBecomeCheckpoints 12 = .ok (.istore_n 2, 1) := by decide +kernel
theorem dX1_recordsBecomeCheckpoints_13 : decode cX1_recordsBecomeCheckpoints 13 = .ok (.aload_n 0, 1) := by decide +kernel
theorem dX1_recordsBecomeCheckpoints_14 : decode cX1_recordsBecomeCheckpoints 14 = .ok (.iload_n 2, 1) := by decide +kernel
theorem dX1_recordsBecomeCheckpoints_15 : decode cX1_recordsBecomeCheckpoints 15 = .ok (.invokevirtual 46, 3) := by decide +kernel
theorem dX1_recordsBecomeCheckpoints_18 : decode cX1_recordsBecomeCheckpoints 18 = .ok (.ifCond .eq 25, 3) := by decide +kernel
theorem dX1_recordsBecomeCheckpoints_21 : decode cX1_recordsBecomeCheckpoints 21 = .ok (.aload_n 0, 1) := by decide +kernel
theorem dX1_recordsBecomeCheckpoints_22 : decode cX1_recordsBecomeCheckpoints 22 = .ok (.getfield 18, 3) := by decide +kernel
theorem dX1_recordsBecomeCheckpoints_25 : decode cX1_recordsBecomeCheckpoints 25 = .ok (.iload_n 1, 1) := by decide +kernel
theorem dX1_recordsBecomeCheckpoints_26 : decode cX1_recordsBecomeCheckpoints 26 = .ok (.aload_n 0, 1) := by decide +kernel
theorem dX1_recordsBecomeCheckpoints_27 : decode cX1_recordsBecomeCheckpoints 27 = .ok (.getfield 9, 3) := by decide +kernel
theorem dX1_recordsBecomeCheckpoints_30 : decode cX1_recordsBecomeCheckpoints 30 = .ok (.iload_n 1, 1) := by decide +kernel
theorem dX1_recordsBecomeCheckpoints_31 : decode cX1_recordsBecomeCheckpoints 31 = .ok (.iaload, 1) := by decide +kernel
theorem dX1_recordsBecomeCheckpoints_32 : decode cX1_recordsBecomeCheckpoints 32 = .ok (.iastore, 1) := by decide +kernel
theorem dX1_recordsBecomeCheckpoints_33 : decode cX1_recordsBecomeCheckpoints 33 = .ok (.aload_n 0, 1) := by decide +kernel
theorem dX1_recordsBecomeCheckpoints_34 : decode cX1_recordsBecomeCheckpoints 34 = .ok (.getfield 15, 3) := by decide +kernel
theorem dX1_recordsBecomeCheckpoints_37 : decode cX1_recordsBecomeCheckpoints 37 = .ok (.iload_n 2, 1) := by decide +kernel
theorem dX1_recordsBecomeCheckpoints_38 : decode cX1_recordsBecomeCheckpoints 38 = .ok (.aload_n 0, 1) := by decide +kernel
theorem dX1_recordsBecomeCheckpoints_39 : decode cX1_recordsBecomeCheckpoints 39 = .ok (.getfield 24, 3) := by decide +kernel
theorem dX1_recordsBecomeCheckpoints_42 : decode cX1_recordsBecomeCheckpoints 42 = .ok (.iastore, 1) := by decide +kernel
theorem dX1_recordsBecomeCheckpoints_43 : decode cX1_recordsBecomeCheckpoints 43 = .ok (.iinc 1 1, 3) := by decide +kernel
theorem dX1_recordsBecomeCheckpoints_46 : decode cX1_recordsBecomeCheckpoints 46 = .ok (.goto (-44), 3) := by decide +kernel
theorem dX1_recordsBecomeCheckpoints_49 : decode cX1_recordsBecomeCheckpoints 49 = .ok (.return_, 1) := by decide +kernel
theorem dX1_addToLog_0 : decode cX1_addToLog 0 = .ok (.aload_n 0, 1) := by decide +kernel
theorem dX1_addToLog_1 : decode cX1_addToLog 1 = .ok (.getfield 28, 3) := by decide +kernel
theorem dX1_addToLog_4 : decode cX1_addToLog 4 = .ok (.bipush 8, 2) := by decide +kernel
theorem dX1_addToLog_6 : decode cX1_addToLog 6 = .ok (.irem, 1) := by decide +kernel
theorem dX1_addToLog_7 : decode cX1_addToLog 7 = .ok (.iconst 4, 1) := by decide +kernel
theorem dX1_addToLog_8 : decode cX1_addToLog 8 = .ok (.imul, 1) := by decide +kernel
theorem dX1_addToLog_9 : decode cX1_addToLog 9 = .ok (.istore 4, 2) := by decide +kernel
theorem dX1_addToLog_11 : decode cX1_addToLog 11 = .ok (.aload_n 0, 1) := by decide +kernel
theorem dX1_addToLog_12 : decode cX1_addToLog 12 = .ok (.getfield 21, 3) := by decide +kernel
theorem dX1_addToLog_15 : decode cX1_addToLog 15 = .ok (.iload 4, 2) := by decide +kernel
theorem dX1_addToLog_17 : decode cX1_addToLog 17 = .ok (.iload_n 1, 1) := by decide +kernel
theorem dX1_addToLog_18 : decode cX1_addToLog 18 = .ok (.iastore, 1) := by decide +kernel
theorem dX1_addToLog_19 : decode cX1_addToLog 19 = .ok (.aload_n 0, 1) := by decide +kernel
theorem dX1_addToLog_20 : decode cX1_addToLog 20 = .ok (.getfield 21, 3) := by decide +kernel
theorem dX1_addToLog_23 : decode cX1_addToLog 23 = .ok (.iload 4, 2) := by decide +kernel
theorem dX1_addToLog_25 : decode cX1_addToLog 25 = .ok (.iconst 1, 1) := by decide +kernel
theorem dX1_addToLog_26 : decode cX1_addToLog 26 = .ok (.iadd, 1) := by decide +kernel
theorem dX1_addToLog_27 : decode cX1_addToLog 27 = .ok (.aload_n 0, 1) := by decide +kernel
theorem dX1_addToLog_28 : decode cX1_addToLog 28 = .ok (.getfield 24, 3) := by decide +kernel
theorem dX1_addToLog_31 : decode cX1_addToLog 31 = .ok (.iastore, 1) := by decide +kernel
theorem dX1_addToLog_32 : decode cX1_addToLog 32 = .ok (.aload_n 0, 1) := by decide +kernel
theorem dX1_addToLog_33 : decode cX1_addToLog 33 = .ok (.getfield 21, 3) := by decide +kernel
theorem dX1_addToLog_36 : decode cX1_addToLog 36 = .ok (.iload 4, 2) := by decide +kernel
theorem dX1_addToLog_38 : decode cX1_addToLog 38 = .ok (.iconst 2, 1) := by decide +kernel
theorem dX1_addToLog_39 : decode cX1_addToLog 39 = .ok (.iadd, 1) := by decide +kernel
theorem dX1_addToLog_40 : decode cX1_addToLog 40 = .ok (.iload_n 2, 1) := by decide +kernel
theorem dX1_addToLog_41 : decode cX1_addToLog 41 = .ok (.iastore, 1) := by decide +kernel
theorem dX1_addToLog_42 : decode cX1_addToLog 42 = .ok (.aload_n 0, 1) := by decide +kernel
theorem dX1_addToLog_43 : decode cX1_addToLog 43 = .ok (.getfield 21, 3) := by decide +kernel
theorem dX1_addToLog_46 : decode cX1_addToLog 46 = .ok (.iload 4, 2) := by decide +kernel
theorem dX1_addToLog_48 : decode cX1_addToLog 48 = .ok (.iconst 3, 1) := by decide +kernel
theorem dX1_addToLog_49 : decode cX1_addToLog 49 = .ok (.iadd, 1) := by decide +kernel
theorem dX1_addToLog_50 : decode cX1_addToLog 50 = .ok (.iload_n 3, 1) := by decide +kernel
theorem dX1_addToLog_51 : decode cX1_addToLog 51 = .ok (.iastore, 1) := by decide +kernel
theorem dX1_addToLog_52 : decode cX1_addToLog 52 = .ok (.aload_n 0, 1) := by decide +kernel
theorem dX1_addToLog_53 : decode cX1_addToLog 53 = .ok (.dup, 1) := by decide +kernel
theorem dX1_addToLog_54 : decode cX1_addToLog 54 = .ok (.getfield 28, 3) := by decide +kernel
theorem dX1_addToLog_57 : decode cX1_addToLog 57 = .ok (.iconst 1, 1) := by decide +kernel
theorem dX1_addToLog_58 : decode cX1_addToLog 58 = .ok (.iadd, 1) := by decide +kernel
theorem dX1_addToLog_59 : decode cX1_addToLog 59 = .ok (.putfield 28, 3) := by decide +kernel
theorem dX1_addToLog_62 : decode cX1_addToLog 62 = .ok (.return_, 1) := by decide +kernel
theorem dX1_countLogged_0 : decode cX1_countLogged 0 = .ok (.aload_n 0, 1) := by decide +kernel
theorem dX1_countLogged_1 : decode cX1_countLogged 1 = .ok (.getfield 28, 3) := by decide +kernel
theorem dX1_countLogged_4 : decode cX1_countLogged 4 = .ok (.bipush 8, 2) := by decide +kernel
theorem dX1_countLogged_6 : decode cX1_countLogged 6 = .ok (.invokestatic 50, 3) := by decide +kernel
theorem dX1_countLogged_9 : decode cX1_countLogged 9 = .ok (.ireturn, 1) := by decide +kernel
theorem dX1_logged_0 : decode cX1_logged 0 = .ok (.aload_n 0, 1) := by decide +kernel
theorem dX1_logged_1 : decode cX1_logged 1 = .ok (.getfield 21, 3) := by decide +kernel
theorem dX1_logged_4 : decode cX1_logged 4 = .ok (.aload_n 0, 1) := by decide +kernel
theorem dX1_logged_5 : decode cX1_logged 5 = .ok (.getfield 28, 3) := by decide +kernel
theorem dX1_logged_8 : decode cX1_logged 8 = .ok (.iconst 1, 1) := by decide +kernel
theorem dX1_logged_9 : decode cX1_logged 9 = .ok (.isub, 1) := by decide +kernel
theorem dX1_logged_10 : decode cX1_logged 10 = .ok (.iload_n 1, 1) := by decide +kernel
theorem dX1_logged_11 : decode cX1_logged 11 = .ok (.isub, 1) := by decide +kernel
theorem dX1_logged_12 : decode cX1_logged 12 = .ok (.bipush 8, 2) := by decide +kernel
theorem dX1_logged_14 : decode cX1_logged 14 = .ok (.irem, 1) := by decide +kernel
theorem dX1_logged_15 : decode cX1_logged 15 = .ok (.iconst 4, 1) := by decide +kernel
theorem dX1_logged_16 : decode cX1_logged 16 = .ok (.imul, 1) := by decide +kernel
theorem dX1_logged_17 : decode cX1_logged 17 = .ok (.iload_n 2, 1) := by decide +kernel
theorem dX1_logged_18 : decode cX1_logged 18 = .ok (.iadd, 1) := by decide +kernel
theorem dX1_logged_19 : decode cX1_logged 19 = .ok (.iaload, 1) := by decide +kernel
theorem dX1_logged_20 : decode cX1_logged 20 = .ok (.ireturn, 1) := by decide +kernel
theorem dX2_init_0 : decode cX2_init 0 = .ok (.aload_n 0, 1) := by decide +kernel
theorem dX2_init_1 : decode cX2_init 1 = .ok (.invokespecial 3, 3) := by decide +kernel
theorem dX2_init_4 : decode cX2_init 4 = .ok (.aload_n 0, 1) := by decide +kernel
theorem dX2_init_5 : decode cX2_init 5 = .ok (.bipush 16, 2) := by decide +kernel
theorem dX2_init_7 : decode cX2_init 7 = .ok (.newarray .int, 2) := by decide +kernel
theorem dX2_init_9 : decode cX2_init 9 = .ok (.putfield 9, 3) := by decide +kernel
theorem dX2_init_12 : decode cX2_init 12 = .ok (.aload_n 0, 1) := by decide +kernel
theorem dX2_init_13 : decode cX2_init 13 = .ok (.bipush 16, 2) := by decide +kernel
theorem dX2_init_15 : decode cX2_init 15 = .ok (.newarray .int, 2) := by decide +kernel
theorem dX2_init_17 : decode cX2_init 17 = .ok (.putfield 15, 3) := by decide +kernel
theorem dX2_init_20 : decode cX2_init 20 = .ok (.aload_n 0, 1) := by decide +kernel
theorem dX2_init_21 : decode cX2_init 21 = .ok (.bipush 16, 2) := by decide +kernel
theorem dX2_init_23 : decode cX2_init 23 = .ok (.newarray .int, 2) := by decide +kernel
theorem dX2_init_25 : decode cX2_init 25 = .ok (.putfield 18, 3) := by decide +kernel
theorem dX2_init_28 : decode cX2_init 28 = .ok (.return_, 1) := by decide +kernel
theorem dX2_install_0 : decode cX2_install 0 = .ok (.aload_n 0, 1) := by decide +kernel
theorem dX2_install_1 : decode cX2_install 1 = .ok (.aload_n 1, 1) := by decide +kernel
theorem dX2_install_2 : decode cX2_install 2 = .ok (.getfield 21, 3) := by decide +kernel
theorem dX2_install_5 : decode cX2_install 5 = .ok (.putfield 27, 3) := by decide +kernel
theorem dX2_install_8 : decode cX2_install 8 = .ok (.aload_n 0, 1) := by decide +kernel
theorem dX2_install_9 : decode cX2_install 9 = .ok (.aload_n 1, 1) := by decide +kernel
theorem dX2_install_10 : decode cX2_install 10 = .ok (.getfield 30, 3) := by decide +kernel
theorem dX2_install_13 : decode cX2_install 13 = .ok (.putfield 33, 3) := by decide +kernel
theorem dX2_install_16 : decode cX2_install 16 = .ok (.iconst 0, 1) := by decide +kernel
theorem dX2_install_17 : decode cX2_install 17 = .ok (.istore_n 2, 1) := by decide +kernel
theorem dX2_install_18 : decode cX2_install 18 = .ok (.iload_n 2, 1) := by decide +kernel
theorem dX2_install_19 : decode cX2_install 19 = .ok (.bipush 16, 2) := by decide +kernel
theorem dX2_install_21 : decode cX2_install 21 = .ok (.if_icmp .ge 30, 3) := by decide +kernel
theorem dX2_install_24 : decode cX2_install 24 = .ok (.aload_n 0, 1) := by decide +kernel
theorem dX2_install_25 : decode cX2_install 25 = .ok (.getfield 9, 3) := by decide +kernel
theorem dX2_install_28 : decode cX2_install 28 = .ok (.iload_n 2, 1) := by decide +kernel
theorem dX2_install_29 : decode cX2_install 29 = .ok (.iconst (-1), 1) := by decide +kernel
theorem dX2_install_30 : decode cX2_install 30 = .ok (.iastore, 1) := by decide +kernel
theorem dX2_install_31 : decode cX2_install 31 = .ok (.aload_n 0, 1) := by decide +kernel
theorem dX2_install_32 : decode cX2_install 32 = .ok (.getfield 15, 3) := by decide +kernel
theorem dX2_install_35 : decode cX2_install 35 = .ok (.iload_n 2, 1) := by decide +kernel
theorem dX2_install_36 : decode cX2_install 36 = .ok (.iconst 0, 1) := by decide +kernel
theorem dX2_install_37 : decode cX2_install 37 = .ok (.iastore, 1) := by decide +kernel
theorem dX2_install_38 : decode cX2_install 38 = .ok (.aload_n 0, 1) := by decide +kernel
theorem dX2_install_39 : decode cX2_install 39 = .ok (.getfield 18, 3) := by decide +kernel
theorem dX2_install_42 : decode cX2_install 42 = .ok (.iload_n 2, 1) := by decide +kernel
theorem dX2_install_43 : decode cX2_install 43 = .ok (.iconst 0, 1) := by decide +kernel
theorem dX2_install_44 : decode cX2_install 44 = .ok (.iastore, 1) := by decide +kernel
theorem dX2_install_45 : decode cX2_install 45 = .ok (.iinc 2 1, 3) := by decide +kernel
theorem dX2_install_48 : decode cX2_install 48 = .ok (.goto (-30), 3) := by decide +kernel
theorem dX2_install_51 : decode cX2_install 51 = .ok (.return_, 1) := by decide +kernel
theorem dX2_copyFrom_0 : decode cX2_copyFrom 0 = .ok (.aload_n 0, 1) := by decide +kernel
theorem dX2_copyFrom_1 : decode cX2_copyFrom 1 = .ok (.aload_n 1, 1) := by decide +kernel
theorem dX2_copyFrom_2 : decode cX2_copyFrom 2 = .ok (.getfield 27, 3) := by decide +kernel
theorem dX2_copyFrom_5 : decode cX2_copyFrom 5 = .ok (.putfield 27, 3) := by decide +kernel
theorem dX2_copyFrom_8 : decode cX2_copyFrom 8 = .ok (.aload_n 0, 1) := by decide +kernel
theorem dX2_copyFrom_9 : decode cX2_copyFrom 9 = .ok (.aload_n 1, 1) := by decide +kernel
theorem dX2_copyFrom_10 : decode cX2_copyFrom 10 = .ok (.getfield 33, 3) := by decide +kernel
theorem dX2_copyFrom_13 : decode cX2_copyFrom 13 = .ok (.putfield 33, 3) := by decide +kernel
theorem dX2_copyFrom_16 : decode cX2_copyFrom 16 = .ok (.aload_n 1, 1) := by decide +kernel
theorem dX2_copyFrom_17 : decode cX2_copyFrom 17 = .ok (.getfield 9, 3) := by decide +kernel
theorem dX2_copyFrom_20 : decode cX2_copyFrom 20 = .ok (.iconst 0, 1) := by decide +kernel
theorem dX2_copyFrom_21 : decode cX2_copyFrom 21 = .ok (.aload_n 0, 1) := by decide +kernel
theorem dX2_copyFrom_22 : decode cX2_copyFrom 22 = .ok (.getfield 9, 3) := by decide +kernel
theorem dX2_copyFrom_25 : decode cX2_copyFrom 25 = .ok (.iconst 0, 1) := by decide +kernel
theorem dX2_copyFrom_26 : decode cX2_copyFrom 26 = .ok (.bipush 16, 2) := by decide +kernel
theorem dX2_copyFrom_28 : decode cX2_copyFrom 28 = .ok (.invokestatic 34, 3) := by decide +kernel
theorem dX2_copyFrom_31 : decode cX2_copyFrom 31 = .ok (.aload_n 1, 1) := by decide +kernel
theorem dX2_copyFrom_32 : decode cX2_copyFrom 32 = .ok (.getfield 15, 3) := by decide +kernel
theorem dX2_copyFrom_35 : decode cX2_copyFrom 35 = .ok (.iconst 0, 1) := by decide +kernel
theorem dX2_copyFrom_36 : decode cX2_copyFrom 36 = .ok (.aload_n 0, 1) := by decide +kernel
theorem dX2_copyFrom_37 : decode cX2_copyFrom 37 = .ok (.getfield 15, 3) := by decide +kernel
theorem dX2_copyFrom_40 : decode cX2_copyFrom 40 = .ok (.iconst 0, 1) := by decide +kernel
theorem dX2_copyFrom_41 : decode cX2_copyFrom 41 = .ok (.bipush 16, 2) := by decide +kernel
theorem dX2_copyFrom_43 : decode cX2_copyFrom 43 = .ok (.invokestatic 34, 3) := by decide +kernel
theorem dX2_copyFrom_46 : decode cX2_copyFrom 46 = .ok (.aload_n 1, 1) := by decide +kernel
theorem dX2_copyFrom_47 : decode cX2_copyFrom 47 = .ok (.getfield 18, 3) := by decide +kernel
theorem dX2_copyFrom_50 : decode cX2_copyFrom 50 = .ok (.iconst 0, 1) := by decide +kernel
theorem dX2_copyFrom_51 : decode cX2_copyFrom 51 = .ok (.aload_n 0, 1) := by decide +kernel
theorem dX2_copyFrom_52 : decode cX2_copyFrom 52 = .ok (.getfield 18, 3) := by decide +kernel
theorem dX2_copyFrom_55 : decode cX2_copyFrom 55 = .ok (.iconst 0, 1) := by decide +kernel
theorem dX2_copyFrom_56 : decode cX2_copyFrom 56 = .ok (.bipush 16, 2) := by decide +kernel
theorem dX2_copyFrom_58 : decode cX2_copyFrom 58 = .ok (.invokestatic 34, 3) := by decide +kernel
theorem dX2_copyFrom_61 : decode cX2_copyFrom 61 = .ok (.return_, 1) := by decide +kernel
theorem dX2_hasFrame_0 : decode cX2_hasFrame 0 = .ok (.iload_n 1, 1) := by decide +kernel
theorem dX2_hasFrame_1 : decode cX2_hasFrame 1 = .ok (.ifCond .lt 15, 3) := by decide +kernel
theorem dX2_hasFrame_4 : decode cX2_hasFrame 4 = .ok (.iload_n 1, 1) := by decide +kernel
theorem dX2_hasFrame_5 : decode cX2_hasFrame 5 = .ok (.aload_n 0, 1) := by decide +kernel
theorem dX2_hasFrame_6 : decode cX2_hasFrame 6 = .ok (.getfield 27, 3) := by decide +kernel
theorem dX2_hasFrame_9 : decode cX2_hasFrame 9 = .ok (.if_icmp .ge 7, 3) := by decide +kernel
theorem dX2_hasFrame_12 : decode cX2_hasFrame 12 = .ok (.iconst 1, 1) := by decide +kernel
theorem dX2_hasFrame_13 : decode cX2_hasFrame 13 = .ok (.goto 4, 3) := by decide +kernel
theorem dX2_hasFrame_16 : decode cX2_hasFrame 16 = .ok (.iconst 0, 1) := by decide +kernel
theorem dX2_hasFrame_17 : decode cX2_hasFrame 17 = .ok (.ireturn, 1) := by decide +kernel
theorem dX2_firstFree_0 : decode cX2_firstFree 0 = .ok (.iconst 0, 1) := by decide +kernel
theorem dX2_firstFree_1 : decode cX2_firstFree 1 = .ok (.istore_n 1, 1) := by decide +kernel
theorem dX2_firstFree_2 : decode cX2_firstFree 2 = .ok (.iload_n 1, 1) := by decide +kernel
theorem dX2_firstFree_3 : decode cX2_firstFree 3 = .ok (.aload_n 0, 1) := by decide +kernel
theorem dX2_firstFree_4 : decode cX2_firstFree 4 = .ok (.getfield 27, 3) := by decide +kernel
theorem dX2_firstFree_7 : decode cX2_firstFree 7 = .ok (.if_icmp .ge 21, 3) := by decide +kernel
theorem dX2_firstFree_10 : decode cX2_firstFree 10 = .ok (.aload_n 0, 1) := by decide +kernel
theorem dX2_firstFree_11 : decode cX2_firstFree 11 = .ok (.getfield 9, 3) := by decide +kernel
theorem dX2_firstFree_14 : decode cX2_firstFree 14 = .ok (.iload_n 1, 1) := by decide +kernel
theorem dX2_firstFree_15 : decode cX2_firstFree 15 = .ok (.iaload, 1) := by decide +kernel
theorem dX2_firstFree_16 : decode cX2_firstFree 16 = .ok (.iconst (-1), 1) := by decide +kernel
theorem dX2_firstFree_17 : decode cX2_firstFree 17 = .ok (.if_icmp .ne 5, 3) := by decide +kernel
theorem dX2_firstFree_20 : decode cX2_firstFree 20 = .ok (.iload_n 1, 1) := by decide +kernel
theorem dX2_firstFree_21 : decode cX2_firstFree 21 = .ok (.ireturn, 1) := by decide +kernel
theorem dX2_firstFree_22 : decode cX2_firstFree 22 = .ok (.iinc 1 1, 3) := by decide +kernel
theorem dX2_firstFree_25 : decode cX2_firstFree 25 = .ok (.goto (-23), 3) := by decide +kernel
theorem dX2_firstFree_28 : decode cX2_firstFree 28 = .ok (.iconst (-1), 1) := by decide +kernel
theorem dX2_firstFree_29 : decode cX2_firstFree 29 = .ok (.ireturn, 1) := by decide +kernel
theorem dX3_init_0 : decode cX3_init 0 = .ok (.aload_n 0, 1) := by decide +kernel
theorem dX3_init_1 : decode cX3_init 1 = .ok (.invokespecial 3, 3) := by decide +kernel
theorem dX3_init_4 : decode cX3_init 4 = .ok (.aload_n 0, 1) := by decide +kernel
theorem dX3_init_5 : decode cX3_init 5 = .ok (.bipush 11, 2) := by decide +kernel
theorem dX3_init_7 : decode cX3_init 7 = .ok (.anewarray 9, 3) := by decide +kernel
theorem dX3_init_10 : decode cX3_init 10 = .ok (.putfield 11, 3) := by decide +kernel
theorem dX3_init_13 : decode cX3_init 13 = .ok (.return_, 1) := by decide +kernel
theorem dX3_keep_0 : decode cX3_keep 0 = .ok (.aload_n 0, 1) := by decide +kernel
theorem dX3_keep_1 : decode cX3_keep 1 = .ok (.getfield 11, 3) := by decide +kernel
theorem dX3_keep_4 : decode cX3_keep 4 = .ok (.aload_n 0, 1) := by decide +kernel
theorem dX3_keep_5 : decode cX3_keep 5 = .ok (.getfield 17, 3) := by decide +kernel
theorem dX3_keep_8 : decode cX3_keep 8 = .ok (.aaload, 1) := by decide +kernel
theorem dX3_keep_9 : decode cX3_keep 9 = .ok (.ifnonnull 19, 3) := by decide +kernel
theorem dX3_keep_12 : decode cX3_keep 12 = .ok (.aload_n 0, 1) := by decide +kernel
theorem dX3_keep_13 : decode cX3_keep 13 = .ok (.getfield 11, 3) := by decide +kernel
theorem dX3_keep_16 : decode cX3_keep 16 = .ok (.aload_n 0, 1) := by decide +kernel
theorem dX3_keep_17 : decode cX3_keep 17 = .ok (.getfield 17, 3) := by decide +kernel
theorem dX3_keep_20 : decode cX3_keep 20 = .ok (.new 9, 3) := by decide +kernel
theorem dX3_keep_23 : decode cX3_keep 23 = .ok (.dup, 1) := by decide +kernel
theorem dX3_keep_24 : decode cX3_keep 24 = .ok (.invokespecial 21, 3) := by decide +kernel
theorem dX3_keep_27 : decode cX3_keep 27 = .ok (.aastore, 1) := by decide +kernel
theorem dX3_keep_28 : decode cX3_keep 28 = .ok (.aload_n 0, 1) := by decide +kernel
theorem dX3_keep_29 : decode cX3_keep 29 = .ok (.getfield 11, 3) := by decide +kernel
theorem dX3_keep_32 : decode cX3_keep 32 = .ok (.aload_n 0, 1) := by decide +kernel
theorem dX3_keep_33 : decode cX3_keep 33 = .ok (.getfield 17, 3) := by decide +kernel
theorem dX3_keep_36 : decode cX3_keep 36 = .ok (.aaload, 1) := by decide +kernel
theorem dX3_keep_37 : decode cX3_keep 37 = .ok (.aload_n 1, 1) := by decide +kernel
theorem dX3_keep_38 : decode cX3_keep 38 = .ok (.invokevirtual 22, 3) := by decide +kernel
theorem dX3_keep_41 : decode cX3_keep 41 = .ok (.return_, 1) := by decide +kernel
theorem dX3_accept_0 : decode cX3_accept 0 = .ok (.aload_n 0, 1) := by decide +kernel
theorem dX3_accept_1 : decode cX3_accept 1 = .ok (.aload_n 0, 1) := by decide +kernel
theorem dX3_accept_2 : decode cX3_accept 2 = .ok (.getfield 17, 3) := by decide +kernel
theorem dX3_accept_5 : decode cX3_accept 5 = .ok (.iconst 1, 1) := by decide +kernel
theorem dX3_accept_6 : decode cX3_accept 6 = .ok (.iadd, 1) := by decide +kernel
theorem dX3_accept_7 : decode cX3_accept 7 = .ok (.bipush 11, 2) := by decide +kernel
theorem dX3_accept_9 : decode cX3_accept 9 = .ok (.irem, 1) := by decide +kernel
theorem dX3_accept_10 : decode cX3_accept 10 = .ok (.putfield 17, 3) := by decide +kernel
theorem dX3_accept_13 : decode cX3_accept 13 = .ok (.aload_n 0, 1) := by decide +kernel
theorem dX3_accept_14 : decode cX3_accept 14 = .ok (.aload_n 0, 1) := by decide +kernel
theorem dX3_accept_15 : decode cX3_accept 15 = .ok (.getfield 26, 3) := by decide +kernel
theorem dX3_accept_18 : decode cX3_accept 18 = .ok (.iconst 1, 1) := by decide +kernel
theorem dX3_accept_19 : decode cX3_accept 19 = .ok (.iadd, 1) := by decide +kernel
theorem dX3_accept_20 : decode cX3_accept 20 = .ok (.bipush 10, 2) := by decide +kernel
theorem dX3_accept_22 : decode cX3_accept 22 = .ok (.invokestatic 29, 3) := by decide +kernel
theorem dX3_accept_25 : decode cX3_accept 25 = .ok (.putfield 26, 3) := by decide +kernel
theorem dX3_accept_28 : decode cX3_accept 28 = .ok (.return_, 1) := by decide +kernel
theorem dX3_giveBack_0 : decode cX3_giveBack 0 = .ok (.aload_n 0, 1) := by decide +kernel
theorem dX3_giveBack_1 : decode cX3_giveBack 1 = .ok (.getfield 11, 3) := by decide +kernel
theorem dX3_giveBack_4 : decode cX3_giveBack 4 = .ok (.aload_n 0, 1) := by decide +kernel
theorem dX3_giveBack_5 : decode cX3_giveBack 5 = .ok (.getfield 17, 3) := by decide +kernel
theorem dX3_giveBack_8 : decode cX3_giveBack 8 = .ok (.aaload, 1) := by decide +kernel
theorem dX3_giveBack_9 : decode cX3_giveBack 9 = .ok (.ifnull 16, 3) := by decide +kernel
theorem dX3_giveBack_12 : decode cX3_giveBack 12 = .ok (.aload_n 1, 1) := by decide +kernel
theorem dX3_giveBack_13 : decode cX3_giveBack 13 = .ok (.aload_n 0, 1) := by decide +kernel
theorem dX3_giveBack_14 : decode cX3_giveBack 14 = .ok (.getfield 11, 3) := by decide +kernel
theorem dX3_giveBack_17 : decode cX3_giveBack 17 = .ok (.aload_n 0, 1) := by decide +kernel
theorem dX3_giveBack_18 : decode cX3_giveBack 18 = .ok (.getfield 17, 3) := by decide +kernel
theorem dX3_giveBack_21 : decode cX3_giveBack 21 = .ok (.aaload, 1) := by decide +kernel
theorem dX3_giveBack_22 : decode cX3_giveBack 22 = .ok (.invokevirtual 22, 3) := by decide +kernel
theorem dX3_giveBack_25 : decode cX3_giveBack 25 = .ok (.return_, 1) := by decide +kernel
theorem dX3_takeBack_0 : decode cX3_takeBack 0 = .ok (.aload_n 0, 1) := by decide +kernel
theorem dX3_takeBack_1 : decode cX3_takeBack 1 = .ok (.aload_n 0, 1) := by decide +kernel
theorem dX3_takeBack_2 : decode cX3_takeBack 2 = .ok (.getfield 17, 3) := by decide +kernel
theorem dX3_takeBack_5 : decode cX3_takeBack 5 = .ok (.bipush 10, 2) := by decide +kernel
theorem dX3_takeBack_7 : decode cX3_takeBack 7 = .ok (.iadd, 1) := by decide +kernel
theorem dX3_takeBack_8 : decode cX3_takeBack 8 = .ok (.bipush 11, 2) := by decide +kernel
theorem dX3_takeBack_10 : decode cX3_takeBack 10 = .ok (.irem, 1) := by decide +kernel
theorem dX3_takeBack_11 : decode cX3_takeBack 11 = .ok (.putfield 17, 3) := by decide +kernel
theorem dX3_takeBack_14 : decode cX3_takeBack 14 = .ok (.aload_n 0, 1) := by decide +kernel
theorem dX3_takeBack_15 : decode cX3_takeBack 15 = .ok (.dup, 1) := by decide +kernel
theorem dX3_takeBack_16 : decode cX3_takeBack 16 = .ok (.getfield 26, 3) := by decide +kernel
theorem dX3_takeBack_19 : decode cX3_takeBack 19 = .ok (.iconst 1, 1) := by decide +kernel
theorem dX3_takeBack_20 : decode cX3_takeBack 20 = .ok (.isub, 1) := by decide +kernel
theorem dX3_takeBack_21 : decode cX3_takeBack 21 = .ok (.putfield 26, 3) := by decide +kernel
theorem dX3_takeBack_24 : decode cX3_takeBack 24 = .ok (.aload_n 0, 1) := by decide +kernel
theorem dX3_takeBack_25 : decode cX3_takeBack 25 = .ok (.aload_n 1, 1) := by decide +kernel
theorem dX3_takeBack_26 : decode cX3_takeBack 26 = .ok (.invokevirtual 35, 3) := by decide +kernel
theorem dX3_takeBack_29 : decode cX3_takeBack 29 = .ok (.return_, 1) := by decide +kernel
theorem dX3_forget_0 : decode cX3_forget 0 = .ok (.aload_n 0, 1) := by decide +kernel
theorem dX3_forget_1 : decode cX3_forget 1 = .ok (.iconst 0, 1) := by decide +kernel
theorem dX3_forget_2 : decode cX3_forget 2 = .ok (.putfield 26, 3) := by decide +kernel
theorem dX3_forget_5 : decode cX3_forget 5 = .ok (.return_, 1) := by decide +kernel
theorem dX4_init_0 : decode cX4_init 0 = .ok (.aload_n 0, 1) := by decide +kernel
theorem dX4_init_1 : decode cX4_init 1 = .ok (.invokespecial 3, 3) := by decide +kernel
theorem dX4_init_4 : decode cX4_init 4 = .ok (.aload_n 0, 1) := by decide +kernel
theorem dX4_init_5 : decode cX4_init 5 = .ok (.bipush 6, 2) := by decide +kernel
theorem dX4_init_7 : decode cX4_init 7 = .ok (.newarray .int, 2) := by decide +kernel
theorem dX4_init_9 : decode cX4_init 9 = .ok (.putfield 9, 3) := by decide +kernel
theorem dX4_init_12 : decode cX4_init 12 = .ok (.aload_n 0, 1) := by decide +kernel
theorem dX4_init_13 : decode cX4_init 13 = .ok (.bipush 6, 2) := by decide +kernel
theorem dX4_init_15 : decode cX4_init 15 = .ok (.newarray .int, 2) := by decide +kernel
theorem dX4_init_17 : decode cX4_init 17 = .ok (.putfield 15, 3) := by decide +kernel
theorem dX4_init_20 : decode cX4_init 20 = .ok (.aload_n 0, 1) := by decide +kernel
theorem dX4_init_21 : decode cX4_init 21 = .ok (.bipush 6, 2) := by decide +kernel
theorem dX4_init_23 : decode cX4_init 23 = .ok (.newarray .int, 2) := by decide +kernel
theorem dX4_init_25 : decode cX4_init 25 = .ok (.putfield 18, 3) := by decide +kernel
theorem dX4_init_28 : decode cX4_init 28 = .ok (.aload_n 0, 1) := by decide +kernel
theorem dX4_init_29 : decode cX4_init 29 = .ok (.bipush 48, 2) := by decide +kernel
theorem dX4_init_31 : decode cX4_init 31 = .ok (.newarray .int, 2) := by decide +kernel
theorem dX4_init_33 : decode cX4_init 33 = .ok (.putfield 21, 3) := by decide +kernel
theorem dX4_init_36 : decode cX4_init 36 = .ok (.aload_n 0, 1) := by decide +kernel
theorem dX4_init_37 : decode cX4_init 37 = .ok (.bipush 48, 2) := by decide +kernel
theorem dX4_init_39 : decode cX4_init 39 = .ok (.newarray .int, 2) := by decide +kernel
theorem dX4_init_41 : decode cX4_init 41 = .ok (.putfield 24, 3) := by decide +kernel
theorem dX4_init_44 : decode cX4_init 44 = .ok (.aload_n 0, 1) := by decide +kernel
theorem dX4_init_45 : decode cX4_init 45 = .ok (.bipush 48, 2) := by decide +kernel
theorem dX4_init_47 : decode cX4_init 47 = .ok (.newarray .int, 2) := by decide +kernel
theorem dX4_init_49 : decode cX4_init 49 = .ok (.putfield 27, 3) := by decide +kernel
theorem dX4_init_52 : decode cX4_init 52 = .ok (.return_, 1) := by decide +kernel
theorem dX4_install_0 : decode cX4_install 0 = .ok (.aload_n 0, 1) := by decide +kernel
theorem dX4_install_1 : decode cX4_install 1 = .ok (.aload_n 1, 1) := by decide +kernel
theorem dX4_install_2 : decode cX4_install 2 = .ok (.getfield 30, 3) := by decide +kernel
theorem dX4_install_5 : decode cX4_install 5 = .ok (.putfield 36, 3) := by decide +kernel
theorem dX4_install_8 : decode cX4_install 8 = .ok (.iconst 0, 1) := by decide +kernel
theorem dX4_install_9 : decode cX4_install 9 = .ok (.istore_n 2, 1) := by decide +kernel
theorem dX4_install_10 : decode cX4_install 10 = .ok (.iload_n 2, 1) := by decide +kernel
theorem dX4_install_11 : decode cX4_install 11 = .ok (.bipush 6, 2) := by decide +kernel
theorem dX4_install_13 : decode cX4_install 13 = .ok (.if_icmp .ge 70, 3) := by decide +kernel
theorem dX4_install_16 : decode cX4_install 16 = .ok (.iload_n 2, 1) := by decide +kernel
theorem dX4_install_17 : decode cX4_install 17 = .ok (.aload_n 0, 1) := by decide +kernel
theorem dX4_install_18 : decode cX4_install 18 = .ok (.getfield 36, 3) := by decide +kernel
theorem dX4_install_21 : decode cX4_install 21 = .ok (.if_icmp .ge 7, 3) := by decide +kernel
theorem dX4_install_24 : decode cX4_install 24 = .ok (.iconst 1, 1) := by decide +kernel
theorem dX4_install_25 : decode cX4_install 25 = .ok (.goto 4, 3) := by decide +kernel
theorem dX4_install_28 : decode cX4_install 28 = .ok (.iconst 0, 1) := by decide +kernel
theorem dX4_install_29 : decode cX4_install 29 = .ok (.istore_n 3, 1) := by decide +kernel
theorem dX4_install_30 : decode cX4_install 30 = .ok (.aload_n 0, 1) := by decide +kernel
theorem dX4_install_31 : decode cX4_install 31 = .ok (.getfield 9, 3) := by decide +kernel
theorem dX4_install_34 : decode cX4_install 34 = .ok (.iload_n 2, 1) := by decide +kernel
theorem dX4_install_35 : decode cX4_install 35 = .ok (.iload_n 3, 1) := by decide +kernel
theorem dX4_install_36 : decode cX4_install 36 = .ok (.ifCond .eq 12, 3) := by decide +kernel
theorem dX4_install_39 : decode cX4_install 39 = .ok (.aload_n 1, 1) := by decide +kernel
theorem dX4_install_40 : decode cX4_install 40 = .ok (.getfield 37, 3) := by decide +kernel
theorem dX4_install_43 : decode cX4_install 43 = .ok (.iload_n 2, 1) := by decide +kernel
theorem dX4_install_44 : decode cX4_install 44 = .ok (.iaload, 1) := by decide +kernel
theorem dX4_install_45 : decode cX4_install 45 = .ok (.goto 4, 3) := by decide +kernel
theorem dX4_install_48 : decode cX4_install 48 = .ok (.iconst 0, 1) := by decide +kernel
theorem dX4_install_49 : decode cX4_install 49 = .ok (.iastore, 1) := by decide +kernel
theorem dX4_install_50 : decode cX4_install 50 = .ok (.aload_n 0, 1) := by decide +kernel
theorem dX4_install_51 : decode cX4_install 51 = .ok (.getfield 15, 3) := by decide +kernel
theorem dX4_install_54 : decode cX4_install 54 = .ok (.iload_n 2, 1) := by decide +kernel
theorem dX4_install_55 : decode cX4_install 55 = .ok (.iload_n 3, 1) := by decide +kernel
theorem dX4_install_56 : decode cX4_install 56 = .ok (.ifCond .eq 12, 3) := by decide +kernel
theorem dX4_install_59 : decode cX4_install 59 = .ok (.aload_n 1, 1) := by decide +kernel
theorem dX4_install_60 : decode cX4_install 60 = .ok (.getfield 38, 3) := by decide +kernel
theorem dX4_install_63 : decode cX4_install 63 = .ok (.iload_n 2, 1) := by decide +kernel
theorem dX4_install_64 : decode cX4_install 64 = .ok (.iaload, 1) := by decide +kernel
theorem dX4_install_65 : decode cX4_install 65 = .ok (.goto 4, 3) := by decide +kernel
theorem dX4_install_68 : decode cX4_install 68 = .ok (.iconst 0, 1) := by decide +kernel
theorem dX4_install_69 : decode cX4_install 69 = .ok (.iastore, 1) := by decide +kernel
theorem dX4_install_70 : decode cX4_install 70 = .ok (.aload_n 0, 1) := by decide +kernel
theorem dX4_install_71 : decode cX4_install 71 = .ok (.getfield 18, 3) := by decide +kernel
theorem dX4_install_74 : decode cX4_install 74 = .ok (.iload_n 2, 1) := by decide +kernel
theorem dX4_install_75 : decode cX4_install 75 = .ok (.iconst 0, 1) := by decide +kernel
theorem dX4_install_76 : decode cX4_install 76 = .ok (.iastore, 1) := by decide +kernel
theorem dX4_install_77 : decode cX4_install 77 = .ok (.iinc 2 1, 3) := by decide +kernel
theorem dX4_install_80 : decode cX4_install 80 = .ok (.goto (-70), 3) := by decide +kernel
theorem dX4_install_83 : decode cX4_install 83 = .ok (.iconst 0, 1) := by decide +kernel
theorem dX4_install_84 : decode cX4_install 84 = .ok (.istore_n 2, 1) := by decide +kernel
theorem dX4_install_85 : decode cX4_install 85 = .ok (.iload_n 2, 1) := by decide +kernel
theorem dX4_install_86 : decode cX4_install 86 = .ok (.bipush 48, 2) := by decide +kernel
theorem dX4_install_88 : decode cX4_install 88 = .ok (.if_icmp .ge 30, 3) := by decide +kernel
theorem dX4_install_91 : decode cX4_install 91 = .ok (.aload_n 0, 1) := by decide +kernel
theorem dX4_install_92 : decode cX4_install 92 = .ok (.getfield 21, 3) := by decide +kernel
theorem dX4_install_95 : decode cX4_install 95 = .ok (.iload_n 2, 1) := by decide +kernel
theorem dX4_install_96 : decode cX4_install 96 = .ok (.iconst 0, 1) := by decide +kernel
theorem dX4_install_97 : decode cX4_install 97 = .ok (.iastore, 1) := by decide +kernel
theorem dX4_install_98 : decode cX4_install 98 = .ok (.aload_n 0, 1) := by decide +kernel
theorem dX4_install_99 : decode cX4_install 99 = .ok (.getfield 24, 3) := by decide +kernel
theorem dX4_install_102 : decode cX4_install 102 = .ok (.iload_n 2, 1) := by decide +kernel
theorem dX4_install_103 : decode cX4_install 103 = .ok (.iconst (-1), 1) := by decide +kernel
theorem dX4_install_104 : decode cX4_install 104 = .ok (.iastore, 1) := by decide +kernel
theorem dX4_install_105 : decode cX4_install 105 = .ok (.aload_n 0, 1) := by decide +kernel
theorem dX4_install_106 : decode cX4_install 106 = .ok (.getfield 27, 3) := by decide +kernel
theorem dX4_install_109 : decode cX4_install 109 = .ok (.iload_n 2, 1) := by decide +kernel
theorem dX4_install_110 : decode cX4_install 110 = .ok (.iconst (-1), 1) := by decide +kernel
theorem dX4_install_111 : decode cX4_install 111 = .ok (.iastore, 1) := by decide +kernel
theorem dX4_install_112 : decode cX4_install 112 = .ok (.iinc 2 1, 3) := by decide +kernel
theorem dX4_install_115 : decode cX4_install 115 = .ok (.goto (-30), 3) := by decide +kernel
theorem dX4_install_118 : decode cX4_install 118 = .ok (.return_, 1) := by decide +kernel
theorem dX4_copyFrom_0 : decode cX4_copyFrom 0 = .ok (.aload_n 0, 1) := by decide +kernel
theorem dX4_copyFrom_1 : decode cX4_copyFrom 1 = .ok (.aload_n 1, 1) := by decide +kernel
theorem dX4_copyFrom_2 : decode cX4_copyFrom 2 = .ok (.getfield 36, 3) := by decide +kernel
theorem dX4_copyFrom_5 : decode cX4_copyFrom 5 = .ok (.putfield 36, 3) := by decide +kernel
theorem dX4_copyFrom_8 : decode cX4_copyFrom 8 = .ok (.aload_n 1, 1) := by decide +kernel
theorem dX4_copyFrom_9 : decode cX4_copyFrom 9 = .ok (.getfield 9, 3) := by decide +kernel
theorem dX4_copyFrom_12 : decode cX4_copyFrom 12 = .ok (.iconst 0, 1) := by decide +kernel
theorem dX4_copyFrom_13 : decode cX4_copyFrom 13 = .ok (.aload_n 0, 1) := by decide +kernel
theorem dX4_copyFrom_14 : decode cX4_copyFrom 14 = .ok (.getfield 9, 3) := by decide +kernel
theorem dX4_copyFrom_17 : decode cX4_copyFrom 17 = .ok (.iconst 0, 1) := by decide +kernel
theorem dX4_copyFrom_18 : decode cX4_copyFrom 18 = .ok (.bipush 6, 2) := by decide +kernel
theorem dX4_copyFrom_20 : decode cX4_copyFrom 20 = .ok (.invokestatic 39, 3) := by decide +kernel
theorem dX4_copyFrom_23 : decode cX4_copyFrom 23 = .ok (.aload_n 1, 1) := by decide +kernel
theorem dX4_copyFrom_24 : decode cX4_copyFrom 24 = .ok (.getfield 15, 3) := by decide +kernel
theorem dX4_copyFrom_27 : decode cX4_copyFrom 27 = .ok (.iconst 0, 1) := by decide +kernel
theorem dX4_copyFrom_28 : decode cX4_copyFrom 28 = .ok (.aload_n 0, 1) := by decide +kernel
theorem dX4_copyFrom_29 : decode cX4_copyFrom 29 = .ok (.getfield 15, 3) := by decide +kernel
theorem dX4_copyFrom_32 : decode cX4_copyFrom 32 = .ok (.iconst 0, 1) := by decide +kernel
theorem dX4_copyFrom_33 : decode cX4_copyFrom 33 = .ok (.bipush 6, 2) := by decide +kernel
theorem dX4_copyFrom_35 : decode cX4_copyFrom 35 = .ok (.invokestatic 39, 3) := by decide +kernel
theorem dX4_copyFrom_38 : decode cX4_copyFrom 38 = .ok (.aload_n 1, 1) := by decide +kernel
theorem dX4_copyFrom_39 : decode cX4_copyFrom 39 = .ok (.getfield 18, 3) := by decide +kernel
theorem dX4_copyFrom_42 : decode cX4_copyFrom 42 = .ok (.iconst 0, 1) := by decide +kernel
theorem dX4_copyFrom_43 : decode cX4_copyFrom 43 = .ok (.aload_n 0, 1) := by decide +kernel
theorem dX4_copyFrom_44 : decode cX4_copyFrom 44 = .ok (.getfield 18, 3) := by decide +kernel
theorem dX4_copyFrom_47 : decode cX4_copyFrom 47 = .ok (.iconst 0, 1) := by decide +kernel
theorem dX4_copyFrom_48 : decode cX4_copyFrom 48 = .ok (.bipush 6, 2) := by decide +kernel
theorem dX4_copyFrom_50 : decode cX4_copyFrom 50 = .ok (.invokestatic 39, 3) := by decide +kernel
theorem dX4_copyFrom_53 : decode cX4_copyFrom 53 = .ok (.aload_n 1, 1) := by decide +kernel
theorem dX4_copyFrom_54 : decode cX4_copyFrom 54 = .ok (.getfield 21, 3) := by decide +kernel
theorem dX4_copyFrom_57 : decode cX4_copyFrom 57 = .ok (.iconst 0, 1) := by decide +kernel
theorem dX4_copyFrom_58 : decode cX4_copyFrom 58 = .ok (.aload_n 0, 1) := by decide +kernel
theorem dX4_copyFrom_59 : decode cX4_copyFrom 59 = .ok (.getfield 21, 3) := by decide +kernel
theorem dX4_copyFrom_62 : decode cX4_copyFrom 62 = .ok (.iconst 0, 1) := by decide +kernel
theorem dX4_copyFrom_63 : decode cX4_copyFrom 63 = .ok (.bipush 48, 2) := by decide +kernel
theorem dX4_copyFrom_65 : decode cX4_copyFrom 65 = .ok (.invokestatic 39, 3) := by decide +kernel
theorem dX4_copyFrom_68 : decode cX4_copyFrom 68 = .ok (.aload_n 1, 1) := by decide +kernel
theorem dX4_copyFrom_69 : decode cX4_copyFrom 69 = .ok (.getfield 24, 3) := by decide +kernel
theorem dX4_copyFrom_72 : decode cX4_copyFrom 72 = .ok (.iconst 0, 1) := by decide +kernel
theorem dX4_copyFrom_73 : decode cX4_copyFrom 73 = .ok (.aload_n 0, 1) := by decide +kernel
theorem dX4_copyFrom_74 : decode cX4_copyFrom 74 = .ok (.getfield 24, 3) := by decide +kernel
theorem dX4_copyFrom_77 : decode cX4_copyFrom 77 = .ok (.iconst 0, 1) := by decide +kernel
theorem dX4_copyFrom_78 : decode cX4_copyFrom 78 = .ok (.bipush 48, 2) := by decide +kernel
theorem dX4_copyFrom_80 : decode cX4_copyFrom 80 = .ok (.invokestatic 39, 3) := by decide +kernel
theorem dX4_copyFrom_83 : decode cX4_copyFrom 83 = .ok (.aload_n 1, 1) := by decide +kernel
theorem dX4_copyFrom_84 : decode cX4_copyFrom 84 = .ok (.getfield 27, 3) := by decide +kernel
theorem dX4_copyFrom_87 : decode cX4_copyFrom 87 = .ok (.iconst 0, 1) := by decide +kernel
theorem dX4_copyFrom_88 : decode cX4_copyFrom 88 = .ok (.aload_n 0, 1) := by decide +kernel
theorem dX4_copyFrom_89 : decode cX4_copyFrom 89 = .ok (.getfield 27, 3) := by decide +kernel
theorem dX4_copyFrom_92 : decode cX4_copyFrom 92 = .ok (.iconst 0, 1) := by decide +kernel
theorem dX4_copyFrom_93 : decode cX4_copyFrom 93 = .ok (.bipush 48, 2) := by decide +kernel
theorem dX4_copyFrom_95 : decode cX4_copyFrom 95 = .ok (.invokestatic 39, 3) := by decide +kernel
theorem dX4_copyFrom_98 : decode cX4_copyFrom 98 = .ok (.return_, 1) := by decide +kernel
theorem dX4_hasProcess_0 : decode cX4_hasProcess 0 = .ok (.iload_n 1, 1) := by decide +kernel
theorem dX4_hasProcess_1 : decode cX4_hasProcess 1 = .ok (.ifCond .lt 15, 3) := by decide +kernel
theorem dX4_hasProcess_4 : decode cX4_hasProcess 4 = .ok (.iload_n 1, 1) := by decide +kernel
theorem dX4_hasProcess_5 : decode cX4_hasProcess 5 = .ok (.aload_n 0, 1) := by decide +kernel
theorem dX4_hasProcess_6 : decode cX4_hasProcess 6 = .ok (.getfield 36, 3) := by decide +kernel
theorem dX4_hasProcess_9 : decode cX4_hasProcess 9 = .ok (.if_icmp .ge 7, 3) := by decide +kernel
theorem dX4_hasProcess_12 : decode cX4_hasProcess 12 = .ok (.iconst 1, 1) := by decide +kernel
theorem dX4_hasProcess_13 : decode cX4_hasProcess 13 = .ok (.goto 4, 3) := by decide +kernel
theorem dX4_hasProcess_16 : decode cX4_hasProcess 16 = .ok (.iconst 0, 1) := by decide +kernel
theorem dX4_hasProcess_17 : decode cX4_hasProcess 17 = .ok (.ireturn, 1) := by decide +kernel
theorem dX4_hasPage_0 : decode cX4_hasPage 0 = .ok (.aload_n 0, 1) := by decide +kernel
theorem dX4_hasPage_1 : decode cX4_hasPage 1 = .ok (.iload_n 1, 1) := by decide +kernel
theorem dX4_hasPage_2 : decode cX4_hasPage 2 = .ok (.invokevirtual 45, 3) := by decide +kernel
theorem dX4_hasPage_5 : decode cX4_hasPage 5 = .ok (.ifCond .eq 21, 3) := by decide +kernel
theorem dX4_hasPage_8 : decode cX4_hasPage 8 = .ok (.iload_n 2, 1) := by decide +kernel
theorem dX4_hasPage_9 : decode cX4_hasPage 9 = .ok (.ifCond .lt 17, 3) := by decide +kernel
theorem dX4_hasPage_12 : decode cX4_hasPage 12 = .ok (.iload_n 2, 1) := by decide +kernel
theorem dX4_hasPage_13 : decode cX4_hasPage 13 = .ok (.aload_n 0, 1) := by decide +kernel
theorem dX4_hasPage_14 : decode cX4_hasPage 14 = .ok (.getfield 9, 3) := by decide +kernel
theorem dX4_hasPage_17 : decode cX4_hasPage 17 = .ok (.iload_n 1, 1) := by decide +kernel
theorem dX4_hasPage_18 : decode cX4_hasPage 18 = .ok (.iaload, 1) := by decide +kernel
theorem dX4_hasPage_19 : decode cX4_hasPage 19 = .ok (.if_icmp .ge 7, 3) := by decide +kernel
theorem dX4_hasPage_22 : decode cX4_hasPage 22 = .ok (.iconst 1, 1) := by decide +kernel
theorem dX4_hasPage_23 : decode cX4_hasPage 23 = .ok (.goto 4, 3) := by decide +kernel
theorem dX4_hasPage_26 : decode cX4_hasPage 26 = .ok (.iconst 0, 1) := by decide +kernel
theorem dX4_hasPage_27 : decode cX4_hasPage 27 = .ok (.ireturn, 1) := by decide +kernel
theorem dX4_everyProcess_0 : decode cX4_everyProcess 0 = .ok (.iconst 1, 1) := by decide +kernel
theorem dX4_everyProcess_1 : decode cX4_everyProcess 1 = .ok (.aload_n 0, 1) := by decide +kernel
theorem dX4_everyProcess_2 : decode cX4_everyProcess 2 = .ok (.getfield 36, 3) := by decide +kernel
theorem dX4_everyProcess_5 : decode cX4_everyProcess 5 = .ok (.ishl, 1) := by decide +kernel
theorem dX4_everyProcess_6 : decode cX4_everyProcess 6 = .ok (.iconst 1, 1) := by decide +kernel
theorem dX4_everyProcess_7 : decode cX4_everyProcess 7 = .ok (.isub, 1) := by decide +kernel
theorem dX4_everyProcess_8 : decode cX4_everyProcess 8 = .ok (.ireturn, 1) := by decide +kernel
theorem dX4_isProcessSet_0 : decode cX4_isProcessSet 0 = .ok (.iload_n 1, 1) := by decide +kernel
theorem dX4_isProcessSet_1 : decode cX4_isProcessSet 1 = .ok (.ifCond .eq 18, 3) := by decide +kernel
theorem dX4_isProcessSet_4 : decode cX4_isProcessSet 4 = .ok (.iload_n 1, 1) := by decide +kernel
theorem dX4_isProcessSet_5 : decode cX4_isProcessSet 5 = .ok (.aload_n 0, 1) := by decide +kernel
theorem dX4_isProcessSet_6 : decode cX4_isProcessSet 6 = .ok (.invokevirtual 49, 3) := by decide +kernel
theorem dX4_isProcessSet_9 : decode cX4_isProcessSet 9 = .ok (.iconst (-1), 1) := by decide +kernel
theorem dX4_isProcessSet_10 : decode cX4_isProcessSet 10 = .ok (.ixor, 1) := by decide +kernel
theorem dX4_isProcessSet_11 : decode cX4_isProcessSet 11 = .ok (.iand, 1) := by decide +kernel
theorem dX4_isProcessSet_12 : decode cX4_isProcessSet 12 = .ok (.ifCond .ne 7, 3) := by decide +kernel
theorem dX4_isProcessSet_15 : decode cX4_isProcessSet 15 = .ok (.iconst 1, 1) := by decide +kernel
theorem dX4_isProcessSet_16 : decode cX4_isProcessSet 16 = .ok (.goto 4, 3) := by decide +kernel
theorem dX4_isProcessSet_19 : decode cX4_isProcessSet 19 = .ok (.iconst 0, 1) := by decide +kernel
theorem dX4_isProcessSet_20 : decode cX4_isProcessSet 20 = .ok (.ireturn, 1) := by decide +kernel
theorem dX4_isDirty_0 : decode cX4_isDirty 0 = .ok (.aload_n 0, 1) := by decide +kernel
theorem dX4_isDirty_1 : decode cX4_isDirty 1 = .ok (.getfield 18, 3) := by decide +kernel
theorem dX4_isDirty_4 : decode cX4_isDirty 4 = .ok (.iload_n 1, 1) := by decide +kernel
theorem dX4_isDirty_5 : decode cX4_isDirty 5 = .ok (.bipush 8, 2) := by decide +kernel
theorem dX4_isDirty_7 : decode cX4_isDirty 7 = .ok (.idiv, 1) := by decide +kernel
theorem dX4_isDirty_8 : decode cX4_isDirty 8 = .ok (.iaload, 1) := by decide +kernel
theorem dX4_isDirty_9 : decode cX4_isDirty 9 = .ok (.iconst 1, 1) := by decide +kernel
theorem dX4_isDirty_10 : decode cX4_isDirty 10 = .ok (.iload_n 1, 1) := by decide +kernel
theorem dX4_isDirty_11 : decode cX4_isDirty 11 = .ok (.bipush 8, 2) := by decide +kernel
theorem dX4_isDirty_13 : decode cX4_isDirty 13 = .ok (.irem, 1) := by decide +kernel
theorem dX4_isDirty_14 : decode cX4_isDirty 14 = .ok (.ishl, 1) := by decide +kernel
theorem dX4_isDirty_15 : decode cX4_isDirty 15 = .ok (.iand, 1) := by decide +kernel
theorem dX4_isDirty_16 : decode cX4_isDirty 16 = .ok (.ifCond .eq 7, 3) := by decide +kernel
theorem dX4_isDirty_19 : decode cX4_isDirty 19 = .ok (.iconst 1, 1) := by decide +kernel
theorem dX4_isDirty_20 : decode cX4_isDirty 20 = .ok (.goto 4, 3) := by decide +kernel
theorem dX4_isDirty_23 : decode cX4_isDirty 23 = .ok (.iconst 0, 1) := by decide +kernel
theorem dX4_isDirty_24 : decode cX4_isDirty 24 = .ok (.ireturn, 1) := by decide +kernel
theorem dX4_makeDirty_0 : decode cX4_makeDirty 0 = .ok (.aload_n 0, 1) := by decide +kernel
theorem dX4_makeDirty_1 : decode cX4_makeDirty 1 = .ok (.getfield 18, 3) := by decide +kernel
theorem dX4_makeDirty_4 : decode cX4_makeDirty 4 = .ok (.iload_n 1, 1) := by decide +kernel
theorem dX4_makeDirty_5 : decode cX4_makeDirty 5 = .ok (.bipush 8, 2) := by decide +kernel
theorem dX4_makeDirty_7 : decode cX4_makeDirty 7 = .ok (.idiv, 1) := by decide +kernel
theorem dX4_makeDirty_8 : decode cX4_makeDirty 8 = .ok (.dup2, 1) := by decide +kernel
theorem dX4_makeDirty_9 : decode cX4_makeDirty 9 = .ok (.iaload, 1) := by decide +kernel
theorem dX4_makeDirty_10 : decode cX4_makeDirty 10 = .ok (.iconst 1, 1) := by decide +kernel
theorem dX4_makeDirty_11 : decode cX4_makeDirty 11 = .ok (.iload_n 1, 1) := by decide +kernel
theorem dX4_makeDirty_12 : decode cX4_makeDirty 12 = .ok (.bipush 8, 2) := by decide +kernel
theorem dX4_makeDirty_14 : decode cX4_makeDirty 14 = .ok (.irem, 1) := by decide +kernel
theorem dX4_makeDirty_15 : decode cX4_makeDirty 15 = .ok (.ishl, 1) := by decide +kernel
theorem dX4_makeDirty_16 : decode cX4_makeDirty 16 = .ok (.ior, 1) := by decide +kernel
theorem dX4_makeDirty_17 : decode cX4_makeDirty 17 = .ok (.iastore, 1) := by decide +kernel
theorem dX4_makeDirty_18 : decode cX4_makeDirty 18 = .ok (.return_, 1) := by decide +kernel
theorem dX4_makeClean_0 : decode cX4_makeClean 0 = .ok (.aload_n 0, 1) := by decide +kernel
theorem dX4_makeClean_1 : decode cX4_makeClean 1 = .ok (.getfield 18, 3) := by decide +kernel
theorem dX4_makeClean_4 : decode cX4_makeClean 4 = .ok (.iload_n 1, 1) := by decide +kernel
theorem dX4_makeClean_5 : decode cX4_makeClean 5 = .ok (.bipush 8, 2) := by decide +kernel
theorem dX4_makeClean_7 : decode cX4_makeClean 7 = .ok (.idiv, 1) := by decide +kernel
theorem dX4_makeClean_8 : decode cX4_makeClean 8 = .ok (.dup2, 1) := by decide +kernel
theorem dX4_makeClean_9 : decode cX4_makeClean 9 = .ok (.iaload, 1) := by decide +kernel
theorem dX4_makeClean_10 : decode cX4_makeClean 10 = .ok (.iconst 1, 1) := by decide +kernel
theorem dX4_makeClean_11 : decode cX4_makeClean 11 = .ok (.iload_n 1, 1) := by decide +kernel
theorem dX4_makeClean_12 : decode cX4_makeClean 12 = .ok (.bipush 8, 2) := by decide +kernel
theorem dX4_makeClean_14 : decode cX4_makeClean 14 = .ok (.irem, 1) := by decide +kernel
theorem dX4_makeClean_15 : decode cX4_makeClean 15 = .ok (.ishl, 1) := by decide +kernel
theorem dX4_makeClean_16 : decode cX4_makeClean 16 = .ok (.iconst (-1), 1) := by decide +kernel
theorem dX4_makeClean_17 : decode cX4_makeClean 17 = .ok (.ixor, 1) := by decide +kernel
theorem dX4_makeClean_18 : decode cX4_makeClean 18 = .ok (.iand, 1) := by decide +kernel
theorem dX4_makeClean_19 : decode cX4_makeClean 19 = .ok (.iastore, 1) := by decide +kernel
theorem dX4_makeClean_20 : decode cX4_makeClean 20 = .ok (.return_, 1) := by decide +kernel
theorem dX4_store_0 : decode cX4_store 0 = .ok (.aload_n 0, 1) := by decide +kernel
theorem dX4_store_1 : decode cX4_store 1 = .ok (.getfield 15, 3) := by decide +kernel
theorem dX4_store_4 : decode cX4_store 4 = .ok (.iload_n 1, 1) := by decide +kernel
theorem dX4_store_5 : decode cX4_store 5 = .ok (.bipush 8, 2) := by decide +kernel
theorem dX4_store_7 : decode cX4_store 7 = .ok (.idiv, 1) := by decide +kernel
theorem dX4_store_8 : decode cX4_store 8 = .ok (.iaload, 1) := by decide +kernel
theorem dX4_store_9 : decode cX4_store 9 = .ok (.iconst 1, 1) := by decide +kernel
theorem dX4_store_10 : decode cX4_store 10 = .ok (.if_icmp .ne 14, 3) := by decide +kernel
theorem dX4_store_13 : decode cX4_store 13 = .ok (.iload_n 2, 1) := by decide +kernel
theorem dX4_store_14 : decode cX4_store 14 = .ok (.invokestatic 53, 3) := by decide +kernel
theorem dX4_store_17 : decode cX4_store 17 = .ok (.ifCond .eq 7, 3) := by decide +kernel
theorem dX4_store_20 : decode cX4_store 20 = .ok (.iconst 1, 1) := by decide +kernel
theorem dX4_store_21 : decode cX4_store 21 = .ok (.goto 4, 3) := by decide +kernel
theorem dX4_store_24 : decode cX4_store 24 = .ok (.iconst 0, 1) := by decide +kernel
theorem dX4_store_25 : decode cX4_store 25 = .ok (.istore_n 3, 1) := by decide +kernel
theorem dX4_store_26 : decode cX4_store 26 = .ok (.aload_n 0, 1) := by decide +kernel
theorem dX4_store_27 : decode cX4_store 27 = .ok (.getfield 21, 3) := by decide +kernel
theorem dX4_store_30 : decode cX4_store 30 = .ok (.iload_n 1, 1) := by decide +kernel
theorem dX4_store_31 : decode cX4_store 31 = .ok (.iload_n 3, 1) := by decide +kernel
theorem dX4_store_32 : decode cX4_store 32 = .ok (.ifCond .eq 8, 3) := by decide +kernel
theorem dX4_store_35 : decode cX4_store 35 = .ok (.ldc 56, 2) := by decide +kernel
theorem dX4_store_37 : decode cX4_store 37 = .ok (.goto 4, 3) := by decide +kernel
theorem dX4_store_40 : decode cX4_store 40 = .ok (.iload_n 2, 1) := by decide +kernel
theorem dX4_store_41 : decode cX4_store 41 = .ok (.iastore, 1) := by decide +kernel
theorem dX4_store_42 : decode cX4_store 42 = .ok (.return_, 1) := by decide +kernel
theorem dX4_stateAt_0 : decode cX4_stateAt 0 = .ok (.aload_n 0, 1) := by decide +kernel
theorem dX4_stateAt_1 : decode cX4_stateAt 1 = .ok (.getfield 24, 3) := by decide +kernel
theorem dX4_stateAt_4 : decode cX4_stateAt 4 = .ok (.iload_n 1, 1) := by decide +kernel
theorem dX4_stateAt_5 : decode cX4_stateAt 5 = .ok (.iaload, 1) := by decide +kernel
theorem dX4_stateAt_6 : decode cX4_stateAt 6 = .ok (.iconst (-1), 1) := by decide +kernel
theorem dX4_stateAt_7 : decode cX4_stateAt 7 = .ok (.if_icmp .ne 19, 3) := by decide +kernel
theorem dX4_stateAt_10 : decode cX4_stateAt 10 = .ok (.aload_n 0, 1) := by decide +kernel
theorem dX4_stateAt_11 : decode cX4_stateAt 11 = .ok (.getfield 27, 3) := by decide +kernel
theorem dX4_stateAt_14 : decode cX4_stateAt 14 = .ok (.iload_n 1, 1) := by decide +kernel
theorem dX4_stateAt_15 : decode cX4_stateAt 15 = .ok (.iaload, 1) := by decide +kernel
theorem dX4_stateAt_16 : decode cX4_stateAt 16 = .ok (.iconst (-1), 1) := by decide +kernel
theorem dX4_stateAt_17 : decode cX4_stateAt 17 = .ok (.if_icmp .ne 7, 3) := by decide +kernel
theorem dX4_stateAt_20 : decode cX4_stateAt 20 = .ok (.iconst 0, 1) := by decide +kernel
theorem dX4_stateAt_21 : decode cX4_stateAt 21 = .ok (.goto 4, 3) := by decide +kernel
theorem dX4_stateAt_24 : decode cX4_stateAt 24 = .ok (.iconst 1, 1) := by decide +kernel
theorem dX4_stateAt_25 : decode cX4_stateAt 25 = .ok (.ireturn, 1) := by decide +kernel
theorem dX4_stateAt_26 : decode cX4_stateAt 26 = .ok (.aload_n 0, 1) := by decide +kernel
theorem dX4_stateAt_27 : decode cX4_stateAt 27 = .ok (.iload_n 1, 1) := by decide +kernel
theorem dX4_stateAt_28 : decode cX4_stateAt 28 = .ok (.invokevirtual 57, 3) := by decide +kernel
theorem dX4_stateAt_31 : decode cX4_stateAt 31 = .ok (.ifCond .eq 7, 3) := by decide +kernel
theorem dX4_stateAt_34 : decode cX4_stateAt 34 = .ok (.iconst 3, 1) := by decide +kernel
theorem dX4_stateAt_35 : decode cX4_stateAt 35 = .ok (.goto 4, 3) := by decide +kernel
theorem dX4_stateAt_38 : decode cX4_stateAt 38 = .ok (.iconst 2, 1) := by decide +kernel
theorem dX4_stateAt_39 : decode cX4_stateAt 39 = .ok (.ireturn, 1) := by decide +kernel
theorem dX4_residentSet_0 : decode cX4_residentSet 0 = .ok (.iconst 0, 1) := by decide +kernel
theorem dX4_residentSet_1 : decode cX4_residentSet 1 = .ok (.istore_n 2, 1) := by decide +kernel
theorem dX4_residentSet_2 : decode cX4_residentSet 2 = .ok (.iconst 0, 1) := by decide +kernel
theorem dX4_residentSet_3 : decode cX4_residentSet 3 = .ok (.istore_n 3, 1) := by decide +kernel
theorem dX4_residentSet_4 : decode cX4_residentSet 4 = .ok (.iload_n 3, 1) := by decide +kernel
theorem dX4_residentSet_5 : decode cX4_residentSet 5 = .ok (.aload_n 0, 1) := by decide +kernel
theorem dX4_residentSet_6 : decode cX4_residentSet 6 = .ok (.getfield 9, 3) := by decide +kernel
theorem dX4_residentSet_9 : decode cX4_residentSet 9 = .ok (.iload_n 1, 1) := by decide +kernel
theorem dX4_residentSet_10 : decode cX4_residentSet 10 = .ok (.iaload, 1) := by decide +kernel
theorem dX4_residentSet_11 : decode cX4_residentSet 11 = .ok (.if_icmp .ge 29, 3) := by decide +kernel
theorem dX4_residentSet_14 : decode cX4_residentSet 14 = .ok (.aload_n 0, 1) := by decide +kernel
theorem dX4_residentSet_15 : decode cX4_residentSet 15 = .ok (.getfield 24, 3) := by decide +kernel
theorem dX4_residentSet_18 : decode cX4_residentSet 18 = .ok (.iload_n 1, 1) := by decide +kernel
theorem dX4_residentSet_19 : decode cX4_residentSet 19 = .ok (.iload_n 3, 1) := by decide +kernel
theorem dX4_residentSet_20 : decode cX4_residentSet 20 = .ok (.invokestatic 60, 3) := by decide +kernel
theorem dX4_residentSet_23 : decode cX4_residentSet 23 = .ok (.iaload, 1) := by decide +kernel
theorem dX4_residentSet_24 : decode cX4_residentSet 24 = .ok (.iconst (-1), 1) := by decide +kernel
theorem dX4_residentSet_25 : decode cX4_residentSet 25 = .ok (.if_icmp .eq 9, 3) := by decide +kernel
theorem dX4_residentSet_28 : decode cX4_residentSet 28 = .ok (.iload_n 2, 1) := by decide +kernel
theorem dX4_residentSet_29 : decode cX4_residentSet 29 = .ok (.iconst 1, 1) := by decide +kernel
theorem dX4_residentSet_30 : decode cX4_residentSet 30 = .ok (.iload_n 3, 1) := by decide +kernel
theorem dX4_residentSet_31 : decode cX4_residentSet 31 = .ok (.ishl, 1) := by decide +kernel
theorem dX4_residentSet_32 : decode cX4_residentSet 32 = .ok (.ior, 1) := by decide +kernel
theorem dX4_residentSet_33 : decode cX4_residentSet 33 = .ok (.istore_n 2, 1) := by decide +kernel
theorem dX4_residentSet_34 : decode cX4_residentSet 34 = .ok (.iinc 3 1, 3) := by decide +kernel
theorem dX4_residentSet_37 : decode cX4_residentSet 37 = .ok (.goto (-33), 3) := by decide +kernel
theorem dX4_residentSet_40 : decode cX4_residentSet 40 = .ok (.iload_n 2, 1) := by decide +kernel
theorem dX4_residentSet_41 : decode cX4_residentSet 41 = .ok (.ireturn, 1) := by decide +kernel
theorem dX4_countDirty_0 : decode cX4_countDirty 0 = .ok (.iconst 0, 1) := by decide +kernel
theorem dX4_countDirty_1 : decode cX4_countDirty 1 = .ok (.istore_n 2, 1) := by decide +kernel
theorem dX4_countDirty_2 : decode cX4_countDirty 2 = .ok (.iconst 0, 1) := by decide +kernel
theorem dX4_countDirty_3 : decode cX4_countDirty 3 = .ok (.istore_n 3, 1) := by decide +kernel
theorem dX4_countDirty_4 : decode cX4_countDirty 4 = .ok (.iload_n 3, 1) := by decide +kernel
theorem dX4_countDirty_5 : decode cX4_countDirty 5 = .ok (.aload_n 0, 1) := by decide +kernel
theorem dX4_countDirty_6 : decode cX4_countDirty 6 = .ok (.getfield 36, 3) := by decide +kernel
theorem dX4_countDirty_9 : decode cX4_countDirty 9 = .ok (.if_icmp .ge 29, 3) := by decide +kernel
theorem dX4_countDirty_12 : decode cX4_countDirty 12 = .ok (.iload_n 1, 1) := by decide +kernel
theorem dX4_countDirty_13 : decode cX4_countDirty 13 = .ok (.iconst 1, 1) := by decide +kernel
theorem dX4_countDirty_14 : decode cX4_countDirty 14 = .ok (.iload_n 3, 1) := by decide +kernel
theorem dX4_countDirty_15 : decode cX4_countDirty 15 = .ok (.ishl, 1) := by decide +kernel
theorem dX4_countDirty_16 : decode cX4_countDirty 16 = .ok (.iand, 1) := by decide +kernel
theorem dX4_countDirty_17 : decode cX4_countDirty 17 = .ok (.ifCond .eq 15, 3) := by decide +kernel
theorem dX4_countDirty_20 : decode cX4_countDirty 20 = .ok (.iload_n 2, 1) := by decide +kernel
theorem dX4_countDirty_21 : decode cX4_countDirty 21 = .ok (.aload_n 0, 1) := by decide +kernel
theorem dX4_countDirty_22 : decode cX4_countDirty 22 = .ok (.getfield 18, 3) := by decide +kernel
theorem dX4_countDirty_25 : decode cX4_countDirty 25 = .ok (.iload_n 3, 1) := by decide +kernel
theorem dX4_countDirty_26 : decode cX4_countDirty 26 = .ok (.iaload, 1) := by decide +kernel
theorem dX4_countDirty_27 : decode cX4_countDirty 27 = .ok (.invokestatic 64, 3) := by decide +kernel
theorem dX4_countDirty_30 : decode cX4_countDirty 30 = .ok (.iadd, 1) := by decide +kernel
theorem dX4_countDirty_31 : decode cX4_countDirty 31 = .ok (.istore_n 2, 1) := by decide +kernel
theorem dX4_countDirty_32 : decode cX4_countDirty 32 = .ok (.iinc 3 1, 3) := by decide +kernel
theorem dX4_countDirty_35 : decode cX4_countDirty 35 = .ok (.goto (-31), 3) := by decide +kernel
theorem dX4_countDirty_38 : decode cX4_countDirty 38 = .ok (.iload_n 2, 1) := by decide +kernel
theorem dX4_countDirty_39 : decode cX4_countDirty 39 = .ok (.ireturn, 1) := by decide +kernel
theorem dX5_init_0 : decode cX5_init 0 = .ok (.aload_n 0, 1) := by decide +kernel
theorem dX5_init_1 : decode cX5_init 1 = .ok (.invokespecial 3, 3) := by decide +kernel
theorem dX5_init_4 : decode cX5_init 4 = .ok (.aload_n 0, 1) := by decide +kernel
theorem dX5_init_5 : decode cX5_init 5 = .ok (.bipush 16, 2) := by decide +kernel
theorem dX5_init_7 : decode cX5_init 7 = .ok (.newarray .int, 2) := by decide +kernel
theorem dX5_init_9 : decode cX5_init 9 = .ok (.putfield 9, 3) := by decide +kernel
theorem dX5_init_12 : decode cX5_init 12 = .ok (.aload_n 0, 1) := by decide +kernel
theorem dX5_init_13 : decode cX5_init 13 = .ok (.bipush 16, 2) := by decide +kernel
theorem dX5_init_15 : decode cX5_init 15 = .ok (.newarray .int, 2) := by decide +kernel
theorem dX5_init_17 : decode cX5_init 17 = .ok (.putfield 15, 3) := by decide +kernel
theorem dX5_init_20 : decode cX5_init 20 = .ok (.aload_n 0, 1) := by decide +kernel
theorem dX5_init_21 : decode cX5_init 21 = .ok (.bipush 64, 2) := by decide +kernel
theorem dX5_init_23 : decode cX5_init 23 = .ok (.newarray .int, 2) := by decide +kernel
theorem dX5_init_25 : decode cX5_init 25 = .ok (.putfield 18, 3) := by decide +kernel
theorem dX5_init_28 : decode cX5_init 28 = .ok (.aload_n 0, 1) := by decide +kernel
theorem dX5_init_29 : decode cX5_init 29 = .ok (.bipush 64, 2) := by decide +kernel
theorem dX5_init_31 : decode cX5_init 31 = .ok (.newarray .int, 2) := by decide +kernel
theorem dX5_init_33 : decode cX5_init 33 = .ok (.putfield 21, 3) := by decide +kernel
theorem dX5_init_36 : decode cX5_init 36 = .ok (.aload_n 0, 1) := by decide +kernel
theorem dX5_init_37 : decode cX5_init 37 = .ok (.bipush 48, 2) := by decide +kernel
theorem dX5_init_39 : decode cX5_init 39 = .ok (.newarray .int, 2) := by decide +kernel
theorem dX5_init_41 : decode cX5_init 41 = .ok (.putfield 24, 3) := by decide +kernel
theorem dX5_init_44 : decode cX5_init 44 = .ok (.return_, 1) := by decide +kernel
theorem dX5_countFaults_0 : decode cX5_countFaults 0 = .ok (.aload_n 0, 1) := by decide +kernel
theorem dX5_countFaults_1 : decode cX5_countFaults 1 = .ok (.aload_n 1, 1) := by decide +kernel
theorem dX5_countFaults_2 : decode cX5_countFaults 2 = .ok (.invokevirtual 27, 3) := by decide +kernel
theorem dX5_countFaults_5 : decode cX5_countFaults 5 = .ok (.iconst 0, 1) := by decide +kernel
theorem dX5_countFaults_6 : decode cX5_countFaults 6 = .ok (.istore 4, 2) := by decide +kernel
theorem dX5_countFaults_8 : decode cX5_countFaults 8 = .ok (.aload_n 0, 1) := by decide +kernel
theorem dX5_countFaults_9 : decode cX5_countFaults 9 = .ok (.iconst 0, 1) := by decide +kernel
theorem dX5_countFaults_10 : decode cX5_countFaults 10 = .ok (.putfield 31, 3) := by decide +kernel
theorem dX5_countFaults_13 : decode cX5_countFaults 13 = .ok (.iconst 0, 1) := by decide +kernel
theorem dX5_countFaults_14 : decode cX5_countFaults 14 = .ok (.istore 5, 2) := by decide +kernel
theorem dX5_countFaults_16 : decode cX5_countFaults 16 = .ok (.iload 5, 2) := by decide +kernel
theorem dX5_countFaults_18 : decode cX5_countFaults 18 = .ok (.aload_n 0, 1) := by decide +kernel
theorem dX5_countFaults_19 : decode cX5_countFaults 19 = .ok (.getfield 35, 3) := by decide +kernel
theorem dX5_countFaults_22 : decode cX5_countFaults 22 = .ok (.if_icmp .ge 128, 3) := by decide +kernel
theorem dX5_countFaults_25 : decode cX5_countFaults 25 = .ok (.aload_n 0, 1) := by decide +kernel
theorem dX5_countFaults_26 : decode cX5_countFaults 26 = .ok (.aload_n 0, 1) := by decide +kernel
theorem dX5_countFaults_27 : decode cX5_countFaults 27 = .ok (.getfield 18, 3) := by decide +kernel
theorem dX5_countFaults_30 : decode cX5_countFaults 30 = .ok (.iload 5, 2) := by decide +kernel
theorem dX5_countFaults_32 : decode cX5_countFaults 32 = .ok (.iaload, 1) := by decide +kernel
theorem dX5_countFaults_33 : decode cX5_countFaults 33 = .ok (.invokevirtual 38, 3) := by decide +kernel
theorem dX5_countFaults_36 : decode cX5_countFaults 36 = .ok (.istore 6, 2) := by decide +kernel
theorem dX5_countFaults_38 : decode cX5_countFaults 38 = .ok (.iload 6, 2) := by decide +kernel
theorem dX5_countFaults_40 : decode cX5_countFaults 40 = .ok (.iconst (-1), 1) := by decide +kernel
theorem dX5_countFaults_41 : decode cX5_countFaults 41 = .ok (.if_icmp .ne 7, 3) := by decide +kernel
theorem dX5_countFaults_44 : decode cX5_countFaults 44 = .ok (.iconst 1, 1) := by decide +kernel
theorem dX5_countFaults_45 : decode cX5_countFaults 45 = .ok (.goto 4, 3) := by decide +kernel
theorem dX5_countFaults_48 : decode cX5_countFaults 48 = .ok (.iconst 0, 1) := by decide +kernel
theorem dX5_countFaults_49 : decode cX5_countFaults 49 = .ok (.istore 7, 2) := by decide +kernel
theorem dX5_countFaults_51 : decode cX5_countFaults 51 = .ok (.iload 7, 2) := by decide +kernel
theorem dX5_countFaults_53 : decode cX5_countFaults 53 = .ok (.ifCond .eq 56, 3) := by decide +kernel
theorem dX5_countFaults_56 : decode cX5_countFaults 56 = .ok (.iinc 4 1, 3) := by decide +kernel
theorem dX5_countFaults_59 : decode cX5_countFaults 59 = .ok (.aload_n 0, 1) := by decide +kernel
theorem dX5_countFaults_60 : decode cX5_countFaults 60 = .ok (.getfield 31, 3) := by decide +kernel
theorem dX5_countFaults_63 : decode cX5_countFaults 63 = .ok (.iload_n 2, 1) := by decide +kernel
theorem dX5_countFaults_64 : decode cX5_countFaults 64 = .ok (.if_icmp .ge 10, 3) := by decide +kernel
theorem dX5_countFaults_67 : decode cX5_countFaults 67 = .ok (.aload_n 0, 1) := by decide +kernel
theorem dX5_countFaults_68 : decode cX5_countFaults 68 = .ok (.getfield 31, 3) := by decide +kernel
theorem dX5_countFaults_71 : decode cX5_countFaults 71 = .ok (.goto 7, 3) := by decide +kernel
theorem dX5_countFaults_74 : decode cX5_countFaults 74 = .ok (.aload_n 0, 1) := by decide +kernel
theorem dX5_countFaults_75 : decode cX5_countFaults 75 = .ok (.invokevirtual 42, 3) := by decide +kernel
theorem dX5_countFaults_78 : decode cX5_countFaults 78 = .ok (.istore 6, 2) := by decide +kernel
theorem dX5_countFaults_80 : decode cX5_countFaults 80 = .ok (.aload_n 0, 1) := by decide +kernel
theorem dX5_countFaults_81 : decode cX5_countFaults 81 = .ok (.aload_n 0, 1) := by decide +kernel
theorem dX5_countFaults_82 : decode cX5_countFaults 82 = .ok (.getfield 31, 3) := by decide +kernel
theorem dX5_countFaults_85 : decode cX5_countFaults 85 = .ok (.iload 6, 2) := by decide +kernel
theorem dX5_countFaults_87 : decode cX5_countFaults 87 = .ok (.iconst 1, 1) := by decide +kernel
theorem dX5_countFaults_88 : decode cX5_countFaults 88 = .ok (.iadd, 1) := by decide +kernel
theorem dX5_countFaults_89 : decode cX5_countFaults 89 = .ok (.invokestatic 46, 3) := by decide +kernel
theorem dX5_countFaults_92 : decode cX5_countFaults 92 = .ok (.putfield 31, 3) := by decide +kernel
theorem dX5_countFaults_95 : decode cX5_countFaults 95 = .ok (.aload_n 0, 1) := by decide +kernel
theorem dX5_countFaults_96 : decode cX5_countFaults 96 = .ok (.getfield 9, 3) := by decide +kernel
theorem dX5_countFaults_99 : decode cX5_countFaults 99 = .ok (.iload 6, 2) := by decide +kernel
theorem dX5_countFaults_101 : decode cX5_countFaults 101 = .ok (.aload_n 0, 1) := by decide +kernel
theorem dX5_countFaults_102 : decode cX5_countFaults 102 = .ok (.getfield 18, 3) := by decide +kernel
theorem dX5_countFaults_105 : decode cX5_countFaults 105 = .ok (.iload 5, 2) := by decide +kernel
theorem dX5_countFaults_107 : decode cX5_countFaults 107 = .ok (.iaload, 1) := by decide +kernel
theorem dX5_countFaults_108 : decode cX5_countFaults 108 = .ok (.iastore, 1) := by decide +kernel
theorem dX5_countFaults_109 : decode cX5_countFaults 109 = .ok (.iload 7, 2) := by decide +kernel
theorem dX5_countFaults_111 : decode cX5_countFaults 111 = .ok (.ifCond .ne 8, 3) := by decide +kernel
theorem dX5_countFaults_114 : decode cX5_countFaults 114 = .ok (.iload_n 3, 1) := by decide +kernel
theorem dX5_countFaults_115 : decode cX5_countFaults 115 = .ok (.iconst 1, 1) := by decide +kernel
theorem dX5_countFaults_116 : decode cX5_countFaults 116 = .ok (.if_icmp .eq 28, 3) := by decide +kernel
theorem dX5_countFaults_119 : decode cX5_countFaults 119 = .ok (.aload_n 0, 1) := by decide +kernel
theorem dX5_countFaults_120 : decode cX5_countFaults 120 = .ok (.getfield 15, 3) := by decide +kernel
theorem dX5_countFaults_123 : decode cX5_countFaults 123 = .ok (.iload 6, 2) := by decide +kernel
theorem dX5_countFaults_125 : decode cX5_countFaults 125 = .ok (.iload_n 3, 1) := by decide +kernel
theorem dX5_countFaults_126 : decode cX5_countFaults 126 = .ok (.iconst 2, 1) := by decide +kernel
theorem dX5_countFaults_127 : decode cX5_countFaults 127 = .ok (.if_icmp .ne 14, 3) := by decide +kernel
theorem dX5_countFaults_130 : decode cX5_countFaults 130 = .ok (.aload_n 0, 1) := by decide +kernel
theorem dX5_countFaults_131 : decode cX5_countFaults 131 = .ok (.getfield 21, 3) := by decide +kernel
theorem dX5_countFaults_134 : decode cX5_countFaults 134 = .ok (.iload 5, 2) := by decide +kernel
theorem dX5_countFaults_136 : decode cX5_countFaults 136 = .ok (.iaload, 1) := by decide +kernel
theorem dX5_countFaults_137 : decode cX5_countFaults 137 = .ok (.ineg, 1) := by decide +kernel
theorem dX5_countFaults_138 : decode cX5_countFaults 138 = .ok (.goto 5, 3) := by decide +kernel
theorem dX5_countFaults_141 : decode cX5_countFaults 141 = .ok (.iload 5, 2) := by decide +kernel
theorem dX5_countFaults_143 : decode cX5_countFaults 143 = .ok (.iastore, 1) := by decide +kernel
theorem dX5_countFaults_144 : decode cX5_countFaults 144 = .ok (.iinc 5 1, 3) := by decide +kernel
theorem dX5_countFaults_147 : decode cX5_countFaults 147 = .ok (.goto (-131), 3) := by decide +kernel
theorem dX5_countFaults_150 : decode cX5_countFaults 150 = .ok (.iload 4, 2) := by decide +kernel
theorem dX5_countFaults_152 : decode cX5_countFaults 152 = .ok (.ireturn, 1) := by decide +kernel
theorem dX5_fewestFrames_0 : decode cX5_fewestFrames 0 = .ok (.iconst 1, 1) := by decide +kernel
theorem dX5_fewestFrames_1 : decode cX5_fewestFrames 1 = .ok (.istore_n 3, 1) := by decide +kernel
theorem dX5_fewestFrames_2 : decode cX5_fewestFrames 2 = .ok (.iload_n 3, 1) := by decide +kernel
theorem dX5_fewestFrames_3 : decode cX5_fewestFrames 3 = .ok (.bipush 16, 2) := by decide +kernel
theorem dX5_fewestFrames_5 : decode cX5_fewestFrames 5 = .ok (.if_icmp .gt 22, 3) := by decide +kernel
theorem dX5_fewestFrames_8 : decode cX5_fewestFrames 8 = .ok (.aload_n 0, 1) := by decide +kernel
theorem dX5_fewestFrames_9 : decode cX5_fewestFrames 9 = .ok (.aload_n 1, 1) := by decide +kernel
theorem dX5_fewestFrames_10 : decode cX5_fewestFrames 10 = .ok (.iload_n 3, 1) := by decide +kernel
theorem dX5_fewestFrames_11 : decode cX5_fewestFrames 11 = .ok (.iconst 2, 1) := by decide +kernel
theorem dX5_fewestFrames_12 : decode cX5_fewestFrames 12 = .ok (.invokevirtual 52, 3) := by decide +kernel
theorem dX5_fewestFrames_15 : decode cX5_fewestFrames 15 = .ok (.iload_n 2, 1) := by decide +kernel
theorem dX5_fewestFrames_16 : decode cX5_fewestFrames 16 = .ok (.if_icmp .gt 5, 3) := by decide +kernel
theorem dX5_fewestFrames_19 : decode cX5_fewestFrames 19 = .ok (.iload_n 3, 1) := by decide +kernel
theorem dX5_fewestFrames_20 : decode cX5_fewestFrames 20 = .ok (.ireturn, 1) := by decide +kernel
theorem dX5_fewestFrames_21 : decode cX5_fewestFrames 21 = .ok (.iinc 3 1, 3) := by decide +kernel
theorem dX5_fewestFrames_24 : decode cX5_fewestFrames 24 = .ok (.goto (-22), 3) := by decide +kernel
theorem dX5_fewestFrames_27 : decode cX5_fewestFrames 27 = .ok (.iconst (-1), 1) := by decide +kernel
theorem dX5_fewestFrames_28 : decode cX5_fewestFrames 28 = .ok (.ireturn, 1) := by decide +kernel
theorem dX5_lookUp_0 : decode cX5_lookUp 0 = .ok (.aload_n 0, 1) := by decide +kernel
theorem dX5_lookUp_1 : decode cX5_lookUp 1 = .ok (.aload_n 1, 1) := by decide +kernel
theorem dX5_lookUp_2 : decode cX5_lookUp 2 = .ok (.invokevirtual 56, 3) := by decide +kernel
theorem dX5_lookUp_5 : decode cX5_lookUp 5 = .ok (.putfield 35, 3) := by decide +kernel
theorem dX5_lookUp_8 : decode cX5_lookUp 8 = .ok (.iconst 0, 1) := by decide +kernel
theorem dX5_lookUp_9 : decode cX5_lookUp 9 = .ok (.istore_n 2, 1) := by decide +kernel
theorem dX5_lookUp_10 : decode cX5_lookUp 10 = .ok (.iload_n 2, 1) := by decide +kernel
theorem dX5_lookUp_11 : decode cX5_lookUp 11 = .ok (.bipush 48, 2) := by decide +kernel
theorem dX5_lookUp_13 : decode cX5_lookUp 13 = .ok (.if_icmp .ge 17, 3) := by decide +kernel
theorem dX5_lookUp_16 : decode cX5_lookUp 16 = .ok (.aload_n 0, 1) := by decide +kernel
theorem dX5_lookUp_17 : decode cX5_lookUp 17 = .ok (.getfield 24, 3) := by decide +kernel
theorem dX5_lookUp_20 : decode cX5_lookUp 20 = .ok (.iload_n 2, 1) := by decide +kernel
theorem dX5_lookUp_21 : decode cX5_lookUp 21 = .ok (.bipush 64, 2) := by decide +kernel
theorem dX5_lookUp_23 : decode cX5_lookUp 23 = .ok (.iastore, 1) := by decide +kernel
theorem dX5_lookUp_24 : decode cX5_lookUp 24 = .ok (.iinc 2 1, 3) := by decide +kernel
theorem dX5_lookUp_27 : decode cX5_lookUp 27 = .ok (.goto (-17), 3) := by decide +kernel
theorem dX5_lookUp_30 : decode cX5_lookUp 30 = .ok (.aload_n 0, 1) := by decide +kernel
theorem dX5_lookUp_31 : decode cX5_lookUp 31 = .ok (.getfield 35, 3) := by decide +kernel
theorem dX5_lookUp_34 : decode cX5_lookUp 34 = .ok (.iconst 1, 1) := by decide +kernel
theorem dX5_lookUp_35 : decode cX5_lookUp 35 = .ok (.isub, 1) := by decide +kernel
theorem dX5_lookUp_36 : decode cX5_lookUp 36 = .ok (.istore_n 2, 1) := by decide +kernel
theorem dX5_lookUp_37 : decode cX5_lookUp 37 = .ok (.iload_n 2, 1) := by decide +kernel
theorem dX5_lookUp_38 : decode cX5_lookUp 38 = .ok (.ifCond .lt 56, 3) := by decide +kernel
theorem dX5_lookUp_41 : decode cX5_lookUp 41 = .ok (.aload_n 0, 1) := by decide +kernel
theorem dX5_lookUp_42 : decode cX5_lookUp 42 = .ok (.getfield 18, 3) := by decide +kernel
theorem dX5_lookUp_45 : decode cX5_lookUp 45 = .ok (.iload_n 2, 1) := by decide +kernel
theorem dX5_lookUp_46 : decode cX5_lookUp 46 = .ok (.aload_n 1, 1) := by decide +kernel
theorem dX5_lookUp_47 : decode cX5_lookUp 47 = .ok (.aload_n 0, 1) := by decide +kernel
theorem dX5_lookUp_48 : decode cX5_lookUp 48 = .ok (.getfield 35, 3) := by decide +kernel
theorem dX5_lookUp_51 : decode cX5_lookUp 51 = .ok (.iconst 1, 1) := by decide +kernel
theorem dX5_lookUp_52 : decode cX5_lookUp 52 = .ok (.isub, 1) := by decide +kernel
theorem dX5_lookUp_53 : decode cX5_lookUp 53 = .ok (.iload_n 2, 1) := by decide +kernel
theorem dX5_lookUp_54 : decode cX5_lookUp 54 = .ok (.isub, 1) := by decide +kernel
theorem dX5_lookUp_55 : decode cX5_lookUp 55 = .ok (.invokevirtual 61, 3) := by decide +kernel
theorem dX5_lookUp_58 : decode cX5_lookUp 58 = .ok (.iastore, 1) := by decide +kernel
theorem dX5_lookUp_59 : decode cX5_lookUp 59 = .ok (.aload_n 0, 1) := by decide +kernel
theorem dX5_lookUp_60 : decode cX5_lookUp 60 = .ok (.getfield 21, 3) := by decide +kernel
theorem dX5_lookUp_63 : decode cX5_lookUp 63 = .ok (.iload_n 2, 1) := by decide +kernel
theorem dX5_lookUp_64 : decode cX5_lookUp 64 = .ok (.aload_n 0, 1) := by decide +kernel
theorem dX5_lookUp_65 : decode cX5_lookUp 65 = .ok (.getfield 24, 3) := by decide +kernel
theorem dX5_lookUp_68 : decode cX5_lookUp 68 = .ok (.aload_n 0, 1) := by decide +kernel
theorem dX5_lookUp_69 : decode cX5_lookUp 69 = .ok (.getfield 18, 3) := by decide +kernel
theorem dX5_lookUp_72 : decode cX5_lookUp 72 = .ok (.iload_n 2, 1) := by decide +kernel
theorem dX5_lookUp_73 : decode cX5_lookUp 73 = .ok (.iaload, 1) := by decide +kernel
theorem dX5_lookUp_74 : decode cX5_lookUp 74 = .ok (.iaload, 1) := by decide +kernel
theorem dX5_lookUp_75 : decode cX5_lookUp 75 = .ok (.iastore, 1) := by decide +kernel
theorem dX5_lookUp_76 : decode cX5_lookUp 76 = .ok (.aload_n 0, 1) := by decide +kernel
theorem dX5_lookUp_77 : decode cX5_lookUp 77 = .ok (.getfield 24, 3) := by decide +kernel
theorem dX5_lookUp_80 : decode cX5_lookUp 80 = .ok (.aload_n 0, 1) := by decide +kernel
theorem dX5_lookUp_81 : decode cX5_lookUp 81 = .ok (.getfield 18, 3) := by decide +kernel
theorem dX5_lookUp_84 : decode cX5_lookUp 84 = .ok (.iload_n 2, 1) := by decide +kernel
theorem dX5_lookUp_85 : decode cX5_lookUp 85 = .ok (.iaload, 1) := by decide +kernel
theorem dX5_lookUp_86 : decode cX5_lookUp 86 = .ok (.iload_n 2, 1) := by decide +kernel
theorem dX5_lookUp_87 : decode cX5_lookUp 87 = .ok (.iastore, 1) := by decide +kernel
theorem dX5_lookUp_88 : decode cX5_lookUp 88 = .ok (.iinc 2 (-1), 3) := by decide +kernel
theorem dX5_lookUp_91 : decode cX5_lookUp 91 = .ok (.goto (-54), 3) := by decide +kernel
theorem dX5_lookUp_94 : decode cX5_lookUp 94 = .ok (.return_, 1) := by decide +kernel
theorem dX5_frameWith_0 : decode cX5_frameWith 0 = .ok (.iconst 0, 1) := by decide +kernel
theorem dX5_frameWith_1 : decode cX5_frameWith 1 = .ok (.istore_n 2, 1) := by decide +kernel
theorem dX5_frameWith_2 : decode cX5_frameWith 2 = .ok (.iload_n 2, 1) := by decide +kernel
theorem dX5_frameWith_3 : decode cX5_frameWith 3 = .ok (.aload_n 0, 1) := by decide +kernel
theorem dX5_frameWith_4 : decode cX5_frameWith 4 = .ok (.getfield 31, 3) := by decide +kernel
theorem dX5_frameWith_7 : decode cX5_frameWith 7 = .ok (.if_icmp .ge 21, 3) := by decide +kernel
theorem dX5_frameWith_10 : decode cX5_frameWith 10 = .ok (.aload_n 0, 1) := by decide +kernel
theorem dX5_frameWith_11 : decode cX5_frameWith 11 = .ok (.getfield 9, 3) := by decide +kernel
theorem dX5_frameWith_14 : decode cX5_frameWith 14 = .ok (.iload_n 2, 1) := by decide +kernel
theorem dX5_frameWith_15 : decode cX5_frameWith 15 = .ok (.iaload, 1) := by decide +kernel
theorem dX5_frameWith_16 : decode cX5_frameWith 16 = .ok (.iload_n 1, 1) := by decide +kernel
theorem dX5_frameWith_17 : decode cX5_frameWith 17 = .ok (.if_icmp .ne 5, 3) := by decide +kernel
theorem dX5_frameWith_20 : decode cX5_frameWith 20 = .ok (.iload_n 2, 1) := by decide +kernel
theorem dX5_frameWith_21 : decode cX5_frameWith 21 = .ok (.ireturn, 1) := by decide +kernel
theorem dX5_frameWith_22 : decode cX5_frameWith 22 = .ok (.iinc 2 1, 3) := by decide +kernel
theorem dX5_frameWith_25 : decode cX5_frameWith 25 = .ok (.goto (-23), 3) := by decide +kernel
theorem dX5_frameWith_28 : decode cX5_frameWith 28 = .ok (.iconst (-1), 1) := by decide +kernel
theorem dX5_frameWith_29 : decode cX5_frameWith 29 = .ok (.ireturn, 1) := by decide +kernel
theorem dX5_leastRanked_0 : decode cX5_leastRanked 0 = .ok (.iconst 0, 1) := by decide +kernel
theorem dX5_leastRanked_1 : decode cX5_leastRanked 1 = .ok (.istore_n 1, 1) := by decide +kernel
theorem dX5_leastRanked_2 : decode cX5_leastRanked 2 = .ok (.iconst 1, 1) := by decide +kernel
theorem dX5_leastRanked_3 : decode cX5_leastRanked 3 = .ok (.istore_n 2, 1) := by decide +kernel
theorem dX5_leastRanked_4 : decode cX5_leastRanked 4 = .ok (.iload_n 2, 1) := by decide +kernel
theorem dX5_leastRanked_5 : decode cX5_leastRanked 5 = .ok (.aload_n 0, 1) := by decide +kernel
theorem dX5_leastRanked_6 : decode cX5_leastRanked 6 = .ok (.getfield 31, 3) := by decide +kernel
theorem dX5_leastRanked_9 : decode cX5_leastRanked 9 = .ok (.if_icmp .ge 66, 3) := by decide +kernel
theorem dX5_leastRanked_12 : decode cX5_leastRanked 12 = .ok (.aload_n 0, 1) := by decide +kernel
theorem dX5_leastRanked_13 : decode cX5_leastRanked 13 = .ok (.getfield 15, 3) := by decide +kernel
theorem dX5_leastRanked_16 : decode cX5_leastRanked 16 = .ok (.iload_n 2, 1) := by decide +kernel
theorem dX5_leastRanked_17 : decode cX5_leastRanked 17 = .ok (.iaload, 1) := by decide +kernel
theorem dX5_leastRanked_18 : decode cX5_leastRanked 18 = .ok (.aload_n 0, 1) := by decide +kernel
theorem dX5_leastRanked_19 : decode cX5_leastRanked 19 = .ok (.getfield 15, 3) := by decide +kernel
theorem dX5_leastRanked_22 : decode cX5_leastRanked 22 = .ok (.iload_n 1, 1) := by decide +kernel
theorem dX5_leastRanked_23 : decode cX5_leastRanked 23 = .ok (.iaload, 1) := by decide +kernel
theorem dX5_leastRanked_24 : decode cX5_leastRanked 24 = .ok (.if_icmp .ne 22, 3) := by decide +kernel
theorem dX5_leastRanked_27 : decode cX5_leastRanked 27 = .ok (.aload_n 0, 1) := by decide +kernel
theorem dX5_leastRanked_28 : decode cX5_leastRanked 28 = .ok (.getfield 9, 3) := by decide +kernel
theorem dX5_leastRanked_31 : decode cX5_leastRanked 31 = .ok (.iload_n 2, 1) := by decide +kernel
theorem dX5_leastRanked_32 : decode cX5_leastRanked 32 = .ok (.iaload, 1) := by decide +kernel
theorem dX5_leastRanked_33 : decode cX5_leastRanked 33 = .ok (.aload_n 0, 1) := by decide +kernel
theorem dX5_leastRanked_34 : decode cX5_leastRanked 34 = .ok (.getfield 9, 3) := by decide +kernel
theorem dX5_leastRanked_37 : decode cX5_leastRanked 37 = .ok (.iload_n 1, 1) := by decide +kernel
theorem dX5_leastRanked_38 : decode cX5_leastRanked 38 = .ok (.iaload, 1) := by decide +kernel
theorem dX5_leastRanked_39 : decode cX5_leastRanked 39 = .ok (.if_icmp .ge 7, 3) := by decide +kernel
theorem dX5_leastRanked_42 : decode cX5_leastRanked 42 = .ok (.iconst 1, 1) := by decide +kernel
theorem dX5_leastRanked_43 : decode cX5_leastRanked 43 = .ok (.goto 4, 3) := by decide +kernel
theorem dX5_leastRanked_46 : decode cX5_leastRanked 46 = .ok (.iconst 0, 1) := by decide +kernel
theorem dX5_leastRanked_47 : decode cX5_leastRanked 47 = .ok (.istore_n 3, 1) := by decide +kernel
theorem dX5_leastRanked_48 : decode cX5_leastRanked 48 = .ok (.aload_n 0, 1) := by decide +kernel
theorem dX5_leastRanked_49 : decode cX5_leastRanked 49 = .ok (.getfield 15, 3) := by decide +kernel
theorem dX5_leastRanked_52 : decode cX5_leastRanked 52 = .ok (.iload_n 2, 1) := by decide +kernel
theorem dX5_leastRanked_53 : decode cX5_leastRanked 53 = .ok (.iaload, 1) := by decide +kernel
theorem dX5_leastRanked_54 : decode cX5_leastRanked 54 = .ok (.aload_n 0, 1) := by decide +kernel
theorem dX5_leastRanked_55 : decode cX5_leastRanked 55 = .ok (.getfield 15, 3) := by decide +kernel
theorem dX5_leastRanked_58 : decode cX5_leastRanked 58 = .ok (.iload_n 1, 1) := by decide +kernel
theorem dX5_leastRanked_59 : decode cX5_leastRanked 59 = .ok (.iaload, 1) := by decide +kernel
theorem dX5_leastRanked_60 : decode cX5_leastRanked 60 = .ok (.if_icmp .lt 7, 3) := by decide +kernel
theorem dX5_leastRanked_63 : decode cX5_leastRanked 63 = .ok (.iload_n 3, 1) := by decide +kernel
theorem dX5_leastRanked_64 : decode cX5_leastRanked 64 = .ok (.ifCond .eq 5, 3) := by decide +kernel
theorem dX5_leastRanked_67 : decode cX5_leastRanked 67 = .ok (.iload_n 2, 1) := by decide +kernel
theorem dX5_leastRanked_68 : decode cX5_leastRanked 68 = .ok (.istore_n 1, 1) := by decide +kernel
theorem dX5_leastRanked_69 : decode cX5_leastRanked 69 = .ok (.iinc 2 1, 3) := by decide +kernel
theorem dX5_leastRanked_72 : decode cX5_leastRanked 72 = .ok (.goto (-68), 3) := by decide +kernel
theorem dX5_leastRanked_75 : decode cX5_leastRanked 75 = .ok (.iload_n 1, 1) := by decide +kernel
theorem dX5_leastRanked_76 : decode cX5_leastRanked 76 = .ok (.ireturn, 1) := by decide +kernel
theorem dX6_init_0 : decode cX6_init 0 = .ok (.aload_n 0, 1) := by decide +kernel
theorem dX6_init_1 : decode cX6_init 1 = .ok (.invokespecial 3, 3) := by decide +kernel
theorem dX6_init_4 : decode cX6_init 4 = .ok (.aload_n 0, 1) := by decide +kernel
theorem dX6_init_5 : decode cX6_init 5 = .ok (.iconst 3, 1) := by decide +kernel
theorem dX6_init_6 : decode cX6_init 6 = .ok (.newarray .int, 2) := by decide +kernel
theorem dX6_init_8 : decode cX6_init 8 = .ok (.putfield 9, 3) := by decide +kernel
theorem dX6_init_11 : decode cX6_init 11 = .ok (.aload_n 0, 1) := by decide +kernel
theorem dX6_init_12 : decode cX6_init 12 = .ok (.aload_n 1, 1) := by decide +kernel
theorem dX6_init_13 : decode cX6_init 13 = .ok (.putfield 15, 3) := by decide +kernel
theorem dX6_init_16 : decode cX6_init 16 = .ok (.return_, 1) := by decide +kernel
theorem dX6_runOn_0 : decode cX6_runOn 0 = .ok (.aload_n 0, 1) := by decide +kernel
theorem dX6_runOn_1 : decode cX6_runOn 1 = .ok (.getfield 15, 3) := by decide +kernel
theorem dX6_runOn_4 : decode cX6_runOn 4 = .ok (.invokevirtual 19, 3) := by decide +kernel
theorem dX6_runOn_7 : decode cX6_runOn 7 = .ok (.iconst 0, 1) := by decide +kernel
theorem dX6_runOn_8 : decode cX6_runOn 8 = .ok (.istore_n 2, 1) := by decide +kernel
theorem dX6_runOn_9 : decode cX6_runOn 9 = .ok (.iload_n 2, 1) := by decide +kernel
theorem dX6_runOn_10 : decode cX6_runOn 10 = .ok (.sipush 400, 3) := by decide +kernel
theorem dX6_runOn_13 : decode cX6_runOn 13 = .ok (.if_icmp .gt 92, 3) := by decide +kernel
theorem dX6_runOn_16 : decode cX6_runOn 16 = .ok (.aload_n 0, 1) := by decide +kernel
theorem dX6_runOn_17 : decode cX6_runOn 17 = .ok (.getfield 15, 3) := by decide +kernel
theorem dX6_runOn_20 : decode cX6_runOn 20 = .ok (.getfield 24, 3) := by decide +kernel
theorem dX6_runOn_23 : decode cX6_runOn 23 = .ok (.ifCond .ne 5, 3) := by decide +kernel
theorem dX6_runOn_26 : decode cX6_runOn 26 = .ok (.iload_n 2, 1) := by decide +kernel
theorem dX6_runOn_27 : decode cX6_runOn 27 = .ok (.ireturn, 1) := by decide +kernel
theorem dX6_runOn_28 : decode cX6_runOn 28 = .ok (.aload_n 0, 1) := by decide +kernel
theorem dX6_runOn_29 : decode cX6_runOn 29 = .ok (.getfield 15, 3) := by decide +kernel
theorem dX6_runOn_32 : decode cX6_runOn 32 = .ok (.getfield 28, 3) := by decide +kernel
theorem dX6_runOn_35 : decode cX6_runOn 35 = .ok (.istore_n 3, 1) := by decide +kernel
theorem dX6_runOn_36 : decode cX6_runOn 36 = .ok (.aload_n 0, 1) := by decide +kernel
theorem dX6_runOn_37 : decode cX6_runOn 37 = .ok (.invokevirtual 31, 3) := by decide +kernel
theorem dX6_runOn_40 : decode cX6_runOn 40 = .ok (.istore 4, 2) := by decide +kernel
theorem dX6_runOn_42 : decode cX6_runOn 42 = .ok (.iload 4, 2) := by decide +kernel
theorem dX6_runOn_44 : decode cX6_runOn 44 = .ok (.iconst (-1), 1) := by decide +kernel
theorem dX6_runOn_45 : decode cX6_runOn 45 = .ok (.if_icmp .eq 16, 3) := by decide +kernel
theorem dX6_runOn_48 : decode cX6_runOn 48 = .ok (.aload_n 0, 1) := by decide +kernel
theorem dX6_runOn_49 : decode cX6_runOn 49 = .ok (.getstatic 35, 3) := by decide +kernel
theorem dX6_runOn_52 : decode cX6_runOn 52 = .ok (.iload 4, 2) := by decide +kernel
theorem dX6_runOn_54 : decode cX6_runOn 54 = .ok (.iaload, 1) := by decide +kernel
theorem dX6_runOn_55 : decode cX6_runOn 55 = .ok (.invokevirtual 38, 3) := by decide +kernel
theorem dX6_runOn_58 : decode cX6_runOn 58 = .ok (.ifCond .ne 13, 3) := by decide +kernel
theorem dX6_runOn_61 : decode cX6_runOn 61 = .ok (.iconst (-1), 1) := by decide +kernel
theorem dX6_runOn_62 : decode cX6_runOn 62 = .ok (.aload_n 0, 1) := by decide +kernel
theorem dX6_runOn_63 : decode cX6_runOn 63 = .ok (.getfield 15, 3) := by decide +kernel
theorem dX6_runOn_66 : decode cX6_runOn 66 = .ok (.getfield 28, 3) := by decide +kernel
theorem dX6_runOn_69 : decode cX6_runOn 69 = .ok (.isub, 1) := by decide +kernel
theorem dX6_runOn_70 : decode cX6_runOn 70 = .ok (.ireturn, 1) := by decide +kernel
theorem dX6_runOn_71 : decode cX6_runOn 71 = .ok (.aload_n 0, 1) := by decide +kernel
theorem dX6_runOn_72 : decode cX6_runOn 72 = .ok (.aload_n 1, 1) := by decide +kernel
theorem dX6_runOn_73 : decode cX6_runOn 73 = .ok (.iload 4, 2) := by decide +kernel
theorem dX6_runOn_75 : decode cX6_runOn 75 = .ok (.invokevirtual 42, 3) := by decide +kernel
theorem dX6_runOn_78 : decode cX6_runOn 78 = .ok (.ifCond .eq 7, 3) := by decide +kernel
theorem dX6_runOn_81 : decode cX6_runOn 81 = .ok (.iconst (-1), 1) := by decide +kernel
theorem dX6_runOn_82 : decode cX6_runOn 82 = .ok (.iload_n 3, 1) := by decide +kernel
theorem dX6_runOn_83 : decode cX6_runOn 83 = .ok (.isub, 1) := by decide +kernel
theorem dX6_runOn_84 : decode cX6_runOn 84 = .ok (.ireturn, 1) := by decide +kernel
theorem dX6_runOn_85 : decode cX6_runOn 85 = .ok (.aload_n 0, 1) := by decide +kernel
theorem dX6_runOn_86 : decode cX6_runOn 86 = .ok (.aload_n 1, 1) := by decide +kernel
theorem dX6_runOn_87 : decode cX6_runOn 87 = .ok (.iload 4, 2) := by decide +kernel
theorem dX6_runOn_89 : decode cX6_runOn 89 = .ok (.invokevirtual 46, 3) := by decide +kernel
theorem dX6_runOn_92 : decode cX6_runOn 92 = .ok (.aload_n 0, 1) := by decide +kernel
theorem dX6_runOn_93 : decode cX6_runOn 93 = .ok (.getfield 15, 3) := by decide +kernel
theorem dX6_runOn_96 : decode cX6_runOn 96 = .ok (.invokevirtual 50, 3) := by decide +kernel
theorem dX6_runOn_99 : decode cX6_runOn 99 = .ok (.iinc 2 1, 3) := by decide +kernel
theorem dX6_runOn_102 : decode cX6_runOn 102 = .ok (.goto (-93), 3) := by decide +kernel
theorem dX6_runOn_105 : decode cX6_runOn 105 = .ok (.iconst (-1), 1) := by decide +kernel
theorem dX6_runOn_106 : decode cX6_runOn 106 = .ok (.aload_n 0, 1) := by decide +kernel
theorem dX6_runOn_107 : decode cX6_runOn 107 = .ok (.getfield 15, 3) := by decide +kernel
theorem dX6_runOn_110 : decode cX6_runOn 110 = .ok (.getfield 28, 3) := by decide +kernel
theorem dX6_runOn_113 : decode cX6_runOn 113 = .ok (.isub, 1) := by decide +kernel
theorem dX6_runOn_114 : decode cX6_runOn 114 = .ok (.ireturn, 1) := by decide +kernel
theorem dX6_operationHere_0 : decode cX6_operationHere 0 = .ok (.aload_n 0, 1) := by decide +kernel
theorem dX6_operationHere_1 : decode cX6_operationHere 1 = .ok (.getfield 15, 3) := by decide +kernel
theorem dX6_operationHere_4 : decode cX6_operationHere 4 = .ok (.ldc 53, 2) := by decide +kernel
theorem dX6_operationHere_6 : decode cX6_operationHere 6 = .ok (.invokevirtual 55, 3) := by decide +kernel
theorem dX6_operationHere_9 : decode cX6_operationHere 9 = .ok (.ifCond .eq 5, 3) := by decide +kernel
theorem dX6_operationHere_12 : decode cX6_operationHere 12 = .ok (.iconst 0, 1) := by decide +kernel
theorem dX6_operationHere_13 : decode cX6_operationHere 13 = .ok (.ireturn, 1) := by decide +kernel
theorem dX6_operationHere_14 : decode cX6_operationHere 14 = .ok (.aload_n 0, 1) := by decide +kernel
theorem dX6_operationHere_15 : decode cX6_operationHere 15 = .ok (.getfield 15, 3) := by decide +kernel
theorem dX6_operationHere_18 : decode cX6_operationHere 18 = .ok (.ldc 59, 2) := by decide +kernel
theorem dX6_operationHere_20 : decode cX6_operationHere 20 = .ok (.invokevirtual 55, 3) := by decide +kernel
theorem dX6_operationHere_23 : decode cX6_operationHere 23 = .ok (.ifCond .eq 5, 3) := by decide +kernel
theorem dX6_operationHere_26 : decode cX6_operationHere 26 = .ok (.iconst 1, 1) := by decide +kernel
theorem dX6_operationHere_27 : decode cX6_operationHere 27 = .ok (.ireturn, 1) := by decide +kernel
theorem dX6_operationHere_28 : decode cX6_operationHere 28 = .ok (.aload_n 0, 1) := by decide +kernel
theorem dX6_operationHere_29 : decode cX6_operationHere 29 = .ok (.getfield 15, 3) := by decide +kernel
theorem dX6_operationHere_32 : decode cX6_operationHere 32 = .ok (.ldc 61, 2) := by decide +kernel
theorem dX6_operationHere_34 : decode cX6_operationHere 34 = .ok (.invokevirtual 55, 3) := by decide +kernel
theorem dX6_operationHere_37 : decode cX6_operationHere 37 = .ok (.ifCond .eq 5, 3) := by decide +kernel
theorem dX6_operationHere_40 : decode cX6_operationHere 40 = .ok (.iconst 2, 1) := by decide +kernel
theorem dX6_operationHere_41 : decode cX6_operationHere 41 = .ok (.ireturn, 1) := by decide +kernel
theorem dX6_operationHere_42 : decode cX6_operationHere 42 = .ok (.aload_n 0, 1) := by decide +kernel
theorem dX6_operationHere_43 : decode cX6_operationHere 43 = .ok (.getfield 15, 3) := by decide +kernel
theorem dX6_operationHere_46 : decode cX6_operationHere 46 = .ok (.ldc 63, 2) := by decide +kernel
theorem dX6_operationHere_48 : decode cX6_operationHere 48 = .ok (.invokevirtual 55, 3) := by decide +kernel
theorem dX6_operationHere_51 : decode cX6_operationHere 51 = .ok (.ifCond .eq 5, 3) := by decide +kernel
theorem dX6_operationHere_54 : decode cX6_operationHere 54 = .ok (.iconst 3, 1) := by decide +kernel
theorem dX6_operationHere_55 : decode cX6_operationHere 55 = .ok (.ireturn, 1) := by decide +kernel
theorem dX6_operationHere_56 : decode cX6_operationHere 56 = .ok (.aload_n 0, 1) := by decide +kernel
theorem dX6_operationHere_57 : decode cX6_operationHere 57 = .ok (.getfield 15, 3) := by decide +kernel
theorem dX6_operationHere_60 : decode cX6_operationHere 60 = .ok (.ldc 65, 2) := by decide +kernel
theorem dX6_operationHere_62 : decode cX6_operationHere 62 = .ok (.invokevirtual 55, 3) := by decide +kernel
theorem dX6_operationHere_65 : decode cX6_operationHere 65 = .ok (.ifCond .eq 5, 3) := by decide +kernel
theorem dX6_operationHere_68 : decode cX6_operationHere 68 = .ok (.iconst 4, 1) := by decide +kernel
theorem dX6_operationHere_69 : decode cX6_operationHere 69 = .ok (.ireturn, 1) := by decide +kernel
theorem dX6_operationHere_70 : decode cX6_operationHere 70 = .ok (.aload_n 0, 1) := by decide +kernel
theorem dX6_operationHere_71 : decode cX6_operationHere 71 = .ok (.getfield 15, 3) := by decide +kernel
theorem dX6_operationHere_74 : decode cX6_operationHere 74 = .ok (.ldc 67, 2) := by decide +kernel
theorem dX6_operationHere_76 : decode cX6_operationHere 76 = .ok (.invokevirtual 55, 3) := by decide +kernel
theorem dX6_operationHere_79 : decode cX6_operationHere 79 = .ok (.ifCond .eq 5, 3) := by decide +kernel
theorem dX6_operationHere_82 : decode cX6_operationHere 82 = .ok (.iconst 5, 1) := by decide +kernel
theorem dX6_operationHere_83 : decode cX6_operationHere 83 = .ok (.ireturn, 1) := by decide +kernel
theorem dX6_operationHere_84 : decode cX6_operationHere 84 = .ok (.aload_n 0, 1) := by decide +kernel
theorem dX6_operationHere_85 : decode cX6_operationHere 85 = .ok (.getfield 15, 3) := by decide +kernel
theorem dX6_operationHere_88 : decode cX6_operationHere 88 = .ok (.ldc 69, 2) := by decide +kernel
theorem dX6_operationHere_90 : decode cX6_operationHere 90 = .ok (.invokevirtual 55, 3) := by decide +kernel
theorem dX6_operationHere_93 : decode cX6_operationHere 93 = .ok (.ifCond .eq 6, 3) := by decide +kernel
theorem dX6_operationHere_96 : decode cX6_operationHere 96 = .ok (.bipush 6, 2) := by decide +kernel
theorem dX6_operationHere_98 : decode cX6_operationHere 98 = .ok (.ireturn, 1) := by decide +kernel
theorem dX6_operationHere_99 : decode cX6_operationHere 99 = .ok (.aload_n 0, 1) := by decide +kernel
theorem dX6_operationHere_100 : decode cX6_operationHere 100 = .ok (.getfield 15, 3) := by decide +kernel
theorem dX6_operationHere_103 : decode cX6_operationHere 103 = .ok (.ldc 71, 2) := by decide +kernel
theorem dX6_operationHere_105 : decode cX6_operationHere 105 = .ok (.invokevirtual 55, 3) := by decide +kernel
theorem dX6_operationHere_108 : decode cX6_operationHere 108 = .ok (.ifCond .eq 6, 3) := by decide +kernel
theorem dX6_operationHere_111 : decode cX6_operationHere 111 = .ok (.bipush 7, 2) := by decide +kernel
theorem dX6_operationHere_113 : decode cX6_operationHere 113 = .ok (.ireturn, 1) := by decide +kernel
theorem dX6_operationHere_114 : decode cX6_operationHere 114 = .ok (.aload_n 0, 1) := by decide +kernel
theorem dX6_operationHere_115 : decode cX6_operationHere 115 = .ok (.getfield 15, 3) := by decide +kernel
theorem dX6_operationHere_118 : decode cX6_operationHere 118 = .ok (.ldc 73, 2) := by decide +kernel
theorem dX6_operationHere_120 : decode cX6_operationHere 120 = .ok (.invokevirtual 55, 3) := by decide +kernel
theorem dX6_operationHere_123 : decode cX6_operationHere 123 = .ok (.ifCond .eq 6, 3) := by decide +kernel
theorem dX6_operationHere_126 : decode cX6_operationHere 126 = .ok (.bipush 8, 2) := by decide +kernel
theorem dX6_operationHere_128 : decode cX6_operationHere 128 = .ok (.ireturn, 1) := by decide +kernel
theorem dX6_operationHere_129 : decode cX6_operationHere 129 = .ok (.iconst (-1), 1) := by decide +kernel
theorem dX6_operationHere_130 : decode cX6_operationHere 130 = .ok (.ireturn, 1) := by decide +kernel
theorem dX6_readOperands_0 : decode cX6_readOperands 0 = .ok (.aload_n 0, 1) := by decide +kernel
theorem dX6_readOperands_1 : decode cX6_readOperands 1 = .ok (.getfield 15, 3) := by decide +kernel
theorem dX6_readOperands_4 : decode cX6_readOperands 4 = .ok (.invokevirtual 50, 3) := by decide +kernel
theorem dX6_readOperands_7 : decode cX6_readOperands 7 = .ok (.iconst 0, 1) := by decide +kernel
theorem dX6_readOperands_8 : decode cX6_readOperands 8 = .ok (.istore_n 2, 1) := by decide +kernel
theorem dX6_readOperands_9 : decode cX6_readOperands 9 = .ok (.iload_n 2, 1) := by decide +kernel
theorem dX6_readOperands_10 : decode cX6_readOperands 10 = .ok (.iload_n 1, 1) := by decide +kernel
theorem dX6_readOperands_11 : decode cX6_readOperands 11 = .ok (.if_icmp .ge 58, 3) := by decide +kernel
theorem dX6_readOperands_14 : decode cX6_readOperands 14 = .ok (.iload_n 2, 1) := by decide +kernel
theorem dX6_readOperands_15 : decode cX6_readOperands 15 = .ok (.iconst 3, 1) := by decide +kernel
theorem dX6_readOperands_16 : decode cX6_readOperands 16 = .ok (.if_icmp .ge 53, 3) := by decide +kernel
theorem dX6_readOperands_19 : decode cX6_readOperands 19 = .ok (.aload_n 0, 1) := by decide +kernel
theorem dX6_readOperands_20 : decode cX6_readOperands 20 = .ok (.getfield 15, 3) := by decide +kernel
theorem dX6_readOperands_23 : decode cX6_readOperands 23 = .ok (.getfield 24, 3) := by decide +kernel
theorem dX6_readOperands_26 : decode cX6_readOperands 26 = .ok (.iconst 2, 1) := by decide +kernel
theorem dX6_readOperands_27 : decode cX6_readOperands 27 = .ok (.if_icmp .ne 14, 3) := by decide +kernel
theorem dX6_readOperands_30 : decode cX6_readOperands 30 = .ok (.aload_n 0, 1) := by decide +kernel
theorem dX6_readOperands_31 : decode cX6_readOperands 31 = .ok (.getfield 15, 3) := by decide +kernel
theorem dX6_readOperands_34 : decode cX6_readOperands 34 = .ok (.invokevirtual 75, 3) := by decide +kernel
theorem dX6_readOperands_37 : decode cX6_readOperands 37 = .ok (.iconst (-1), 1) := by decide +kernel
theorem dX6_readOperands_38 : decode cX6_readOperands 38 = .ok (.if_icmp .ne 5, 3) := by decide +kernel
theorem dX6_readOperands_41 : decode cX6_readOperands 41 = .ok (.iconst 0, 1) := by decide +kernel
theorem dX6_readOperands_42 : decode cX6_readOperands 42 = .ok (.ireturn, 1) := by decide +kernel
theorem dX6_readOperands_43 : decode cX6_readOperands 43 = .ok (.aload_n 0, 1) := by decide +kernel
theorem dX6_readOperands_44 : decode cX6_readOperands 44 = .ok (.getfield 9, 3) := by decide +kernel
theorem dX6_readOperands_47 : decode cX6_readOperands 47 = .ok (.iload_n 2, 1) := by decide +kernel
theorem dX6_readOperands_48 : decode cX6_readOperands 48 = .ok (.aload_n 0, 1) := by decide +kernel
theorem dX6_readOperands_49 : decode cX6_readOperands 49 = .ok (.getfield 15, 3) := by decide +kernel
theorem dX6_readOperands_52 : decode cX6_readOperands 52 = .ok (.invokevirtual 75, 3) := by decide +kernel
theorem dX6_readOperands_55 : decode cX6_readOperands 55 = .ok (.iastore, 1) := by decide +kernel
theorem dX6_readOperands_56 : decode cX6_readOperands 56 = .ok (.aload_n 0, 1) := by decide +kernel
theorem dX6_readOperands_57 : decode cX6_readOperands 57 = .ok (.getfield 15, 3) := by decide +kernel
theorem dX6_readOperands_60 : decode cX6_readOperands 60 = .ok (.invokevirtual 50, 3) := by decide +kernel
theorem dX6_readOperands_63 : decode cX6_readOperands 63 = .ok (.iinc 2 1, 3) := by decide +kernel
theorem dX6_readOperands_66 : decode cX6_readOperands 66 = .ok (.goto (-57), 3) := by decide +kernel
theorem dX6_readOperands_69 : decode cX6_readOperands 69 = .ok (.aload_n 0, 1) := by decide +kernel
theorem dX6_readOperands_70 : decode cX6_readOperands 70 = .ok (.getfield 15, 3) := by decide +kernel
theorem dX6_readOperands_73 : decode cX6_readOperands 73 = .ok (.getfield 24, 3) := by decide +kernel
theorem dX6_readOperands_76 : decode cX6_readOperands 76 = .ok (.iconst 3, 1) := by decide +kernel
theorem dX6_readOperands_77 : decode cX6_readOperands 77 = .ok (.if_icmp .ne 7, 3) := by decide +kernel
theorem dX6_readOperands_80 : decode cX6_readOperands 80 = .ok (.iconst 1, 1) := by decide +kernel
theorem dX6_readOperands_81 : decode cX6_readOperands 81 = .ok (.goto 4, 3) := by decide +kernel
theorem dX6_readOperands_84 : decode cX6_readOperands 84 = .ok (.iconst 0, 1) := by decide +kernel
theorem dX6_readOperands_85 : decode cX6_readOperands 85 = .ok (.ireturn, 1) := by decide +kernel
theorem dX6_execute_0 : decode cX6_execute 0 = .ok (.aload_n 0, 1) := by decide +kernel
theorem dX6_execute_1 : decode cX6_execute 1 = .ok (.getfield 9, 3) := by decide +kernel
theorem dX6_execute_4 : decode cX6_execute 4 = .ok (.iconst 0, 1) := by decide +kernel
theorem dX6_execute_5 : decode cX6_execute 5 = .ok (.iaload, 1) := by decide +kernel
theorem dX6_execute_6 : decode cX6_execute 6 = .ok (.aload_n 0, 1) := by decide +kernel
theorem dX6_execute_7 : decode cX6_execute 7 = .ok (.getfield 9, 3) := by decide +kernel
theorem dX6_execute_10 : decode cX6_execute 10 = .ok (.iconst 1, 1) := by decide +kernel
theorem dX6_execute_11 : decode cX6_execute 11 = .ok (.iaload, 1) := by decide +kernel
theorem dX6_execute_12 : decode cX6_execute 12 = .ok (.invokestatic 78, 3) := by decide +kernel
theorem dX6_execute_15 : decode cX6_execute 15 = .ok (.istore_n 3, 1) := by decide +kernel
theorem dX6_execute_16 : decode cX6_execute 16 = .ok (.iload_n 2, 1) := by decide +kernel
theorem dX6_execute_17 : decode cX6_execute 17 = .ok (.tableswitch 137 0 7 #[47, 56, 71, 85, 99, 107, 115, 123], 47) := by decide +kernel
theorem dX6_execute_64 : decode cX6_execute 64 = .ok (.aload_n 1, 1) := by decide +kernel
theorem dX6_execute_65 : decode cX6_execute 65 = .ok (.iload_n 3, 1) := by decide +kernel
theorem dX6_execute_66 : decode cX6_execute 66 = .ok (.invokevirtual 82, 3) := by decide +kernel
theorem dX6_execute_69 : decode cX6_execute 69 = .ok (.pop, 1) := by decide +kernel
theorem dX6_execute_70 : decode cX6_execute 70 = .ok (.goto 90, 3) := by decide +kernel
theorem dX6_execute_73 : decode cX6_execute 73 = .ok (.aload_n 1, 1) := by decide +kernel
theorem dX6_execute_74 : decode cX6_execute 74 = .ok (.iload_n 3, 1) := by decide +kernel
theorem dX6_execute_75 : decode cX6_execute 75 = .ok (.aload_n 0, 1) := by decide +kernel
theorem dX6_execute_76 : decode cX6_execute 76 = .ok (.getfield 9, 3) := by decide +kernel
theorem dX6_execute_79 : decode cX6_execute 79 = .ok (.iconst 2, 1) := by decide +kernel
theorem dX6_execute_80 : decode cX6_execute 80 = .ok (.iaload, 1) := by decide +kernel
theorem dX6_execute_81 : decode cX6_execute 81 = .ok (.invokevirtual 87, 3) := by decide +kernel
theorem dX6_execute_84 : decode cX6_execute 84 = .ok (.pop, 1) := by decide +kernel
theorem dX6_execute_85 : decode cX6_execute 85 = .ok (.goto 75, 3) := by decide +kernel
theorem dX6_execute_88 : decode cX6_execute 88 = .ok (.aload_n 1, 1) := by decide +kernel
theorem dX6_execute_89 : decode cX6_execute 89 = .ok (.aload_n 0, 1) := by decide +kernel
theorem dX6_execute_90 : decode cX6_execute 90 = .ok (.getfield 9, 3) := by decide +kernel
theorem dX6_execute_93 : decode cX6_execute 93 = .ok (.iconst 0, 1) := by decide +kernel
theorem dX6_execute_94 : decode cX6_execute 94 = .ok (.iaload, 1) := by decide +kernel
theorem dX6_execute_95 : decode cX6_execute 95 = .ok (.invokevirtual 89, 3) := by decide +kernel
theorem dX6_execute_98 : decode cX6_execute 98 = .ok (.pop, 1) := by decide +kernel
theorem dX6_execute_99 : decode cX6_execute 99 = .ok (.goto 61, 3) := by decide +kernel
theorem dX6_execute_102 : decode cX6_execute 102 = .ok (.aload_n 1, 1) := by decide +kernel
theorem dX6_execute_103 : decode cX6_execute 103 = .ok (.aload_n 0, 1) := by decide +kernel
theorem dX6_execute_104 : decode cX6_execute 104 = .ok (.getfield 9, 3) := by decide +kernel
theorem dX6_execute_107 : decode cX6_execute 107 = .ok (.iconst 0, 1) := by decide +kernel
theorem dX6_execute_108 : decode cX6_execute 108 = .ok (.iaload, 1) := by decide +kernel
theorem dX6_execute_109 : decode cX6_execute 109 = .ok (.invokevirtual 91, 3) := by decide +kernel
theorem dX6_execute_112 : decode cX6_execute 112 = .ok (.pop, 1) := by decide +kernel
theorem dX6_execute_113 : decode cX6_execute 113 = .ok (.goto 47, 3) := by decide +kernel
theorem dX6_execute_116 : decode cX6_execute 116 = .ok (.aload_n 1, 1) := by decide +kernel
theorem dX6_execute_117 : decode cX6_execute 117 = .ok (.invokevirtual 93, 3) := by decide +kernel
theorem dX6_execute_120 : decode cX6_execute 120 = .ok (.pop, 1) := by decide +kernel
theorem dX6_execute_121 : decode cX6_execute 121 = .ok (.goto 39, 3) := by decide +kernel
theorem dX6_execute_124 : decode cX6_execute 124 = .ok (.aload_n 1, 1) := by decide +kernel
theorem dX6_execute_125 : decode cX6_execute 125 = .ok (.invokevirtual 95, 3) := by decide +kernel
theorem dX6_execute_128 : decode cX6_execute 128 = .ok (.pop, 1) := by decide +kernel
theorem dX6_execute_129 : decode cX6_execute 129 = .ok (.goto 31, 3) := by decide +kernel
theorem dX6_execute_132 : decode cX6_execute 132 = .ok (.aload_n 1, 1) := by decide +kernel
theorem dX6_execute_133 : decode cX6_execute 133 = .ok (.invokevirtual 97, 3) := by decide +kernel
theorem dX6_execute_136 : decode cX6_execute 136 = .ok (.pop, 1) := by decide +kernel
theorem dX6_execute_137 : decode cX6_execute 137 = .ok (.goto 23, 3) := by decide +kernel
theorem dX6_execute_140 : decode cX6_execute 140 = .ok (.aload_n 1, 1) := by decide +kernel
theorem dX6_execute_141 : decode cX6_execute 141 = .ok (.aload_n 0, 1) := by decide +kernel
theorem dX6_execute_142 : decode cX6_execute 142 = .ok (.getfield 9, 3) := by decide +kernel
theorem dX6_execute_145 : decode cX6_execute 145 = .ok (.iconst 0, 1) := by decide +kernel
theorem dX6_execute_146 : decode cX6_execute 146 = .ok (.iaload, 1) := by decide +kernel
theorem dX6_execute_147 : decode cX6_execute 147 = .ok (.invokevirtual 100, 3) := by decide +kernel
theorem dX6_execute_150 : decode cX6_execute 150 = .ok (.pop, 1) := by decide +kernel
theorem dX6_execute_151 : decode cX6_execute 151 = .ok (.goto 9, 3) := by decide +kernel
theorem dX6_execute_154 : decode cX6_execute 154 = .ok (.aload_n 1, 1) := by decide +kernel
theorem dX6_execute_155 : decode cX6_execute 155 = .ok (.iload_n 3, 1) := by decide +kernel
theorem dX6_execute_156 : decode cX6_execute 156 = .ok (.invokevirtual 103, 3) := by decide +kernel
theorem dX6_execute_159 : decode cX6_execute 159 = .ok (.pop, 1) := by decide +kernel
theorem dX6_execute_160 : decode cX6_execute 160 = .ok (.return_, 1) := by decide +kernel
theorem dX6_refusal_0 : decode cX6_refusal 0 = .ok (.iload_n 2, 1) := by decide +kernel
theorem dX6_refusal_1 : decode cX6_refusal 1 = .ok (.tableswitch 126 0 7 #[47, 64, 81, 92, 103, 108, 113, 115], 47) := by decide +kernel
theorem dX6_refusal_48 : decode cX6_refusal 48 = .ok (.aload_n 1, 1) := by decide +kernel
theorem dX6_refusal_49 : decode cX6_refusal 49 = .ok (.aload_n 0, 1) := by decide +kernel
theorem dX6_refusal_50 : decode cX6_refusal 50 = .ok (.getfield 9, 3) := by decide +kernel
theorem dX6_refusal_53 : decode cX6_refusal 53 = .ok (.iconst 0, 1) := by decide +kernel
theorem dX6_refusal_54 : decode cX6_refusal 54 = .ok (.iaload, 1) := by decide +kernel
theorem dX6_refusal_55 : decode cX6_refusal 55 = .ok (.aload_n 0, 1) := by decide +kernel
theorem dX6_refusal_56 : decode cX6_refusal 56 = .ok (.getfield 9, 3) := by decide +kernel
theorem dX6_refusal_59 : decode cX6_refusal 59 = .ok (.iconst 1, 1) := by decide +kernel
theorem dX6_refusal_60 : decode cX6_refusal 60 = .ok (.iaload, 1) := by decide +kernel
theorem dX6_refusal_61 : decode cX6_refusal 61 = .ok (.invokevirtual 105, 3) := by decide +kernel
theorem dX6_refusal_64 : decode cX6_refusal 64 = .ok (.ireturn, 1) := by decide +kernel
theorem dX6_refusal_65 : decode cX6_refusal 65 = .ok (.aload_n 1, 1) := by decide +kernel
theorem dX6_refusal_66 : decode cX6_refusal 66 = .ok (.aload_n 0, 1) := by decide +kernel
theorem dX6_refusal_67 : decode cX6_refusal 67 = .ok (.getfield 9, 3) := by decide +kernel
theorem dX6_refusal_70 : decode cX6_refusal 70 = .ok (.iconst 0, 1) := by decide +kernel
theorem dX6_refusal_71 : decode cX6_refusal 71 = .ok (.iaload, 1) := by decide +kernel
theorem dX6_refusal_72 : decode cX6_refusal 72 = .ok (.aload_n 0, 1) := by decide +kernel
theorem dX6_refusal_73 : decode cX6_refusal 73 = .ok (.getfield 9, 3) := by decide +kernel
theorem dX6_refusal_76 : decode cX6_refusal 76 = .ok (.iconst 1, 1) := by decide +kernel
theorem dX6_refusal_77 : decode cX6_refusal 77 = .ok (.iaload, 1) := by decide +kernel
theorem dX6_refusal_78 : decode cX6_refusal 78 = .ok (.invokevirtual 108, 3) := by decide +kernel
theorem dX6_refusal_81 : decode cX6_refusal 81 = .ok (.ireturn, 1) := by decide +kernel
theorem dX6_refusal_82 : decode cX6_refusal 82 = .ok (.aload_n 1, 1) := by decide +kernel
theorem dX6_refusal_83 : decode cX6_refusal 83 = .ok (.aload_n 0, 1) := by decide +kernel
theorem dX6_refusal_84 : decode cX6_refusal 84 = .ok (.getfield 9, 3) := by decide +kernel
theorem dX6_refusal_87 : decode cX6_refusal 87 = .ok (.iconst 0, 1) := by decide +kernel
theorem dX6_refusal_88 : decode cX6_refusal 88 = .ok (.iaload, 1) := by decide +kernel
theorem dX6_refusal_89 : decode cX6_refusal 89 = .ok (.invokevirtual 111, 3) := by decide +kernel
theorem dX6_refusal_92 : decode cX6_refusal 92 = .ok (.ireturn, 1) := by decide +kernel
theorem dX6_refusal_93 : decode cX6_refusal 93 = .ok (.aload_n 1, 1) := by decide +kernel
theorem dX6_refusal_94 : decode cX6_refusal 94 = .ok (.aload_n 0, 1) := by decide +kernel
theorem dX6_refusal_95 : decode cX6_refusal 95 = .ok (.getfield 9, 3) := by decide +kernel
theorem dX6_refusal_98 : decode cX6_refusal 98 = .ok (.iconst 0, 1) := by decide +kernel
theorem dX6_refusal_99 : decode cX6_refusal 99 = .ok (.iaload, 1) := by decide +kernel
theorem dX6_refusal_100 : decode cX6_refusal 100 = .ok (.invokevirtual 114, 3) := by decide +kernel
theorem dX6_refusal_103 : decode cX6_refusal 103 = .ok (.ireturn, 1) := by decide +kernel
theorem dX6_refusal_104 : decode cX6_refusal 104 = .ok (.aload_n 1, 1) := by decide +kernel
theorem dX6_refusal_105 : decode cX6_refusal 105 = .ok (.invokevirtual 117, 3) := by decide +kernel
theorem dX6_refusal_108 : decode cX6_refusal 108 = .ok (.ireturn, 1) := by decide +kernel
theorem dX6_refusal_109 : decode cX6_refusal 109 = .ok (.aload_n 1, 1) := by decide +kernel
theorem dX6_refusal_110 : decode cX6_refusal 110 = .ok (.invokevirtual 120, 3) := by decide +kernel
theorem dX6_refusal_113 : decode cX6_refusal 113 = .ok (.ireturn, 1) := by decide +kernel
theorem dX6_refusal_114 : decode cX6_refusal 114 = .ok (.iconst 0, 1) := by decide +kernel
theorem dX6_refusal_115 : decode cX6_refusal 115 = .ok (.ireturn, 1) := by decide +kernel
theorem dX6_refusal_116 : decode cX6_refusal 116 = .ok (.aload_n 1, 1) := by decide +kernel
theorem dX6_refusal_117 : decode cX6_refusal 117 = .ok (.aload_n 0, 1) := by decide +kernel
theorem dX6_refusal_118 : decode cX6_refusal 118 = .ok (.getfield 9, 3) := by decide +kernel
theorem dX6_refusal_121 : decode cX6_refusal 121 = .ok (.iconst 0, 1) := by decide +kernel
theorem dX6_refusal_122 : decode cX6_refusal 122 = .ok (.iaload, 1) := by decide +kernel
theorem dX6_refusal_123 : decode cX6_refusal 123 = .ok (.invokevirtual 123, 3) := by decide +kernel
theorem dX6_refusal_126 : decode cX6_refusal 126 = .ok (.ireturn, 1) := by decide +kernel
theorem dX6_refusal_127 : decode cX6_refusal 127 = .ok (.aload_n 1, 1) := by decide +kernel
theorem dX6_refusal_128 : decode cX6_refusal 128 = .ok (.aload_n 0, 1) := by decide +kernel
theorem dX6_refusal_129 : decode cX6_refusal 129 = .ok (.getfield 9, 3) := by decide +kernel
theorem dX6_refusal_132 : decode cX6_refusal 132 = .ok (.iconst 0, 1) := by decide +kernel
theorem dX6_refusal_133 : decode cX6_refusal 133 = .ok (.iaload, 1) := by decide +kernel
theorem dX6_refusal_134 : decode cX6_refusal 134 = .ok (.aload_n 0, 1) := by decide +kernel
theorem dX6_refusal_135 : decode cX6_refusal 135 = .ok (.getfield 9, 3) := by decide +kernel
theorem dX6_refusal_138 : decode cX6_refusal 138 = .ok (.iconst 1, 1) := by decide +kernel
theorem dX6_refusal_139 : decode cX6_refusal 139 = .ok (.iaload, 1) := by decide +kernel
theorem dX6_refusal_140 : decode cX6_refusal 140 = .ok (.invokevirtual 126, 3) := by decide +kernel
theorem dX6_refusal_143 : decode cX6_refusal 143 = .ok (.ireturn, 1) := by decide +kernel
theorem dX7_init_0 : decode cX7_init 0 = .ok (.aload_n 0, 1) := by decide +kernel
theorem dX7_init_1 : decode cX7_init 1 = .ok (.invokespecial 3, 3) := by decide +kernel
theorem dX7_init_4 : decode cX7_init 4 = .ok (.aload_n 0, 1) := by decide +kernel
theorem dX7_init_5 : decode cX7_init 5 = .ok (.bipush 48, 2) := by decide +kernel
theorem dX7_init_7 : decode cX7_init 7 = .ok (.newarray .int, 2) := by decide +kernel
theorem dX7_init_9 : decode cX7_init 9 = .ok (.putfield 9, 3) := by decide +kernel
theorem dX7_init_12 : decode cX7_init 12 = .ok (.aload_n 0, 1) := by decide +kernel
theorem dX7_init_13 : decode cX7_init 13 = .ok (.bipush 48, 2) := by decide +kernel
theorem dX7_init_15 : decode cX7_init 15 = .ok (.newarray .int, 2) := by decide +kernel
theorem dX7_init_17 : decode cX7_init 17 = .ok (.putfield 15, 3) := by decide +kernel
theorem dX7_init_20 : decode cX7_init 20 = .ok (.aload_n 0, 1) := by decide +kernel
theorem dX7_init_21 : decode cX7_init 21 = .ok (.bipush 48, 2) := by decide +kernel
theorem dX7_init_23 : decode cX7_init 23 = .ok (.newarray .int, 2) := by decide +kernel
theorem dX7_init_25 : decode cX7_init 25 = .ok (.putfield 18, 3) := by decide +kernel
theorem dX7_init_28 : decode cX7_init 28 = .ok (.return_, 1) := by decide +kernel
theorem dX7_install_0 : decode cX7_install 0 = .ok (.aload_n 0, 1) := by decide +kernel
theorem dX7_install_1 : decode cX7_install 1 = .ok (.aload_n 1, 1) := by decide +kernel
theorem dX7_install_2 : decode cX7_install 2 = .ok (.getfield 21, 3) := by decide +kernel
theorem dX7_install_5 : decode cX7_install 5 = .ok (.putfield 27, 3) := by decide +kernel
theorem dX7_install_8 : decode cX7_install 8 = .ok (.aload_n 0, 1) := by decide +kernel
theorem dX7_install_9 : decode cX7_install 9 = .ok (.iconst 0, 1) := by decide +kernel
theorem dX7_install_10 : decode cX7_install 10 = .ok (.putfield 30, 3) := by decide +kernel
theorem dX7_install_13 : decode cX7_install 13 = .ok (.iconst 0, 1) := by decide +kernel
theorem dX7_install_14 : decode cX7_install 14 = .ok (.istore_n 2, 1) := by decide +kernel
theorem dX7_install_15 : decode cX7_install 15 = .ok (.iload_n 2, 1) := by decide +kernel
theorem dX7_install_16 : decode cX7_install 16 = .ok (.bipush 48, 2) := by decide +kernel
theorem dX7_install_18 : decode cX7_install 18 = .ok (.if_icmp .ge 30, 3) := by decide +kernel
theorem dX7_install_21 : decode cX7_install 21 = .ok (.aload_n 0, 1) := by decide +kernel
theorem dX7_install_22 : decode cX7_install 22 = .ok (.getfield 9, 3) := by decide +kernel
theorem dX7_install_25 : decode cX7_install 25 = .ok (.iload_n 2, 1) := by decide +kernel
theorem dX7_install_26 : decode cX7_install 26 = .ok (.iconst 0, 1) := by decide +kernel
theorem dX7_install_27 : decode cX7_install 27 = .ok (.iastore, 1) := by decide +kernel
theorem dX7_install_28 : decode cX7_install 28 = .ok (.aload_n 0, 1) := by decide +kernel
theorem dX7_install_29 : decode cX7_install 29 = .ok (.getfield 15, 3) := by decide +kernel
theorem dX7_install_32 : decode cX7_install 32 = .ok (.iload_n 2, 1) := by decide +kernel
theorem dX7_install_33 : decode cX7_install 33 = .ok (.iconst (-1), 1) := by decide +kernel
theorem dX7_install_34 : decode cX7_install 34 = .ok (.iastore, 1) := by decide +kernel
theorem dX7_install_35 : decode cX7_install 35 = .ok (.aload_n 0, 1) := by decide +kernel
theorem dX7_install_36 : decode cX7_install 36 = .ok (.getfield 18, 3) := by decide +kernel
theorem dX7_install_39 : decode cX7_install 39 = .ok (.iload_n 2, 1) := by decide +kernel
theorem dX7_install_40 : decode cX7_install 40 = .ok (.iconst (-1), 1) := by decide +kernel
theorem dX7_install_41 : decode cX7_install 41 = .ok (.iastore, 1) := by decide +kernel
theorem dX7_install_42 : decode cX7_install 42 = .ok (.iinc 2 1, 3) := by decide +kernel
theorem dX7_install_45 : decode cX7_install 45 = .ok (.goto (-30), 3) := by decide +kernel
theorem dX7_install_48 : decode cX7_install 48 = .ok (.return_, 1) := by decide +kernel
theorem dX7_copyFrom_0 : decode cX7_copyFrom 0 = .ok (.aload_n 0, 1) := by decide +kernel
theorem dX7_copyFrom_1 : decode cX7_copyFrom 1 = .ok (.aload_n 1, 1) := by decide +kernel
theorem dX7_copyFrom_2 : decode cX7_copyFrom 2 = .ok (.getfield 27, 3) := by decide +kernel
theorem dX7_copyFrom_5 : decode cX7_copyFrom 5 = .ok (.putfield 27, 3) := by decide +kernel
theorem dX7_copyFrom_8 : decode cX7_copyFrom 8 = .ok (.aload_n 0, 1) := by decide +kernel
theorem dX7_copyFrom_9 : decode cX7_copyFrom 9 = .ok (.aload_n 1, 1) := by decide +kernel
theorem dX7_copyFrom_10 : decode cX7_copyFrom 10 = .ok (.getfield 30, 3) := by decide +kernel
theorem dX7_copyFrom_13 : decode cX7_copyFrom 13 = .ok (.putfield 30, 3) := by decide +kernel
theorem dX7_copyFrom_16 : decode cX7_copyFrom 16 = .ok (.aload_n 1, 1) := by decide +kernel
theorem dX7_copyFrom_17 : decode cX7_copyFrom 17 = .ok (.getfield 9, 3) := by decide +kernel
theorem dX7_copyFrom_20 : decode cX7_copyFrom 20 = .ok (.iconst 0, 1) := by decide +kernel
theorem dX7_copyFrom_21 : decode cX7_copyFrom 21 = .ok (.aload_n 0, 1) := by decide +kernel
theorem dX7_copyFrom_22 : decode cX7_copyFrom 22 = .ok (.getfield 9, 3) := by decide +kernel
theorem dX7_copyFrom_25 : decode cX7_copyFrom 25 = .ok (.iconst 0, 1) := by decide +kernel
theorem dX7_copyFrom_26 : decode cX7_copyFrom 26 = .ok (.bipush 48, 2) := by decide +kernel
theorem dX7_copyFrom_28 : decode cX7_copyFrom 28 = .ok (.invokestatic 33, 3) := by decide +kernel
theorem dX7_copyFrom_31 : decode cX7_copyFrom 31 = .ok (.aload_n 1, 1) := by decide +kernel
theorem dX7_copyFrom_32 : decode cX7_copyFrom 32 = .ok (.getfield 15, 3) := by decide +kernel
theorem dX7_copyFrom_35 : decode cX7_copyFrom 35 = .ok (.iconst 0, 1) := by decide +kernel
theorem dX7_copyFrom_36 : decode cX7_copyFrom 36 = .ok (.aload_n 0, 1) := by decide +kernel
theorem dX7_copyFrom_37 : decode cX7_copyFrom 37 = .ok (.getfield 15, 3) := by decide +kernel
theorem dX7_copyFrom_40 : decode cX7_copyFrom 40 = .ok (.iconst 0, 1) := by decide +kernel
theorem dX7_copyFrom_41 : decode cX7_copyFrom 41 = .ok (.bipush 48, 2) := by decide +kernel
theorem dX7_copyFrom_43 : decode cX7_copyFrom 43 = .ok (.invokestatic 33, 3) := by decide +kernel
theorem dX7_copyFrom_46 : decode cX7_copyFrom 46 = .ok (.aload_n 1, 1) := by decide +kernel
theorem dX7_copyFrom_47 : decode cX7_copyFrom 47 = .ok (.getfield 18, 3) := by decide +kernel
theorem dX7_copyFrom_50 : decode cX7_copyFrom 50 = .ok (.iconst 0, 1) := by decide +kernel
theorem dX7_copyFrom_51 : decode cX7_copyFrom 51 = .ok (.aload_n 0, 1) := by decide +kernel
theorem dX7_copyFrom_52 : decode cX7_copyFrom 52 = .ok (.getfield 18, 3) := by decide +kernel
theorem dX7_copyFrom_55 : decode cX7_copyFrom 55 = .ok (.iconst 0, 1) := by decide +kernel
theorem dX7_copyFrom_56 : decode cX7_copyFrom 56 = .ok (.bipush 48, 2) := by decide +kernel
theorem dX7_copyFrom_58 : decode cX7_copyFrom 58 = .ok (.invokestatic 33, 3) := by decide +kernel
theorem dX7_copyFrom_61 : decode cX7_copyFrom 61 = .ok (.return_, 1) := by decide +kernel
theorem dX7_hasSlot_0 : decode cX7_hasSlot 0 = .ok (.iload_n 1, 1) := by decide +kernel
theorem dX7_hasSlot_1 : decode cX7_hasSlot 1 = .ok (.ifCond .lt 15, 3) := by decide +kernel
theorem dX7_hasSlot_4 : decode cX7_hasSlot 4 = .ok (.iload_n 1, 1) := by decide +kernel
theorem dX7_hasSlot_5 : decode cX7_hasSlot 5 = .ok (.aload_n 0, 1) := by decide +kernel
theorem dX7_hasSlot_6 : decode cX7_hasSlot 6 = .ok (.getfield 27, 3) := by decide +kernel
theorem dX7_hasSlot_9 : decode cX7_hasSlot 9 = .ok (.if_icmp .ge 7, 3) := by decide +kernel
theorem dX7_hasSlot_12 : decode cX7_hasSlot 12 = .ok (.iconst 1, 1) := by decide +kernel
theorem dX7_hasSlot_13 : decode cX7_hasSlot 13 = .ok (.goto 4, 3) := by decide +kernel
theorem dX7_hasSlot_16 : decode cX7_hasSlot 16 = .ok (.iconst 0, 1) := by decide +kernel
theorem dX7_hasSlot_17 : decode cX7_hasSlot 17 = .ok (.ireturn, 1) := by decide +kernel
theorem dX7_put_0 : decode cX7_put 0 = .ok (.aload_n 0, 1) := by decide +kernel
theorem dX7_put_1 : decode cX7_put 1 = .ok (.getfield 9, 3) := by decide +kernel
theorem dX7_put_4 : decode cX7_put 4 = .ok (.iload_n 1, 1) := by decide +kernel
theorem dX7_put_5 : decode cX7_put 5 = .ok (.iload_n 3, 1) := by decide +kernel
theorem dX7_put_6 : decode cX7_put 6 = .ok (.iastore, 1) := by decide +kernel
theorem dX7_put_7 : decode cX7_put 7 = .ok (.aload_n 0, 1) := by decide +kernel
theorem dX7_put_8 : decode cX7_put 8 = .ok (.getfield 15, 3) := by decide +kernel
theorem dX7_put_11 : decode cX7_put 11 = .ok (.iload_n 1, 1) := by decide +kernel
theorem dX7_put_12 : decode cX7_put 12 = .ok (.iload_n 2, 1) := by decide +kernel
theorem dX7_put_13 : decode cX7_put 13 = .ok (.iastore, 1) := by decide +kernel
theorem dX7_put_14 : decode cX7_put 14 = .ok (.aload_n 0, 1) := by decide +kernel
theorem dX7_put_15 : decode cX7_put 15 = .ok (.getfield 18, 3) := by decide +kernel
theorem dX7_put_18 : decode cX7_put 18 = .ok (.iload_n 1, 1) := by decide +kernel
theorem dX7_put_19 : decode cX7_put 19 = .ok (.iload 4, 2) := by decide +kernel
theorem dX7_put_21 : decode cX7_put 21 = .ok (.iastore, 1) := by decide +kernel
theorem dX7_put_22 : decode cX7_put 22 = .ok (.aload_n 0, 1) := by decide +kernel
theorem dX7_put_23 : decode cX7_put 23 = .ok (.dup, 1) := by decide +kernel
theorem dX7_put_24 : decode cX7_put 24 = .ok (.getfield 30, 3) := by decide +kernel
theorem dX7_put_27 : decode cX7_put 27 = .ok (.iconst 1, 1) := by decide +kernel
theorem dX7_put_28 : decode cX7_put 28 = .ok (.iadd, 1) := by decide +kernel
theorem dX7_put_29 : decode cX7_put 29 = .ok (.putfield 30, 3) := by decide +kernel
theorem dX7_put_32 : decode cX7_put 32 = .ok (.return_, 1) := by decide +kernel
theorem dX8_init_0 : decode cX8_init 0 = .ok (.aload_n 0, 1) := by decide +kernel
theorem dX8_init_1 : decode cX8_init 1 = .ok (.invokespecial 3, 3) := by decide +kernel
theorem dX8_init_4 : decode cX8_init 4 = .ok (.aload_n 0, 1) := by decide +kernel
theorem dX8_init_5 : decode cX8_init 5 = .ok (.new 9, 3) := by decide +kernel
theorem dX8_init_8 : decode cX8_init 8 = .ok (.dup, 1) := by decide +kernel
theorem dX8_init_9 : decode cX8_init 9 = .ok (.invokespecial 11, 3) := by decide +kernel
theorem dX8_init_12 : decode cX8_init 12 = .ok (.putfield 12, 3) := by decide +kernel
theorem dX8_init_15 : decode cX8_init 15 = .ok (.aload_n 0, 1) := by decide +kernel
theorem dX8_init_16 : decode cX8_init 16 = .ok (.new 18, 3) := by decide +kernel
theorem dX8_init_19 : decode cX8_init 19 = .ok (.dup, 1) := by decide +kernel
theorem dX8_init_20 : decode cX8_init 20 = .ok (.invokespecial 20, 3) := by decide +kernel
theorem dX8_init_23 : decode cX8_init 23 = .ok (.putfield 21, 3) := by decide +kernel
theorem dX8_init_26 : decode cX8_init 26 = .ok (.aload_n 0, 1) := by decide +kernel
theorem dX8_init_27 : decode cX8_init 27 = .ok (.new 25, 3) := by decide +kernel
theorem dX8_init_30 : decode cX8_init 30 = .ok (.dup, 1) := by decide +kernel
theorem dX8_init_31 : decode cX8_init 31 = .ok (.invokespecial 27, 3) := by decide +kernel
theorem dX8_init_34 : decode cX8_init 34 = .ok (.putfield 28, 3) := by decide +kernel
theorem dX8_init_37 : decode cX8_init 37 = .ok (.aload_n 0, 1) := by decide +kernel
theorem dX8_init_38 : decode cX8_init 38 = .ok (.new 32, 3) := by decide +kernel
theorem dX8_init_41 : decode cX8_init 41 = .ok (.dup, 1) := by decide +kernel
theorem dX8_init_42 : decode cX8_init 42 = .ok (.invokespecial 34, 3) := by decide +kernel
theorem dX8_init_45 : decode cX8_init 45 = .ok (.putfield 35, 3) := by decide +kernel
theorem dX8_init_48 : decode cX8_init 48 = .ok (.aload_n 0, 1) := by decide +kernel
theorem dX8_init_49 : decode cX8_init 49 = .ok (.new 39, 3) := by decide +kernel
theorem dX8_init_52 : decode cX8_init 52 = .ok (.dup, 1) := by decide +kernel
theorem dX8_init_53 : decode cX8_init 53 = .ok (.invokespecial 41, 3) := by decide +kernel
theorem dX8_init_56 : decode cX8_init 56 = .ok (.putfield 42, 3) := by decide +kernel
theorem dX8_init_59 : decode cX8_init 59 = .ok (.aload_n 0, 1) := by decide +kernel
theorem dX8_init_60 : decode cX8_init 60 = .ok (.bipush 48, 2) := by decide +kernel
theorem dX8_init_62 : decode cX8_init 62 = .ok (.newarray .int, 2) := by decide +kernel
theorem dX8_init_64 : decode cX8_init 64 = .ok (.putfield 46, 3) := by decide +kernel
theorem dX8_init_67 : decode cX8_init 67 = .ok (.return_, 1) := by decide +kernel
theorem dX8_install_0 : decode cX8_install 0 = .ok (.aload_n 0, 1) := by decide +kernel
theorem dX8_install_1 : decode cX8_install 1 = .ok (.getfield 12, 3) := by decide +kernel
theorem dX8_install_4 : decode cX8_install 4 = .ok (.aload_n 1, 1) := by decide +kernel
theorem dX8_install_5 : decode cX8_install 5 = .ok (.invokevirtual 50, 3) := by decide +kernel
theorem dX8_install_8 : decode cX8_install 8 = .ok (.aload_n 0, 1) := by decide +kernel
theorem dX8_install_9 : decode cX8_install 9 = .ok (.getfield 21, 3) := by decide +kernel
theorem dX8_install_12 : decode cX8_install 12 = .ok (.aload_n 1, 1) := by decide +kernel
theorem dX8_install_13 : decode cX8_install 13 = .ok (.invokevirtual 54, 3) := by decide +kernel
theorem dX8_install_16 : decode cX8_install 16 = .ok (.aload_n 0, 1) := by decide +kernel
theorem dX8_install_17 : decode cX8_install 17 = .ok (.getfield 28, 3) := by decide +kernel
theorem dX8_install_20 : decode cX8_install 20 = .ok (.aload_n 1, 1) := by decide +kernel
theorem dX8_install_21 : decode cX8_install 21 = .ok (.invokevirtual 55, 3) := by decide +kernel
theorem dX8_install_24 : decode cX8_install 24 = .ok (.aload_n 0, 1) := by decide +kernel
theorem dX8_install_25 : decode cX8_install 25 = .ok (.getfield 35, 3) := by decide +kernel
theorem dX8_install_28 : decode cX8_install 28 = .ok (.invokevirtual 56, 3) := by decide +kernel
theorem dX8_install_31 : decode cX8_install 31 = .ok (.aload_n 0, 1) := by decide +kernel
theorem dX8_install_32 : decode cX8_install 32 = .ok (.getfield 42, 3) := by decide +kernel
theorem dX8_install_35 : decode cX8_install 35 = .ok (.invokevirtual 58, 3) := by decide +kernel
theorem dX8_install_38 : decode cX8_install 38 = .ok (.aload_n 0, 1) := by decide +kernel
theorem dX8_install_39 : decode cX8_install 39 = .ok (.iconst 0, 1) := by decide +kernel
theorem dX8_install_40 : decode cX8_install 40 = .ok (.putfield 59, 3) := by decide +kernel
theorem dX8_install_43 : decode cX8_install 43 = .ok (.return_, 1) := by decide +kernel
theorem dX8_copyFrom_0 : decode cX8_copyFrom 0 = .ok (.aload_n 0, 1) := by decide +kernel
theorem dX8_copyFrom_1 : decode cX8_copyFrom 1 = .ok (.getfield 12, 3) := by decide +kernel
theorem dX8_copyFrom_4 : decode cX8_copyFrom 4 = .ok (.aload_n 1, 1) := by decide +kernel
theorem dX8_copyFrom_5 : decode cX8_copyFrom 5 = .ok (.getfield 12, 3) := by decide +kernel
theorem dX8_copyFrom_8 : decode cX8_copyFrom 8 = .ok (.invokevirtual 63, 3) := by decide +kernel
theorem dX8_copyFrom_11 : decode cX8_copyFrom 11 = .ok (.aload_n 0, 1) := by decide +kernel
theorem dX8_copyFrom_12 : decode cX8_copyFrom 12 = .ok (.getfield 21, 3) := by decide +kernel
theorem dX8_copyFrom_15 : decode cX8_copyFrom 15 = .ok (.aload_n 1, 1) := by decide +kernel
theorem dX8_copyFrom_16 : decode cX8_copyFrom 16 = .ok (.getfield 21, 3) := by decide +kernel
theorem dX8_copyFrom_19 : decode cX8_copyFrom 19 = .ok (.invokevirtual 67, 3) := by decide +kernel
theorem dX8_copyFrom_22 : decode cX8_copyFrom 22 = .ok (.aload_n 0, 1) := by decide +kernel
theorem dX8_copyFrom_23 : decode cX8_copyFrom 23 = .ok (.getfield 28, 3) := by decide +kernel
theorem dX8_copyFrom_26 : decode cX8_copyFrom 26 = .ok (.aload_n 1, 1) := by decide +kernel
theorem dX8_copyFrom_27 : decode cX8_copyFrom 27 = .ok (.getfield 28, 3) := by decide +kernel
theorem dX8_copyFrom_30 : decode cX8_copyFrom 30 = .ok (.invokevirtual 70, 3) := by decide +kernel
theorem dX8_copyFrom_33 : decode cX8_copyFrom 33 = .ok (.aload_n 0, 1) := by decide +kernel
theorem dX8_copyFrom_34 : decode cX8_copyFrom 34 = .ok (.getfield 35, 3) := by decide +kernel
theorem dX8_copyFrom_37 : decode cX8_copyFrom 37 = .ok (.aload_n 1, 1) := by decide +kernel
theorem dX8_copyFrom_38 : decode cX8_copyFrom 38 = .ok (.getfield 35, 3) := by decide +kernel
theorem dX8_copyFrom_41 : decode cX8_copyFrom 41 = .ok (.invokevirtual 73, 3) := by decide +kernel
theorem dX8_copyFrom_44 : decode cX8_copyFrom 44 = .ok (.aload_n 0, 1) := by decide +kernel
theorem dX8_copyFrom_45 : decode cX8_copyFrom 45 = .ok (.getfield 42, 3) := by decide +kernel
theorem dX8_copyFrom_48 : decode cX8_copyFrom 48 = .ok (.aload_n 1, 1) := by decide +kernel
theorem dX8_copyFrom_49 : decode cX8_copyFrom 49 = .ok (.getfield 42, 3) := by decide +kernel
theorem dX8_copyFrom_52 : decode cX8_copyFrom 52 = .ok (.invokevirtual 76, 3) := by decide +kernel
theorem dX8_copyFrom_55 : decode cX8_copyFrom 55 = .ok (.aload_n 0, 1) := by decide +kernel
theorem dX8_copyFrom_56 : decode cX8_copyFrom 56 = .ok (.aload_n 1, 1) := by decide +kernel
theorem dX8_copyFrom_57 : decode cX8_copyFrom 57 = .ok (.getfield 59, 3) := by decide +kernel
theorem dX8_copyFrom_60 : decode cX8_copyFrom 60 = .ok (.putfield 59, 3) := by decide +kernel
theorem dX8_copyFrom_63 : decode cX8_copyFrom 63 = .ok (.return_, 1) := by decide +kernel
theorem dX8_markUses_0 : decode cX8_markUses 0 = .ok (.iconst 0, 1) := by decide +kernel
theorem dX8_markUses_1 : decode cX8_markUses 1 = .ok (.istore_n 1, 1) := by decide +kernel
theorem dX8_markUses_2 : decode cX8_markUses 2 = .ok (.iload_n 1, 1) := by decide +kernel
theorem dX8_markUses_3 : decode cX8_markUses 3 = .ok (.bipush 48, 2) := by decide +kernel
theorem dX8_markUses_5 : decode cX8_markUses 5 = .ok (.if_icmp .ge 16, 3) := by decide +kernel
theorem dX8_markUses_8 : decode cX8_markUses 8 = .ok (.aload_n 0, 1) := by decide +kernel
theorem dX8_markUses_9 : decode cX8_markUses 9 = .ok (.getfield 46, 3) := by decide +kernel
theorem dX8_markUses_12 : decode cX8_markUses 12 = .ok (.iload_n 1, 1) := by decide +kernel
theorem dX8_markUses_13 : decode cX8_markUses 13 = .ok (.iconst 0, 1) := by decide +kernel
theorem dX8_markUses_14 : decode cX8_markUses 14 = .ok (.iastore, 1) := by decide +kernel
theorem dX8_markUses_15 : decode cX8_markUses 15 = .ok (.iinc 1 1, 3) := by decide +kernel
theorem dX8_markUses_18 : decode cX8_markUses 18 = .ok (.goto (-16), 3) := by decide +kernel
theorem dX8_markUses_21 : decode cX8_markUses 21 = .ok (.iconst 0, 1) := by decide +kernel
theorem dX8_markUses_22 : decode cX8_markUses 22 = .ok (.istore_n 1, 1) := by decide +kernel
theorem dX8_markUses_23 : decode cX8_markUses 23 = .ok (.iload_n 1, 1) := by decide +kernel
theorem dX8_markUses_24 : decode cX8_markUses 24 = .ok (.bipush 48, 2) := by decide +kernel
theorem dX8_markUses_26 : decode cX8_markUses 26 = .ok (.if_icmp .ge 99, 3) := by decide +kernel
theorem dX8_markUses_29 : decode cX8_markUses 29 = .ok (.aload_n 0, 1) := by decide +kernel
theorem dX8_markUses_30 : decode cX8_markUses 30 = .ok (.getfield 12, 3) := by decide +kernel
theorem dX8_markUses_33 : decode cX8_markUses 33 = .ok (.getfield 79, 3) := by decide +kernel
theorem dX8_markUses_36 : decode cX8_markUses 36 = .ok (.iload_n 1, 1) := by decide +kernel
theorem dX8_markUses_37 : decode cX8_markUses 37 = .ok (.iaload, 1) := by decide +kernel
theorem dX8_markUses_38 : decode cX8_markUses 38 = .ok (.ifCond .lt 21, 3) := by decide +kernel
theorem dX8_markUses_41 : decode cX8_markUses 41 = .ok (.aload_n 0, 1) := by decide +kernel
theorem dX8_markUses_42 : decode cX8_markUses 42 = .ok (.getfield 46, 3) := by decide +kernel
theorem dX8_markUses_45 : decode cX8_markUses 45 = .ok (.aload_n 0, 1) := by decide +kernel
theorem dX8_markUses_46 : decode cX8_markUses 46 = .ok (.getfield 12, 3) := by decide +kernel
theorem dX8_markUses_49 : decode cX8_markUses 49 = .ok (.getfield 79, 3) := by decide +kernel
theorem dX8_markUses_52 : decode cX8_markUses 52 = .ok (.iload_n 1, 1) := by decide +kernel
theorem dX8_markUses_53 : decode cX8_markUses 53 = .ok (.iaload, 1) := by decide +kernel
theorem dX8_markUses_54 : decode cX8_markUses 54 = .ok (.dup2, 1) := by decide +kernel
theorem dX8_markUses_55 : decode cX8_markUses 55 = .ok (.iaload, 1) := by decide +kernel
theorem dX8_markUses_56 : decode cX8_markUses 56 = .ok (.iconst 1, 1) := by decide +kernel
theorem dX8_markUses_57 : decode cX8_markUses 57 = .ok (.ior, 1) := by decide +kernel
theorem dX8_markUses_58 : decode cX8_markUses 58 = .ok (.iastore, 1) := by decide +kernel
theorem dX8_markUses_59 : decode cX8_markUses 59 = .ok (.aload_n 0, 1) := by decide +kernel
theorem dX8_markUses_60 : decode cX8_markUses 60 = .ok (.getfield 35, 3) := by decide +kernel
theorem dX8_markUses_63 : decode cX8_markUses 63 = .ok (.getfield 82, 3) := by decide +kernel
theorem dX8_markUses_66 : decode cX8_markUses 66 = .ok (.iload_n 1, 1) := by decide +kernel
theorem dX8_markUses_67 : decode cX8_markUses 67 = .ok (.iaload, 1) := by decide +kernel
theorem dX8_markUses_68 : decode cX8_markUses 68 = .ok (.ifCond .lt 21, 3) := by decide +kernel
theorem dX8_markUses_71 : decode cX8_markUses 71 = .ok (.aload_n 0, 1) := by decide +kernel
theorem dX8_markUses_72 : decode cX8_markUses 72 = .ok (.getfield 46, 3) := by decide +kernel
theorem dX8_markUses_75 : decode cX8_markUses 75 = .ok (.aload_n 0, 1) := by decide +kernel
theorem dX8_markUses_76 : decode cX8_markUses 76 = .ok (.getfield 35, 3) := by decide +kernel
theorem dX8_markUses_79 : decode cX8_markUses 79 = .ok (.getfield 82, 3) := by decide +kernel
theorem dX8_markUses_82 : decode cX8_markUses 82 = .ok (.iload_n 1, 1) := by decide +kernel
theorem dX8_markUses_83 : decode cX8_markUses 83 = .ok (.iaload, 1) := by decide +kernel
theorem dX8_markUses_84 : decode cX8_markUses 84 = .ok (.dup2, 1) := by decide +kernel
theorem dX8_markUses_85 : decode cX8_markUses 85 = .ok (.iaload, 1) := by decide +kernel
theorem dX8_markUses_86 : decode cX8_markUses 86 = .ok (.iconst 2, 1) := by decide +kernel
theorem dX8_markUses_87 : decode cX8_markUses 87 = .ok (.ior, 1) := by decide +kernel
theorem dX8_markUses_88 : decode cX8_markUses 88 = .ok (.iastore, 1) := by decide +kernel
theorem dX8_markUses_89 : decode cX8_markUses 89 = .ok (.aload_n 0, 1) := by decide +kernel
theorem dX8_markUses_90 : decode cX8_markUses 90 = .ok (.getfield 35, 3) := by decide +kernel
theorem dX8_markUses_93 : decode cX8_markUses 93 = .ok (.getfield 85, 3) := by decide +kernel
theorem dX8_markUses_96 : decode cX8_markUses 96 = .ok (.iload_n 1, 1) := by decide +kernel
theorem dX8_markUses_97 : decode cX8_markUses 97 = .ok (.iaload, 1) := by decide +kernel
theorem dX8_markUses_98 : decode cX8_markUses 98 = .ok (.ifCond .lt 21, 3) := by decide +kernel
theorem dX8_markUses_101 : decode cX8_markUses 101 = .ok (.aload_n 0, 1) := by decide +kernel
theorem dX8_markUses_102 : decode cX8_markUses 102 = .ok (.getfield 46, 3) := by decide +kernel
theorem dX8_markUses_105 : decode cX8_markUses 105 = .ok (.aload_n 0, 1) := by decide +kernel
theorem dX8_markUses_106 : decode cX8_markUses 106 = .ok (.getfield 35, 3) := by decide +kernel
theorem dX8_markUses_109 : decode cX8_markUses 109 = .ok (.getfield 85, 3) := by decide +kernel
theorem dX8_markUses_112 : decode cX8_markUses 112 = .ok (.iload_n 1, 1) := by decide +kernel
theorem dX8_markUses_113 : decode cX8_markUses 113 = .ok (.iaload, 1) := by decide +kernel
theorem dX8_markUses_114 : decode cX8_markUses 114 = .ok (.dup2, 1) := by decide +kernel
theorem dX8_markUses_115 : decode cX8_markUses 115 = .ok (.iaload, 1) := by decide +kernel
theorem dX8_markUses_116 : decode cX8_markUses 116 = .ok (.iconst 4, 1) := by decide +kernel
theorem dX8_markUses_117 : decode cX8_markUses 117 = .ok (.ior, 1) := by decide +kernel
theorem dX8_markUses_118 : decode cX8_markUses 118 = .ok (.iastore, 1) := by decide +kernel
theorem dX8_markUses_119 : decode cX8_markUses 119 = .ok (.iinc 1 1, 3) := by decide +kernel
theorem dX8_markUses_122 : decode cX8_markUses 122 = .ok (.goto (-99), 3) := by decide +kernel
theorem dX8_markUses_125 : decode cX8_markUses 125 = .ok (.aload_n 0, 1) := by decide +kernel
theorem dX8_markUses_126 : decode cX8_markUses 126 = .ok (.getfield 46, 3) := by decide +kernel
theorem dX8_markUses_129 : decode cX8_markUses 129 = .ok (.areturn, 1) := by decide +kernel
theorem dX8_nextFree_0 : decode cX8_nextFree 0 = .ok (.aload_n 0, 1) := by decide +kernel
theorem dX8_nextFree_1 : decode cX8_nextFree 1 = .ok (.invokevirtual 88, 3) := by decide +kernel
theorem dX8_nextFree_4 : decode cX8_nextFree 4 = .ok (.pop, 1) := by decide +kernel
theorem dX8_nextFree_5 : decode cX8_nextFree 5 = .ok (.aload_n 0, 1) := by decide +kernel
theorem dX8_nextFree_6 : decode cX8_nextFree 6 = .ok (.invokevirtual 92, 3) := by decide +kernel
theorem dX8_nextFree_9 : decode cX8_nextFree 9 = .ok (.ireturn, 1) := by decide +kernel
theorem dX8_leastStampedUnused_0 : decode cX8_leastStampedUnused 0 = .ok (.iconst (-1), 1) := by decide +kernel
theorem dX8_leastStampedUnused_1 : decode cX8_leastStampedUnused 1 = .ok (.istore_n 1, 1) := by decide +kernel
theorem dX8_leastStampedUnused_2 : decode cX8_leastStampedUnused 2 = .ok (.iconst 0, 1) := by decide +kernel
theorem dX8_leastStampedUnused_3 : decode cX8_leastStampedUnused 3 = .ok (.istore_n 2, 1) := by decide +kernel
theorem dX8_leastStampedUnused_4 : decode cX8_leastStampedUnused 4 = .ok (.iload_n 2, 1) := by decide +kernel
theorem dX8_leastStampedUnused_5 : decode cX8_leastStampedUnused 5 = .ok (.aload_n 0, 1) := by decide +kernel
theorem dX8_leastStampedUnused_6 : decode cX8_leastStampedUnused 6 = .ok (.getfield 28, 3) := by decide +kernel
theorem dX8_leastStampedUnused_9 : decode cX8_leastStampedUnused 9 = .ok (.getfield 96, 3) := by decide +kernel
theorem dX8_leastStampedUnused_12 : decode cX8_leastStampedUnused 12 = .ok (.if_icmp .ge 56, 3) := by decide +kernel
theorem dX8_leastStampedUnused_15 : decode cX8_leastStampedUnused 15 = .ok (.aload_n 0, 1) := by decide +kernel
theorem dX8_leastStampedUnused_16 : decode cX8_leastStampedUnused 16 = .ok (.getfield 46, 3) := by decide +kernel
theorem dX8_leastStampedUnused_19 : decode cX8_leastStampedUnused 19 = .ok (.iload_n 2, 1) := by decide +kernel
theorem dX8_leastStampedUnused_20 : decode cX8_leastStampedUnused 20 = .ok (.iaload, 1) := by decide +kernel
theorem dX8_leastStampedUnused_21 : decode cX8_leastStampedUnused 21 = .ok (.ifCond .ne 7, 3) := by decide +kernel
theorem dX8_leastStampedUnused_24 : decode cX8_leastStampedUnused 24 = .ok (.iconst 1, 1) := by decide +kernel
theorem dX8_leastStampedUnused_25 : decode cX8_leastStampedUnused 25 = .ok (.goto 4, 3) := by decide +kernel
theorem dX8_leastStampedUnused_28 : decode cX8_leastStampedUnused 28 = .ok (.iconst 0, 1) := by decide +kernel
theorem dX8_leastStampedUnused_29 : decode cX8_leastStampedUnused 29 = .ok (.istore_n 3, 1) := by decide +kernel
theorem dX8_leastStampedUnused_30 : decode cX8_leastStampedUnused 30 = .ok (.iload_n 3, 1) := by decide +kernel
theorem dX8_leastStampedUnused_31 : decode cX8_leastStampedUnused 31 = .ok (.ifCond .eq 31, 3) := by decide +kernel
theorem dX8_leastStampedUnused_34 : decode cX8_leastStampedUnused 34 = .ok (.iload_n 1, 1) := by decide +kernel
theorem dX8_leastStampedUnused_35 : decode cX8_leastStampedUnused 35 = .ok (.iconst (-1), 1) := by decide +kernel
theorem dX8_leastStampedUnused_36 : decode cX8_leastStampedUnused 36 = .ok (.if_icmp .eq 24, 3) := by decide +kernel
theorem dX8_leastStampedUnused_39 : decode cX8_leastStampedUnused 39 = .ok (.aload_n 0, 1) := by decide +kernel
theorem dX8_leastStampedUnused_40 : decode cX8_leastStampedUnused 40 = .ok (.getfield 28, 3) := by decide +kernel
theorem dX8_leastStampedUnused_43 : decode cX8_leastStampedUnused 43 = .ok (.getfield 99, 3) := by decide +kernel
theorem dX8_leastStampedUnused_46 : decode cX8_leastStampedUnused 46 = .ok (.iload_n 2, 1) := by decide +kernel
theorem dX8_leastStampedUnused_47 : decode cX8_leastStampedUnused 47 = .ok (.iaload, 1) := by decide +kernel
theorem dX8_leastStampedUnused_48 : decode cX8_leastStampedUnused 48 = .ok (.aload_n 0, 1) := by decide +kernel
theorem dX8_leastStampedUnused_49 : decode cX8_leastStampedUnused 49 = .ok (.getfield 28, 3) := by decide +kernel
theorem dX8_leastStampedUnused_52 : decode cX8_leastStampedUnused 52 = .ok (.getfield 99, 3) := by decide +kernel
theorem dX8_leastStampedUnused_55 : decode cX8_leastStampedUnused 55 = .ok (.iload_n 1, 1) := by decide +kernel
theorem dX8_leastStampedUnused_56 : decode cX8_leastStampedUnused 56 = .ok (.iaload, 1) := by decide +kernel
theorem dX8_leastStampedUnused_57 : decode cX8_leastStampedUnused 57 = .ok (.if_icmp .ge 5, 3) := by decide +kernel
theorem dX8_leastStampedUnused_60 : decode cX8_leastStampedUnused 60 = .ok (.iload_n 2, 1) := by decide +kernel
theorem dX8_leastStampedUnused_61 : decode cX8_leastStampedUnused 61 = .ok (.istore_n 1, 1) := by decide +kernel
theorem dX8_leastStampedUnused_62 : decode cX8_leastStampedUnused 62 = .ok (.iinc 2 1, 3) := by decide +kernel
theorem dX8_leastStampedUnused_65 : decode cX8_leastStampedUnused 65 = .ok (.goto (-61), 3) := by decide +kernel
theorem dX8_leastStampedUnused_68 : decode cX8_leastStampedUnused 68 = .ok (.iload_n 1, 1) := by decide +kernel
theorem dX8_leastStampedUnused_69 : decode cX8_leastStampedUnused 69 = .ok (.ireturn, 1) := by decide +kernel
theorem dX8_countFree_0 : decode cX8_countFree 0 = .ok (.aload_n 0, 1) := by decide +kernel
theorem dX8_countFree_1 : decode cX8_countFree 1 = .ok (.invokevirtual 88, 3) := by decide +kernel
theorem dX8_countFree_4 : decode cX8_countFree 4 = .ok (.pop, 1) := by decide +kernel
theorem dX8_countFree_5 : decode cX8_countFree 5 = .ok (.iconst 0, 1) := by decide +kernel
theorem dX8_countFree_6 : decode cX8_countFree 6 = .ok (.istore_n 1, 1) := by decide +kernel
theorem dX8_countFree_7 : decode cX8_countFree 7 = .ok (.iconst 0, 1) := by decide +kernel
theorem dX8_countFree_8 : decode cX8_countFree 8 = .ok (.istore_n 2, 1) := by decide +kernel
theorem dX8_countFree_9 : decode cX8_countFree 9 = .ok (.iload_n 2, 1) := by decide +kernel
theorem dX8_countFree_10 : decode cX8_countFree 10 = .ok (.aload_n 0, 1) := by decide +kernel
theorem dX8_countFree_11 : decode cX8_countFree 11 = .ok (.getfield 28, 3) := by decide +kernel
theorem dX8_countFree_14 : decode cX8_countFree 14 = .ok (.getfield 96, 3) := by decide +kernel
theorem dX8_countFree_17 : decode cX8_countFree 17 = .ok (.if_icmp .ge 21, 3) := by decide +kernel
theorem dX8_countFree_20 : decode cX8_countFree 20 = .ok (.aload_n 0, 1) := by decide +kernel
theorem dX8_countFree_21 : decode cX8_countFree 21 = .ok (.getfield 46, 3) := by decide +kernel
theorem dX8_countFree_24 : decode cX8_countFree 24 = .ok (.iload_n 2, 1) := by decide +kernel
theorem dX8_countFree_25 : decode cX8_countFree 25 = .ok (.iaload, 1) := by decide +kernel
theorem dX8_countFree_26 : decode cX8_countFree 26 = .ok (.ifCond .ne 6, 3) := by decide +kernel
theorem dX8_countFree_29 : decode cX8_countFree 29 = .ok (.iinc 1 1, 3) := by decide +kernel
theorem dX8_countFree_32 : decode cX8_countFree 32 = .ok (.iinc 2 1, 3) := by decide +kernel
theorem dX8_countFree_35 : decode cX8_countFree 35 = .ok (.goto (-26), 3) := by decide +kernel
theorem dX8_countFree_38 : decode cX8_countFree 38 = .ok (.iload_n 1, 1) := by decide +kernel
theorem dX8_countFree_39 : decode cX8_countFree 39 = .ok (.ireturn, 1) := by decide +kernel
theorem dX8_countShared_0 : decode cX8_countShared 0 = .ok (.aload_n 0, 1) := by decide +kernel
theorem dX8_countShared_1 : decode cX8_countShared 1 = .ok (.invokevirtual 88, 3) := by decide +kernel
theorem dX8_countShared_4 : decode cX8_countShared 4 = .ok (.pop, 1) := by decide +kernel
theorem dX8_countShared_5 : decode cX8_countShared 5 = .ok (.iconst 0, 1) := by decide +kernel
theorem dX8_countShared_6 : decode cX8_countShared 6 = .ok (.istore_n 1, 1) := by decide +kernel
theorem dX8_countShared_7 : decode cX8_countShared 7 = .ok (.iconst 0, 1) := by decide +kernel
theorem dX8_countShared_8 : decode cX8_countShared 8 = .ok (.istore_n 2, 1) := by decide +kernel
theorem dX8_countShared_9 : decode cX8_countShared 9 = .ok (.iload_n 2, 1) := by decide +kernel
theorem dX8_countShared_10 : decode cX8_countShared 10 = .ok (.aload_n 0, 1) := by decide +kernel
theorem dX8_countShared_11 : decode cX8_countShared 11 = .ok (.getfield 28, 3) := by decide +kernel
theorem dX8_countShared_14 : decode cX8_countShared 14 = .ok (.getfield 96, 3) := by decide +kernel
theorem dX8_countShared_17 : decode cX8_countShared 17 = .ok (.if_icmp .ge 25, 3) := by decide +kernel
theorem dX8_countShared_20 : decode cX8_countShared 20 = .ok (.aload_n 0, 1) := by decide +kernel
theorem dX8_countShared_21 : decode cX8_countShared 21 = .ok (.getfield 46, 3) := by decide +kernel
theorem dX8_countShared_24 : decode cX8_countShared 24 = .ok (.iload_n 2, 1) := by decide +kernel
theorem dX8_countShared_25 : decode cX8_countShared 25 = .ok (.iaload, 1) := by decide +kernel
theorem dX8_countShared_26 : decode cX8_countShared 26 = .ok (.invokestatic 102, 3) := by decide +kernel
theorem dX8_countShared_29 : decode cX8_countShared 29 = .ok (.iconst 1, 1) := by decide +kernel
theorem dX8_countShared_30 : decode cX8_countShared 30 = .ok (.if_icmp .le 6, 3) := by decide +kernel
theorem dX8_countShared_33 : decode cX8_countShared 33 = .ok (.iinc 1 1, 3) := by decide +kernel
theorem dX8_countShared_36 : decode cX8_countShared 36 = .ok (.iinc 2 1, 3) := by decide +kernel
theorem dX8_countShared_39 : decode cX8_countShared 39 = .ok (.goto (-30), 3) := by decide +kernel
theorem dX8_countShared_42 : decode cX8_countShared 42 = .ok (.iload_n 1, 1) := by decide +kernel
theorem dX8_countShared_43 : decode cX8_countShared 43 = .ok (.ireturn, 1) := by decide +kernel
theorem dX8_longestFreeRun_0 : decode cX8_longestFreeRun 0 = .ok (.aload_n 0, 1) := by decide +kernel
theorem dX8_longestFreeRun_1 : decode cX8_longestFreeRun 1 = .ok (.invokevirtual 88, 3) := by decide +kernel
theorem dX8_longestFreeRun_4 : decode cX8_longestFreeRun 4 = .ok (.pop, 1) := by decide +kernel
theorem dX8_longestFreeRun_5 : decode cX8_longestFreeRun 5 = .ok (.iconst 0, 1) := by decide +kernel
theorem dX8_longestFreeRun_6 : decode cX8_longestFreeRun 6 = .ok (.istore_n 1, 1) := by decide +kernel
theorem dX8_longestFreeRun_7 : decode cX8_longestFreeRun 7 = .ok (.iconst 0, 1) := by decide +kernel
theorem dX8_longestFreeRun_8 : decode cX8_longestFreeRun 8 = .ok (.istore_n 2, 1) := by decide +kernel
theorem dX8_longestFreeRun_9 : decode cX8_longestFreeRun 9 = .ok (.iconst 0, 1) := by decide +kernel
theorem dX8_longestFreeRun_10 : decode cX8_longestFreeRun 10 = .ok (.istore_n 3, 1) := by decide +kernel
theorem dX8_longestFreeRun_11 : decode cX8_longestFreeRun 11 = .ok (.iload_n 3, 1) := by decide +kernel
theorem dX8_longestFreeRun_12 : decode cX8_longestFreeRun 12 = .ok (.aload_n 0, 1) := by decide +kernel
theorem dX8_longestFreeRun_13 : decode cX8_longestFreeRun 13 = .ok (.getfield 28, 3) := by decide +kernel
theorem dX8_longestFreeRun_16 : decode cX8_longestFreeRun 16 = .ok (.getfield 96, 3) := by decide +kernel
theorem dX8_longestFreeRun_19 : decode cX8_longestFreeRun 19 = .ok (.if_icmp .ge 32, 3) := by decide +kernel
theorem dX8_longestFreeRun_22 : decode cX8_longestFreeRun 22 = .ok (.aload_n 0, 1) := by decide +kernel
theorem dX8_longestFreeRun_23 : decode cX8_longestFreeRun 23 = .ok (.getfield 46, 3) := by decide +kernel
theorem dX8_longestFreeRun_26 : decode cX8_longestFreeRun 26 = .ok (.iload_n 3, 1) := by decide +kernel
theorem dX8_longestFreeRun_27 : decode cX8_longestFreeRun 27 = .ok (.iaload, 1) := by decide +kernel
theorem dX8_longestFreeRun_28 : decode cX8_longestFreeRun 28 = .ok (.ifCond .ne 9, 3) := by decide +kernel
theorem dX8_longestFreeRun_31 : decode cX8_longestFreeRun 31 = .ok (.iload_n 2, 1) := by decide +kernel
theorem dX8_longestFreeRun_32 : decode cX8_longestFreeRun 32 = .ok (.iconst 1, 1) := by decide +kernel
theorem dX8_longestFreeRun_33 : decode cX8_longestFreeRun 33 = .ok (.iadd, 1) := by decide +kernel
theorem dX8_longestFreeRun_34 : decode cX8_longestFreeRun 34 = .ok (.goto 4, 3) := by decide +kernel
theorem dX8_longestFreeRun_37 : decode cX8_longestFreeRun 37 = .ok (.iconst 0, 1) := by decide +kernel
theorem dX8_longestFreeRun_38 : decode cX8_longestFreeRun 38 = .ok (.istore_n 2, 1) := by decide +kernel
theorem dX8_longestFreeRun_39 : decode cX8_longestFreeRun 39 = .ok (.iload_n 1, 1) := by decide +kernel
theorem dX8_longestFreeRun_40 : decode cX8_longestFreeRun 40 = .ok (.iload_n 2, 1) := by decide +kernel
theorem dX8_longestFreeRun_41 : decode cX8_longestFreeRun 41 = .ok (.invokestatic 108, 3) := by decide +kernel
theorem dX8_longestFreeRun_44 : decode cX8_longestFreeRun 44 = .ok (.istore_n 1, 1) := by decide +kernel
theorem dX8_longestFreeRun_45 : decode cX8_longestFreeRun 45 = .ok (.iinc 3 1, 3) := by decide +kernel
theorem dX8_longestFreeRun_48 : decode cX8_longestFreeRun 48 = .ok (.goto (-37), 3) := by decide +kernel
theorem dX8_longestFreeRun_51 : decode cX8_longestFreeRun 51 = .ok (.iload_n 1, 1) := by decide +kernel
theorem dX8_longestFreeRun_52 : decode cX8_longestFreeRun 52 = .ok (.ireturn, 1) := by decide +kernel
theorem dX8_freeAt_0 : decode cX8_freeAt 0 = .ok (.aload_n 0, 1) := by decide +kernel
theorem dX8_freeAt_1 : decode cX8_freeAt 1 = .ok (.invokevirtual 88, 3) := by decide +kernel
theorem dX8_freeAt_4 : decode cX8_freeAt 4 = .ok (.pop, 1) := by decide +kernel
theorem dX8_freeAt_5 : decode cX8_freeAt 5 = .ok (.aload_n 0, 1) := by decide +kernel
theorem dX8_freeAt_6 : decode cX8_freeAt 6 = .ok (.invokevirtual 92, 3) := by decide +kernel
theorem dX8_freeAt_9 : decode cX8_freeAt 9 = .ok (.istore_n 2, 1) := by decide +kernel
theorem dX8_freeAt_10 : decode cX8_freeAt 10 = .ok (.iconst 0, 1) := by decide +kernel
theorem dX8_freeAt_11 : decode cX8_freeAt 11 = .ok (.istore_n 3, 1) := by decide +kernel
theorem dX8_freeAt_12 : decode cX8_freeAt 12 = .ok (.iload_n 3, 1) := by decide +kernel
theorem dX8_freeAt_13 : decode cX8_freeAt 13 = .ok (.iload_n 1, 1) := by decide +kernel
theorem dX8_freeAt_14 : decode cX8_freeAt 14 = .ok (.if_icmp .ge 26, 3) := by decide +kernel
theorem dX8_freeAt_17 : decode cX8_freeAt 17 = .ok (.iload_n 2, 1) := by decide +kernel
theorem dX8_freeAt_18 : decode cX8_freeAt 18 = .ok (.iconst (-1), 1) := by decide +kernel
theorem dX8_freeAt_19 : decode cX8_freeAt 19 = .ok (.if_icmp .eq 21, 3) := by decide +kernel
theorem dX8_freeAt_22 : decode cX8_freeAt 22 = .ok (.aload_n 0, 1) := by decide +kernel
theorem dX8_freeAt_23 : decode cX8_freeAt 23 = .ok (.getfield 46, 3) := by decide +kernel
theorem dX8_freeAt_26 : decode cX8_freeAt 26 = .ok (.iload_n 2, 1) := by decide +kernel
theorem dX8_freeAt_27 : decode cX8_freeAt 27 = .ok (.iconst 1, 1) := by decide +kernel
theorem dX8_freeAt_28 : decode cX8_freeAt 28 = .ok (.iastore, 1) := by decide +kernel
theorem dX8_freeAt_29 : decode cX8_freeAt 29 = .ok (.aload_n 0, 1) := by decide +kernel
theorem dX8_freeAt_30 : decode cX8_freeAt 30 = .ok (.invokevirtual 92, 3) := by decide +kernel
theorem dX8_freeAt_33 : decode cX8_freeAt 33 = .ok (.istore_n 2, 1) := by decide +kernel
theorem dX8_freeAt_34 : decode cX8_freeAt 34 = .ok (.iinc 3 1, 3) := by decide +kernel
theorem dX8_freeAt_37 : decode cX8_freeAt 37 = .ok (.goto (-25), 3) := by decide +kernel
theorem dX8_freeAt_40 : decode cX8_freeAt 40 = .ok (.iload_n 2, 1) := by decide +kernel
theorem dX8_freeAt_41 : decode cX8_freeAt 41 = .ok (.ireturn, 1) := by decide +kernel
theorem dX8_countTwins_0 : decode cX8_countTwins 0 = .ok (.aload_n 0, 1) := by decide +kernel
theorem dX8_countTwins_1 : decode cX8_countTwins 1 = .ok (.invokevirtual 88, 3) := by decide +kernel
theorem dX8_countTwins_4 : decode cX8_countTwins 4 = .ok (.pop, 1) := by decide +kernel
theorem dX8_countTwins_5 : decode cX8_countTwins 5 = .ok (.iconst 0, 1) := by decide +kernel
theorem dX8_countTwins_6 : decode cX8_countTwins 6 = .ok (.istore_n 2, 1) := by decide +kernel
theorem dX8_countTwins_7 : decode cX8_countTwins 7 = .ok (.iconst 0, 1) := by decide +kernel
theorem dX8_countTwins_8 : decode cX8_countTwins 8 = .ok (.istore_n 3, 1) := by decide +kernel
theorem dX8_countTwins_9 : decode cX8_countTwins 9 = .ok (.iload_n 3, 1) := by decide +kernel
theorem dX8_countTwins_10 : decode cX8_countTwins 10 = .ok (.aload_n 0, 1) := by decide +kernel
theorem dX8_countTwins_11 : decode cX8_countTwins 11 = .ok (.getfield 28, 3) := by decide +kernel
theorem dX8_countTwins_14 : decode cX8_countTwins 14 = .ok (.getfield 96, 3) := by decide +kernel
theorem dX8_countTwins_17 : decode cX8_countTwins 17 = .ok (.if_icmp .ge 59, 3) := by decide +kernel
theorem dX8_countTwins_20 : decode cX8_countTwins 20 = .ok (.aload_n 0, 1) := by decide +kernel
theorem dX8_countTwins_21 : decode cX8_countTwins 21 = .ok (.getfield 28, 3) := by decide +kernel
theorem dX8_countTwins_24 : decode cX8_countTwins 24 = .ok (.getfield 114, 3) := by decide +kernel
theorem dX8_countTwins_27 : decode cX8_countTwins 27 = .ok (.iload_n 3, 1) := by decide +kernel
theorem dX8_countTwins_28 : decode cX8_countTwins 28 = .ok (.iaload, 1) := by decide +kernel
theorem dX8_countTwins_29 : decode cX8_countTwins 29 = .ok (.aload_n 0, 1) := by decide +kernel
theorem dX8_countTwins_30 : decode cX8_countTwins 30 = .ok (.getfield 28, 3) := by decide +kernel
theorem dX8_countTwins_33 : decode cX8_countTwins 33 = .ok (.getfield 114, 3) := by decide +kernel
theorem dX8_countTwins_36 : decode cX8_countTwins 36 = .ok (.iload_n 1, 1) := by decide +kernel
theorem dX8_countTwins_37 : decode cX8_countTwins 37 = .ok (.iaload, 1) := by decide +kernel
theorem dX8_countTwins_38 : decode cX8_countTwins 38 = .ok (.if_icmp .ne 7, 3) := by decide +kernel
theorem dX8_countTwins_41 : decode cX8_countTwins 41 = .ok (.iconst 1, 1) := by decide +kernel
theorem dX8_countTwins_42 : decode cX8_countTwins 42 = .ok (.goto 4, 3) := by decide +kernel
theorem dX8_countTwins_45 : decode cX8_countTwins 45 = .ok (.iconst 0, 1) := by decide +kernel
theorem dX8_countTwins_46 : decode cX8_countTwins 46 = .ok (.istore 4, 2) := by decide +kernel
theorem dX8_countTwins_48 : decode cX8_countTwins 48 = .ok (.iload_n 3, 1) := by decide +kernel
theorem dX8_countTwins_49 : decode cX8_countTwins 49 = .ok (.iload_n 1, 1) := by decide +kernel
theorem dX8_countTwins_50 : decode cX8_countTwins 50 = .ok (.if_icmp .eq 20, 3) := by decide +kernel
theorem dX8_countTwins_53 : decode cX8_countTwins 53 = .ok (.aload_n 0, 1) := by decide +kernel
theorem dX8_countTwins_54 : decode cX8_countTwins 54 = .ok (.getfield 46, 3) := by decide +kernel
theorem dX8_countTwins_57 : decode cX8_countTwins 57 = .ok (.iload_n 3, 1) := by decide +kernel
theorem dX8_countTwins_58 : decode cX8_countTwins 58 = .ok (.iaload, 1) := by decide +kernel
theorem dX8_countTwins_59 : decode cX8_countTwins 59 = .ok (.ifCond .eq 11, 3) := by decide +kernel
theorem dX8_countTwins_62 : decode cX8_countTwins 62 = .ok (.iload 4, 2) := by decide +kernel
theorem dX8_countTwins_64 : decode cX8_countTwins 64 = .ok (.ifCond .eq 6, 3) := by decide +kernel
theorem dX8_countTwins_67 : decode cX8_countTwins 67 = .ok (.iinc 2 1, 3) := by decide +kernel
theorem dX8_countTwins_70 : decode cX8_countTwins 70 = .ok (.iinc 3 1, 3) := by decide +kernel
theorem dX8_countTwins_73 : decode cX8_countTwins 73 = .ok (.goto (-64), 3) := by decide +kernel
theorem dX8_countTwins_76 : decode cX8_countTwins 76 = .ok (.iload_n 2, 1) := by decide +kernel
theorem dX8_countTwins_77 : decode cX8_countTwins 77 = .ok (.ireturn, 1) := by decide +kernel
theorem dX8_nextVictim_0 : decode cX8_nextVictim 0 = .ok (.aload_n 0, 1) := by decide +kernel
theorem dX8_nextVictim_1 : decode cX8_nextVictim 1 = .ok (.getfield 21, 3) := by decide +kernel
theorem dX8_nextVictim_4 : decode cX8_nextVictim 4 = .ok (.invokevirtual 117, 3) := by decide +kernel
theorem dX8_nextVictim_7 : decode cX8_nextVictim 7 = .ok (.iconst (-1), 1) := by decide +kernel
theorem dX8_nextVictim_8 : decode cX8_nextVictim 8 = .ok (.if_icmp .eq 5, 3) := by decide +kernel
theorem dX8_nextVictim_11 : decode cX8_nextVictim 11 = .ok (.iconst (-1), 1) := by decide +kernel
theorem dX8_nextVictim_12 : decode cX8_nextVictim 12 = .ok (.ireturn, 1) := by decide +kernel
theorem dX8_nextVictim_13 : decode cX8_nextVictim 13 = .ok (.aload_n 0, 1) := by decide +kernel
theorem dX8_nextVictim_14 : decode cX8_nextVictim 14 = .ok (.getfield 21, 3) := by decide +kernel
theorem dX8_nextVictim_17 : decode cX8_nextVictim 17 = .ok (.getfield 120, 3) := by decide +kernel
theorem dX8_nextVictim_20 : decode cX8_nextVictim 20 = .ok (.iconst 2, 1) := by decide +kernel
theorem dX8_nextVictim_21 : decode cX8_nextVictim 21 = .ok (.if_icmp .ne 11, 3) := by decide +kernel
theorem dX8_nextVictim_24 : decode cX8_nextVictim 24 = .ok (.aload_n 0, 1) := by decide +kernel
theorem dX8_nextVictim_25 : decode cX8_nextVictim 25 = .ok (.iconst 1, 1) := by decide +kernel
theorem dX8_nextVictim_26 : decode cX8_nextVictim 26 = .ok (.invokevirtual 123, 3) := by decide +kernel
theorem dX8_nextVictim_29 : decode cX8_nextVictim 29 = .ok (.goto 4, 3) := by decide +kernel
theorem dX8_nextVictim_32 : decode cX8_nextVictim 32 = .ok (.iconst (-1), 1) := by decide +kernel
theorem dX8_nextVictim_33 : decode cX8_nextVictim 33 = .ok (.istore_n 1, 1) := by decide +kernel
theorem dX8_nextVictim_34 : decode cX8_nextVictim 34 = .ok (.iload_n 1, 1) := by decide +kernel
theorem dX8_nextVictim_35 : decode cX8_nextVictim 35 = .ok (.iconst (-1), 1) := by decide +kernel
theorem dX8_nextVictim_36 : decode cX8_nextVictim 36 = .ok (.if_icmp .ne 11, 3) := by decide +kernel
theorem dX8_nextVictim_39 : decode cX8_nextVictim 39 = .ok (.aload_n 0, 1) := by decide +kernel
theorem dX8_nextVictim_40 : decode cX8_nextVictim 40 = .ok (.iconst 0, 1) := by decide +kernel
theorem dX8_nextVictim_41 : decode cX8_nextVictim 41 = .ok (.invokevirtual 123, 3) := by decide +kernel
theorem dX8_nextVictim_44 : decode cX8_nextVictim 44 = .ok (.goto 4, 3) := by decide +kernel
theorem dX8_nextVictim_47 : decode cX8_nextVictim 47 = .ok (.iload_n 1, 1) := by decide +kernel
theorem dX8_nextVictim_48 : decode cX8_nextVictim 48 = .ok (.ireturn, 1) := by decide +kernel
theorem dX8_earliest_0 : decode cX8_earliest 0 = .ok (.aload_n 0, 1) := by decide +kernel
theorem dX8_earliest_1 : decode cX8_earliest 1 = .ok (.getfield 21, 3) := by decide +kernel
theorem dX8_earliest_4 : decode cX8_earliest 4 = .ok (.getfield 120, 3) := by decide +kernel
theorem dX8_earliest_7 : decode cX8_earliest 7 = .ok (.iconst 1, 1) := by decide +kernel
theorem dX8_earliest_8 : decode cX8_earliest 8 = .ok (.if_icmp .ne 13, 3) := by decide +kernel
theorem dX8_earliest_11 : decode cX8_earliest 11 = .ok (.aload_n 0, 1) := by decide +kernel
theorem dX8_earliest_12 : decode cX8_earliest 12 = .ok (.getfield 21, 3) := by decide +kernel
theorem dX8_earliest_15 : decode cX8_earliest 15 = .ok (.getfield 127, 3) := by decide +kernel
theorem dX8_earliest_18 : decode cX8_earliest 18 = .ok (.goto 10, 3) := by decide +kernel
theorem dX8_earliest_21 : decode cX8_earliest 21 = .ok (.aload_n 0, 1) := by decide +kernel
theorem dX8_earliest_22 : decode cX8_earliest 22 = .ok (.getfield 21, 3) := by decide +kernel
theorem dX8_earliest_25 : decode cX8_earliest 25 = .ok (.getfield 130, 3) := by decide +kernel
theorem dX8_earliest_28 : decode cX8_earliest 28 = .ok (.astore_n 2, 1) := by decide +kernel
theorem dX8_earliest_29 : decode cX8_earliest 29 = .ok (.iconst (-1), 1) := by decide +kernel
theorem dX8_earliest_30 : decode cX8_earliest 30 = .ok (.istore_n 3, 1) := by decide +kernel
theorem dX8_earliest_31 : decode cX8_earliest 31 = .ok (.iconst 0, 1) := by decide +kernel
theorem dX8_earliest_32 : decode cX8_earliest 32 = .ok (.istore 4, 2) := by decide +kernel
theorem dX8_earliest_34 : decode cX8_earliest 34 = .ok (.iload 4, 2) := by decide +kernel
theorem dX8_earliest_36 : decode cX8_earliest 36 = .ok (.aload_n 0, 1) := by decide +kernel
theorem dX8_earliest_37 : decode cX8_earliest 37 = .ok (.getfield 21, 3) := by decide +kernel
theorem dX8_earliest_40 : decode cX8_earliest 40 = .ok (.getfield 133, 3) := by decide +kernel
theorem dX8_earliest_43 : decode cX8_earliest 43 = .ok (.if_icmp .ge 63, 3) := by decide +kernel
theorem dX8_earliest_46 : decode cX8_earliest 46 = .ok (.iload_n 1, 1) := by decide +kernel
theorem dX8_earliest_47 : decode cX8_earliest 47 = .ok (.ifCond .eq 23, 3) := by decide +kernel
theorem dX8_earliest_50 : decode cX8_earliest 50 = .ok (.aload_n 0, 1) := by decide +kernel
theorem dX8_earliest_51 : decode cX8_earliest 51 = .ok (.getfield 12, 3) := by decide +kernel
theorem dX8_earliest_54 : decode cX8_earliest 54 = .ok (.aload_n 0, 1) := by decide +kernel
theorem dX8_earliest_55 : decode cX8_earliest 55 = .ok (.getfield 21, 3) := by decide +kernel
theorem dX8_earliest_58 : decode cX8_earliest 58 = .ok (.getfield 134, 3) := by decide +kernel
theorem dX8_earliest_61 : decode cX8_earliest 61 = .ok (.iload 4, 2) := by decide +kernel
theorem dX8_earliest_63 : decode cX8_earliest 63 = .ok (.iaload, 1) := by decide +kernel
theorem dX8_earliest_64 : decode cX8_earliest 64 = .ok (.invokevirtual 137, 3) := by decide +kernel
theorem dX8_earliest_67 : decode cX8_earliest 67 = .ok (.ifCond .ne 7, 3) := by decide +kernel
theorem dX8_earliest_70 : decode cX8_earliest 70 = .ok (.iconst 1, 1) := by decide +kernel
theorem dX8_earliest_71 : decode cX8_earliest 71 = .ok (.goto 4, 3) := by decide +kernel
theorem dX8_earliest_74 : decode cX8_earliest 74 = .ok (.iconst 0, 1) := by decide +kernel
theorem dX8_earliest_75 : decode cX8_earliest 75 = .ok (.istore 5, 2) := by decide +kernel
theorem dX8_earliest_77 : decode cX8_earliest 77 = .ok (.iload 5, 2) := by decide +kernel
theorem dX8_earliest_79 : decode cX8_earliest 79 = .ok (.ifCond .eq 21, 3) := by decide +kernel
theorem dX8_earliest_82 : decode cX8_earliest 82 = .ok (.iload_n 3, 1) := by decide +kernel
theorem dX8_earliest_83 : decode cX8_earliest 83 = .ok (.iconst (-1), 1) := by decide +kernel
theorem dX8_earliest_84 : decode cX8_earliest 84 = .ok (.if_icmp .eq 13, 3) := by decide +kernel
theorem dX8_earliest_87 : decode cX8_earliest 87 = .ok (.aload_n 2, 1) := by decide +kernel
theorem dX8_earliest_88 : decode cX8_earliest 88 = .ok (.iload 4, 2) := by decide +kernel
theorem dX8_earliest_90 : decode cX8_earliest 90 = .ok (.iaload, 1) := by decide +kernel
theorem dX8_earliest_91 : decode cX8_earliest 91 = .ok (.aload_n 2, 1) := by decide +kernel
theorem dX8_earliest_92 : decode cX8_earliest 92 = .ok (.iload_n 3, 1) := by decide +kernel
theorem dX8_earliest_93 : decode cX8_earliest 93 = .ok (.iaload, 1) := by decide +kernel
theorem dX8_earliest_94 : decode cX8_earliest 94 = .ok (.if_icmp .ge 6, 3) := by decide +kernel
theorem dX8_earliest_97 : decode cX8_earliest 97 = .ok (.iload 4, 2) := by decide +kernel
theorem dX8_earliest_99 : decode cX8_earliest 99 = .ok (.istore_n 3, 1) := by decide +kernel
theorem dX8_earliest_100 : decode cX8_earliest 100 = .ok (.iinc 4 1, 3) := by decide +kernel
theorem dX8_earliest_103 : decode cX8_earliest 103 = .ok (.goto (-69), 3) := by decide +kernel
theorem dX8_earliest_106 : decode cX8_earliest 106 = .ok (.iload_n 3, 1) := by decide +kernel
theorem dX8_earliest_107 : decode cX8_earliest 107 = .ok (.ireturn, 1) := by decide +kernel
theorem dX8_lacksSlot_0 : decode cX8_lacksSlot 0 = .ok (.aload_n 0, 1) := by decide +kernel
theorem dX8_lacksSlot_1 : decode cX8_lacksSlot 1 = .ok (.getfield 12, 3) := by decide +kernel
theorem dX8_lacksSlot_4 : decode cX8_lacksSlot 4 = .ok (.getfield 141, 3) := by decide +kernel
theorem dX8_lacksSlot_7 : decode cX8_lacksSlot 7 = .ok (.iload_n 1, 1) := by decide +kernel
theorem dX8_lacksSlot_8 : decode cX8_lacksSlot 8 = .ok (.iaload, 1) := by decide +kernel
theorem dX8_lacksSlot_9 : decode cX8_lacksSlot 9 = .ok (.iconst (-1), 1) := by decide +kernel
theorem dX8_lacksSlot_10 : decode cX8_lacksSlot 10 = .ok (.if_icmp .ne 10, 3) := by decide +kernel
theorem dX8_lacksSlot_13 : decode cX8_lacksSlot 13 = .ok (.aload_n 0, 1) := by decide +kernel
theorem dX8_lacksSlot_14 : decode cX8_lacksSlot 14 = .ok (.invokevirtual 143, 3) := by decide +kernel
theorem dX8_lacksSlot_17 : decode cX8_lacksSlot 17 = .ok (.goto 4, 3) := by decide +kernel
theorem dX8_lacksSlot_20 : decode cX8_lacksSlot 20 = .ok (.iconst (-1), 1) := by decide +kernel
theorem dX8_lacksSlot_21 : decode cX8_lacksSlot 21 = .ok (.istore_n 2, 1) := by decide +kernel
theorem dX8_lacksSlot_22 : decode cX8_lacksSlot 22 = .ok (.iload_n 2, 1) := by decide +kernel
theorem dX8_lacksSlot_23 : decode cX8_lacksSlot 23 = .ok (.iconst (-1), 1) := by decide +kernel
theorem dX8_lacksSlot_24 : decode cX8_lacksSlot 24 = .ok (.if_icmp .eq 34, 3) := by decide +kernel
theorem dX8_lacksSlot_27 : decode cX8_lacksSlot 27 = .ok (.aload_n 0, 1) := by decide +kernel
theorem dX8_lacksSlot_28 : decode cX8_lacksSlot 28 = .ok (.getfield 12, 3) := by decide +kernel
theorem dX8_lacksSlot_31 : decode cX8_lacksSlot 31 = .ok (.aload_n 0, 1) := by decide +kernel
theorem dX8_lacksSlot_32 : decode cX8_lacksSlot 32 = .ok (.getfield 21, 3) := by decide +kernel
theorem dX8_lacksSlot_35 : decode cX8_lacksSlot 35 = .ok (.getfield 134, 3) := by decide +kernel
theorem dX8_lacksSlot_38 : decode cX8_lacksSlot 38 = .ok (.iload_n 2, 1) := by decide +kernel
theorem dX8_lacksSlot_39 : decode cX8_lacksSlot 39 = .ok (.iaload, 1) := by decide +kernel
theorem dX8_lacksSlot_40 : decode cX8_lacksSlot 40 = .ok (.invokevirtual 137, 3) := by decide +kernel
theorem dX8_lacksSlot_43 : decode cX8_lacksSlot 43 = .ok (.ifCond .eq 15, 3) := by decide +kernel
theorem dX8_lacksSlot_46 : decode cX8_lacksSlot 46 = .ok (.aload_n 0, 1) := by decide +kernel
theorem dX8_lacksSlot_47 : decode cX8_lacksSlot 47 = .ok (.invokevirtual 146, 3) := by decide +kernel
theorem dX8_lacksSlot_50 : decode cX8_lacksSlot 50 = .ok (.iconst (-1), 1) := by decide +kernel
theorem dX8_lacksSlot_51 : decode cX8_lacksSlot 51 = .ok (.if_icmp .ne 7, 3) := by decide +kernel
theorem dX8_lacksSlot_54 : decode cX8_lacksSlot 54 = .ok (.iconst 1, 1) := by decide +kernel
theorem dX8_lacksSlot_55 : decode cX8_lacksSlot 55 = .ok (.goto 4, 3) := by decide +kernel
theorem dX8_lacksSlot_58 : decode cX8_lacksSlot 58 = .ok (.iconst 0, 1) := by decide +kernel
theorem dX8_lacksSlot_59 : decode cX8_lacksSlot 59 = .ok (.ireturn, 1) := by decide +kernel
theorem dX8_refusalToRead_0 : decode cX8_refusalToRead 0 = .ok (.aload_n 0, 1) := by decide +kernel
theorem dX8_refusalToRead_1 : decode cX8_refusalToRead 1 = .ok (.getfield 12, 3) := by decide +kernel
theorem dX8_refusalToRead_4 : decode cX8_refusalToRead 4 = .ok (.iload_n 1, 1) := by decide +kernel
theorem dX8_refusalToRead_5 : decode cX8_refusalToRead 5 = .ok (.iload_n 2, 1) := by decide +kernel
theorem dX8_refusalToRead_6 : decode cX8_refusalToRead 6 = .ok (.invokevirtual 149, 3) := by decide +kernel
theorem dX8_refusalToRead_9 : decode cX8_refusalToRead 9 = .ok (.ifCond .ne 5, 3) := by decide +kernel
theorem dX8_refusalToRead_12 : decode cX8_refusalToRead 12 = .ok (.iconst 1, 1) := by decide +kernel
theorem dX8_refusalToRead_13 : decode cX8_refusalToRead 13 = .ok (.ireturn, 1) := by decide +kernel
theorem dX8_refusalToRead_14 : decode cX8_refusalToRead 14 = .ok (.aload_n 0, 1) := by decide +kernel
theorem dX8_refusalToRead_15 : decode cX8_refusalToRead 15 = .ok (.iload_n 1, 1) := by decide +kernel
theorem dX8_refusalToRead_16 : decode cX8_refusalToRead 16 = .ok (.iload_n 2, 1) := by decide +kernel
theorem dX8_refusalToRead_17 : decode cX8_refusalToRead 17 = .ok (.invokestatic 153, 3) := by decide +kernel
theorem dX8_refusalToRead_20 : decode cX8_refusalToRead 20 = .ok (.invokevirtual 156, 3) := by decide +kernel
theorem dX8_refusalToRead_23 : decode cX8_refusalToRead 23 = .ok (.ifCond .eq 7, 3) := by decide +kernel
theorem dX8_refusalToRead_26 : decode cX8_refusalToRead 26 = .ok (.iconst 3, 1) := by decide +kernel
theorem dX8_refusalToRead_27 : decode cX8_refusalToRead 27 = .ok (.goto 4, 3) := by decide +kernel
theorem dX8_refusalToRead_30 : decode cX8_refusalToRead 30 = .ok (.iconst 0, 1) := by decide +kernel
theorem dX8_refusalToRead_31 : decode cX8_refusalToRead 31 = .ok (.ireturn, 1) := by decide +kernel
theorem dX8_read_0 : decode cX8_read 0 = .ok (.aload_n 0, 1) := by decide +kernel
theorem dX8_read_1 : decode cX8_read 1 = .ok (.iload_n 1, 1) := by decide +kernel
theorem dX8_read_2 : decode cX8_read 2 = .ok (.invokevirtual 159, 3) := by decide +kernel
theorem dX8_read_5 : decode cX8_read 5 = .ok (.aload_n 0, 1) := by decide +kernel
theorem dX8_read_6 : decode cX8_read 6 = .ok (.iload_n 1, 1) := by decide +kernel
theorem dX8_read_7 : decode cX8_read 7 = .ok (.invokevirtual 163, 3) := by decide +kernel
theorem dX8_read_10 : decode cX8_read 10 = .ok (.aload_n 0, 1) := by decide +kernel
theorem dX8_read_11 : decode cX8_read 11 = .ok (.getfield 12, 3) := by decide +kernel
theorem dX8_read_14 : decode cX8_read 14 = .ok (.getfield 166, 3) := by decide +kernel
theorem dX8_read_17 : decode cX8_read 17 = .ok (.iload_n 1, 1) := by decide +kernel
theorem dX8_read_18 : decode cX8_read 18 = .ok (.iaload, 1) := by decide +kernel
theorem dX8_read_19 : decode cX8_read 19 = .ok (.ireturn, 1) := by decide +kernel
theorem dX8_refusalToWrite_0 : decode cX8_refusalToWrite 0 = .ok (.aload_n 0, 1) := by decide +kernel
theorem dX8_refusalToWrite_1 : decode cX8_refusalToWrite 1 = .ok (.getfield 12, 3) := by decide +kernel
theorem dX8_refusalToWrite_4 : decode cX8_refusalToWrite 4 = .ok (.iload_n 1, 1) := by decide +kernel
theorem dX8_refusalToWrite_5 : decode cX8_refusalToWrite 5 = .ok (.iload_n 2, 1) := by decide +kernel
theorem dX8_refusalToWrite_6 : decode cX8_refusalToWrite 6 = .ok (.invokevirtual 149, 3) := by decide +kernel
theorem dX8_refusalToWrite_9 : decode cX8_refusalToWrite 9 = .ok (.ifCond .ne 5, 3) := by decide +kernel
theorem dX8_refusalToWrite_12 : decode cX8_refusalToWrite 12 = .ok (.iconst 1, 1) := by decide +kernel
theorem dX8_refusalToWrite_13 : decode cX8_refusalToWrite 13 = .ok (.ireturn, 1) := by decide +kernel
theorem dX8_refusalToWrite_14 : decode cX8_refusalToWrite 14 = .ok (.iload_n 1, 1) := by decide +kernel
theorem dX8_refusalToWrite_15 : decode cX8_refusalToWrite 15 = .ok (.iload_n 2, 1) := by decide +kernel
theorem dX8_refusalToWrite_16 : decode cX8_refusalToWrite 16 = .ok (.invokestatic 153, 3) := by decide +kernel
theorem dX8_refusalToWrite_19 : decode cX8_refusalToWrite 19 = .ok (.istore_n 3, 1) := by decide +kernel
theorem dX8_refusalToWrite_20 : decode cX8_refusalToWrite 20 = .ok (.aload_n 0, 1) := by decide +kernel
theorem dX8_refusalToWrite_21 : decode cX8_refusalToWrite 21 = .ok (.getfield 35, 3) := by decide +kernel
theorem dX8_refusalToWrite_24 : decode cX8_refusalToWrite 24 = .ok (.getfield 85, 3) := by decide +kernel
theorem dX8_refusalToWrite_27 : decode cX8_refusalToWrite 27 = .ok (.iload_n 3, 1) := by decide +kernel
theorem dX8_refusalToWrite_28 : decode cX8_refusalToWrite 28 = .ok (.iaload, 1) := by decide +kernel
theorem dX8_refusalToWrite_29 : decode cX8_refusalToWrite 29 = .ok (.bipush (-2), 2) := by decide +kernel
theorem dX8_refusalToWrite_31 : decode cX8_refusalToWrite 31 = .ok (.if_icmp .ne 17, 3) := by decide +kernel
theorem dX8_refusalToWrite_34 : decode cX8_refusalToWrite 34 = .ok (.aload_n 0, 1) := by decide +kernel
theorem dX8_refusalToWrite_35 : decode cX8_refusalToWrite 35 = .ok (.invokevirtual 146, 3) := by decide +kernel
theorem dX8_refusalToWrite_38 : decode cX8_refusalToWrite 38 = .ok (.iconst (-1), 1) := by decide +kernel
theorem dX8_refusalToWrite_39 : decode cX8_refusalToWrite 39 = .ok (.if_icmp .ne 7, 3) := by decide +kernel
theorem dX8_refusalToWrite_42 : decode cX8_refusalToWrite 42 = .ok (.iconst 3, 1) := by decide +kernel
theorem dX8_refusalToWrite_43 : decode cX8_refusalToWrite 43 = .ok (.goto 4, 3) := by decide +kernel
theorem dX8_refusalToWrite_46 : decode cX8_refusalToWrite 46 = .ok (.iconst 0, 1) := by decide +kernel
theorem dX8_refusalToWrite_47 : decode cX8_refusalToWrite 47 = .ok (.ireturn, 1) := by decide +kernel
theorem dX8_refusalToWrite_48 : decode cX8_refusalToWrite 48 = .ok (.aload_n 0, 1) := by decide +kernel
theorem dX8_refusalToWrite_49 : decode cX8_refusalToWrite 49 = .ok (.iload_n 3, 1) := by decide +kernel
theorem dX8_refusalToWrite_50 : decode cX8_refusalToWrite 50 = .ok (.invokevirtual 156, 3) := by decide +kernel
theorem dX8_refusalToWrite_53 : decode cX8_refusalToWrite 53 = .ok (.ifCond .eq 7, 3) := by decide +kernel
theorem dX8_refusalToWrite_56 : decode cX8_refusalToWrite 56 = .ok (.iconst 3, 1) := by decide +kernel
theorem dX8_refusalToWrite_57 : decode cX8_refusalToWrite 57 = .ok (.goto 4, 3) := by decide +kernel
theorem dX8_refusalToWrite_60 : decode cX8_refusalToWrite 60 = .ok (.iconst 0, 1) := by decide +kernel
theorem dX8_refusalToWrite_61 : decode cX8_refusalToWrite 61 = .ok (.ireturn, 1) := by decide +kernel
theorem dX8_write_0 : decode cX8_write 0 = .ok (.aload_n 0, 1) := by decide +kernel
theorem dX8_write_1 : decode cX8_write 1 = .ok (.getfield 35, 3) := by decide +kernel
theorem dX8_write_4 : decode cX8_write 4 = .ok (.getfield 85, 3) := by decide +kernel
theorem dX8_write_7 : decode cX8_write 7 = .ok (.iload_n 1, 1) := by decide +kernel
theorem dX8_write_8 : decode cX8_write 8 = .ok (.iaload, 1) := by decide +kernel
theorem dX8_write_9 : decode cX8_write 9 = .ok (.bipush (-2), 2) := by decide +kernel
theorem dX8_write_11 : decode cX8_write 11 = .ok (.if_icmp .ne 12, 3) := by decide +kernel
theorem dX8_write_14 : decode cX8_write 14 = .ok (.aload_n 0, 1) := by decide +kernel
theorem dX8_write_15 : decode cX8_write 15 = .ok (.iload_n 1, 1) := by decide +kernel
theorem dX8_write_16 : decode cX8_write 16 = .ok (.aload_n 0, 1) := by decide +kernel
theorem dX8_write_17 : decode cX8_write 17 = .ok (.invokevirtual 146, 3) := by decide +kernel
theorem dX8_write_20 : decode cX8_write 20 = .ok (.invokevirtual 167, 3) := by decide +kernel
theorem dX8_write_23 : decode cX8_write 23 = .ok (.aload_n 0, 1) := by decide +kernel
theorem dX8_write_24 : decode cX8_write 24 = .ok (.iload_n 1, 1) := by decide +kernel
theorem dX8_write_25 : decode cX8_write 25 = .ok (.invokevirtual 159, 3) := by decide +kernel
theorem dX8_write_28 : decode cX8_write 28 = .ok (.aload_n 0, 1) := by decide +kernel
theorem dX8_write_29 : decode cX8_write 29 = .ok (.iload_n 1, 1) := by decide +kernel
theorem dX8_write_30 : decode cX8_write 30 = .ok (.invokevirtual 163, 3) := by decide +kernel
theorem dX8_write_33 : decode cX8_write 33 = .ok (.aload_n 0, 1) := by decide +kernel
theorem dX8_write_34 : decode cX8_write 34 = .ok (.getfield 12, 3) := by decide +kernel
theorem dX8_write_37 : decode cX8_write 37 = .ok (.getfield 166, 3) := by decide +kernel
theorem dX8_write_40 : decode cX8_write 40 = .ok (.iload_n 1, 1) := by decide +kernel
theorem dX8_write_41 : decode cX8_write 41 = .ok (.iaload, 1) := by decide +kernel
theorem dX8_write_42 : decode cX8_write 42 = .ok (.istore_n 3, 1) := by decide +kernel
theorem dX8_write_43 : decode cX8_write 43 = .ok (.aload_n 0, 1) := by decide +kernel
theorem dX8_write_44 : decode cX8_write 44 = .ok (.getfield 12, 3) := by decide +kernel
theorem dX8_write_47 : decode cX8_write 47 = .ok (.iload_n 1, 1) := by decide +kernel
theorem dX8_write_48 : decode cX8_write 48 = .ok (.iload_n 2, 1) := by decide +kernel
theorem dX8_write_49 : decode cX8_write 49 = .ok (.invokevirtual 171, 3) := by decide +kernel
theorem dX8_write_52 : decode cX8_write 52 = .ok (.aload_n 0, 1) := by decide +kernel
theorem dX8_write_53 : decode cX8_write 53 = .ok (.getfield 12, 3) := by decide +kernel
theorem dX8_write_56 : decode cX8_write 56 = .ok (.getfield 79, 3) := by decide +kernel
theorem dX8_write_59 : decode cX8_write 59 = .ok (.iload_n 1, 1) := by decide +kernel
theorem dX8_write_60 : decode cX8_write 60 = .ok (.iconst (-1), 1) := by decide +kernel
theorem dX8_write_61 : decode cX8_write 61 = .ok (.iastore, 1) := by decide +kernel
theorem dX8_write_62 : decode cX8_write 62 = .ok (.aload_n 0, 1) := by decide +kernel
theorem dX8_write_63 : decode cX8_write 63 = .ok (.getfield 12, 3) := by decide +kernel
theorem dX8_write_66 : decode cX8_write 66 = .ok (.iload_n 1, 1) := by decide +kernel
theorem dX8_write_67 : decode cX8_write 67 = .ok (.invokevirtual 174, 3) := by decide +kernel
theorem dX8_write_70 : decode cX8_write 70 = .ok (.iload_n 3, 1) := by decide +kernel
theorem dX8_write_71 : decode cX8_write 71 = .ok (.ireturn, 1) := by decide +kernel
theorem dX8_makeRoom_0 : decode cX8_makeRoom 0 = .ok (.aload_n 0, 1) := by decide +kernel
theorem dX8_makeRoom_1 : decode cX8_makeRoom 1 = .ok (.getfield 12, 3) := by decide +kernel
theorem dX8_makeRoom_4 : decode cX8_makeRoom 4 = .ok (.getfield 141, 3) := by decide +kernel
theorem dX8_makeRoom_7 : decode cX8_makeRoom 7 = .ok (.iload_n 1, 1) := by decide +kernel
theorem dX8_makeRoom_8 : decode cX8_makeRoom 8 = .ok (.iaload, 1) := by decide +kernel
theorem dX8_makeRoom_9 : decode cX8_makeRoom 9 = .ok (.iconst (-1), 1) := by decide +kernel
theorem dX8_makeRoom_10 : decode cX8_makeRoom 10 = .ok (.if_icmp .ne 10, 3) := by decide +kernel
theorem dX8_makeRoom_13 : decode cX8_makeRoom 13 = .ok (.aload_n 0, 1) := by decide +kernel
theorem dX8_makeRoom_14 : decode cX8_makeRoom 14 = .ok (.invokevirtual 143, 3) := by decide +kernel
theorem dX8_makeRoom_17 : decode cX8_makeRoom 17 = .ok (.goto 4, 3) := by decide +kernel
theorem dX8_makeRoom_20 : decode cX8_makeRoom 20 = .ok (.iconst (-1), 1) := by decide +kernel
theorem dX8_makeRoom_21 : decode cX8_makeRoom 21 = .ok (.istore_n 2, 1) := by decide +kernel
theorem dX8_makeRoom_22 : decode cX8_makeRoom 22 = .ok (.iload_n 2, 1) := by decide +kernel
theorem dX8_makeRoom_23 : decode cX8_makeRoom 23 = .ok (.iconst (-1), 1) := by decide +kernel
theorem dX8_makeRoom_24 : decode cX8_makeRoom 24 = .ok (.if_icmp .eq 17, 3) := by decide +kernel
theorem dX8_makeRoom_27 : decode cX8_makeRoom 27 = .ok (.aload_n 0, 1) := by decide +kernel
theorem dX8_makeRoom_28 : decode cX8_makeRoom 28 = .ok (.aload_n 0, 1) := by decide +kernel
theorem dX8_makeRoom_29 : decode cX8_makeRoom 29 = .ok (.getfield 21, 3) := by decide +kernel
