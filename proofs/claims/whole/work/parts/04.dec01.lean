theorem dX8_makeRoom_32 : decode cX8_makeRoom 32 = .ok (.getfield 134, 3) := by decide +kernel
theorem dX8_makeRoom_35 : decode cX8_makeRoom 35 = .ok (.iload_n 2, 1) := by decide +kernel
theorem dX8_makeRoom_36 : decode cX8_makeRoom 36 = .ok (.iaload, 1) := by decide +kernel
theorem dX8_makeRoom_37 : decode cX8_makeRoom 37 = .ok (.invokevirtual 177, 3) := by decide +kernel
theorem dX8_makeRoom_40 : decode cX8_makeRoom 40 = .ok (.pop, 1) := by decide +kernel
theorem dX8_makeRoom_41 : decode cX8_makeRoom 41 = .ok (.return_, 1) := by decide +kernel
theorem dX8_access_0 : decode cX8_access 0 = .ok (.aload_n 0, 1) := by decide +kernel
theorem dX8_access_1 : decode cX8_access 1 = .ok (.getfield 42, 3) := by decide +kernel
theorem dX8_access_4 : decode cX8_access 4 = .ok (.iload_n 1, 1) := by decide +kernel
theorem dX8_access_5 : decode cX8_access 5 = .ok (.invokevirtual 180, 3) := by decide +kernel
theorem dX8_access_8 : decode cX8_access 8 = .ok (.aload_n 0, 1) := by decide +kernel
theorem dX8_access_9 : decode cX8_access 9 = .ok (.getfield 12, 3) := by decide +kernel
theorem dX8_access_12 : decode cX8_access 12 = .ok (.getfield 141, 3) := by decide +kernel
theorem dX8_access_15 : decode cX8_access 15 = .ok (.iload_n 1, 1) := by decide +kernel
theorem dX8_access_16 : decode cX8_access 16 = .ok (.iaload, 1) := by decide +kernel
theorem dX8_access_17 : decode cX8_access 17 = .ok (.iconst (-1), 1) := by decide +kernel
theorem dX8_access_18 : decode cX8_access 18 = .ok (.if_icmp .ne 21, 3) := by decide +kernel
theorem dX8_access_21 : decode cX8_access 21 = .ok (.aload_n 0, 1) := by decide +kernel
theorem dX8_access_22 : decode cX8_access 22 = .ok (.getfield 42, 3) := by decide +kernel
theorem dX8_access_25 : decode cX8_access 25 = .ok (.dup, 1) := by decide +kernel
theorem dX8_access_26 : decode cX8_access 26 = .ok (.getfield 183, 3) := by decide +kernel
theorem dX8_access_29 : decode cX8_access 29 = .ok (.iconst 1, 1) := by decide +kernel
theorem dX8_access_30 : decode cX8_access 30 = .ok (.iadd, 1) := by decide +kernel
theorem dX8_access_31 : decode cX8_access 31 = .ok (.putfield 183, 3) := by decide +kernel
theorem dX8_access_34 : decode cX8_access 34 = .ok (.aload_n 0, 1) := by decide +kernel
theorem dX8_access_35 : decode cX8_access 35 = .ok (.iload_n 1, 1) := by decide +kernel
theorem dX8_access_36 : decode cX8_access 36 = .ok (.invokevirtual 186, 3) := by decide +kernel
theorem dX8_access_39 : decode cX8_access 39 = .ok (.aload_n 0, 1) := by decide +kernel
theorem dX8_access_40 : decode cX8_access 40 = .ok (.getfield 12, 3) := by decide +kernel
theorem dX8_access_43 : decode cX8_access 43 = .ok (.getfield 141, 3) := by decide +kernel
theorem dX8_access_46 : decode cX8_access 46 = .ok (.iload_n 1, 1) := by decide +kernel
theorem dX8_access_47 : decode cX8_access 47 = .ok (.iaload, 1) := by decide +kernel
theorem dX8_access_48 : decode cX8_access 48 = .ok (.istore_n 2, 1) := by decide +kernel
theorem dX8_access_49 : decode cX8_access 49 = .ok (.iload_n 2, 1) := by decide +kernel
theorem dX8_access_50 : decode cX8_access 50 = .ok (.iconst (-1), 1) := by decide +kernel
theorem dX8_access_51 : decode cX8_access 51 = .ok (.if_icmp .eq 19, 3) := by decide +kernel
theorem dX8_access_54 : decode cX8_access 54 = .ok (.aload_n 0, 1) := by decide +kernel
theorem dX8_access_55 : decode cX8_access 55 = .ok (.getfield 21, 3) := by decide +kernel
theorem dX8_access_58 : decode cX8_access 58 = .ok (.getfield 130, 3) := by decide +kernel
theorem dX8_access_61 : decode cX8_access 61 = .ok (.iload_n 2, 1) := by decide +kernel
theorem dX8_access_62 : decode cX8_access 62 = .ok (.aload_n 0, 1) := by decide +kernel
theorem dX8_access_63 : decode cX8_access 63 = .ok (.getfield 42, 3) := by decide +kernel
theorem dX8_access_66 : decode cX8_access 66 = .ok (.getfield 189, 3) := by decide +kernel
theorem dX8_access_69 : decode cX8_access 69 = .ok (.iastore, 1) := by decide +kernel
theorem dX8_access_70 : decode cX8_access 70 = .ok (.return_, 1) := by decide +kernel
theorem dX8_load_0 : decode cX8_load 0 = .ok (.aload_n 0, 1) := by decide +kernel
theorem dX8_load_1 : decode cX8_load 1 = .ok (.getfield 21, 3) := by decide +kernel
theorem dX8_load_4 : decode cX8_load 4 = .ok (.invokevirtual 117, 3) := by decide +kernel
theorem dX8_load_7 : decode cX8_load 7 = .ok (.istore_n 2, 1) := by decide +kernel
theorem dX8_load_8 : decode cX8_load 8 = .ok (.iload_n 2, 1) := by decide +kernel
theorem dX8_load_9 : decode cX8_load 9 = .ok (.iconst (-1), 1) := by decide +kernel
theorem dX8_load_10 : decode cX8_load 10 = .ok (.if_icmp .eq 39, 3) := by decide +kernel
theorem dX8_load_13 : decode cX8_load 13 = .ok (.aload_n 0, 1) := by decide +kernel
theorem dX8_load_14 : decode cX8_load 14 = .ok (.getfield 21, 3) := by decide +kernel
theorem dX8_load_17 : decode cX8_load 17 = .ok (.getfield 134, 3) := by decide +kernel
theorem dX8_load_20 : decode cX8_load 20 = .ok (.iload_n 2, 1) := by decide +kernel
theorem dX8_load_21 : decode cX8_load 21 = .ok (.iload_n 1, 1) := by decide +kernel
theorem dX8_load_22 : decode cX8_load 22 = .ok (.iastore, 1) := by decide +kernel
theorem dX8_load_23 : decode cX8_load 23 = .ok (.aload_n 0, 1) := by decide +kernel
theorem dX8_load_24 : decode cX8_load 24 = .ok (.getfield 21, 3) := by decide +kernel
theorem dX8_load_27 : decode cX8_load 27 = .ok (.getfield 127, 3) := by decide +kernel
theorem dX8_load_30 : decode cX8_load 30 = .ok (.iload_n 2, 1) := by decide +kernel
theorem dX8_load_31 : decode cX8_load 31 = .ok (.aload_n 0, 1) := by decide +kernel
theorem dX8_load_32 : decode cX8_load 32 = .ok (.getfield 42, 3) := by decide +kernel
theorem dX8_load_35 : decode cX8_load 35 = .ok (.getfield 189, 3) := by decide +kernel
theorem dX8_load_38 : decode cX8_load 38 = .ok (.iastore, 1) := by decide +kernel
theorem dX8_load_39 : decode cX8_load 39 = .ok (.aload_n 0, 1) := by decide +kernel
theorem dX8_load_40 : decode cX8_load 40 = .ok (.getfield 12, 3) := by decide +kernel
theorem dX8_load_43 : decode cX8_load 43 = .ok (.getfield 141, 3) := by decide +kernel
theorem dX8_load_46 : decode cX8_load 46 = .ok (.iload_n 1, 1) := by decide +kernel
theorem dX8_load_47 : decode cX8_load 47 = .ok (.iload_n 2, 1) := by decide +kernel
theorem dX8_load_48 : decode cX8_load 48 = .ok (.iastore, 1) := by decide +kernel
theorem dX8_load_49 : decode cX8_load 49 = .ok (.return_, 1) := by decide +kernel
theorem dX8_refusalToEvict_0 : decode cX8_refusalToEvict 0 = .ok (.aload_n 0, 1) := by decide +kernel
theorem dX8_refusalToEvict_1 : decode cX8_refusalToEvict 1 = .ok (.getfield 12, 3) := by decide +kernel
theorem dX8_refusalToEvict_4 : decode cX8_refusalToEvict 4 = .ok (.iload_n 1, 1) := by decide +kernel
theorem dX8_refusalToEvict_5 : decode cX8_refusalToEvict 5 = .ok (.iload_n 2, 1) := by decide +kernel
theorem dX8_refusalToEvict_6 : decode cX8_refusalToEvict 6 = .ok (.invokevirtual 149, 3) := by decide +kernel
theorem dX8_refusalToEvict_9 : decode cX8_refusalToEvict 9 = .ok (.ifCond .ne 5, 3) := by decide +kernel
theorem dX8_refusalToEvict_12 : decode cX8_refusalToEvict 12 = .ok (.iconst 1, 1) := by decide +kernel
theorem dX8_refusalToEvict_13 : decode cX8_refusalToEvict 13 = .ok (.ireturn, 1) := by decide +kernel
theorem dX8_refusalToEvict_14 : decode cX8_refusalToEvict 14 = .ok (.iload_n 1, 1) := by decide +kernel
theorem dX8_refusalToEvict_15 : decode cX8_refusalToEvict 15 = .ok (.iload_n 2, 1) := by decide +kernel
theorem dX8_refusalToEvict_16 : decode cX8_refusalToEvict 16 = .ok (.invokestatic 153, 3) := by decide +kernel
theorem dX8_refusalToEvict_19 : decode cX8_refusalToEvict 19 = .ok (.istore_n 3, 1) := by decide +kernel
theorem dX8_refusalToEvict_20 : decode cX8_refusalToEvict 20 = .ok (.aload_n 0, 1) := by decide +kernel
theorem dX8_refusalToEvict_21 : decode cX8_refusalToEvict 21 = .ok (.getfield 12, 3) := by decide +kernel
theorem dX8_refusalToEvict_24 : decode cX8_refusalToEvict 24 = .ok (.getfield 141, 3) := by decide +kernel
theorem dX8_refusalToEvict_27 : decode cX8_refusalToEvict 27 = .ok (.iload_n 3, 1) := by decide +kernel
theorem dX8_refusalToEvict_28 : decode cX8_refusalToEvict 28 = .ok (.iaload, 1) := by decide +kernel
theorem dX8_refusalToEvict_29 : decode cX8_refusalToEvict 29 = .ok (.iconst (-1), 1) := by decide +kernel
theorem dX8_refusalToEvict_30 : decode cX8_refusalToEvict 30 = .ok (.if_icmp .ne 5, 3) := by decide +kernel
theorem dX8_refusalToEvict_33 : decode cX8_refusalToEvict 33 = .ok (.iconst 5, 1) := by decide +kernel
theorem dX8_refusalToEvict_34 : decode cX8_refusalToEvict 34 = .ok (.ireturn, 1) := by decide +kernel
theorem dX8_refusalToEvict_35 : decode cX8_refusalToEvict 35 = .ok (.aload_n 0, 1) := by decide +kernel
theorem dX8_refusalToEvict_36 : decode cX8_refusalToEvict 36 = .ok (.getfield 12, 3) := by decide +kernel
theorem dX8_refusalToEvict_39 : decode cX8_refusalToEvict 39 = .ok (.iload_n 3, 1) := by decide +kernel
theorem dX8_refusalToEvict_40 : decode cX8_refusalToEvict 40 = .ok (.invokevirtual 137, 3) := by decide +kernel
theorem dX8_refusalToEvict_43 : decode cX8_refusalToEvict 43 = .ok (.ifCond .eq 15, 3) := by decide +kernel
theorem dX8_refusalToEvict_46 : decode cX8_refusalToEvict 46 = .ok (.aload_n 0, 1) := by decide +kernel
theorem dX8_refusalToEvict_47 : decode cX8_refusalToEvict 47 = .ok (.invokevirtual 146, 3) := by decide +kernel
theorem dX8_refusalToEvict_50 : decode cX8_refusalToEvict 50 = .ok (.iconst (-1), 1) := by decide +kernel
theorem dX8_refusalToEvict_51 : decode cX8_refusalToEvict 51 = .ok (.if_icmp .ne 7, 3) := by decide +kernel
theorem dX8_refusalToEvict_54 : decode cX8_refusalToEvict 54 = .ok (.iconst 3, 1) := by decide +kernel
theorem dX8_refusalToEvict_55 : decode cX8_refusalToEvict 55 = .ok (.goto 4, 3) := by decide +kernel
theorem dX8_refusalToEvict_58 : decode cX8_refusalToEvict 58 = .ok (.iconst 0, 1) := by decide +kernel
theorem dX8_refusalToEvict_59 : decode cX8_refusalToEvict 59 = .ok (.ireturn, 1) := by decide +kernel
theorem dX8_evict_0 : decode cX8_evict 0 = .ok (.aload_n 0, 1) := by decide +kernel
theorem dX8_evict_1 : decode cX8_evict 1 = .ok (.getfield 12, 3) := by decide +kernel
theorem dX8_evict_4 : decode cX8_evict 4 = .ok (.iload_n 1, 1) := by decide +kernel
theorem dX8_evict_5 : decode cX8_evict 5 = .ok (.invokevirtual 137, 3) := by decide +kernel
theorem dX8_evict_8 : decode cX8_evict 8 = .ok (.ifCond .eq 12, 3) := by decide +kernel
theorem dX8_evict_11 : decode cX8_evict 11 = .ok (.aload_n 0, 1) := by decide +kernel
theorem dX8_evict_12 : decode cX8_evict 12 = .ok (.iload_n 1, 1) := by decide +kernel
theorem dX8_evict_13 : decode cX8_evict 13 = .ok (.aload_n 0, 1) := by decide +kernel
theorem dX8_evict_14 : decode cX8_evict 14 = .ok (.invokevirtual 146, 3) := by decide +kernel
theorem dX8_evict_17 : decode cX8_evict 17 = .ok (.invokevirtual 167, 3) := by decide +kernel
theorem dX8_evict_20 : decode cX8_evict 20 = .ok (.aload_n 0, 1) := by decide +kernel
theorem dX8_evict_21 : decode cX8_evict 21 = .ok (.iload_n 1, 1) := by decide +kernel
theorem dX8_evict_22 : decode cX8_evict 22 = .ok (.invokevirtual 190, 3) := by decide +kernel
theorem dX8_evict_25 : decode cX8_evict 25 = .ok (.aload_n 0, 1) := by decide +kernel
theorem dX8_evict_26 : decode cX8_evict 26 = .ok (.getfield 12, 3) := by decide +kernel
theorem dX8_evict_29 : decode cX8_evict 29 = .ok (.getfield 79, 3) := by decide +kernel
theorem dX8_evict_32 : decode cX8_evict 32 = .ok (.iload_n 1, 1) := by decide +kernel
theorem dX8_evict_33 : decode cX8_evict 33 = .ok (.iaload, 1) := by decide +kernel
theorem dX8_evict_34 : decode cX8_evict 34 = .ok (.ireturn, 1) := by decide +kernel
theorem dX8_leaveFrame_0 : decode cX8_leaveFrame 0 = .ok (.aload_n 0, 1) := by decide +kernel
theorem dX8_leaveFrame_1 : decode cX8_leaveFrame 1 = .ok (.getfield 12, 3) := by decide +kernel
theorem dX8_leaveFrame_4 : decode cX8_leaveFrame 4 = .ok (.getfield 141, 3) := by decide +kernel
theorem dX8_leaveFrame_7 : decode cX8_leaveFrame 7 = .ok (.iload_n 1, 1) := by decide +kernel
theorem dX8_leaveFrame_8 : decode cX8_leaveFrame 8 = .ok (.iaload, 1) := by decide +kernel
theorem dX8_leaveFrame_9 : decode cX8_leaveFrame 9 = .ok (.istore_n 2, 1) := by decide +kernel
theorem dX8_leaveFrame_10 : decode cX8_leaveFrame 10 = .ok (.iload_n 2, 1) := by decide +kernel
theorem dX8_leaveFrame_11 : decode cX8_leaveFrame 11 = .ok (.iconst (-1), 1) := by decide +kernel
theorem dX8_leaveFrame_12 : decode cX8_leaveFrame 12 = .ok (.if_icmp .eq 23, 3) := by decide +kernel
theorem dX8_leaveFrame_15 : decode cX8_leaveFrame 15 = .ok (.aload_n 0, 1) := by decide +kernel
theorem dX8_leaveFrame_16 : decode cX8_leaveFrame 16 = .ok (.getfield 21, 3) := by decide +kernel
theorem dX8_leaveFrame_19 : decode cX8_leaveFrame 19 = .ok (.getfield 134, 3) := by decide +kernel
theorem dX8_leaveFrame_22 : decode cX8_leaveFrame 22 = .ok (.iload_n 2, 1) := by decide +kernel
theorem dX8_leaveFrame_23 : decode cX8_leaveFrame 23 = .ok (.iconst (-1), 1) := by decide +kernel
theorem dX8_leaveFrame_24 : decode cX8_leaveFrame 24 = .ok (.iastore, 1) := by decide +kernel
theorem dX8_leaveFrame_25 : decode cX8_leaveFrame 25 = .ok (.aload_n 0, 1) := by decide +kernel
theorem dX8_leaveFrame_26 : decode cX8_leaveFrame 26 = .ok (.getfield 12, 3) := by decide +kernel
theorem dX8_leaveFrame_29 : decode cX8_leaveFrame 29 = .ok (.getfield 141, 3) := by decide +kernel
theorem dX8_leaveFrame_32 : decode cX8_leaveFrame 32 = .ok (.iload_n 1, 1) := by decide +kernel
theorem dX8_leaveFrame_33 : decode cX8_leaveFrame 33 = .ok (.iconst (-1), 1) := by decide +kernel
theorem dX8_leaveFrame_34 : decode cX8_leaveFrame 34 = .ok (.iastore, 1) := by decide +kernel
theorem dX8_leaveFrame_35 : decode cX8_leaveFrame 35 = .ok (.return_, 1) := by decide +kernel
theorem dX8_writeOut_0 : decode cX8_writeOut 0 = .ok (.iload_n 2, 1) := by decide +kernel
theorem dX8_writeOut_1 : decode cX8_writeOut 1 = .ok (.iconst (-1), 1) := by decide +kernel
theorem dX8_writeOut_2 : decode cX8_writeOut 2 = .ok (.if_icmp .ne 4, 3) := by decide +kernel
theorem dX8_writeOut_5 : decode cX8_writeOut 5 = .ok (.return_, 1) := by decide +kernel
theorem dX8_writeOut_6 : decode cX8_writeOut 6 = .ok (.aload_n 0, 1) := by decide +kernel
theorem dX8_writeOut_7 : decode cX8_writeOut 7 = .ok (.getfield 28, 3) := by decide +kernel
theorem dX8_writeOut_10 : decode cX8_writeOut 10 = .ok (.iload_n 2, 1) := by decide +kernel
theorem dX8_writeOut_11 : decode cX8_writeOut 11 = .ok (.iload_n 1, 1) := by decide +kernel
theorem dX8_writeOut_12 : decode cX8_writeOut 12 = .ok (.aload_n 0, 1) := by decide +kernel
theorem dX8_writeOut_13 : decode cX8_writeOut 13 = .ok (.getfield 12, 3) := by decide +kernel
theorem dX8_writeOut_16 : decode cX8_writeOut 16 = .ok (.getfield 166, 3) := by decide +kernel
theorem dX8_writeOut_19 : decode cX8_writeOut 19 = .ok (.iload_n 1, 1) := by decide +kernel
theorem dX8_writeOut_20 : decode cX8_writeOut 20 = .ok (.iaload, 1) := by decide +kernel
theorem dX8_writeOut_21 : decode cX8_writeOut 21 = .ok (.aload_n 0, 1) := by decide +kernel
theorem dX8_writeOut_22 : decode cX8_writeOut 22 = .ok (.getfield 35, 3) := by decide +kernel
theorem dX8_writeOut_25 : decode cX8_writeOut 25 = .ok (.getfield 193, 3) := by decide +kernel
theorem dX8_writeOut_28 : decode cX8_writeOut 28 = .ok (.invokevirtual 196, 3) := by decide +kernel
theorem dX8_writeOut_31 : decode cX8_writeOut 31 = .ok (.aload_n 0, 1) := by decide +kernel
theorem dX8_writeOut_32 : decode cX8_writeOut 32 = .ok (.getfield 12, 3) := by decide +kernel
theorem dX8_writeOut_35 : decode cX8_writeOut 35 = .ok (.getfield 79, 3) := by decide +kernel
theorem dX8_writeOut_38 : decode cX8_writeOut 38 = .ok (.iload_n 1, 1) := by decide +kernel
theorem dX8_writeOut_39 : decode cX8_writeOut 39 = .ok (.iload_n 2, 1) := by decide +kernel
theorem dX8_writeOut_40 : decode cX8_writeOut 40 = .ok (.iastore, 1) := by decide +kernel
theorem dX8_writeOut_41 : decode cX8_writeOut 41 = .ok (.aload_n 0, 1) := by decide +kernel
theorem dX8_writeOut_42 : decode cX8_writeOut 42 = .ok (.getfield 12, 3) := by decide +kernel
theorem dX8_writeOut_45 : decode cX8_writeOut 45 = .ok (.iload_n 1, 1) := by decide +kernel
theorem dX8_writeOut_46 : decode cX8_writeOut 46 = .ok (.invokevirtual 200, 3) := by decide +kernel
theorem dX8_writeOut_49 : decode cX8_writeOut 49 = .ok (.aload_n 0, 1) := by decide +kernel
theorem dX8_writeOut_50 : decode cX8_writeOut 50 = .ok (.getfield 35, 3) := by decide +kernel
theorem dX8_writeOut_53 : decode cX8_writeOut 53 = .ok (.getfield 85, 3) := by decide +kernel
theorem dX8_writeOut_56 : decode cX8_writeOut 56 = .ok (.iload_n 1, 1) := by decide +kernel
theorem dX8_writeOut_57 : decode cX8_writeOut 57 = .ok (.iaload, 1) := by decide +kernel
theorem dX8_writeOut_58 : decode cX8_writeOut 58 = .ok (.bipush (-2), 2) := by decide +kernel
theorem dX8_writeOut_60 : decode cX8_writeOut 60 = .ok (.if_icmp .ne 13, 3) := by decide +kernel
theorem dX8_writeOut_63 : decode cX8_writeOut 63 = .ok (.aload_n 0, 1) := by decide +kernel
theorem dX8_writeOut_64 : decode cX8_writeOut 64 = .ok (.getfield 35, 3) := by decide +kernel
theorem dX8_writeOut_67 : decode cX8_writeOut 67 = .ok (.getfield 85, 3) := by decide +kernel
theorem dX8_writeOut_70 : decode cX8_writeOut 70 = .ok (.iload_n 1, 1) := by decide +kernel
theorem dX8_writeOut_71 : decode cX8_writeOut 71 = .ok (.iload_n 2, 1) := by decide +kernel
theorem dX8_writeOut_72 : decode cX8_writeOut 72 = .ok (.iastore, 1) := by decide +kernel
theorem dX8_writeOut_73 : decode cX8_writeOut 73 = .ok (.return_, 1) := by decide +kernel
theorem dX8_refusalToStart_0 : decode cX8_refusalToStart 0 = .ok (.aload_n 0, 1) := by decide +kernel
theorem dX8_refusalToStart_1 : decode cX8_refusalToStart 1 = .ok (.getfield 12, 3) := by decide +kernel
theorem dX8_refusalToStart_4 : decode cX8_refusalToStart 4 = .ok (.iload_n 1, 1) := by decide +kernel
theorem dX8_refusalToStart_5 : decode cX8_refusalToStart 5 = .ok (.invokevirtual 203, 3) := by decide +kernel
theorem dX8_refusalToStart_8 : decode cX8_refusalToStart 8 = .ok (.ifCond .ne 5, 3) := by decide +kernel
theorem dX8_refusalToStart_11 : decode cX8_refusalToStart 11 = .ok (.iconst 2, 1) := by decide +kernel
theorem dX8_refusalToStart_12 : decode cX8_refusalToStart 12 = .ok (.ireturn, 1) := by decide +kernel
theorem dX8_refusalToStart_13 : decode cX8_refusalToStart 13 = .ok (.aload_n 0, 1) := by decide +kernel
theorem dX8_refusalToStart_14 : decode cX8_refusalToStart 14 = .ok (.getfield 35, 3) := by decide +kernel
theorem dX8_refusalToStart_17 : decode cX8_refusalToStart 17 = .ok (.getfield 206, 3) := by decide +kernel
theorem dX8_refusalToStart_20 : decode cX8_refusalToStart 20 = .ok (.ifCond .eq 7, 3) := by decide +kernel
theorem dX8_refusalToStart_23 : decode cX8_refusalToStart 23 = .ok (.iconst 3, 1) := by decide +kernel
theorem dX8_refusalToStart_24 : decode cX8_refusalToStart 24 = .ok (.goto 4, 3) := by decide +kernel
theorem dX8_refusalToStart_27 : decode cX8_refusalToStart 27 = .ok (.iconst 0, 1) := by decide +kernel
theorem dX8_refusalToStart_28 : decode cX8_refusalToStart 28 = .ok (.ireturn, 1) := by decide +kernel
theorem dX8_start_0 : decode cX8_start 0 = .ok (.aload_n 0, 1) := by decide +kernel
theorem dX8_start_1 : decode cX8_start 1 = .ok (.getfield 35, 3) := by decide +kernel
theorem dX8_start_4 : decode cX8_start 4 = .ok (.dup, 1) := by decide +kernel
theorem dX8_start_5 : decode cX8_start 5 = .ok (.getfield 193, 3) := by decide +kernel
theorem dX8_start_8 : decode cX8_start 8 = .ok (.iconst 1, 1) := by decide +kernel
theorem dX8_start_9 : decode cX8_start 9 = .ok (.iadd, 1) := by decide +kernel
theorem dX8_start_10 : decode cX8_start 10 = .ok (.putfield 193, 3) := by decide +kernel
theorem dX8_start_13 : decode cX8_start 13 = .ok (.aload_n 0, 1) := by decide +kernel
theorem dX8_start_14 : decode cX8_start 14 = .ok (.getfield 35, 3) := by decide +kernel
theorem dX8_start_17 : decode cX8_start 17 = .ok (.iload_n 1, 1) := by decide +kernel
theorem dX8_start_18 : decode cX8_start 18 = .ok (.putfield 206, 3) := by decide +kernel
theorem dX8_start_21 : decode cX8_start 21 = .ok (.iconst 0, 1) := by decide +kernel
theorem dX8_start_22 : decode cX8_start 22 = .ok (.istore_n 2, 1) := by decide +kernel
theorem dX8_start_23 : decode cX8_start 23 = .ok (.iload_n 2, 1) := by decide +kernel
theorem dX8_start_24 : decode cX8_start 24 = .ok (.bipush 48, 2) := by decide +kernel
theorem dX8_start_26 : decode cX8_start 26 = .ok (.if_icmp .ge 57, 3) := by decide +kernel
theorem dX8_start_29 : decode cX8_start 29 = .ok (.aload_n 0, 1) := by decide +kernel
theorem dX8_start_30 : decode cX8_start 30 = .ok (.getfield 35, 3) := by decide +kernel
theorem dX8_start_33 : decode cX8_start 33 = .ok (.iload_n 2, 1) := by decide +kernel
theorem dX8_start_34 : decode cX8_start 34 = .ok (.bipush 8, 2) := by decide +kernel
theorem dX8_start_36 : decode cX8_start 36 = .ok (.idiv, 1) := by decide +kernel
theorem dX8_start_37 : decode cX8_start 37 = .ok (.invokevirtual 209, 3) := by decide +kernel
theorem dX8_start_40 : decode cX8_start 40 = .ok (.ifCond .eq 37, 3) := by decide +kernel
theorem dX8_start_43 : decode cX8_start 43 = .ok (.aload_n 0, 1) := by decide +kernel
theorem dX8_start_44 : decode cX8_start 44 = .ok (.getfield 35, 3) := by decide +kernel
theorem dX8_start_47 : decode cX8_start 47 = .ok (.getfield 85, 3) := by decide +kernel
theorem dX8_start_50 : decode cX8_start 50 = .ok (.iload_n 2, 1) := by decide +kernel
theorem dX8_start_51 : decode cX8_start 51 = .ok (.aload_n 0, 1) := by decide +kernel
theorem dX8_start_52 : decode cX8_start 52 = .ok (.getfield 12, 3) := by decide +kernel
theorem dX8_start_55 : decode cX8_start 55 = .ok (.iload_n 2, 1) := by decide +kernel
theorem dX8_start_56 : decode cX8_start 56 = .ok (.invokevirtual 137, 3) := by decide +kernel
theorem dX8_start_59 : decode cX8_start 59 = .ok (.ifCond .eq 8, 3) := by decide +kernel
theorem dX8_start_62 : decode cX8_start 62 = .ok (.bipush (-2), 2) := by decide +kernel
theorem dX8_start_64 : decode cX8_start 64 = .ok (.goto 12, 3) := by decide +kernel
theorem dX8_start_67 : decode cX8_start 67 = .ok (.aload_n 0, 1) := by decide +kernel
theorem dX8_start_68 : decode cX8_start 68 = .ok (.getfield 12, 3) := by decide +kernel
theorem dX8_start_71 : decode cX8_start 71 = .ok (.getfield 79, 3) := by decide +kernel
theorem dX8_start_74 : decode cX8_start 74 = .ok (.iload_n 2, 1) := by decide +kernel
theorem dX8_start_75 : decode cX8_start 75 = .ok (.iaload, 1) := by decide +kernel
theorem dX8_start_76 : decode cX8_start 76 = .ok (.iastore, 1) := by decide +kernel
theorem dX8_start_77 : decode cX8_start 77 = .ok (.iinc 2 1, 3) := by decide +kernel
theorem dX8_start_80 : decode cX8_start 80 = .ok (.goto (-57), 3) := by decide +kernel
theorem dX8_start_83 : decode cX8_start 83 = .ok (.aload_n 0, 1) := by decide +kernel
theorem dX8_start_84 : decode cX8_start 84 = .ok (.getfield 35, 3) := by decide +kernel
theorem dX8_start_87 : decode cX8_start 87 = .ok (.aload_n 0, 1) := by decide +kernel
theorem dX8_start_88 : decode cX8_start 88 = .ok (.getfield 35, 3) := by decide +kernel
theorem dX8_start_91 : decode cX8_start 91 = .ok (.invokevirtual 212, 3) := by decide +kernel
theorem dX8_start_94 : decode cX8_start 94 = .ok (.putfield 215, 3) := by decide +kernel
theorem dX8_start_97 : decode cX8_start 97 = .ok (.aload_n 0, 1) := by decide +kernel
theorem dX8_start_98 : decode cX8_start 98 = .ok (.getfield 35, 3) := by decide +kernel
theorem dX8_start_101 : decode cX8_start 101 = .ok (.getfield 215, 3) := by decide +kernel
theorem dX8_start_104 : decode cX8_start 104 = .ok (.ireturn, 1) := by decide +kernel
theorem dX8_refusalToFlush_0 : decode cX8_refusalToFlush 0 = .ok (.iload_n 1, 1) := by decide +kernel
theorem dX8_refusalToFlush_1 : decode cX8_refusalToFlush 1 = .ok (.iconst 1, 1) := by decide +kernel
theorem dX8_refusalToFlush_2 : decode cX8_refusalToFlush 2 = .ok (.if_icmp .lt 9, 3) := by decide +kernel
theorem dX8_refusalToFlush_5 : decode cX8_refusalToFlush 5 = .ok (.iload_n 1, 1) := by decide +kernel
theorem dX8_refusalToFlush_6 : decode cX8_refusalToFlush 6 = .ok (.bipush 48, 2) := by decide +kernel
theorem dX8_refusalToFlush_8 : decode cX8_refusalToFlush 8 = .ok (.if_icmp .le 5, 3) := by decide +kernel
theorem dX8_refusalToFlush_11 : decode cX8_refusalToFlush 11 = .ok (.iconst 2, 1) := by decide +kernel
theorem dX8_refusalToFlush_12 : decode cX8_refusalToFlush 12 = .ok (.ireturn, 1) := by decide +kernel
theorem dX8_refusalToFlush_13 : decode cX8_refusalToFlush 13 = .ok (.aload_n 0, 1) := by decide +kernel
theorem dX8_refusalToFlush_14 : decode cX8_refusalToFlush 14 = .ok (.getfield 35, 3) := by decide +kernel
theorem dX8_refusalToFlush_17 : decode cX8_refusalToFlush 17 = .ok (.getfield 206, 3) := by decide +kernel
theorem dX8_refusalToFlush_20 : decode cX8_refusalToFlush 20 = .ok (.ifCond .ne 7, 3) := by decide +kernel
theorem dX8_refusalToFlush_23 : decode cX8_refusalToFlush 23 = .ok (.iconst 3, 1) := by decide +kernel
theorem dX8_refusalToFlush_24 : decode cX8_refusalToFlush 24 = .ok (.goto 4, 3) := by decide +kernel
theorem dX8_refusalToFlush_27 : decode cX8_refusalToFlush 27 = .ok (.iconst 0, 1) := by decide +kernel
theorem dX8_refusalToFlush_28 : decode cX8_refusalToFlush 28 = .ok (.ireturn, 1) := by decide +kernel
theorem dX8_flush_0 : decode cX8_flush 0 = .ok (.iconst 0, 1) := by decide +kernel
theorem dX8_flush_1 : decode cX8_flush 1 = .ok (.istore_n 2, 1) := by decide +kernel
theorem dX8_flush_2 : decode cX8_flush 2 = .ok (.iload_n 2, 1) := by decide +kernel
theorem dX8_flush_3 : decode cX8_flush 3 = .ok (.iload_n 1, 1) := by decide +kernel
theorem dX8_flush_4 : decode cX8_flush 4 = .ok (.if_icmp .ge 45, 3) := by decide +kernel
theorem dX8_flush_7 : decode cX8_flush 7 = .ok (.aload_n 0, 1) := by decide +kernel
theorem dX8_flush_8 : decode cX8_flush 8 = .ok (.getfield 35, 3) := by decide +kernel
theorem dX8_flush_11 : decode cX8_flush 11 = .ok (.iconst 0, 1) := by decide +kernel
theorem dX8_flush_12 : decode cX8_flush 12 = .ok (.invokevirtual 218, 3) := by decide +kernel
theorem dX8_flush_15 : decode cX8_flush 15 = .ok (.istore_n 3, 1) := by decide +kernel
theorem dX8_flush_16 : decode cX8_flush 16 = .ok (.aload_n 0, 1) := by decide +kernel
theorem dX8_flush_17 : decode cX8_flush 17 = .ok (.invokevirtual 146, 3) := by decide +kernel
theorem dX8_flush_20 : decode cX8_flush 20 = .ok (.istore 4, 2) := by decide +kernel
theorem dX8_flush_22 : decode cX8_flush 22 = .ok (.iload_n 3, 1) := by decide +kernel
theorem dX8_flush_23 : decode cX8_flush 23 = .ok (.iconst (-1), 1) := by decide +kernel
theorem dX8_flush_24 : decode cX8_flush 24 = .ok (.if_icmp .eq 25, 3) := by decide +kernel
theorem dX8_flush_27 : decode cX8_flush 27 = .ok (.iload 4, 2) := by decide +kernel
theorem dX8_flush_29 : decode cX8_flush 29 = .ok (.iconst (-1), 1) := by decide +kernel
theorem dX8_flush_30 : decode cX8_flush 30 = .ok (.if_icmp .ne 6, 3) := by decide +kernel
theorem dX8_flush_33 : decode cX8_flush 33 = .ok (.goto 16, 3) := by decide +kernel
theorem dX8_flush_36 : decode cX8_flush 36 = .ok (.aload_n 0, 1) := by decide +kernel
theorem dX8_flush_37 : decode cX8_flush 37 = .ok (.iload_n 3, 1) := by decide +kernel
theorem dX8_flush_38 : decode cX8_flush 38 = .ok (.iload 4, 2) := by decide +kernel
theorem dX8_flush_40 : decode cX8_flush 40 = .ok (.invokevirtual 167, 3) := by decide +kernel
theorem dX8_flush_43 : decode cX8_flush 43 = .ok (.iinc 2 1, 3) := by decide +kernel
theorem dX8_flush_46 : decode cX8_flush 46 = .ok (.goto (-44), 3) := by decide +kernel
theorem dX8_flush_49 : decode cX8_flush 49 = .ok (.aload_n 0, 1) := by decide +kernel
theorem dX8_flush_50 : decode cX8_flush 50 = .ok (.getfield 35, 3) := by decide +kernel
theorem dX8_flush_53 : decode cX8_flush 53 = .ok (.invokevirtual 212, 3) := by decide +kernel
theorem dX8_flush_56 : decode cX8_flush 56 = .ok (.ireturn, 1) := by decide +kernel
theorem dX8_refusalToCommit_0 : decode cX8_refusalToCommit 0 = .ok (.aload_n 0, 1) := by decide +kernel
theorem dX8_refusalToCommit_1 : decode cX8_refusalToCommit 1 = .ok (.getfield 35, 3) := by decide +kernel
theorem dX8_refusalToCommit_4 : decode cX8_refusalToCommit 4 = .ok (.getfield 206, 3) := by decide +kernel
theorem dX8_refusalToCommit_7 : decode cX8_refusalToCommit 7 = .ok (.ifCond .ne 5, 3) := by decide +kernel
theorem dX8_refusalToCommit_10 : decode cX8_refusalToCommit 10 = .ok (.iconst 3, 1) := by decide +kernel
theorem dX8_refusalToCommit_11 : decode cX8_refusalToCommit 11 = .ok (.ireturn, 1) := by decide +kernel
theorem dX8_refusalToCommit_12 : decode cX8_refusalToCommit 12 = .ok (.aload_n 0, 1) := by decide +kernel
theorem dX8_refusalToCommit_13 : decode cX8_refusalToCommit 13 = .ok (.getfield 35, 3) := by decide +kernel
theorem dX8_refusalToCommit_16 : decode cX8_refusalToCommit 16 = .ok (.invokevirtual 212, 3) := by decide +kernel
theorem dX8_refusalToCommit_19 : decode cX8_refusalToCommit 19 = .ok (.ifCond .le 7, 3) := by decide +kernel
theorem dX8_refusalToCommit_22 : decode cX8_refusalToCommit 22 = .ok (.iconst 5, 1) := by decide +kernel
theorem dX8_refusalToCommit_23 : decode cX8_refusalToCommit 23 = .ok (.goto 4, 3) := by decide +kernel
theorem dX8_refusalToCommit_26 : decode cX8_refusalToCommit 26 = .ok (.iconst 0, 1) := by decide +kernel
theorem dX8_refusalToCommit_27 : decode cX8_refusalToCommit 27 = .ok (.ireturn, 1) := by decide +kernel
theorem dX8_commit_0 : decode cX8_commit 0 = .ok (.aload_n 0, 1) := by decide +kernel
theorem dX8_commit_1 : decode cX8_commit 1 = .ok (.invokevirtual 221, 3) := by decide +kernel
theorem dX8_commit_4 : decode cX8_commit 4 = .ok (.istore_n 1, 1) := by decide +kernel
theorem dX8_commit_5 : decode cX8_commit 5 = .ok (.aload_n 0, 1) := by decide +kernel
theorem dX8_commit_6 : decode cX8_commit 6 = .ok (.getfield 35, 3) := by decide +kernel
theorem dX8_commit_9 : decode cX8_commit 9 = .ok (.getfield 206, 3) := by decide +kernel
theorem dX8_commit_12 : decode cX8_commit 12 = .ok (.istore_n 2, 1) := by decide +kernel
theorem dX8_commit_13 : decode cX8_commit 13 = .ok (.aload_n 0, 1) := by decide +kernel
theorem dX8_commit_14 : decode cX8_commit 14 = .ok (.getfield 35, 3) := by decide +kernel
theorem dX8_commit_17 : decode cX8_commit 17 = .ok (.getfield 215, 3) := by decide +kernel
theorem dX8_commit_20 : decode cX8_commit 20 = .ok (.istore_n 3, 1) := by decide +kernel
theorem dX8_commit_21 : decode cX8_commit 21 = .ok (.aload_n 0, 1) := by decide +kernel
theorem dX8_commit_22 : decode cX8_commit 22 = .ok (.getfield 35, 3) := by decide +kernel
theorem dX8_commit_25 : decode cX8_commit 25 = .ok (.invokevirtual 224, 3) := by decide +kernel
theorem dX8_commit_28 : decode cX8_commit 28 = .ok (.aload_n 0, 1) := by decide +kernel
theorem dX8_commit_29 : decode cX8_commit 29 = .ok (.getfield 35, 3) := by decide +kernel
theorem dX8_commit_32 : decode cX8_commit 32 = .ok (.invokevirtual 227, 3) := by decide +kernel
theorem dX8_commit_35 : decode cX8_commit 35 = .ok (.aload_n 0, 1) := by decide +kernel
theorem dX8_commit_36 : decode cX8_commit 36 = .ok (.invokevirtual 221, 3) := by decide +kernel
theorem dX8_commit_39 : decode cX8_commit 39 = .ok (.iload_n 1, 1) := by decide +kernel
theorem dX8_commit_40 : decode cX8_commit 40 = .ok (.isub, 1) := by decide +kernel
theorem dX8_commit_41 : decode cX8_commit 41 = .ok (.istore 4, 2) := by decide +kernel
theorem dX8_commit_43 : decode cX8_commit 43 = .ok (.aload_n 0, 1) := by decide +kernel
theorem dX8_commit_44 : decode cX8_commit 44 = .ok (.getfield 35, 3) := by decide +kernel
theorem dX8_commit_47 : decode cX8_commit 47 = .ok (.iload_n 2, 1) := by decide +kernel
theorem dX8_commit_48 : decode cX8_commit 48 = .ok (.iload_n 3, 1) := by decide +kernel
theorem dX8_commit_49 : decode cX8_commit 49 = .ok (.iload 4, 2) := by decide +kernel
theorem dX8_commit_51 : decode cX8_commit 51 = .ok (.invokevirtual 230, 3) := by decide +kernel
theorem dX8_commit_54 : decode cX8_commit 54 = .ok (.iload 4, 2) := by decide +kernel
theorem dX8_commit_56 : decode cX8_commit 56 = .ok (.ireturn, 1) := by decide +kernel
theorem dX8_refusalToAbandon_0 : decode cX8_refusalToAbandon 0 = .ok (.aload_n 0, 1) := by decide +kernel
theorem dX8_refusalToAbandon_1 : decode cX8_refusalToAbandon 1 = .ok (.getfield 35, 3) := by decide +kernel
theorem dX8_refusalToAbandon_4 : decode cX8_refusalToAbandon 4 = .ok (.getfield 206, 3) := by decide +kernel
theorem dX8_refusalToAbandon_7 : decode cX8_refusalToAbandon 7 = .ok (.ifCond .ne 7, 3) := by decide +kernel
theorem dX8_refusalToAbandon_10 : decode cX8_refusalToAbandon 10 = .ok (.iconst 3, 1) := by decide +kernel
theorem dX8_refusalToAbandon_11 : decode cX8_refusalToAbandon 11 = .ok (.goto 4, 3) := by decide +kernel
theorem dX8_refusalToAbandon_14 : decode cX8_refusalToAbandon 14 = .ok (.iconst 0, 1) := by decide +kernel
theorem dX8_refusalToAbandon_15 : decode cX8_refusalToAbandon 15 = .ok (.ireturn, 1) := by decide +kernel
theorem dX8_abandon_0 : decode cX8_abandon 0 = .ok (.aload_n 0, 1) := by decide +kernel
theorem dX8_abandon_1 : decode cX8_abandon 1 = .ok (.invokevirtual 221, 3) := by decide +kernel
theorem dX8_abandon_4 : decode cX8_abandon 4 = .ok (.istore_n 1, 1) := by decide +kernel
theorem dX8_abandon_5 : decode cX8_abandon 5 = .ok (.aload_n 0, 1) := by decide +kernel
theorem dX8_abandon_6 : decode cX8_abandon 6 = .ok (.getfield 35, 3) := by decide +kernel
theorem dX8_abandon_9 : decode cX8_abandon 9 = .ok (.invokevirtual 227, 3) := by decide +kernel
theorem dX8_abandon_12 : decode cX8_abandon 12 = .ok (.aload_n 0, 1) := by decide +kernel
theorem dX8_abandon_13 : decode cX8_abandon 13 = .ok (.invokevirtual 221, 3) := by decide +kernel
theorem dX8_abandon_16 : decode cX8_abandon 16 = .ok (.iload_n 1, 1) := by decide +kernel
theorem dX8_abandon_17 : decode cX8_abandon 17 = .ok (.isub, 1) := by decide +kernel
theorem dX8_abandon_18 : decode cX8_abandon 18 = .ok (.ireturn, 1) := by decide +kernel
theorem dX8_countFreedBy_0 : decode cX8_countFreedBy 0 = .ok (.aload_n 0, 1) := by decide +kernel
theorem dX8_countFreedBy_1 : decode cX8_countFreedBy 1 = .ok (.invokevirtual 88, 3) := by decide +kernel
theorem dX8_countFreedBy_4 : decode cX8_countFreedBy 4 = .ok (.pop, 1) := by decide +kernel
theorem dX8_countFreedBy_5 : decode cX8_countFreedBy 5 = .ok (.iconst 0, 1) := by decide +kernel
theorem dX8_countFreedBy_6 : decode cX8_countFreedBy 6 = .ok (.istore_n 2, 1) := by decide +kernel
theorem dX8_countFreedBy_7 : decode cX8_countFreedBy 7 = .ok (.iconst 0, 1) := by decide +kernel
theorem dX8_countFreedBy_8 : decode cX8_countFreedBy 8 = .ok (.istore_n 3, 1) := by decide +kernel
theorem dX8_countFreedBy_9 : decode cX8_countFreedBy 9 = .ok (.iload_n 3, 1) := by decide +kernel
theorem dX8_countFreedBy_10 : decode cX8_countFreedBy 10 = .ok (.bipush 48, 2) := by decide +kernel
theorem dX8_countFreedBy_12 : decode cX8_countFreedBy 12 = .ok (.if_icmp .ge 63, 3) := by decide +kernel
theorem dX8_countFreedBy_15 : decode cX8_countFreedBy 15 = .ok (.aload_n 0, 1) := by decide +kernel
theorem dX8_countFreedBy_16 : decode cX8_countFreedBy 16 = .ok (.getfield 35, 3) := by decide +kernel
theorem dX8_countFreedBy_19 : decode cX8_countFreedBy 19 = .ok (.getfield 82, 3) := by decide +kernel
theorem dX8_countFreedBy_22 : decode cX8_countFreedBy 22 = .ok (.iload_n 3, 1) := by decide +kernel
theorem dX8_countFreedBy_23 : decode cX8_countFreedBy 23 = .ok (.iaload, 1) := by decide +kernel
theorem dX8_countFreedBy_24 : decode cX8_countFreedBy 24 = .ok (.istore 4, 2) := by decide +kernel
theorem dX8_countFreedBy_26 : decode cX8_countFreedBy 26 = .ok (.iload_n 1, 1) := by decide +kernel
theorem dX8_countFreedBy_27 : decode cX8_countFreedBy 27 = .ok (.iconst 1, 1) := by decide +kernel
theorem dX8_countFreedBy_28 : decode cX8_countFreedBy 28 = .ok (.iload_n 3, 1) := by decide +kernel
theorem dX8_countFreedBy_29 : decode cX8_countFreedBy 29 = .ok (.bipush 8, 2) := by decide +kernel
theorem dX8_countFreedBy_31 : decode cX8_countFreedBy 31 = .ok (.idiv, 1) := by decide +kernel
theorem dX8_countFreedBy_32 : decode cX8_countFreedBy 32 = .ok (.ishl, 1) := by decide +kernel
theorem dX8_countFreedBy_33 : decode cX8_countFreedBy 33 = .ok (.iand, 1) := by decide +kernel
theorem dX8_countFreedBy_34 : decode cX8_countFreedBy 34 = .ok (.ifCond .eq 7, 3) := by decide +kernel
theorem dX8_countFreedBy_37 : decode cX8_countFreedBy 37 = .ok (.iconst 1, 1) := by decide +kernel
theorem dX8_countFreedBy_38 : decode cX8_countFreedBy 38 = .ok (.goto 4, 3) := by decide +kernel
theorem dX8_countFreedBy_41 : decode cX8_countFreedBy 41 = .ok (.iconst 0, 1) := by decide +kernel
theorem dX8_countFreedBy_42 : decode cX8_countFreedBy 42 = .ok (.istore 5, 2) := by decide +kernel
theorem dX8_countFreedBy_44 : decode cX8_countFreedBy 44 = .ok (.iload 5, 2) := by decide +kernel
theorem dX8_countFreedBy_46 : decode cX8_countFreedBy 46 = .ok (.ifCond .eq 23, 3) := by decide +kernel
theorem dX8_countFreedBy_49 : decode cX8_countFreedBy 49 = .ok (.iload 4, 2) := by decide +kernel
theorem dX8_countFreedBy_51 : decode cX8_countFreedBy 51 = .ok (.iconst (-1), 1) := by decide +kernel
theorem dX8_countFreedBy_52 : decode cX8_countFreedBy 52 = .ok (.if_icmp .eq 17, 3) := by decide +kernel
theorem dX8_countFreedBy_55 : decode cX8_countFreedBy 55 = .ok (.aload_n 0, 1) := by decide +kernel
theorem dX8_countFreedBy_56 : decode cX8_countFreedBy 56 = .ok (.getfield 46, 3) := by decide +kernel
theorem dX8_countFreedBy_59 : decode cX8_countFreedBy 59 = .ok (.iload 4, 2) := by decide +kernel
theorem dX8_countFreedBy_61 : decode cX8_countFreedBy 61 = .ok (.iaload, 1) := by decide +kernel
theorem dX8_countFreedBy_62 : decode cX8_countFreedBy 62 = .ok (.iconst 2, 1) := by decide +kernel
theorem dX8_countFreedBy_63 : decode cX8_countFreedBy 63 = .ok (.if_icmp .ne 6, 3) := by decide +kernel
theorem dX8_countFreedBy_66 : decode cX8_countFreedBy 66 = .ok (.iinc 2 1, 3) := by decide +kernel
theorem dX8_countFreedBy_69 : decode cX8_countFreedBy 69 = .ok (.iinc 3 1, 3) := by decide +kernel
theorem dX8_countFreedBy_72 : decode cX8_countFreedBy 72 = .ok (.goto (-63), 3) := by decide +kernel
theorem dX8_countFreedBy_75 : decode cX8_countFreedBy 75 = .ok (.iload_n 2, 1) := by decide +kernel
theorem dX8_countFreedBy_76 : decode cX8_countFreedBy 76 = .ok (.ireturn, 1) := by decide +kernel
theorem dX8_bestSet_0 : decode cX8_bestSet 0 = .ok (.iconst 0, 1) := by decide +kernel
theorem dX8_bestSet_1 : decode cX8_bestSet 1 = .ok (.istore_n 2, 1) := by decide +kernel
theorem dX8_bestSet_2 : decode cX8_bestSet 2 = .ok (.iconst 0, 1) := by decide +kernel
theorem dX8_bestSet_3 : decode cX8_bestSet 3 = .ok (.istore_n 3, 1) := by decide +kernel
theorem dX8_bestSet_4 : decode cX8_bestSet 4 = .ok (.iconst 0, 1) := by decide +kernel
theorem dX8_bestSet_5 : decode cX8_bestSet 5 = .ok (.istore 4, 2) := by decide +kernel
theorem dX8_bestSet_7 : decode cX8_bestSet 7 = .ok (.aload_n 0, 1) := by decide +kernel
theorem dX8_bestSet_8 : decode cX8_bestSet 8 = .ok (.getfield 12, 3) := by decide +kernel
theorem dX8_bestSet_11 : decode cX8_bestSet 11 = .ok (.invokevirtual 234, 3) := by decide +kernel
theorem dX8_bestSet_14 : decode cX8_bestSet 14 = .ok (.istore 5, 2) := by decide +kernel
theorem dX8_bestSet_16 : decode cX8_bestSet 16 = .ok (.iconst 1, 1) := by decide +kernel
theorem dX8_bestSet_17 : decode cX8_bestSet 17 = .ok (.istore 6, 2) := by decide +kernel
theorem dX8_bestSet_19 : decode cX8_bestSet 19 = .ok (.iload 6, 2) := by decide +kernel
theorem dX8_bestSet_21 : decode cX8_bestSet 21 = .ok (.iload 5, 2) := by decide +kernel
theorem dX8_bestSet_23 : decode cX8_bestSet 23 = .ok (.if_icmp .gt 84, 3) := by decide +kernel
theorem dX8_bestSet_26 : decode cX8_bestSet 26 = .ok (.aload_n 0, 1) := by decide +kernel
theorem dX8_bestSet_27 : decode cX8_bestSet 27 = .ok (.getfield 12, 3) := by decide +kernel
theorem dX8_bestSet_30 : decode cX8_bestSet 30 = .ok (.iload 6, 2) := by decide +kernel
theorem dX8_bestSet_32 : decode cX8_bestSet 32 = .ok (.invokevirtual 237, 3) := by decide +kernel
theorem dX8_bestSet_35 : decode cX8_bestSet 35 = .ok (.istore 7, 2) := by decide +kernel
theorem dX8_bestSet_37 : decode cX8_bestSet 37 = .ok (.aload_n 0, 1) := by decide +kernel
theorem dX8_bestSet_38 : decode cX8_bestSet 38 = .ok (.iload 5, 2) := by decide +kernel
theorem dX8_bestSet_40 : decode cX8_bestSet 40 = .ok (.iload 6, 2) := by decide +kernel
theorem dX8_bestSet_42 : decode cX8_bestSet 42 = .ok (.iconst (-1), 1) := by decide +kernel
theorem dX8_bestSet_43 : decode cX8_bestSet 43 = .ok (.ixor, 1) := by decide +kernel
theorem dX8_bestSet_44 : decode cX8_bestSet 44 = .ok (.iand, 1) := by decide +kernel
theorem dX8_bestSet_45 : decode cX8_bestSet 45 = .ok (.invokevirtual 240, 3) := by decide +kernel
theorem dX8_bestSet_48 : decode cX8_bestSet 48 = .ok (.istore 8, 2) := by decide +kernel
theorem dX8_bestSet_50 : decode cX8_bestSet 50 = .ok (.iload 8, 2) := by decide +kernel
theorem dX8_bestSet_52 : decode cX8_bestSet 52 = .ok (.iload_n 3, 1) := by decide +kernel
theorem dX8_bestSet_53 : decode cX8_bestSet 53 = .ok (.if_icmp .lt 16, 3) := by decide +kernel
theorem dX8_bestSet_56 : decode cX8_bestSet 56 = .ok (.iload 8, 2) := by decide +kernel
theorem dX8_bestSet_58 : decode cX8_bestSet 58 = .ok (.iload_n 3, 1) := by decide +kernel
theorem dX8_bestSet_59 : decode cX8_bestSet 59 = .ok (.if_icmp .ne 14, 3) := by decide +kernel
theorem dX8_bestSet_62 : decode cX8_bestSet 62 = .ok (.iload 7, 2) := by decide +kernel
theorem dX8_bestSet_64 : decode cX8_bestSet 64 = .ok (.iload 4, 2) := by decide +kernel
theorem dX8_bestSet_66 : decode cX8_bestSet 66 = .ok (.if_icmp .ge 7, 3) := by decide +kernel
theorem dX8_bestSet_69 : decode cX8_bestSet 69 = .ok (.iconst 1, 1) := by decide +kernel
theorem dX8_bestSet_70 : decode cX8_bestSet 70 = .ok (.goto 4, 3) := by decide +kernel
theorem dX8_bestSet_73 : decode cX8_bestSet 73 = .ok (.iconst 0, 1) := by decide +kernel
theorem dX8_bestSet_74 : decode cX8_bestSet 74 = .ok (.istore 9, 2) := by decide +kernel
theorem dX8_bestSet_76 : decode cX8_bestSet 76 = .ok (.iload 7, 2) := by decide +kernel
theorem dX8_bestSet_78 : decode cX8_bestSet 78 = .ok (.iload_n 1, 1) := by decide +kernel
theorem dX8_bestSet_79 : decode cX8_bestSet 79 = .ok (.if_icmp .gt 22, 3) := by decide +kernel
theorem dX8_bestSet_82 : decode cX8_bestSet 82 = .ok (.iload_n 2, 1) := by decide +kernel
theorem dX8_bestSet_83 : decode cX8_bestSet 83 = .ok (.ifCond .eq 8, 3) := by decide +kernel
theorem dX8_bestSet_86 : decode cX8_bestSet 86 = .ok (.iload 9, 2) := by decide +kernel
theorem dX8_bestSet_88 : decode cX8_bestSet 88 = .ok (.ifCond .eq 13, 3) := by decide +kernel
theorem dX8_bestSet_91 : decode cX8_bestSet 91 = .ok (.iload 6, 2) := by decide +kernel
theorem dX8_bestSet_93 : decode cX8_bestSet 93 = .ok (.istore_n 2, 1) := by decide +kernel
theorem dX8_bestSet_94 : decode cX8_bestSet 94 = .ok (.iload 8, 2) := by decide +kernel
theorem dX8_bestSet_96 : decode cX8_bestSet 96 = .ok (.istore_n 3, 1) := by decide +kernel
theorem dX8_bestSet_97 : decode cX8_bestSet 97 = .ok (.iload 7, 2) := by decide +kernel
theorem dX8_bestSet_99 : decode cX8_bestSet 99 = .ok (.istore 4, 2) := by decide +kernel
theorem dX8_bestSet_101 : decode cX8_bestSet 101 = .ok (.iinc 6 1, 3) := by decide +kernel
theorem dX8_bestSet_104 : decode cX8_bestSet 104 = .ok (.goto (-85), 3) := by decide +kernel
theorem dX8_bestSet_107 : decode cX8_bestSet 107 = .ok (.iload_n 2, 1) := by decide +kernel
theorem dX8_bestSet_108 : decode cX8_bestSet 108 = .ok (.ireturn, 1) := by decide +kernel
theorem dX8_restoredValue_0 : decode cX8_restoredValue 0 = .ok (.aload_n 0, 1) := by decide +kernel
theorem dX8_restoredValue_1 : decode cX8_restoredValue 1 = .ok (.getfield 35, 3) := by decide +kernel
theorem dX8_restoredValue_4 : decode cX8_restoredValue 4 = .ok (.getfield 82, 3) := by decide +kernel
theorem dX8_restoredValue_7 : decode cX8_restoredValue 7 = .ok (.iload_n 1, 1) := by decide +kernel
theorem dX8_restoredValue_8 : decode cX8_restoredValue 8 = .ok (.iaload, 1) := by decide +kernel
theorem dX8_restoredValue_9 : decode cX8_restoredValue 9 = .ok (.istore_n 2, 1) := by decide +kernel
theorem dX8_restoredValue_10 : decode cX8_restoredValue 10 = .ok (.iload_n 2, 1) := by decide +kernel
theorem dX8_restoredValue_11 : decode cX8_restoredValue 11 = .ok (.iconst (-1), 1) := by decide +kernel
theorem dX8_restoredValue_12 : decode cX8_restoredValue 12 = .ok (.if_icmp .ne 7, 3) := by decide +kernel
theorem dX8_restoredValue_15 : decode cX8_restoredValue 15 = .ok (.iconst 0, 1) := by decide +kernel
theorem dX8_restoredValue_16 : decode cX8_restoredValue 16 = .ok (.goto 12, 3) := by decide +kernel
theorem dX8_restoredValue_19 : decode cX8_restoredValue 19 = .ok (.aload_n 0, 1) := by decide +kernel
theorem dX8_restoredValue_20 : decode cX8_restoredValue 20 = .ok (.getfield 28, 3) := by decide +kernel
theorem dX8_restoredValue_23 : decode cX8_restoredValue 23 = .ok (.getfield 114, 3) := by decide +kernel
theorem dX8_restoredValue_26 : decode cX8_restoredValue 26 = .ok (.iload_n 2, 1) := by decide +kernel
theorem dX8_restoredValue_27 : decode cX8_restoredValue 27 = .ok (.iaload, 1) := by decide +kernel
theorem dX8_restoredValue_28 : decode cX8_restoredValue 28 = .ok (.ireturn, 1) := by decide +kernel
theorem dX8_lostSet_0 : decode cX8_lostSet 0 = .ok (.iconst 0, 1) := by decide +kernel
theorem dX8_lostSet_1 : decode cX8_lostSet 1 = .ok (.istore_n 2, 1) := by decide +kernel
theorem dX8_lostSet_2 : decode cX8_lostSet 2 = .ok (.iconst 0, 1) := by decide +kernel
theorem dX8_lostSet_3 : decode cX8_lostSet 3 = .ok (.istore_n 3, 1) := by decide +kernel
theorem dX8_lostSet_4 : decode cX8_lostSet 4 = .ok (.iload_n 3, 1) := by decide +kernel
theorem dX8_lostSet_5 : decode cX8_lostSet 5 = .ok (.aload_n 0, 1) := by decide +kernel
theorem dX8_lostSet_6 : decode cX8_lostSet 6 = .ok (.getfield 12, 3) := by decide +kernel
theorem dX8_lostSet_9 : decode cX8_lostSet 9 = .ok (.getfield 243, 3) := by decide +kernel
theorem dX8_lostSet_12 : decode cX8_lostSet 12 = .ok (.iload_n 1, 1) := by decide +kernel
theorem dX8_lostSet_13 : decode cX8_lostSet 13 = .ok (.iaload, 1) := by decide +kernel
theorem dX8_lostSet_14 : decode cX8_lostSet 14 = .ok (.if_icmp .ge 41, 3) := by decide +kernel
theorem dX8_lostSet_17 : decode cX8_lostSet 17 = .ok (.iload_n 1, 1) := by decide +kernel
theorem dX8_lostSet_18 : decode cX8_lostSet 18 = .ok (.iload_n 3, 1) := by decide +kernel
theorem dX8_lostSet_19 : decode cX8_lostSet 19 = .ok (.invokestatic 153, 3) := by decide +kernel
theorem dX8_lostSet_22 : decode cX8_lostSet 22 = .ok (.istore 4, 2) := by decide +kernel
theorem dX8_lostSet_24 : decode cX8_lostSet 24 = .ok (.aload_n 0, 1) := by decide +kernel
theorem dX8_lostSet_25 : decode cX8_lostSet 25 = .ok (.getfield 12, 3) := by decide +kernel
theorem dX8_lostSet_28 : decode cX8_lostSet 28 = .ok (.getfield 166, 3) := by decide +kernel
theorem dX8_lostSet_31 : decode cX8_lostSet 31 = .ok (.iload 4, 2) := by decide +kernel
theorem dX8_lostSet_33 : decode cX8_lostSet 33 = .ok (.iaload, 1) := by decide +kernel
theorem dX8_lostSet_34 : decode cX8_lostSet 34 = .ok (.aload_n 0, 1) := by decide +kernel
theorem dX8_lostSet_35 : decode cX8_lostSet 35 = .ok (.iload 4, 2) := by decide +kernel
theorem dX8_lostSet_37 : decode cX8_lostSet 37 = .ok (.invokevirtual 246, 3) := by decide +kernel
theorem dX8_lostSet_40 : decode cX8_lostSet 40 = .ok (.if_icmp .eq 9, 3) := by decide +kernel
theorem dX8_lostSet_43 : decode cX8_lostSet 43 = .ok (.iload_n 2, 1) := by decide +kernel
theorem dX8_lostSet_44 : decode cX8_lostSet 44 = .ok (.iconst 1, 1) := by decide +kernel
theorem dX8_lostSet_45 : decode cX8_lostSet 45 = .ok (.iload_n 3, 1) := by decide +kernel
theorem dX8_lostSet_46 : decode cX8_lostSet 46 = .ok (.ishl, 1) := by decide +kernel
theorem dX8_lostSet_47 : decode cX8_lostSet 47 = .ok (.ior, 1) := by decide +kernel
theorem dX8_lostSet_48 : decode cX8_lostSet 48 = .ok (.istore_n 2, 1) := by decide +kernel
theorem dX8_lostSet_49 : decode cX8_lostSet 49 = .ok (.iinc 3 1, 3) := by decide +kernel
theorem dX8_lostSet_52 : decode cX8_lostSet 52 = .ok (.goto (-48), 3) := by decide +kernel
theorem dX8_lostSet_55 : decode cX8_lostSet 55 = .ok (.iload_n 2, 1) := by decide +kernel
theorem dX8_lostSet_56 : decode cX8_lostSet 56 = .ok (.ireturn, 1) := by decide +kernel
theorem dX8_countLost_0 : decode cX8_countLost 0 = .ok (.iconst 0, 1) := by decide +kernel
theorem dX8_countLost_1 : decode cX8_countLost 1 = .ok (.istore_n 2, 1) := by decide +kernel
theorem dX8_countLost_2 : decode cX8_countLost 2 = .ok (.iconst 0, 1) := by decide +kernel
theorem dX8_countLost_3 : decode cX8_countLost 3 = .ok (.istore_n 3, 1) := by decide +kernel
theorem dX8_countLost_4 : decode cX8_countLost 4 = .ok (.iload_n 3, 1) := by decide +kernel
theorem dX8_countLost_5 : decode cX8_countLost 5 = .ok (.aload_n 0, 1) := by decide +kernel
theorem dX8_countLost_6 : decode cX8_countLost 6 = .ok (.getfield 12, 3) := by decide +kernel
theorem dX8_countLost_9 : decode cX8_countLost 9 = .ok (.getfield 249, 3) := by decide +kernel
theorem dX8_countLost_12 : decode cX8_countLost 12 = .ok (.if_icmp .ge 28, 3) := by decide +kernel
theorem dX8_countLost_15 : decode cX8_countLost 15 = .ok (.iload_n 1, 1) := by decide +kernel
theorem dX8_countLost_16 : decode cX8_countLost 16 = .ok (.iconst 1, 1) := by decide +kernel
theorem dX8_countLost_17 : decode cX8_countLost 17 = .ok (.iload_n 3, 1) := by decide +kernel
theorem dX8_countLost_18 : decode cX8_countLost 18 = .ok (.ishl, 1) := by decide +kernel
theorem dX8_countLost_19 : decode cX8_countLost 19 = .ok (.iand, 1) := by decide +kernel
theorem dX8_countLost_20 : decode cX8_countLost 20 = .ok (.ifCond .eq 14, 3) := by decide +kernel
theorem dX8_countLost_23 : decode cX8_countLost 23 = .ok (.iload_n 2, 1) := by decide +kernel
theorem dX8_countLost_24 : decode cX8_countLost 24 = .ok (.aload_n 0, 1) := by decide +kernel
theorem dX8_countLost_25 : decode cX8_countLost 25 = .ok (.iload_n 3, 1) := by decide +kernel
theorem dX8_countLost_26 : decode cX8_countLost 26 = .ok (.invokevirtual 252, 3) := by decide +kernel
theorem dX8_countLost_29 : decode cX8_countLost 29 = .ok (.invokestatic 102, 3) := by decide +kernel
theorem dX8_countLost_32 : decode cX8_countLost 32 = .ok (.iadd, 1) := by decide +kernel
theorem dX8_countLost_33 : decode cX8_countLost 33 = .ok (.istore_n 2, 1) := by decide +kernel
theorem dX8_countLost_34 : decode cX8_countLost 34 = .ok (.iinc 3 1, 3) := by decide +kernel
theorem dX8_countLost_37 : decode cX8_countLost 37 = .ok (.goto (-33), 3) := by decide +kernel
theorem dX8_countLost_40 : decode cX8_countLost 40 = .ok (.iload_n 2, 1) := by decide +kernel
theorem dX8_countLost_41 : decode cX8_countLost 41 = .ok (.ireturn, 1) := by decide +kernel
theorem dX8_refusalToRestore_0 : decode cX8_refusalToRestore 0 = .ok (.aload_n 0, 1) := by decide +kernel
theorem dX8_refusalToRestore_1 : decode cX8_refusalToRestore 1 = .ok (.getfield 12, 3) := by decide +kernel
theorem dX8_refusalToRestore_4 : decode cX8_refusalToRestore 4 = .ok (.iload_n 1, 1) := by decide +kernel
theorem dX8_refusalToRestore_5 : decode cX8_refusalToRestore 5 = .ok (.invokevirtual 255, 3) := by decide +kernel
theorem dX8_refusalToRestore_8 : decode cX8_refusalToRestore 8 = .ok (.ifCond .ne 5, 3) := by decide +kernel
theorem dX8_refusalToRestore_11 : decode cX8_refusalToRestore 11 = .ok (.iconst 1, 1) := by decide +kernel
theorem dX8_refusalToRestore_12 : decode cX8_refusalToRestore 12 = .ok (.ireturn, 1) := by decide +kernel
theorem dX8_refusalToRestore_13 : decode cX8_refusalToRestore 13 = .ok (.aload_n 0, 1) := by decide +kernel
theorem dX8_refusalToRestore_14 : decode cX8_refusalToRestore 14 = .ok (.getfield 35, 3) := by decide +kernel
theorem dX8_refusalToRestore_17 : decode cX8_refusalToRestore 17 = .ok (.getfield 258, 3) := by decide +kernel
theorem dX8_refusalToRestore_20 : decode cX8_refusalToRestore 20 = .ok (.iload_n 1, 1) := by decide +kernel
theorem dX8_refusalToRestore_21 : decode cX8_refusalToRestore 21 = .ok (.iaload, 1) := by decide +kernel
theorem dX8_refusalToRestore_22 : decode cX8_refusalToRestore 22 = .ok (.iconst (-1), 1) := by decide +kernel
theorem dX8_refusalToRestore_23 : decode cX8_refusalToRestore 23 = .ok (.if_icmp .ne 5, 3) := by decide +kernel
theorem dX8_refusalToRestore_26 : decode cX8_refusalToRestore 26 = .ok (.iconst 4, 1) := by decide +kernel
theorem dX8_refusalToRestore_27 : decode cX8_refusalToRestore 27 = .ok (.ireturn, 1) := by decide +kernel
theorem dX8_refusalToRestore_28 : decode cX8_refusalToRestore 28 = .ok (.aload_n 0, 1) := by decide +kernel
theorem dX8_refusalToRestore_29 : decode cX8_refusalToRestore 29 = .ok (.getfield 35, 3) := by decide +kernel
theorem dX8_refusalToRestore_32 : decode cX8_refusalToRestore 32 = .ok (.iload_n 1, 1) := by decide +kernel
theorem dX8_refusalToRestore_33 : decode cX8_refusalToRestore 33 = .ok (.invokevirtual 209, 3) := by decide +kernel
theorem dX8_refusalToRestore_36 : decode cX8_refusalToRestore 36 = .ok (.ifCond .eq 7, 3) := by decide +kernel
theorem dX8_refusalToRestore_39 : decode cX8_refusalToRestore 39 = .ok (.iconst 3, 1) := by decide +kernel
theorem dX8_refusalToRestore_40 : decode cX8_refusalToRestore 40 = .ok (.goto 4, 3) := by decide +kernel
theorem dX8_refusalToRestore_43 : decode cX8_refusalToRestore 43 = .ok (.iconst 0, 1) := by decide +kernel
theorem dX8_refusalToRestore_44 : decode cX8_refusalToRestore 44 = .ok (.ireturn, 1) := by decide +kernel
theorem dX8_restore_0 : decode cX8_restore 0 = .ok (.aload_n 0, 1) := by decide +kernel
theorem dX8_restore_1 : decode cX8_restore 1 = .ok (.iload_n 1, 1) := by decide +kernel
theorem dX8_restore_2 : decode cX8_restore 2 = .ok (.invokevirtual 252, 3) := by decide +kernel
theorem dX8_restore_5 : decode cX8_restore 5 = .ok (.istore_n 2, 1) := by decide +kernel
theorem dX8_restore_6 : decode cX8_restore 6 = .ok (.iconst 0, 1) := by decide +kernel
theorem dX8_restore_7 : decode cX8_restore 7 = .ok (.istore_n 3, 1) := by decide +kernel
theorem dX8_restore_8 : decode cX8_restore 8 = .ok (.iload_n 3, 1) := by decide +kernel
theorem dX8_restore_9 : decode cX8_restore 9 = .ok (.aload_n 0, 1) := by decide +kernel
theorem dX8_restore_10 : decode cX8_restore 10 = .ok (.getfield 12, 3) := by decide +kernel
theorem dX8_restore_13 : decode cX8_restore 13 = .ok (.getfield 243, 3) := by decide +kernel
theorem dX8_restore_16 : decode cX8_restore 16 = .ok (.iload_n 1, 1) := by decide +kernel
theorem dX8_restore_17 : decode cX8_restore 17 = .ok (.iaload, 1) := by decide +kernel
theorem dX8_restore_18 : decode cX8_restore 18 = .ok (.if_icmp .ge 67, 3) := by decide +kernel
theorem dX8_restore_21 : decode cX8_restore 21 = .ok (.iload_n 1, 1) := by decide +kernel
theorem dX8_restore_22 : decode cX8_restore 22 = .ok (.iload_n 3, 1) := by decide +kernel
theorem dX8_restore_23 : decode cX8_restore 23 = .ok (.invokestatic 153, 3) := by decide +kernel
theorem dX8_restore_26 : decode cX8_restore 26 = .ok (.istore 4, 2) := by decide +kernel
theorem dX8_restore_28 : decode cX8_restore 28 = .ok (.aload_n 0, 1) := by decide +kernel
theorem dX8_restore_29 : decode cX8_restore 29 = .ok (.iload 4, 2) := by decide +kernel
theorem dX8_restore_31 : decode cX8_restore 31 = .ok (.invokevirtual 190, 3) := by decide +kernel
theorem dX8_restore_34 : decode cX8_restore 34 = .ok (.aload_n 0, 1) := by decide +kernel
theorem dX8_restore_35 : decode cX8_restore 35 = .ok (.getfield 12, 3) := by decide +kernel
theorem dX8_restore_38 : decode cX8_restore 38 = .ok (.iload 4, 2) := by decide +kernel
theorem dX8_restore_40 : decode cX8_restore 40 = .ok (.invokevirtual 200, 3) := by decide +kernel
theorem dX8_restore_43 : decode cX8_restore 43 = .ok (.aload_n 0, 1) := by decide +kernel
theorem dX8_restore_44 : decode cX8_restore 44 = .ok (.getfield 12, 3) := by decide +kernel
theorem dX8_restore_47 : decode cX8_restore 47 = .ok (.getfield 166, 3) := by decide +kernel
theorem dX8_restore_50 : decode cX8_restore 50 = .ok (.iload 4, 2) := by decide +kernel
theorem dX8_restore_52 : decode cX8_restore 52 = .ok (.aload_n 0, 1) := by decide +kernel
theorem dX8_restore_53 : decode cX8_restore 53 = .ok (.iload 4, 2) := by decide +kernel
theorem dX8_restore_55 : decode cX8_restore 55 = .ok (.invokevirtual 246, 3) := by decide +kernel
theorem dX8_restore_58 : decode cX8_restore 58 = .ok (.iastore, 1) := by decide +kernel
theorem dX8_restore_59 : decode cX8_restore 59 = .ok (.aload_n 0, 1) := by decide +kernel
theorem dX8_restore_60 : decode cX8_restore 60 = .ok (.getfield 12, 3) := by decide +kernel
theorem dX8_restore_63 : decode cX8_restore 63 = .ok (.getfield 79, 3) := by decide +kernel
theorem dX8_restore_66 : decode cX8_restore 66 = .ok (.iload 4, 2) := by decide +kernel
theorem dX8_restore_68 : decode cX8_restore 68 = .ok (.aload_n 0, 1) := by decide +kernel
theorem dX8_restore_69 : decode cX8_restore 69 = .ok (.getfield 35, 3) := by decide +kernel
theorem dX8_restore_72 : decode cX8_restore 72 = .ok (.getfield 82, 3) := by decide +kernel
theorem dX8_restore_75 : decode cX8_restore 75 = .ok (.iload 4, 2) := by decide +kernel
theorem dX8_restore_77 : decode cX8_restore 77 = .ok (.iaload, 1) := by decide +kernel
theorem dX8_restore_78 : decode cX8_restore 78 = .ok (.iastore, 1) := by decide +kernel
theorem dX8_restore_79 : decode cX8_restore 79 = .ok (.iinc 3 1, 3) := by decide +kernel
theorem dX8_restore_82 : decode cX8_restore 82 = .ok (.goto (-74), 3) := by decide +kernel
theorem dX8_restore_85 : decode cX8_restore 85 = .ok (.iload_n 2, 1) := by decide +kernel
theorem dX8_restore_86 : decode cX8_restore 86 = .ok (.ireturn, 1) := by decide +kernel
theorem dX8_crashAll_0 : decode cX8_crashAll 0 = .ok (.iconst 0, 1) := by decide +kernel
theorem dX8_crashAll_1 : decode cX8_crashAll 1 = .ok (.istore_n 1, 1) := by decide +kernel
theorem dX8_crashAll_2 : decode cX8_crashAll 2 = .ok (.aload_n 0, 1) := by decide +kernel
theorem dX8_crashAll_3 : decode cX8_crashAll 3 = .ok (.getfield 35, 3) := by decide +kernel
theorem dX8_crashAll_6 : decode cX8_crashAll 6 = .ok (.invokevirtual 227, 3) := by decide +kernel
theorem dX8_crashAll_9 : decode cX8_crashAll 9 = .ok (.iconst 0, 1) := by decide +kernel
theorem dX8_crashAll_10 : decode cX8_crashAll 10 = .ok (.istore_n 2, 1) := by decide +kernel
theorem dX8_crashAll_11 : decode cX8_crashAll 11 = .ok (.iload_n 2, 1) := by decide +kernel
theorem dX8_crashAll_12 : decode cX8_crashAll 12 = .ok (.aload_n 0, 1) := by decide +kernel
theorem dX8_crashAll_13 : decode cX8_crashAll 13 = .ok (.getfield 12, 3) := by decide +kernel
theorem dX8_crashAll_16 : decode cX8_crashAll 16 = .ok (.getfield 249, 3) := by decide +kernel
theorem dX8_crashAll_19 : decode cX8_crashAll 19 = .ok (.if_icmp .ge 34, 3) := by decide +kernel
theorem dX8_crashAll_22 : decode cX8_crashAll 22 = .ok (.aload_n 0, 1) := by decide +kernel
theorem dX8_crashAll_23 : decode cX8_crashAll 23 = .ok (.iload_n 2, 1) := by decide +kernel
theorem dX8_crashAll_24 : decode cX8_crashAll 24 = .ok (.invokevirtual 261, 3) := by decide +kernel
theorem dX8_crashAll_27 : decode cX8_crashAll 27 = .ok (.pop, 1) := by decide +kernel
theorem dX8_crashAll_28 : decode cX8_crashAll 28 = .ok (.aload_n 0, 1) := by decide +kernel
theorem dX8_crashAll_29 : decode cX8_crashAll 29 = .ok (.getfield 35, 3) := by decide +kernel
theorem dX8_crashAll_32 : decode cX8_crashAll 32 = .ok (.getfield 258, 3) := by decide +kernel
theorem dX8_crashAll_35 : decode cX8_crashAll 35 = .ok (.iload_n 2, 1) := by decide +kernel
theorem dX8_crashAll_36 : decode cX8_crashAll 36 = .ok (.iaload, 1) := by decide +kernel
theorem dX8_crashAll_37 : decode cX8_crashAll 37 = .ok (.iconst (-1), 1) := by decide +kernel
theorem dX8_crashAll_38 : decode cX8_crashAll 38 = .ok (.if_icmp .eq 9, 3) := by decide +kernel
theorem dX8_crashAll_41 : decode cX8_crashAll 41 = .ok (.iload_n 1, 1) := by decide +kernel
theorem dX8_crashAll_42 : decode cX8_crashAll 42 = .ok (.iconst 1, 1) := by decide +kernel
theorem dX8_crashAll_43 : decode cX8_crashAll 43 = .ok (.iload_n 2, 1) := by decide +kernel
theorem dX8_crashAll_44 : decode cX8_crashAll 44 = .ok (.ishl, 1) := by decide +kernel
theorem dX8_crashAll_45 : decode cX8_crashAll 45 = .ok (.ior, 1) := by decide +kernel
theorem dX8_crashAll_46 : decode cX8_crashAll 46 = .ok (.istore_n 1, 1) := by decide +kernel
theorem dX8_crashAll_47 : decode cX8_crashAll 47 = .ok (.iinc 2 1, 3) := by decide +kernel
theorem dX8_crashAll_50 : decode cX8_crashAll 50 = .ok (.goto (-39), 3) := by decide +kernel
theorem dX8_crashAll_53 : decode cX8_crashAll 53 = .ok (.aload_n 0, 1) := by decide +kernel
theorem dX8_crashAll_54 : decode cX8_crashAll 54 = .ok (.getfield 42, 3) := by decide +kernel
theorem dX8_crashAll_57 : decode cX8_crashAll 57 = .ok (.iconst 0, 1) := by decide +kernel
theorem dX8_crashAll_58 : decode cX8_crashAll 58 = .ok (.putfield 264, 3) := by decide +kernel
theorem dX8_crashAll_61 : decode cX8_crashAll 61 = .ok (.aload_n 0, 1) := by decide +kernel
theorem dX8_crashAll_62 : decode cX8_crashAll 62 = .ok (.dup, 1) := by decide +kernel
theorem dX8_crashAll_63 : decode cX8_crashAll 63 = .ok (.getfield 59, 3) := by decide +kernel
theorem dX8_crashAll_66 : decode cX8_crashAll 66 = .ok (.iconst 1, 1) := by decide +kernel
theorem dX8_crashAll_67 : decode cX8_crashAll 67 = .ok (.iadd, 1) := by decide +kernel
theorem dX8_crashAll_68 : decode cX8_crashAll 68 = .ok (.putfield 59, 3) := by decide +kernel
theorem dX8_crashAll_71 : decode cX8_crashAll 71 = .ok (.iload_n 1, 1) := by decide +kernel
theorem dX8_crashAll_72 : decode cX8_crashAll 72 = .ok (.ireturn, 1) := by decide +kernel
theorem dX9_init_0 : decode cX9_init 0 = .ok (.aload_n 0, 1) := by decide +kernel
theorem dX9_init_1 : decode cX9_init 1 = .ok (.invokespecial 3, 3) := by decide +kernel
theorem dX9_init_4 : decode cX9_init 4 = .ok (.aload_n 0, 1) := by decide +kernel
theorem dX9_init_5 : decode cX9_init 5 = .ok (.iconst (-1), 1) := by decide +kernel
theorem dX9_init_6 : decode cX9_init 6 = .ok (.putfield 9, 3) := by decide +kernel
theorem dX9_init_9 : decode cX9_init 9 = .ok (.aload_n 0, 1) := by decide +kernel
theorem dX9_init_10 : decode cX9_init 10 = .ok (.iconst 1, 1) := by decide +kernel
theorem dX9_init_11 : decode cX9_init 11 = .ok (.putfield 15, 3) := by decide +kernel
theorem dX9_init_14 : decode cX9_init 14 = .ok (.aload_n 0, 1) := by decide +kernel
theorem dX9_init_15 : decode cX9_init 15 = .ok (.iconst 1, 1) := by decide +kernel
theorem dX9_init_16 : decode cX9_init 16 = .ok (.putfield 18, 3) := by decide +kernel
theorem dX9_init_19 : decode cX9_init 19 = .ok (.aload_n 0, 1) := by decide +kernel
theorem dX9_init_20 : decode cX9_init 20 = .ok (.bipush 6, 2) := by decide +kernel
theorem dX9_init_22 : decode cX9_init 22 = .ok (.newarray .int, 2) := by decide +kernel
theorem dX9_init_24 : decode cX9_init 24 = .ok (.putfield 21, 3) := by decide +kernel
theorem dX9_init_27 : decode cX9_init 27 = .ok (.aload_n 0, 1) := by decide +kernel
theorem dX9_init_28 : decode cX9_init 28 = .ok (.bipush 6, 2) := by decide +kernel
theorem dX9_init_30 : decode cX9_init 30 = .ok (.newarray .int, 2) := by decide +kernel
theorem dX9_init_32 : decode cX9_init 32 = .ok (.putfield 25, 3) := by decide +kernel
theorem dX9_init_35 : decode cX9_init 35 = .ok (.aload_n 0, 1) := by decide +kernel
theorem dX9_init_36 : decode cX9_init 36 = .ok (.aload_n 1, 1) := by decide +kernel
theorem dX9_init_37 : decode cX9_init 37 = .ok (.putfield 28, 3) := by decide +kernel
theorem dX9_init_40 : decode cX9_init 40 = .ok (.return_, 1) := by decide +kernel
theorem dX9_parse_0 : decode cX9_parse 0 = .ok (.aload_n 0, 1) := by decide +kernel
theorem dX9_parse_1 : decode cX9_parse 1 = .ok (.iconst 0, 1) := by decide +kernel
theorem dX9_parse_2 : decode cX9_parse 2 = .ok (.putfield 32, 3) := by decide +kernel
theorem dX9_parse_5 : decode cX9_parse 5 = .ok (.aload_n 0, 1) := by decide +kernel
theorem dX9_parse_6 : decode cX9_parse 6 = .ok (.iconst (-1), 1) := by decide +kernel
theorem dX9_parse_7 : decode cX9_parse 7 = .ok (.putfield 9, 3) := by decide +kernel
theorem dX9_parse_10 : decode cX9_parse 10 = .ok (.aload_n 0, 1) := by decide +kernel
theorem dX9_parse_11 : decode cX9_parse 11 = .ok (.iconst 0, 1) := by decide +kernel
theorem dX9_parse_12 : decode cX9_parse 12 = .ok (.putfield 35, 3) := by decide +kernel
theorem dX9_parse_15 : decode cX9_parse 15 = .ok (.aload_n 0, 1) := by decide +kernel
theorem dX9_parse_16 : decode cX9_parse 16 = .ok (.getfield 28, 3) := by decide +kernel
theorem dX9_parse_19 : decode cX9_parse 19 = .ok (.invokevirtual 38, 3) := by decide +kernel
theorem dX9_parse_22 : decode cX9_parse 22 = .ok (.aload_n 0, 1) := by decide +kernel
theorem dX9_parse_23 : decode cX9_parse 23 = .ok (.invokevirtual 43, 3) := by decide +kernel
theorem dX9_parse_26 : decode cX9_parse 26 = .ok (.ifCond .ne 5, 3) := by decide +kernel
theorem dX9_parse_29 : decode cX9_parse 29 = .ok (.iconst 0, 1) := by decide +kernel
theorem dX9_parse_30 : decode cX9_parse 30 = .ok (.ireturn, 1) := by decide +kernel
theorem dX9_parse_31 : decode cX9_parse 31 = .ok (.iconst 0, 1) := by decide +kernel
theorem dX9_parse_32 : decode cX9_parse 32 = .ok (.istore_n 1, 1) := by decide +kernel
theorem dX9_parse_33 : decode cX9_parse 33 = .ok (.iload_n 1, 1) := by decide +kernel
theorem dX9_parse_34 : decode cX9_parse 34 = .ok (.bipush 6, 2) := by decide +kernel
theorem dX9_parse_36 : decode cX9_parse 36 = .ok (.if_icmp .gt 37, 3) := by decide +kernel
theorem dX9_parse_39 : decode cX9_parse 39 = .ok (.aload_n 0, 1) := by decide +kernel
theorem dX9_parse_40 : decode cX9_parse 40 = .ok (.getfield 35, 3) := by decide +kernel
theorem dX9_parse_43 : decode cX9_parse 43 = .ok (.ifCond .le 15, 3) := by decide +kernel
theorem dX9_parse_46 : decode cX9_parse 46 = .ok (.aload_n 0, 1) := by decide +kernel
theorem dX9_parse_47 : decode cX9_parse 47 = .ok (.getfield 28, 3) := by decide +kernel
theorem dX9_parse_50 : decode cX9_parse 50 = .ok (.getfield 47, 3) := by decide +kernel
theorem dX9_parse_53 : decode cX9_parse 53 = .ok (.ifCond .ne 5, 3) := by decide +kernel
theorem dX9_parse_56 : decode cX9_parse 56 = .ok (.iconst 1, 1) := by decide +kernel
theorem dX9_parse_57 : decode cX9_parse 57 = .ok (.ireturn, 1) := by decide +kernel
theorem dX9_parse_58 : decode cX9_parse 58 = .ok (.aload_n 0, 1) := by decide +kernel
theorem dX9_parse_59 : decode cX9_parse 59 = .ok (.invokevirtual 50, 3) := by decide +kernel
theorem dX9_parse_62 : decode cX9_parse 62 = .ok (.ifCond .ne 5, 3) := by decide +kernel
theorem dX9_parse_65 : decode cX9_parse 65 = .ok (.iconst 0, 1) := by decide +kernel
theorem dX9_parse_66 : decode cX9_parse 66 = .ok (.ireturn, 1) := by decide +kernel
theorem dX9_parse_67 : decode cX9_parse 67 = .ok (.iinc 1 1, 3) := by decide +kernel
theorem dX9_parse_70 : decode cX9_parse 70 = .ok (.goto (-37), 3) := by decide +kernel
theorem dX9_parse_73 : decode cX9_parse 73 = .ok (.iconst 0, 1) := by decide +kernel
theorem dX9_parse_74 : decode cX9_parse 74 = .ok (.ireturn, 1) := by decide +kernel
theorem dX9_readHead_0 : decode cX9_readHead 0 = .ok (.aload_n 0, 1) := by decide +kernel
theorem dX9_readHead_1 : decode cX9_readHead 1 = .ok (.getfield 28, 3) := by decide +kernel
theorem dX9_readHead_4 : decode cX9_readHead 4 = .ok (.ldc 53, 2) := by decide +kernel
theorem dX9_readHead_6 : decode cX9_readHead 6 = .ok (.invokevirtual 55, 3) := by decide +kernel
theorem dX9_readHead_9 : decode cX9_readHead 9 = .ok (.ifCond .ne 9, 3) := by decide +kernel
theorem dX9_readHead_12 : decode cX9_readHead 12 = .ok (.aload_n 0, 1) := by decide +kernel
theorem dX9_readHead_13 : decode cX9_readHead 13 = .ok (.iconst 1, 1) := by decide +kernel
theorem dX9_readHead_14 : decode cX9_readHead 14 = .ok (.invokevirtual 59, 3) := by decide +kernel
theorem dX9_readHead_17 : decode cX9_readHead 17 = .ok (.ireturn, 1) := by decide +kernel
theorem dX9_readHead_18 : decode cX9_readHead 18 = .ok (.aload_n 0, 1) := by decide +kernel
theorem dX9_readHead_19 : decode cX9_readHead 19 = .ok (.getfield 28, 3) := by decide +kernel
theorem dX9_readHead_22 : decode cX9_readHead 22 = .ok (.invokevirtual 63, 3) := by decide +kernel
theorem dX9_readHead_25 : decode cX9_readHead 25 = .ok (.aload_n 0, 1) := by decide +kernel
theorem dX9_readHead_26 : decode cX9_readHead 26 = .ok (.aload_n 0, 1) := by decide +kernel
theorem dX9_readHead_27 : decode cX9_readHead 27 = .ok (.bipush 16, 2) := by decide +kernel
theorem dX9_readHead_29 : decode cX9_readHead 29 = .ok (.invokevirtual 66, 3) := by decide +kernel
theorem dX9_readHead_32 : decode cX9_readHead 32 = .ok (.putfield 15, 3) := by decide +kernel
theorem dX9_readHead_35 : decode cX9_readHead 35 = .ok (.aload_n 0, 1) := by decide +kernel
theorem dX9_readHead_36 : decode cX9_readHead 36 = .ok (.aload_n 0, 1) := by decide +kernel
theorem dX9_readHead_37 : decode cX9_readHead 37 = .ok (.getfield 15, 3) := by decide +kernel
theorem dX9_readHead_40 : decode cX9_readHead 40 = .ok (.iconst (-1), 1) := by decide +kernel
theorem dX9_readHead_41 : decode cX9_readHead 41 = .ok (.if_icmp .ne 7, 3) := by decide +kernel
theorem dX9_readHead_44 : decode cX9_readHead 44 = .ok (.iconst (-1), 1) := by decide +kernel
theorem dX9_readHead_45 : decode cX9_readHead 45 = .ok (.goto 9, 3) := by decide +kernel
theorem dX9_readHead_48 : decode cX9_readHead 48 = .ok (.aload_n 0, 1) := by decide +kernel
theorem dX9_readHead_49 : decode cX9_readHead 49 = .ok (.bipush 48, 2) := by decide +kernel
theorem dX9_readHead_51 : decode cX9_readHead 51 = .ok (.invokevirtual 66, 3) := by decide +kernel
theorem dX9_readHead_54 : decode cX9_readHead 54 = .ok (.putfield 18, 3) := by decide +kernel
theorem dX9_readHead_57 : decode cX9_readHead 57 = .ok (.aload_n 0, 1) := by decide +kernel
theorem dX9_readHead_58 : decode cX9_readHead 58 = .ok (.aload_n 0, 1) := by decide +kernel
theorem dX9_readHead_59 : decode cX9_readHead 59 = .ok (.getfield 18, 3) := by decide +kernel
theorem dX9_readHead_62 : decode cX9_readHead 62 = .ok (.iconst (-1), 1) := by decide +kernel
theorem dX9_readHead_63 : decode cX9_readHead 63 = .ok (.if_icmp .ne 7, 3) := by decide +kernel
theorem dX9_readHead_66 : decode cX9_readHead 66 = .ok (.iconst (-1), 1) := by decide +kernel
theorem dX9_readHead_67 : decode cX9_readHead 67 = .ok (.goto 13, 3) := by decide +kernel
theorem dX9_readHead_70 : decode cX9_readHead 70 = .ok (.aload_n 0, 1) := by decide +kernel
theorem dX9_readHead_71 : decode cX9_readHead 71 = .ok (.ldc 70, 2) := by decide +kernel
theorem dX9_readHead_73 : decode cX9_readHead 73 = .ok (.ldc 72, 2) := by decide +kernel
theorem dX9_readHead_75 : decode cX9_readHead 75 = .ok (.ldc 74, 2) := by decide +kernel
theorem dX9_readHead_77 : decode cX9_readHead 77 = .ok (.invokevirtual 76, 3) := by decide +kernel
theorem dX9_readHead_80 : decode cX9_readHead 80 = .ok (.putfield 80, 3) := by decide +kernel
theorem dX9_readHead_83 : decode cX9_readHead 83 = .ok (.aload_n 0, 1) := by decide +kernel
theorem dX9_readHead_84 : decode cX9_readHead 84 = .ok (.getfield 80, 3) := by decide +kernel
theorem dX9_readHead_87 : decode cX9_readHead 87 = .ok (.iconst (-1), 1) := by decide +kernel
theorem dX9_readHead_88 : decode cX9_readHead 88 = .ok (.if_icmp .eq 14, 3) := by decide +kernel
theorem dX9_readHead_91 : decode cX9_readHead 91 = .ok (.aload_n 0, 1) := by decide +kernel
theorem dX9_readHead_92 : decode cX9_readHead 92 = .ok (.invokevirtual 83, 3) := by decide +kernel
theorem dX9_readHead_95 : decode cX9_readHead 95 = .ok (.ifCond .eq 7, 3) := by decide +kernel
theorem dX9_readHead_98 : decode cX9_readHead 98 = .ok (.iconst 1, 1) := by decide +kernel
theorem dX9_readHead_99 : decode cX9_readHead 99 = .ok (.goto 4, 3) := by decide +kernel
theorem dX9_readHead_102 : decode cX9_readHead 102 = .ok (.iconst 0, 1) := by decide +kernel
theorem dX9_readHead_103 : decode cX9_readHead 103 = .ok (.ireturn, 1) := by decide +kernel
theorem dX9_readProcess_0 : decode cX9_readProcess 0 = .ok (.aload_n 0, 1) := by decide +kernel
theorem dX9_readProcess_1 : decode cX9_readProcess 1 = .ok (.getfield 28, 3) := by decide +kernel
theorem dX9_readProcess_4 : decode cX9_readProcess 4 = .ok (.ldc 86, 2) := by decide +kernel
theorem dX9_readProcess_6 : decode cX9_readProcess 6 = .ok (.invokevirtual 55, 3) := by decide +kernel
theorem dX9_readProcess_9 : decode cX9_readProcess 9 = .ok (.ifCond .ne 9, 3) := by decide +kernel
theorem dX9_readProcess_12 : decode cX9_readProcess 12 = .ok (.aload_n 0, 1) := by decide +kernel
theorem dX9_readProcess_13 : decode cX9_readProcess 13 = .ok (.iconst 1, 1) := by decide +kernel
theorem dX9_readProcess_14 : decode cX9_readProcess 14 = .ok (.invokevirtual 59, 3) := by decide +kernel
theorem dX9_readProcess_17 : decode cX9_readProcess 17 = .ok (.ireturn, 1) := by decide +kernel
theorem dX9_readProcess_18 : decode cX9_readProcess 18 = .ok (.aload_n 0, 1) := by decide +kernel
theorem dX9_readProcess_19 : decode cX9_readProcess 19 = .ok (.getfield 35, 3) := by decide +kernel
theorem dX9_readProcess_22 : decode cX9_readProcess 22 = .ok (.bipush 6, 2) := by decide +kernel
theorem dX9_readProcess_24 : decode cX9_readProcess 24 = .ok (.if_icmp .lt 9, 3) := by decide +kernel
theorem dX9_readProcess_27 : decode cX9_readProcess 27 = .ok (.aload_n 0, 1) := by decide +kernel
theorem dX9_readProcess_28 : decode cX9_readProcess 28 = .ok (.iconst 3, 1) := by decide +kernel
theorem dX9_readProcess_29 : decode cX9_readProcess 29 = .ok (.invokevirtual 59, 3) := by decide +kernel
theorem dX9_readProcess_32 : decode cX9_readProcess 32 = .ok (.ireturn, 1) := by decide +kernel
theorem dX9_readProcess_33 : decode cX9_readProcess 33 = .ok (.aload_n 0, 1) := by decide +kernel
theorem dX9_readProcess_34 : decode cX9_readProcess 34 = .ok (.getfield 28, 3) := by decide +kernel
theorem dX9_readProcess_37 : decode cX9_readProcess 37 = .ok (.invokevirtual 63, 3) := by decide +kernel
theorem dX9_readProcess_40 : decode cX9_readProcess 40 = .ok (.aload_n 0, 1) := by decide +kernel
theorem dX9_readProcess_41 : decode cX9_readProcess 41 = .ok (.ldc 88, 2) := by decide +kernel
theorem dX9_readProcess_43 : decode cX9_readProcess 43 = .ok (.ldc 90, 2) := by decide +kernel
theorem dX9_readProcess_45 : decode cX9_readProcess 45 = .ok (.ldc 92, 2) := by decide +kernel
theorem dX9_readProcess_47 : decode cX9_readProcess 47 = .ok (.invokevirtual 76, 3) := by decide +kernel
theorem dX9_readProcess_50 : decode cX9_readProcess 50 = .ok (.istore_n 1, 1) := by decide +kernel
theorem dX9_readProcess_51 : decode cX9_readProcess 51 = .ok (.iload_n 1, 1) := by decide +kernel
theorem dX9_readProcess_52 : decode cX9_readProcess 52 = .ok (.iconst (-1), 1) := by decide +kernel
theorem dX9_readProcess_53 : decode cX9_readProcess 53 = .ok (.if_icmp .ne 7, 3) := by decide +kernel
theorem dX9_readProcess_56 : decode cX9_readProcess 56 = .ok (.iconst (-1), 1) := by decide +kernel
theorem dX9_readProcess_57 : decode cX9_readProcess 57 = .ok (.goto 9, 3) := by decide +kernel
theorem dX9_readProcess_60 : decode cX9_readProcess 60 = .ok (.aload_n 0, 1) := by decide +kernel
theorem dX9_readProcess_61 : decode cX9_readProcess 61 = .ok (.bipush 8, 2) := by decide +kernel
theorem dX9_readProcess_63 : decode cX9_readProcess 63 = .ok (.invokevirtual 66, 3) := by decide +kernel
theorem dX9_readProcess_66 : decode cX9_readProcess 66 = .ok (.istore_n 2, 1) := by decide +kernel
theorem dX9_readProcess_67 : decode cX9_readProcess 67 = .ok (.iload_n 2, 1) := by decide +kernel
theorem dX9_readProcess_68 : decode cX9_readProcess 68 = .ok (.iconst (-1), 1) := by decide +kernel
theorem dX9_readProcess_69 : decode cX9_readProcess 69 = .ok (.if_icmp .eq 10, 3) := by decide +kernel
theorem dX9_readProcess_72 : decode cX9_readProcess 72 = .ok (.aload_n 0, 1) := by decide +kernel
theorem dX9_readProcess_73 : decode cX9_readProcess 73 = .ok (.invokevirtual 83, 3) := by decide +kernel
theorem dX9_readProcess_76 : decode cX9_readProcess 76 = .ok (.ifCond .ne 5, 3) := by decide +kernel
theorem dX9_readProcess_79 : decode cX9_readProcess 79 = .ok (.iconst 0, 1) := by decide +kernel
theorem dX9_readProcess_80 : decode cX9_readProcess 80 = .ok (.ireturn, 1) := by decide +kernel
theorem dX9_readProcess_81 : decode cX9_readProcess 81 = .ok (.aload_n 0, 1) := by decide +kernel
theorem dX9_readProcess_82 : decode cX9_readProcess 82 = .ok (.getfield 21, 3) := by decide +kernel
theorem dX9_readProcess_85 : decode cX9_readProcess 85 = .ok (.aload_n 0, 1) := by decide +kernel
theorem dX9_readProcess_86 : decode cX9_readProcess 86 = .ok (.getfield 35, 3) := by decide +kernel
theorem dX9_readProcess_89 : decode cX9_readProcess 89 = .ok (.iload_n 1, 1) := by decide +kernel
theorem dX9_readProcess_90 : decode cX9_readProcess 90 = .ok (.iastore, 1) := by decide +kernel
theorem dX9_readProcess_91 : decode cX9_readProcess 91 = .ok (.aload_n 0, 1) := by decide +kernel
theorem dX9_readProcess_92 : decode cX9_readProcess 92 = .ok (.getfield 25, 3) := by decide +kernel
theorem dX9_readProcess_95 : decode cX9_readProcess 95 = .ok (.aload_n 0, 1) := by decide +kernel
theorem dX9_readProcess_96 : decode cX9_readProcess 96 = .ok (.getfield 35, 3) := by decide +kernel
theorem dX9_readProcess_99 : decode cX9_readProcess 99 = .ok (.iload_n 2, 1) := by decide +kernel
theorem dX9_readProcess_100 : decode cX9_readProcess 100 = .ok (.iastore, 1) := by decide +kernel
theorem dX9_readProcess_101 : decode cX9_readProcess 101 = .ok (.aload_n 0, 1) := by decide +kernel
theorem dX9_readProcess_102 : decode cX9_readProcess 102 = .ok (.dup, 1) := by decide +kernel
theorem dX9_readProcess_103 : decode cX9_readProcess 103 = .ok (.getfield 35, 3) := by decide +kernel
theorem dX9_readProcess_106 : decode cX9_readProcess 106 = .ok (.iconst 1, 1) := by decide +kernel
theorem dX9_readProcess_107 : decode cX9_readProcess 107 = .ok (.iadd, 1) := by decide +kernel
theorem dX9_readProcess_108 : decode cX9_readProcess 108 = .ok (.putfield 35, 3) := by decide +kernel
theorem dX9_readProcess_111 : decode cX9_readProcess 111 = .ok (.iconst 1, 1) := by decide +kernel
theorem dX9_readProcess_112 : decode cX9_readProcess 112 = .ok (.ireturn, 1) := by decide +kernel
theorem dX9_fail_0 : decode cX9_fail 0 = .ok (.aload_n 0, 1) := by decide +kernel
theorem dX9_fail_1 : decode cX9_fail 1 = .ok (.iload_n 1, 1) := by decide +kernel
theorem dX9_fail_2 : decode cX9_fail 2 = .ok (.putfield 32, 3) := by decide +kernel
theorem dX9_fail_5 : decode cX9_fail 5 = .ok (.aload_n 0, 1) := by decide +kernel
theorem dX9_fail_6 : decode cX9_fail 6 = .ok (.aload_n 0, 1) := by decide +kernel
theorem dX9_fail_7 : decode cX9_fail 7 = .ok (.getfield 28, 3) := by decide +kernel
theorem dX9_fail_10 : decode cX9_fail 10 = .ok (.getfield 94, 3) := by decide +kernel
theorem dX9_fail_13 : decode cX9_fail 13 = .ok (.putfield 9, 3) := by decide +kernel
theorem dX9_fail_16 : decode cX9_fail 16 = .ok (.iconst 0, 1) := by decide +kernel
theorem dX9_fail_17 : decode cX9_fail 17 = .ok (.ireturn, 1) := by decide +kernel
theorem dX9_readNumber_0 : decode cX9_readNumber 0 = .ok (.aload_n 0, 1) := by decide +kernel
theorem dX9_readNumber_1 : decode cX9_readNumber 1 = .ok (.getfield 28, 3) := by decide +kernel
theorem dX9_readNumber_4 : decode cX9_readNumber 4 = .ok (.getfield 47, 3) := by decide +kernel
theorem dX9_readNumber_7 : decode cX9_readNumber 7 = .ok (.iconst 2, 1) := by decide +kernel
theorem dX9_readNumber_8 : decode cX9_readNumber 8 = .ok (.if_icmp .eq 11, 3) := by decide +kernel
theorem dX9_readNumber_11 : decode cX9_readNumber 11 = .ok (.aload_n 0, 1) := by decide +kernel
theorem dX9_readNumber_12 : decode cX9_readNumber 12 = .ok (.iconst 1, 1) := by decide +kernel
theorem dX9_readNumber_13 : decode cX9_readNumber 13 = .ok (.invokevirtual 59, 3) := by decide +kernel
theorem dX9_readNumber_16 : decode cX9_readNumber 16 = .ok (.pop, 1) := by decide +kernel
theorem dX9_readNumber_17 : decode cX9_readNumber 17 = .ok (.iconst (-1), 1) := by decide +kernel
theorem dX9_readNumber_18 : decode cX9_readNumber 18 = .ok (.ireturn, 1) := by decide +kernel
theorem dX9_readNumber_19 : decode cX9_readNumber 19 = .ok (.aload_n 0, 1) := by decide +kernel
theorem dX9_readNumber_20 : decode cX9_readNumber 20 = .ok (.getfield 28, 3) := by decide +kernel
theorem dX9_readNumber_23 : decode cX9_readNumber 23 = .ok (.invokevirtual 97, 3) := by decide +kernel
theorem dX9_readNumber_26 : decode cX9_readNumber 26 = .ok (.istore_n 2, 1) := by decide +kernel
theorem dX9_readNumber_27 : decode cX9_readNumber 27 = .ok (.iload_n 2, 1) := by decide +kernel
theorem dX9_readNumber_28 : decode cX9_readNumber 28 = .ok (.iconst 1, 1) := by decide +kernel
theorem dX9_readNumber_29 : decode cX9_readNumber 29 = .ok (.if_icmp .lt 8, 3) := by decide +kernel
theorem dX9_readNumber_32 : decode cX9_readNumber 32 = .ok (.iload_n 2, 1) := by decide +kernel
theorem dX9_readNumber_33 : decode cX9_readNumber 33 = .ok (.iload_n 1, 1) := by decide +kernel
theorem dX9_readNumber_34 : decode cX9_readNumber 34 = .ok (.if_icmp .le 11, 3) := by decide +kernel
theorem dX9_readNumber_37 : decode cX9_readNumber 37 = .ok (.aload_n 0, 1) := by decide +kernel
theorem dX9_readNumber_38 : decode cX9_readNumber 38 = .ok (.iconst 2, 1) := by decide +kernel
theorem dX9_readNumber_39 : decode cX9_readNumber 39 = .ok (.invokevirtual 59, 3) := by decide +kernel
theorem dX9_readNumber_42 : decode cX9_readNumber 42 = .ok (.pop, 1) := by decide +kernel
theorem dX9_readNumber_43 : decode cX9_readNumber 43 = .ok (.iconst (-1), 1) := by decide +kernel
theorem dX9_readNumber_44 : decode cX9_readNumber 44 = .ok (.ireturn, 1) := by decide +kernel
theorem dX9_readNumber_45 : decode cX9_readNumber 45 = .ok (.aload_n 0, 1) := by decide +kernel
theorem dX9_readNumber_46 : decode cX9_readNumber 46 = .ok (.getfield 28, 3) := by decide +kernel
theorem dX9_readNumber_49 : decode cX9_readNumber 49 = .ok (.invokevirtual 63, 3) := by decide +kernel
theorem dX9_readNumber_52 : decode cX9_readNumber 52 = .ok (.iload_n 2, 1) := by decide +kernel
theorem dX9_readNumber_53 : decode cX9_readNumber 53 = .ok (.ireturn, 1) := by decide +kernel
theorem dX9_readWord_0 : decode cX9_readWord 0 = .ok (.iconst (-1), 1) := by decide +kernel
theorem dX9_readWord_1 : decode cX9_readWord 1 = .ok (.istore 4, 2) := by decide +kernel
theorem dX9_readWord_3 : decode cX9_readWord 3 = .ok (.aload_n 0, 1) := by decide +kernel
theorem dX9_readWord_4 : decode cX9_readWord 4 = .ok (.getfield 28, 3) := by decide +kernel
theorem dX9_readWord_7 : decode cX9_readWord 7 = .ok (.aload_n 1, 1) := by decide +kernel
theorem dX9_readWord_8 : decode cX9_readWord 8 = .ok (.invokevirtual 55, 3) := by decide +kernel
theorem dX9_readWord_11 : decode cX9_readWord 11 = .ok (.ifCond .eq 9, 3) := by decide +kernel
theorem dX9_readWord_14 : decode cX9_readWord 14 = .ok (.iconst 0, 1) := by decide +kernel
theorem dX9_readWord_15 : decode cX9_readWord 15 = .ok (.istore 4, 2) := by decide +kernel
theorem dX9_readWord_17 : decode cX9_readWord 17 = .ok (.goto 34, 3) := by decide +kernel
theorem dX9_readWord_20 : decode cX9_readWord 20 = .ok (.aload_n 0, 1) := by decide +kernel
theorem dX9_readWord_21 : decode cX9_readWord 21 = .ok (.getfield 28, 3) := by decide +kernel
theorem dX9_readWord_24 : decode cX9_readWord 24 = .ok (.aload_n 2, 1) := by decide +kernel
theorem dX9_readWord_25 : decode cX9_readWord 25 = .ok (.invokevirtual 55, 3) := by decide +kernel
theorem dX9_readWord_28 : decode cX9_readWord 28 = .ok (.ifCond .eq 9, 3) := by decide +kernel
theorem dX9_readWord_31 : decode cX9_readWord 31 = .ok (.iconst 1, 1) := by decide +kernel
theorem dX9_readWord_32 : decode cX9_readWord 32 = .ok (.istore 4, 2) := by decide +kernel
theorem dX9_readWord_34 : decode cX9_readWord 34 = .ok (.goto 17, 3) := by decide +kernel
theorem dX9_readWord_37 : decode cX9_readWord 37 = .ok (.aload_n 0, 1) := by decide +kernel
theorem dX9_readWord_38 : decode cX9_readWord 38 = .ok (.getfield 28, 3) := by decide +kernel
theorem dX9_readWord_41 : decode cX9_readWord 41 = .ok (.aload_n 3, 1) := by decide +kernel
theorem dX9_readWord_42 : decode cX9_readWord 42 = .ok (.invokevirtual 55, 3) := by decide +kernel
theorem dX9_readWord_45 : decode cX9_readWord 45 = .ok (.ifCond .eq 6, 3) := by decide +kernel
theorem dX9_readWord_48 : decode cX9_readWord 48 = .ok (.iconst 2, 1) := by decide +kernel
theorem dX9_readWord_49 : decode cX9_readWord 49 = .ok (.istore 4, 2) := by decide +kernel
theorem dX9_readWord_51 : decode cX9_readWord 51 = .ok (.iload 4, 2) := by decide +kernel
theorem dX9_readWord_53 : decode cX9_readWord 53 = .ok (.iconst (-1), 1) := by decide +kernel
theorem dX9_readWord_54 : decode cX9_readWord 54 = .ok (.if_icmp .ne 12, 3) := by decide +kernel
theorem dX9_readWord_57 : decode cX9_readWord 57 = .ok (.aload_n 0, 1) := by decide +kernel
theorem dX9_readWord_58 : decode cX9_readWord 58 = .ok (.iconst 1, 1) := by decide +kernel
theorem dX9_readWord_59 : decode cX9_readWord 59 = .ok (.invokevirtual 59, 3) := by decide +kernel
theorem dX9_readWord_62 : decode cX9_readWord 62 = .ok (.pop, 1) := by decide +kernel
theorem dX9_readWord_63 : decode cX9_readWord 63 = .ok (.goto 10, 3) := by decide +kernel
theorem dX9_readWord_66 : decode cX9_readWord 66 = .ok (.aload_n 0, 1) := by decide +kernel
theorem dX9_readWord_67 : decode cX9_readWord 67 = .ok (.getfield 28, 3) := by decide +kernel
theorem dX9_readWord_70 : decode cX9_readWord 70 = .ok (.invokevirtual 63, 3) := by decide +kernel
theorem dX9_readWord_73 : decode cX9_readWord 73 = .ok (.iload 4, 2) := by decide +kernel
theorem dX9_readWord_75 : decode cX9_readWord 75 = .ok (.ireturn, 1) := by decide +kernel
theorem dX9_readSemicolon_0 : decode cX9_readSemicolon 0 = .ok (.aload_n 0, 1) := by decide +kernel
theorem dX9_readSemicolon_1 : decode cX9_readSemicolon 1 = .ok (.getfield 28, 3) := by decide +kernel
theorem dX9_readSemicolon_4 : decode cX9_readSemicolon 4 = .ok (.getfield 47, 3) := by decide +kernel
theorem dX9_readSemicolon_7 : decode cX9_readSemicolon 7 = .ok (.iconst 3, 1) := by decide +kernel
theorem dX9_readSemicolon_8 : decode cX9_readSemicolon 8 = .ok (.if_icmp .eq 9, 3) := by decide +kernel
theorem dX9_readSemicolon_11 : decode cX9_readSemicolon 11 = .ok (.aload_n 0, 1) := by decide +kernel
theorem dX9_readSemicolon_12 : decode cX9_readSemicolon 12 = .ok (.iconst 1, 1) := by decide +kernel
theorem dX9_readSemicolon_13 : decode cX9_readSemicolon 13 = .ok (.invokevirtual 59, 3) := by decide +kernel
theorem dX9_readSemicolon_16 : decode cX9_readSemicolon 16 = .ok (.ireturn, 1) := by decide +kernel
theorem dX9_readSemicolon_17 : decode cX9_readSemicolon 17 = .ok (.aload_n 0, 1) := by decide +kernel
theorem dX9_readSemicolon_18 : decode cX9_readSemicolon 18 = .ok (.getfield 28, 3) := by decide +kernel
theorem dX9_readSemicolon_21 : decode cX9_readSemicolon 21 = .ok (.invokevirtual 63, 3) := by decide +kernel
theorem dX9_readSemicolon_24 : decode cX9_readSemicolon 24 = .ok (.iconst 1, 1) := by decide +kernel
theorem dX9_readSemicolon_25 : decode cX9_readSemicolon 25 = .ok (.ireturn, 1) := by decide +kernel
theorem dX10_init_0 : decode cX10_init 0 = .ok (.aload_n 0, 1) := by decide +kernel
theorem dX10_init_1 : decode cX10_init 1 = .ok (.invokespecial 3, 3) := by decide +kernel
theorem dX10_init_4 : decode cX10_init 4 = .ok (.aload_n 0, 1) := by decide +kernel
theorem dX10_init_5 : decode cX10_init 5 = .ok (.sipush 400, 3) := by decide +kernel
theorem dX10_init_8 : decode cX10_init 8 = .ok (.newarray .int, 2) := by decide +kernel
theorem dX10_init_10 : decode cX10_init 10 = .ok (.putfield 9, 3) := by decide +kernel
theorem dX10_init_13 : decode cX10_init 13 = .ok (.return_, 1) := by decide +kernel
theorem dX10_putWord_0 : decode cX10_putWord 0 = .ok (.bipush 24, 2) := by decide +kernel
theorem dX10_putWord_2 : decode cX10_putWord 2 = .ok (.istore_n 2, 1) := by decide +kernel
theorem dX10_putWord_3 : decode cX10_putWord 3 = .ok (.iload_n 2, 1) := by decide +kernel
theorem dX10_putWord_4 : decode cX10_putWord 4 = .ok (.ifCond .lt 45, 3) := by decide +kernel
theorem dX10_putWord_7 : decode cX10_putWord 7 = .ok (.aload_n 0, 1) := by decide +kernel
theorem dX10_putWord_8 : decode cX10_putWord 8 = .ok (.getfield 15, 3) := by decide +kernel
theorem dX10_putWord_11 : decode cX10_putWord 11 = .ok (.sipush 400, 3) := by decide +kernel
theorem dX10_putWord_14 : decode cX10_putWord 14 = .ok (.if_icmp .ge 35, 3) := by decide +kernel
theorem dX10_putWord_17 : decode cX10_putWord 17 = .ok (.aload_n 0, 1) := by decide +kernel
theorem dX10_putWord_18 : decode cX10_putWord 18 = .ok (.getfield 9, 3) := by decide +kernel
theorem dX10_putWord_21 : decode cX10_putWord 21 = .ok (.aload_n 0, 1) := by decide +kernel
theorem dX10_putWord_22 : decode cX10_putWord 22 = .ok (.getfield 15, 3) := by decide +kernel
theorem dX10_putWord_25 : decode cX10_putWord 25 = .ok (.iload_n 1, 1) := by decide +kernel
theorem dX10_putWord_26 : decode cX10_putWord 26 = .ok (.iload_n 2, 1) := by decide +kernel
theorem dX10_putWord_27 : decode cX10_putWord 27 = .ok (.iushr, 1) := by decide +kernel
theorem dX10_putWord_28 : decode cX10_putWord 28 = .ok (.sipush 255, 3) := by decide +kernel
theorem dX10_putWord_31 : decode cX10_putWord 31 = .ok (.iand, 1) := by decide +kernel
theorem dX10_putWord_32 : decode cX10_putWord 32 = .ok (.iastore, 1) := by decide +kernel
theorem dX10_putWord_33 : decode cX10_putWord 33 = .ok (.aload_n 0, 1) := by decide +kernel
theorem dX10_putWord_34 : decode cX10_putWord 34 = .ok (.dup, 1) := by decide +kernel
theorem dX10_putWord_35 : decode cX10_putWord 35 = .ok (.getfield 15, 3) := by decide +kernel
theorem dX10_putWord_38 : decode cX10_putWord 38 = .ok (.iconst 1, 1) := by decide +kernel
theorem dX10_putWord_39 : decode cX10_putWord 39 = .ok (.iadd, 1) := by decide +kernel
theorem dX10_putWord_40 : decode cX10_putWord 40 = .ok (.putfield 15, 3) := by decide +kernel
theorem dX10_putWord_43 : decode cX10_putWord 43 = .ok (.iinc 2 (-8), 3) := by decide +kernel
theorem dX10_putWord_46 : decode cX10_putWord 46 = .ok (.goto (-43), 3) := by decide +kernel
theorem dX10_putWord_49 : decode cX10_putWord 49 = .ok (.return_, 1) := by decide +kernel
theorem dX10_firstToken_0 : decode cX10_firstToken 0 = .ok (.aload_n 0, 1) := by decide +kernel
theorem dX10_firstToken_1 : decode cX10_firstToken 1 = .ok (.iconst 0, 1) := by decide +kernel
theorem dX10_firstToken_2 : decode cX10_firstToken 2 = .ok (.putfield 19, 3) := by decide +kernel
theorem dX10_firstToken_5 : decode cX10_firstToken 5 = .ok (.aload_n 0, 1) := by decide +kernel
theorem dX10_firstToken_6 : decode cX10_firstToken 6 = .ok (.invokevirtual 22, 3) := by decide +kernel
theorem dX10_firstToken_9 : decode cX10_firstToken 9 = .ok (.return_, 1) := by decide +kernel
theorem dX10_nextToken_0 : decode cX10_nextToken 0 = .ok (.aload_n 0, 1) := by decide +kernel
theorem dX10_nextToken_1 : decode cX10_nextToken 1 = .ok (.aload_n 0, 1) := by decide +kernel
theorem dX10_nextToken_2 : decode cX10_nextToken 2 = .ok (.getfield 19, 3) := by decide +kernel
theorem dX10_nextToken_5 : decode cX10_nextToken 5 = .ok (.putfield 25, 3) := by decide +kernel
theorem dX10_nextToken_8 : decode cX10_nextToken 8 = .ok (.aload_n 0, 1) := by decide +kernel
theorem dX10_nextToken_9 : decode cX10_nextToken 9 = .ok (.getfield 25, 3) := by decide +kernel
theorem dX10_nextToken_12 : decode cX10_nextToken 12 = .ok (.aload_n 0, 1) := by decide +kernel
theorem dX10_nextToken_13 : decode cX10_nextToken 13 = .ok (.getfield 15, 3) := by decide +kernel
theorem dX10_nextToken_16 : decode cX10_nextToken 16 = .ok (.if_icmp .ge 44, 3) := by decide +kernel
theorem dX10_nextToken_19 : decode cX10_nextToken 19 = .ok (.aload_n 0, 1) := by decide +kernel
theorem dX10_nextToken_20 : decode cX10_nextToken 20 = .ok (.getfield 9, 3) := by decide +kernel
theorem dX10_nextToken_23 : decode cX10_nextToken 23 = .ok (.aload_n 0, 1) := by decide +kernel
theorem dX10_nextToken_24 : decode cX10_nextToken 24 = .ok (.getfield 25, 3) := by decide +kernel
theorem dX10_nextToken_27 : decode cX10_nextToken 27 = .ok (.iaload, 1) := by decide +kernel
theorem dX10_nextToken_28 : decode cX10_nextToken 28 = .ok (.bipush 32, 2) := by decide +kernel
theorem dX10_nextToken_30 : decode cX10_nextToken 30 = .ok (.if_icmp .eq 17, 3) := by decide +kernel
theorem dX10_nextToken_33 : decode cX10_nextToken 33 = .ok (.aload_n 0, 1) := by decide +kernel
theorem dX10_nextToken_34 : decode cX10_nextToken 34 = .ok (.getfield 9, 3) := by decide +kernel
theorem dX10_nextToken_37 : decode cX10_nextToken 37 = .ok (.aload_n 0, 1) := by decide +kernel
theorem dX10_nextToken_38 : decode cX10_nextToken 38 = .ok (.getfield 25, 3) := by decide +kernel
theorem dX10_nextToken_41 : decode cX10_nextToken 41 = .ok (.iaload, 1) := by decide +kernel
theorem dX10_nextToken_42 : decode cX10_nextToken 42 = .ok (.bipush 10, 2) := by decide +kernel
theorem dX10_nextToken_44 : decode cX10_nextToken 44 = .ok (.if_icmp .ne 16, 3) := by decide +kernel
theorem dX10_nextToken_47 : decode cX10_nextToken 47 = .ok (.aload_n 0, 1) := by decide +kernel
theorem dX10_nextToken_48 : decode cX10_nextToken 48 = .ok (.dup, 1) := by decide +kernel
theorem dX10_nextToken_49 : decode cX10_nextToken 49 = .ok (.getfield 25, 3) := by decide +kernel
theorem dX10_nextToken_52 : decode cX10_nextToken 52 = .ok (.iconst 1, 1) := by decide +kernel
theorem dX10_nextToken_53 : decode cX10_nextToken 53 = .ok (.iadd, 1) := by decide +kernel
theorem dX10_nextToken_54 : decode cX10_nextToken 54 = .ok (.putfield 25, 3) := by decide +kernel
theorem dX10_nextToken_57 : decode cX10_nextToken 57 = .ok (.goto (-49), 3) := by decide +kernel
theorem dX10_nextToken_60 : decode cX10_nextToken 60 = .ok (.aload_n 0, 1) := by decide +kernel
theorem dX10_nextToken_61 : decode cX10_nextToken 61 = .ok (.aload_n 0, 1) := by decide +kernel
theorem dX10_nextToken_62 : decode cX10_nextToken 62 = .ok (.getfield 25, 3) := by decide +kernel
theorem dX10_nextToken_65 : decode cX10_nextToken 65 = .ok (.putfield 19, 3) := by decide +kernel
theorem dX10_nextToken_68 : decode cX10_nextToken 68 = .ok (.aload_n 0, 1) := by decide +kernel
theorem dX10_nextToken_69 : decode cX10_nextToken 69 = .ok (.getfield 25, 3) := by decide +kernel
theorem dX10_nextToken_72 : decode cX10_nextToken 72 = .ok (.aload_n 0, 1) := by decide +kernel
theorem dX10_nextToken_73 : decode cX10_nextToken 73 = .ok (.getfield 15, 3) := by decide +kernel
theorem dX10_nextToken_76 : decode cX10_nextToken 76 = .ok (.if_icmp .lt 9, 3) := by decide +kernel
theorem dX10_nextToken_79 : decode cX10_nextToken 79 = .ok (.aload_n 0, 1) := by decide +kernel
theorem dX10_nextToken_80 : decode cX10_nextToken 80 = .ok (.iconst 0, 1) := by decide +kernel
theorem dX10_nextToken_81 : decode cX10_nextToken 81 = .ok (.putfield 28, 3) := by decide +kernel
theorem dX10_nextToken_84 : decode cX10_nextToken 84 = .ok (.return_, 1) := by decide +kernel
theorem dX10_nextToken_85 : decode cX10_nextToken 85 = .ok (.aload_n 0, 1) := by decide +kernel
theorem dX10_nextToken_86 : decode cX10_nextToken 86 = .ok (.aload_n 0, 1) := by decide +kernel
theorem dX10_nextToken_87 : decode cX10_nextToken 87 = .ok (.getfield 9, 3) := by decide +kernel
theorem dX10_nextToken_90 : decode cX10_nextToken 90 = .ok (.aload_n 0, 1) := by decide +kernel
theorem dX10_nextToken_91 : decode cX10_nextToken 91 = .ok (.getfield 25, 3) := by decide +kernel
theorem dX10_nextToken_94 : decode cX10_nextToken 94 = .ok (.iaload, 1) := by decide +kernel
theorem dX10_nextToken_95 : decode cX10_nextToken 95 = .ok (.invokestatic 31, 3) := by decide +kernel
theorem dX10_nextToken_98 : decode cX10_nextToken 98 = .ok (.putfield 28, 3) := by decide +kernel
theorem dX10_nextToken_101 : decode cX10_nextToken 101 = .ok (.aload_n 0, 1) := by decide +kernel
theorem dX10_nextToken_102 : decode cX10_nextToken 102 = .ok (.dup, 1) := by decide +kernel
theorem dX10_nextToken_103 : decode cX10_nextToken 103 = .ok (.getfield 19, 3) := by decide +kernel
theorem dX10_nextToken_106 : decode cX10_nextToken 106 = .ok (.iconst 1, 1) := by decide +kernel
theorem dX10_nextToken_107 : decode cX10_nextToken 107 = .ok (.iadd, 1) := by decide +kernel
theorem dX10_nextToken_108 : decode cX10_nextToken 108 = .ok (.putfield 19, 3) := by decide +kernel
theorem dX10_nextToken_111 : decode cX10_nextToken 111 = .ok (.aload_n 0, 1) := by decide +kernel
theorem dX10_nextToken_112 : decode cX10_nextToken 112 = .ok (.getfield 28, 3) := by decide +kernel
theorem dX10_nextToken_115 : decode cX10_nextToken 115 = .ok (.iconst 1, 1) := by decide +kernel
theorem dX10_nextToken_116 : decode cX10_nextToken 116 = .ok (.if_icmp .eq 11, 3) := by decide +kernel
theorem dX10_nextToken_119 : decode cX10_nextToken 119 = .ok (.aload_n 0, 1) := by decide +kernel
theorem dX10_nextToken_120 : decode cX10_nextToken 120 = .ok (.getfield 28, 3) := by decide +kernel
theorem dX10_nextToken_123 : decode cX10_nextToken 123 = .ok (.iconst 2, 1) := by decide +kernel
theorem dX10_nextToken_124 : decode cX10_nextToken 124 = .ok (.if_icmp .ne 7, 3) := by decide +kernel
theorem dX10_nextToken_127 : decode cX10_nextToken 127 = .ok (.iconst 1, 1) := by decide +kernel
theorem dX10_nextToken_128 : decode cX10_nextToken 128 = .ok (.goto 4, 3) := by decide +kernel
theorem dX10_nextToken_131 : decode cX10_nextToken 131 = .ok (.iconst 0, 1) := by decide +kernel
theorem dX10_nextToken_132 : decode cX10_nextToken 132 = .ok (.istore_n 1, 1) := by decide +kernel
theorem dX10_nextToken_133 : decode cX10_nextToken 133 = .ok (.iload_n 1, 1) := by decide +kernel
theorem dX10_nextToken_134 : decode cX10_nextToken 134 = .ok (.ifCond .eq 46, 3) := by decide +kernel
theorem dX10_nextToken_137 : decode cX10_nextToken 137 = .ok (.aload_n 0, 1) := by decide +kernel
theorem dX10_nextToken_138 : decode cX10_nextToken 138 = .ok (.getfield 19, 3) := by decide +kernel
theorem dX10_nextToken_141 : decode cX10_nextToken 141 = .ok (.aload_n 0, 1) := by decide +kernel
theorem dX10_nextToken_142 : decode cX10_nextToken 142 = .ok (.getfield 15, 3) := by decide +kernel
theorem dX10_nextToken_145 : decode cX10_nextToken 145 = .ok (.if_icmp .ge 35, 3) := by decide +kernel
theorem dX10_nextToken_148 : decode cX10_nextToken 148 = .ok (.aload_n 0, 1) := by decide +kernel
theorem dX10_nextToken_149 : decode cX10_nextToken 149 = .ok (.getfield 9, 3) := by decide +kernel
theorem dX10_nextToken_152 : decode cX10_nextToken 152 = .ok (.aload_n 0, 1) := by decide +kernel
theorem dX10_nextToken_153 : decode cX10_nextToken 153 = .ok (.getfield 19, 3) := by decide +kernel
theorem dX10_nextToken_156 : decode cX10_nextToken 156 = .ok (.iaload, 1) := by decide +kernel
theorem dX10_nextToken_157 : decode cX10_nextToken 157 = .ok (.invokestatic 31, 3) := by decide +kernel
theorem dX10_nextToken_160 : decode cX10_nextToken 160 = .ok (.aload_n 0, 1) := by decide +kernel
theorem dX10_nextToken_161 : decode cX10_nextToken 161 = .ok (.getfield 28, 3) := by decide +kernel
theorem dX10_nextToken_164 : decode cX10_nextToken 164 = .ok (.if_icmp .ne 16, 3) := by decide +kernel
theorem dX10_nextToken_167 : decode cX10_nextToken 167 = .ok (.aload_n 0, 1) := by decide +kernel
theorem dX10_nextToken_168 : decode cX10_nextToken 168 = .ok (.dup, 1) := by decide +kernel
theorem dX10_nextToken_169 : decode cX10_nextToken 169 = .ok (.getfield 19, 3) := by decide +kernel
theorem dX10_nextToken_172 : decode cX10_nextToken 172 = .ok (.iconst 1, 1) := by decide +kernel
theorem dX10_nextToken_173 : decode cX10_nextToken 173 = .ok (.iadd, 1) := by decide +kernel
theorem dX10_nextToken_174 : decode cX10_nextToken 174 = .ok (.putfield 19, 3) := by decide +kernel
theorem dX10_nextToken_177 : decode cX10_nextToken 177 = .ok (.goto (-44), 3) := by decide +kernel
theorem dX10_nextToken_180 : decode cX10_nextToken 180 = .ok (.return_, 1) := by decide +kernel
theorem dX10_tokenKind_0 : decode cX10_tokenKind 0 = .ok (.iload_n 0, 1) := by decide +kernel
theorem dX10_tokenKind_1 : decode cX10_tokenKind 1 = .ok (.bipush 97, 2) := by decide +kernel
theorem dX10_tokenKind_3 : decode cX10_tokenKind 3 = .ok (.if_icmp .lt 11, 3) := by decide +kernel
theorem dX10_tokenKind_6 : decode cX10_tokenKind 6 = .ok (.iload_n 0, 1) := by decide +kernel
theorem dX10_tokenKind_7 : decode cX10_tokenKind 7 = .ok (.bipush 122, 2) := by decide +kernel
theorem dX10_tokenKind_9 : decode cX10_tokenKind 9 = .ok (.if_icmp .gt 5, 3) := by decide +kernel
theorem dX10_tokenKind_12 : decode cX10_tokenKind 12 = .ok (.iconst 1, 1) := by decide +kernel
theorem dX10_tokenKind_13 : decode cX10_tokenKind 13 = .ok (.ireturn, 1) := by decide +kernel
theorem dX10_tokenKind_14 : decode cX10_tokenKind 14 = .ok (.iload_n 0, 1) := by decide +kernel
theorem dX10_tokenKind_15 : decode cX10_tokenKind 15 = .ok (.bipush 48, 2) := by decide +kernel
theorem dX10_tokenKind_17 : decode cX10_tokenKind 17 = .ok (.if_icmp .lt 11, 3) := by decide +kernel
theorem dX10_tokenKind_20 : decode cX10_tokenKind 20 = .ok (.iload_n 0, 1) := by decide +kernel
theorem dX10_tokenKind_21 : decode cX10_tokenKind 21 = .ok (.bipush 57, 2) := by decide +kernel
theorem dX10_tokenKind_23 : decode cX10_tokenKind 23 = .ok (.if_icmp .gt 5, 3) := by decide +kernel
theorem dX10_tokenKind_26 : decode cX10_tokenKind 26 = .ok (.iconst 2, 1) := by decide +kernel
theorem dX10_tokenKind_27 : decode cX10_tokenKind 27 = .ok (.ireturn, 1) := by decide +kernel
theorem dX10_tokenKind_28 : decode cX10_tokenKind 28 = .ok (.iload_n 0, 1) := by decide +kernel
theorem dX10_tokenKind_29 : decode cX10_tokenKind 29 = .ok (.bipush 59, 2) := by decide +kernel
theorem dX10_tokenKind_31 : decode cX10_tokenKind 31 = .ok (.if_icmp .ne 7, 3) := by decide +kernel
theorem dX10_tokenKind_34 : decode cX10_tokenKind 34 = .ok (.iconst 3, 1) := by decide +kernel
theorem dX10_tokenKind_35 : decode cX10_tokenKind 35 = .ok (.goto 4, 3) := by decide +kernel
theorem dX10_tokenKind_38 : decode cX10_tokenKind 38 = .ok (.iconst 4, 1) := by decide +kernel
theorem dX10_tokenKind_39 : decode cX10_tokenKind 39 = .ok (.ireturn, 1) := by decide +kernel
theorem dX10_isWord_0 : decode cX10_isWord 0 = .ok (.aload_n 0, 1) := by decide +kernel
theorem dX10_isWord_1 : decode cX10_isWord 1 = .ok (.getfield 28, 3) := by decide +kernel
theorem dX10_isWord_4 : decode cX10_isWord 4 = .ok (.iconst 1, 1) := by decide +kernel
theorem dX10_isWord_5 : decode cX10_isWord 5 = .ok (.if_icmp .ne 19, 3) := by decide +kernel
theorem dX10_isWord_8 : decode cX10_isWord 8 = .ok (.aload_n 0, 1) := by decide +kernel
theorem dX10_isWord_9 : decode cX10_isWord 9 = .ok (.getfield 19, 3) := by decide +kernel
theorem dX10_isWord_12 : decode cX10_isWord 12 = .ok (.aload_n 0, 1) := by decide +kernel
theorem dX10_isWord_13 : decode cX10_isWord 13 = .ok (.getfield 25, 3) := by decide +kernel
theorem dX10_isWord_16 : decode cX10_isWord 16 = .ok (.isub, 1) := by decide +kernel
theorem dX10_isWord_17 : decode cX10_isWord 17 = .ok (.aload_n 1, 1) := by decide +kernel
theorem dX10_isWord_18 : decode cX10_isWord 18 = .ok (.invokevirtual 35, 3) := by decide +kernel
theorem dX10_isWord_21 : decode cX10_isWord 21 = .ok (.if_icmp .eq 5, 3) := by decide +kernel
theorem dX10_isWord_24 : decode cX10_isWord 24 = .ok (.iconst 0, 1) := by decide +kernel
theorem dX10_isWord_25 : decode cX10_isWord 25 = .ok (.ireturn, 1) := by decide +kernel
theorem dX10_isWord_26 : decode cX10_isWord 26 = .ok (.iconst 0, 1) := by decide +kernel
theorem dX10_isWord_27 : decode cX10_isWord 27 = .ok (.istore_n 2, 1) := by decide +kernel
theorem dX10_isWord_28 : decode cX10_isWord 28 = .ok (.iload_n 2, 1) := by decide +kernel
theorem dX10_isWord_29 : decode cX10_isWord 29 = .ok (.aload_n 1, 1) := by decide +kernel
theorem dX10_isWord_30 : decode cX10_isWord 30 = .ok (.invokevirtual 35, 3) := by decide +kernel
theorem dX10_isWord_33 : decode cX10_isWord 33 = .ok (.if_icmp .ge 30, 3) := by decide +kernel
theorem dX10_isWord_36 : decode cX10_isWord 36 = .ok (.aload_n 0, 1) := by decide +kernel
theorem dX10_isWord_37 : decode cX10_isWord 37 = .ok (.getfield 9, 3) := by decide +kernel
theorem dX10_isWord_40 : decode cX10_isWord 40 = .ok (.aload_n 0, 1) := by decide +kernel
theorem dX10_isWord_41 : decode cX10_isWord 41 = .ok (.getfield 25, 3) := by decide +kernel
theorem dX10_isWord_44 : decode cX10_isWord 44 = .ok (.iload_n 2, 1) := by decide +kernel
theorem dX10_isWord_45 : decode cX10_isWord 45 = .ok (.iadd, 1) := by decide +kernel
theorem dX10_isWord_46 : decode cX10_isWord 46 = .ok (.iaload, 1) := by decide +kernel
theorem dX10_isWord_47 : decode cX10_isWord 47 = .ok (.aload_n 1, 1) := by decide +kernel
theorem dX10_isWord_48 : decode cX10_isWord 48 = .ok (.iload_n 2, 1) := by decide +kernel
theorem dX10_isWord_49 : decode cX10_isWord 49 = .ok (.invokevirtual 40, 3) := by decide +kernel
theorem dX10_isWord_52 : decode cX10_isWord 52 = .ok (.if_icmp .eq 5, 3) := by decide +kernel
theorem dX10_isWord_55 : decode cX10_isWord 55 = .ok (.iconst 0, 1) := by decide +kernel
theorem dX10_isWord_56 : decode cX10_isWord 56 = .ok (.ireturn, 1) := by decide +kernel
theorem dX10_isWord_57 : decode cX10_isWord 57 = .ok (.iinc 2 1, 3) := by decide +kernel
theorem dX10_isWord_60 : decode cX10_isWord 60 = .ok (.goto (-32), 3) := by decide +kernel
theorem dX10_isWord_63 : decode cX10_isWord 63 = .ok (.iconst 1, 1) := by decide +kernel
theorem dX10_isWord_64 : decode cX10_isWord 64 = .ok (.ireturn, 1) := by decide +kernel
theorem dX10_number_0 : decode cX10_number 0 = .ok (.aload_n 0, 1) := by decide +kernel
theorem dX10_number_1 : decode cX10_number 1 = .ok (.getfield 19, 3) := by decide +kernel
theorem dX10_number_4 : decode cX10_number 4 = .ok (.aload_n 0, 1) := by decide +kernel
theorem dX10_number_5 : decode cX10_number 5 = .ok (.getfield 25, 3) := by decide +kernel
theorem dX10_number_8 : decode cX10_number 8 = .ok (.isub, 1) := by decide +kernel
theorem dX10_number_9 : decode cX10_number 9 = .ok (.bipush 9, 2) := by decide +kernel
theorem dX10_number_11 : decode cX10_number 11 = .ok (.if_icmp .le 5, 3) := by decide +kernel
theorem dX10_number_14 : decode cX10_number 14 = .ok (.iconst (-1), 1) := by decide +kernel
theorem dX10_number_15 : decode cX10_number 15 = .ok (.ireturn, 1) := by decide +kernel
theorem dX10_number_16 : decode cX10_number 16 = .ok (.iconst 0, 1) := by decide +kernel
theorem dX10_number_17 : decode cX10_number 17 = .ok (.istore_n 1, 1) := by decide +kernel
theorem dX10_number_18 : decode cX10_number 18 = .ok (.aload_n 0, 1) := by decide +kernel
theorem dX10_number_19 : decode cX10_number 19 = .ok (.getfield 25, 3) := by decide +kernel
theorem dX10_number_22 : decode cX10_number 22 = .ok (.istore_n 2, 1) := by decide +kernel
theorem dX10_number_23 : decode cX10_number 23 = .ok (.iload_n 2, 1) := by decide +kernel
theorem dX10_number_24 : decode cX10_number 24 = .ok (.aload_n 0, 1) := by decide +kernel
theorem dX10_number_25 : decode cX10_number 25 = .ok (.getfield 19, 3) := by decide +kernel
theorem dX10_number_28 : decode cX10_number 28 = .ok (.if_icmp .ge 24, 3) := by decide +kernel
theorem dX10_number_31 : decode cX10_number 31 = .ok (.bipush 10, 2) := by decide +kernel
theorem dX10_number_33 : decode cX10_number 33 = .ok (.iload_n 1, 1) := by decide +kernel
theorem dX10_number_34 : decode cX10_number 34 = .ok (.imul, 1) := by decide +kernel
theorem dX10_number_35 : decode cX10_number 35 = .ok (.aload_n 0, 1) := by decide +kernel
theorem dX10_number_36 : decode cX10_number 36 = .ok (.getfield 9, 3) := by decide +kernel
theorem dX10_number_39 : decode cX10_number 39 = .ok (.iload_n 2, 1) := by decide +kernel
theorem dX10_number_40 : decode cX10_number 40 = .ok (.iaload, 1) := by decide +kernel
theorem dX10_number_41 : decode cX10_number 41 = .ok (.iadd, 1) := by decide +kernel
theorem dX10_number_42 : decode cX10_number 42 = .ok (.bipush 48, 2) := by decide +kernel
theorem dX10_number_44 : decode cX10_number 44 = .ok (.isub, 1) := by decide +kernel
theorem dX10_number_45 : decode cX10_number 45 = .ok (.istore_n 1, 1) := by decide +kernel
theorem dX10_number_46 : decode cX10_number 46 = .ok (.iinc 2 1, 3) := by decide +kernel
theorem dX10_number_49 : decode cX10_number 49 = .ok (.goto (-26), 3) := by decide +kernel
theorem dX10_number_52 : decode cX10_number 52 = .ok (.iload_n 1, 1) := by decide +kernel
theorem dX10_number_53 : decode cX10_number 53 = .ok (.ireturn, 1) := by decide +kernel
theorem dX11_init_0 : decode cX11_init 0 = .ok (.aload_n 0, 1) := by decide +kernel
theorem dX11_init_1 : decode cX11_init 1 = .ok (.invokespecial 1, 3) := by decide +kernel
theorem dX11_init_4 : decode cX11_init 4 = .ok (.aload_n 0, 1) := by decide +kernel
theorem dX11_init_5 : decode cX11_init 5 = .ok (.new 7, 3) := by decide +kernel
theorem dX11_init_8 : decode cX11_init 8 = .ok (.dup, 1) := by decide +kernel
theorem dX11_init_9 : decode cX11_init 9 = .ok (.invokespecial 9, 3) := by decide +kernel
theorem dX11_init_12 : decode cX11_init 12 = .ok (.putfield 10, 3) := by decide +kernel
theorem dX11_init_15 : decode cX11_init 15 = .ok (.aload_n 0, 1) := by decide +kernel
theorem dX11_init_16 : decode cX11_init 16 = .ok (.new 16, 3) := by decide +kernel
theorem dX11_init_19 : decode cX11_init 19 = .ok (.dup, 1) := by decide +kernel
theorem dX11_init_20 : decode cX11_init 20 = .ok (.aload_n 0, 1) := by decide +kernel
theorem dX11_init_21 : decode cX11_init 21 = .ok (.getfield 10, 3) := by decide +kernel
theorem dX11_init_24 : decode cX11_init 24 = .ok (.invokespecial 18, 3) := by decide +kernel
theorem dX11_init_27 : decode cX11_init 27 = .ok (.putfield 21, 3) := by decide +kernel
theorem dX11_init_30 : decode cX11_init 30 = .ok (.aload_n 0, 1) := by decide +kernel
theorem dX11_init_31 : decode cX11_init 31 = .ok (.new 25, 3) := by decide +kernel
theorem dX11_init_34 : decode cX11_init 34 = .ok (.dup, 1) := by decide +kernel
theorem dX11_init_35 : decode cX11_init 35 = .ok (.aload_n 0, 1) := by decide +kernel
theorem dX11_init_36 : decode cX11_init 36 = .ok (.getfield 10, 3) := by decide +kernel
theorem dX11_init_39 : decode cX11_init 39 = .ok (.invokespecial 27, 3) := by decide +kernel
theorem dX11_init_42 : decode cX11_init 42 = .ok (.putfield 28, 3) := by decide +kernel
theorem dX11_init_45 : decode cX11_init 45 = .ok (.aload_n 0, 1) := by decide +kernel
theorem dX11_init_46 : decode cX11_init 46 = .ok (.new 32, 3) := by decide +kernel
theorem dX11_init_49 : decode cX11_init 49 = .ok (.dup, 1) := by decide +kernel
theorem dX11_init_50 : decode cX11_init 50 = .ok (.invokespecial 34, 3) := by decide +kernel
theorem dX11_init_53 : decode cX11_init 53 = .ok (.putfield 35, 3) := by decide +kernel
theorem dX11_init_56 : decode cX11_init 56 = .ok (.aload_n 0, 1) := by decide +kernel
theorem dX11_init_57 : decode cX11_init 57 = .ok (.getfield 35, 3) := by decide +kernel
theorem dX11_init_60 : decode cX11_init 60 = .ok (.aload_n 0, 1) := by decide +kernel
theorem dX11_init_61 : decode cX11_init 61 = .ok (.getfield 21, 3) := by decide +kernel
theorem dX11_init_64 : decode cX11_init 64 = .ok (.invokevirtual 39, 3) := by decide +kernel
theorem dX11_init_67 : decode cX11_init 67 = .ok (.aload_n 0, 1) := by decide +kernel
theorem dX11_init_68 : decode cX11_init 68 = .ok (.new 43, 3) := by decide +kernel
theorem dX11_init_71 : decode cX11_init 71 = .ok (.dup, 1) := by decide +kernel
theorem dX11_init_72 : decode cX11_init 72 = .ok (.invokespecial 45, 3) := by decide +kernel
theorem dX11_init_75 : decode cX11_init 75 = .ok (.putfield 46, 3) := by decide +kernel
theorem dX11_init_78 : decode cX11_init 78 = .ok (.aload_n 0, 1) := by decide +kernel
theorem dX11_init_79 : decode cX11_init 79 = .ok (.new 50, 3) := by decide +kernel
theorem dX11_init_82 : decode cX11_init 82 = .ok (.dup, 1) := by decide +kernel
theorem dX11_init_83 : decode cX11_init 83 = .ok (.invokespecial 52, 3) := by decide +kernel
theorem dX11_init_86 : decode cX11_init 86 = .ok (.putfield 53, 3) := by decide +kernel
theorem dX11_init_89 : decode cX11_init 89 = .ok (.aload_n 0, 1) := by decide +kernel
theorem dX11_init_90 : decode cX11_init 90 = .ok (.new 57, 3) := by decide +kernel
theorem dX11_init_93 : decode cX11_init 93 = .ok (.dup, 1) := by decide +kernel
theorem dX11_init_94 : decode cX11_init 94 = .ok (.invokespecial 59, 3) := by decide +kernel
theorem dX11_init_97 : decode cX11_init 97 = .ok (.putfield 60, 3) := by decide +kernel
theorem dX11_init_100 : decode cX11_init 100 = .ok (.return_, 1) := by decide +kernel
theorem dX11_appendText_0 : decode cX11_appendText 0 = .ok (.aload_n 0, 1) := by decide +kernel
theorem dX11_appendText_1 : decode cX11_appendText 1 = .ok (.getfield 10, 3) := by decide +kernel
theorem dX11_appendText_4 : decode cX11_appendText 4 = .ok (.getfield 64, 3) := by decide +kernel
theorem dX11_appendText_7 : decode cX11_appendText 7 = .ok (.bipush 20, 2) := by decide +kernel
theorem dX11_appendText_9 : decode cX11_appendText 9 = .ok (.iadd, 1) := by decide +kernel
theorem dX11_appendText_10 : decode cX11_appendText 10 = .ok (.sipush 400, 3) := by decide +kernel
theorem dX11_appendText_13 : decode cX11_appendText 13 = .ok (.if_icmp .le 13, 3) := by decide +kernel
theorem dX11_appendText_16 : decode cX11_appendText 16 = .ok (.new 68, 3) := by decide +kernel
theorem dX11_appendText_19 : decode cX11_appendText 19 = .ok (.dup, 1) := by decide +kernel
theorem dX11_appendText_20 : decode cX11_appendText 20 = .ok (.ldc 70, 2) := by decide +kernel
theorem dX11_appendText_22 : decode cX11_appendText 22 = .ok (.invokespecial 72, 3) := by decide +kernel
theorem dX11_appendText_25 : decode cX11_appendText 25 = .ok (.athrow, 1) := by decide +kernel
theorem dX11_appendText_26 : decode cX11_appendText 26 = .ok (.aload_n 0, 1) := by decide +kernel
theorem dX11_appendText_27 : decode cX11_appendText 27 = .ok (.getfield 10, 3) := by decide +kernel
theorem dX11_appendText_30 : decode cX11_appendText 30 = .ok (.iload_n 1, 1) := by decide +kernel
theorem dX11_appendText_31 : decode cX11_appendText 31 = .ok (.invokevirtual 75, 3) := by decide +kernel
theorem dX11_appendText_34 : decode cX11_appendText 34 = .ok (.aload_n 0, 1) := by decide +kernel
theorem dX11_appendText_35 : decode cX11_appendText 35 = .ok (.getfield 10, 3) := by decide +kernel
theorem dX11_appendText_38 : decode cX11_appendText 38 = .ok (.iload_n 2, 1) := by decide +kernel
theorem dX11_appendText_39 : decode cX11_appendText 39 = .ok (.invokevirtual 75, 3) := by decide +kernel
theorem dX11_appendText_42 : decode cX11_appendText 42 = .ok (.aload_n 0, 1) := by decide +kernel
theorem dX11_appendText_43 : decode cX11_appendText 43 = .ok (.getfield 10, 3) := by decide +kernel
theorem dX11_appendText_46 : decode cX11_appendText 46 = .ok (.iload_n 3, 1) := by decide +kernel
theorem dX11_appendText_47 : decode cX11_appendText 47 = .ok (.invokevirtual 75, 3) := by decide +kernel
theorem dX11_appendText_50 : decode cX11_appendText 50 = .ok (.aload_n 0, 1) := by decide +kernel
theorem dX11_appendText_51 : decode cX11_appendText 51 = .ok (.getfield 10, 3) := by decide +kernel
theorem dX11_appendText_54 : decode cX11_appendText 54 = .ok (.iload 4, 2) := by decide +kernel
theorem dX11_appendText_56 : decode cX11_appendText 56 = .ok (.invokevirtual 75, 3) := by decide +kernel
theorem dX11_appendText_59 : decode cX11_appendText 59 = .ok (.aload_n 0, 1) := by decide +kernel
theorem dX11_appendText_60 : decode cX11_appendText 60 = .ok (.getfield 10, 3) := by decide +kernel
theorem dX11_appendText_63 : decode cX11_appendText 63 = .ok (.iload 5, 2) := by decide +kernel
theorem dX11_appendText_65 : decode cX11_appendText 65 = .ok (.invokevirtual 75, 3) := by decide +kernel
theorem dX11_appendText_68 : decode cX11_appendText 68 = .ok (.aload_n 0, 1) := by decide +kernel
theorem dX11_appendText_69 : decode cX11_appendText 69 = .ok (.getfield 10, 3) := by decide +kernel
theorem dX11_appendText_72 : decode cX11_appendText 72 = .ok (.getfield 64, 3) := by decide +kernel
theorem dX11_appendText_75 : decode cX11_appendText 75 = .ok (.ireturn, 1) := by decide +kernel
theorem dX11_truncateText_0 : decode cX11_truncateText 0 = .ok (.iload_n 1, 1) := by decide +kernel
theorem dX11_truncateText_1 : decode cX11_truncateText 1 = .ok (.ifCond .lt 18, 3) := by decide +kernel
theorem dX11_truncateText_4 : decode cX11_truncateText 4 = .ok (.iload_n 1, 1) := by decide +kernel
theorem dX11_truncateText_5 : decode cX11_truncateText 5 = .ok (.aload_n 0, 1) := by decide +kernel
theorem dX11_truncateText_6 : decode cX11_truncateText 6 = .ok (.getfield 10, 3) := by decide +kernel
theorem dX11_truncateText_9 : decode cX11_truncateText 9 = .ok (.getfield 64, 3) := by decide +kernel
theorem dX11_truncateText_12 : decode cX11_truncateText 12 = .ok (.if_icmp .gt 7, 3) := by decide +kernel
theorem dX11_truncateText_15 : decode cX11_truncateText 15 = .ok (.iconst 1, 1) := by decide +kernel
theorem dX11_truncateText_16 : decode cX11_truncateText 16 = .ok (.goto 4, 3) := by decide +kernel
theorem dX11_truncateText_19 : decode cX11_truncateText 19 = .ok (.iconst 0, 1) := by decide +kernel
theorem dX11_truncateText_20 : decode cX11_truncateText 20 = .ok (.invokestatic 79, 3) := by decide +kernel
theorem dX11_truncateText_23 : decode cX11_truncateText 23 = .ok (.aload_n 0, 1) := by decide +kernel
theorem dX11_truncateText_24 : decode cX11_truncateText 24 = .ok (.getfield 10, 3) := by decide +kernel
theorem dX11_truncateText_27 : decode cX11_truncateText 27 = .ok (.iload_n 1, 1) := by decide +kernel
theorem dX11_truncateText_28 : decode cX11_truncateText 28 = .ok (.putfield 64, 3) := by decide +kernel
theorem dX11_truncateText_31 : decode cX11_truncateText 31 = .ok (.iload_n 1, 1) := by decide +kernel
theorem dX11_truncateText_32 : decode cX11_truncateText 32 = .ok (.ireturn, 1) := by decide +kernel
theorem dX11_parseSystem_0 : decode cX11_parseSystem 0 = .ok (.aload_n 0, 1) := by decide +kernel
theorem dX11_parseSystem_1 : decode cX11_parseSystem 1 = .ok (.getfield 21, 3) := by decide +kernel
theorem dX11_parseSystem_4 : decode cX11_parseSystem 4 = .ok (.invokevirtual 83, 3) := by decide +kernel
theorem dX11_parseSystem_7 : decode cX11_parseSystem 7 = .ok (.istore_n 1, 1) := by decide +kernel
theorem dX11_parseSystem_8 : decode cX11_parseSystem 8 = .ok (.aload_n 0, 1) := by decide +kernel
theorem dX11_parseSystem_9 : decode cX11_parseSystem 9 = .ok (.getfield 10, 3) := by decide +kernel
theorem dX11_parseSystem_12 : decode cX11_parseSystem 12 = .ok (.iconst 0, 1) := by decide +kernel
theorem dX11_parseSystem_13 : decode cX11_parseSystem 13 = .ok (.putfield 64, 3) := by decide +kernel
theorem dX11_parseSystem_16 : decode cX11_parseSystem 16 = .ok (.iload_n 1, 1) := by decide +kernel
theorem dX11_parseSystem_17 : decode cX11_parseSystem 17 = .ok (.ifCond .ne 5, 3) := by decide +kernel
theorem dX11_parseSystem_20 : decode cX11_parseSystem 20 = .ok (.iconst (-1), 1) := by decide +kernel
theorem dX11_parseSystem_21 : decode cX11_parseSystem 21 = .ok (.ireturn, 1) := by decide +kernel
theorem dX11_parseSystem_22 : decode cX11_parseSystem 22 = .ok (.aload_n 0, 1) := by decide +kernel
theorem dX11_parseSystem_23 : decode cX11_parseSystem 23 = .ok (.getfield 35, 3) := by decide +kernel
theorem dX11_parseSystem_26 : decode cX11_parseSystem 26 = .ok (.aload_n 0, 1) := by decide +kernel
theorem dX11_parseSystem_27 : decode cX11_parseSystem 27 = .ok (.getfield 21, 3) := by decide +kernel
theorem dX11_parseSystem_30 : decode cX11_parseSystem 30 = .ok (.invokevirtual 39, 3) := by decide +kernel
theorem dX11_parseSystem_33 : decode cX11_parseSystem 33 = .ok (.aload_n 0, 1) := by decide +kernel
theorem dX11_parseSystem_34 : decode cX11_parseSystem 34 = .ok (.getfield 46, 3) := by decide +kernel
theorem dX11_parseSystem_37 : decode cX11_parseSystem 37 = .ok (.invokevirtual 87, 3) := by decide +kernel
theorem dX11_parseSystem_40 : decode cX11_parseSystem 40 = .ok (.aload_n 0, 1) := by decide +kernel
theorem dX11_parseSystem_41 : decode cX11_parseSystem 41 = .ok (.getfield 35, 3) := by decide +kernel
theorem dX11_parseSystem_44 : decode cX11_parseSystem 44 = .ok (.getfield 90, 3) := by decide +kernel
theorem dX11_parseSystem_47 : decode cX11_parseSystem 47 = .ok (.getfield 94, 3) := by decide +kernel
theorem dX11_parseSystem_50 : decode cX11_parseSystem 50 = .ok (.ireturn, 1) := by decide +kernel
theorem dX11_errorCode_0 : decode cX11_errorCode 0 = .ok (.aload_n 0, 1) := by decide +kernel
theorem dX11_errorCode_1 : decode cX11_errorCode 1 = .ok (.getfield 21, 3) := by decide +kernel
theorem dX11_errorCode_4 : decode cX11_errorCode 4 = .ok (.getfield 99, 3) := by decide +kernel
theorem dX11_errorCode_7 : decode cX11_errorCode 7 = .ok (.ireturn, 1) := by decide +kernel
theorem dX11_errorPosition_0 : decode cX11_errorPosition 0 = .ok (.aload_n 0, 1) := by decide +kernel
theorem dX11_errorPosition_1 : decode cX11_errorPosition 1 = .ok (.getfield 21, 3) := by decide +kernel
theorem dX11_errorPosition_4 : decode cX11_errorPosition 4 = .ok (.getfield 102, 3) := by decide +kernel
theorem dX11_errorPosition_7 : decode cX11_errorPosition 7 = .ok (.ireturn, 1) := by decide +kernel
theorem dX11_processCount_0 : decode cX11_processCount 0 = .ok (.aload_n 0, 1) := by decide +kernel
theorem dX11_processCount_1 : decode cX11_processCount 1 = .ok (.getfield 35, 3) := by decide +kernel
theorem dX11_processCount_4 : decode cX11_processCount 4 = .ok (.getfield 90, 3) := by decide +kernel
theorem dX11_processCount_7 : decode cX11_processCount 7 = .ok (.getfield 94, 3) := by decide +kernel
theorem dX11_processCount_10 : decode cX11_processCount 10 = .ok (.ireturn, 1) := by decide +kernel
theorem dX11_frameCount_0 : decode cX11_frameCount 0 = .ok (.aload_n 0, 1) := by decide +kernel
theorem dX11_frameCount_1 : decode cX11_frameCount 1 = .ok (.getfield 35, 3) := by decide +kernel
theorem dX11_frameCount_4 : decode cX11_frameCount 4 = .ok (.getfield 105, 3) := by decide +kernel
theorem dX11_frameCount_7 : decode cX11_frameCount 7 = .ok (.getfield 109, 3) := by decide +kernel
theorem dX11_frameCount_10 : decode cX11_frameCount 10 = .ok (.ireturn, 1) := by decide +kernel
theorem dX11_slotCount_0 : decode cX11_slotCount 0 = .ok (.aload_n 0, 1) := by decide +kernel
theorem dX11_slotCount_1 : decode cX11_slotCount 1 = .ok (.getfield 35, 3) := by decide +kernel
theorem dX11_slotCount_4 : decode cX11_slotCount 4 = .ok (.getfield 114, 3) := by decide +kernel
theorem dX11_slotCount_7 : decode cX11_slotCount 7 = .ok (.getfield 118, 3) := by decide +kernel
theorem dX11_slotCount_10 : decode cX11_slotCount 10 = .ok (.ireturn, 1) := by decide +kernel
theorem dX11_epoch_0 : decode cX11_epoch 0 = .ok (.aload_n 0, 1) := by decide +kernel
theorem dX11_epoch_1 : decode cX11_epoch 1 = .ok (.getfield 35, 3) := by decide +kernel
theorem dX11_epoch_4 : decode cX11_epoch 4 = .ok (.getfield 121, 3) := by decide +kernel
theorem dX11_epoch_7 : decode cX11_epoch 7 = .ok (.getfield 125, 3) := by decide +kernel
theorem dX11_epoch_10 : decode cX11_epoch 10 = .ok (.ireturn, 1) := by decide +kernel
theorem dX11_readPage_0 : decode cX11_readPage 0 = .ok (.aload_n 0, 1) := by decide +kernel
theorem dX11_readPage_1 : decode cX11_readPage 1 = .ok (.getfield 35, 3) := by decide +kernel
theorem dX11_readPage_4 : decode cX11_readPage 4 = .ok (.iload_n 1, 1) := by decide +kernel
theorem dX11_readPage_5 : decode cX11_readPage 5 = .ok (.iload_n 2, 1) := by decide +kernel
theorem dX11_readPage_6 : decode cX11_readPage 6 = .ok (.invokevirtual 130, 3) := by decide +kernel
theorem dX11_readPage_9 : decode cX11_readPage 9 = .ok (.invokestatic 134, 3) := by decide +kernel
theorem dX11_readPage_12 : decode cX11_readPage 12 = .ok (.aload_n 0, 1) := by decide +kernel
theorem dX11_readPage_13 : decode cX11_readPage 13 = .ok (.invokevirtual 137, 3) := by decide +kernel
theorem dX11_readPage_16 : decode cX11_readPage 16 = .ok (.aload_n 0, 1) := by decide +kernel
theorem dX11_readPage_17 : decode cX11_readPage 17 = .ok (.getfield 35, 3) := by decide +kernel
theorem dX11_readPage_20 : decode cX11_readPage 20 = .ok (.iload_n 1, 1) := by decide +kernel
theorem dX11_readPage_21 : decode cX11_readPage 21 = .ok (.iload_n 2, 1) := by decide +kernel
theorem dX11_readPage_22 : decode cX11_readPage 22 = .ok (.invokestatic 140, 3) := by decide +kernel
theorem dX11_readPage_25 : decode cX11_readPage 25 = .ok (.invokevirtual 143, 3) := by decide +kernel
theorem dX11_readPage_28 : decode cX11_readPage 28 = .ok (.ireturn, 1) := by decide +kernel
theorem dX11_writePage_0 : decode cX11_writePage 0 = .ok (.aload_n 0, 1) := by decide +kernel
theorem dX11_writePage_1 : decode cX11_writePage 1 = .ok (.getfield 35, 3) := by decide +kernel
theorem dX11_writePage_4 : decode cX11_writePage 4 = .ok (.iload_n 1, 1) := by decide +kernel
theorem dX11_writePage_5 : decode cX11_writePage 5 = .ok (.iload_n 2, 1) := by decide +kernel
theorem dX11_writePage_6 : decode cX11_writePage 6 = .ok (.invokevirtual 147, 3) := by decide +kernel
theorem dX11_writePage_9 : decode cX11_writePage 9 = .ok (.invokestatic 134, 3) := by decide +kernel
theorem dX11_writePage_12 : decode cX11_writePage 12 = .ok (.aload_n 0, 1) := by decide +kernel
theorem dX11_writePage_13 : decode cX11_writePage 13 = .ok (.invokevirtual 137, 3) := by decide +kernel
theorem dX11_writePage_16 : decode cX11_writePage 16 = .ok (.aload_n 0, 1) := by decide +kernel
theorem dX11_writePage_17 : decode cX11_writePage 17 = .ok (.getfield 35, 3) := by decide +kernel
theorem dX11_writePage_20 : decode cX11_writePage 20 = .ok (.iload_n 1, 1) := by decide +kernel
theorem dX11_writePage_21 : decode cX11_writePage 21 = .ok (.iload_n 2, 1) := by decide +kernel
theorem dX11_writePage_22 : decode cX11_writePage 22 = .ok (.invokestatic 140, 3) := by decide +kernel
theorem dX11_writePage_25 : decode cX11_writePage 25 = .ok (.iload_n 3, 1) := by decide +kernel
theorem dX11_writePage_26 : decode cX11_writePage 26 = .ok (.invokevirtual 150, 3) := by decide +kernel
theorem dX11_writePage_29 : decode cX11_writePage 29 = .ok (.ireturn, 1) := by decide +kernel
theorem dX11_setPolicy_0 : decode cX11_setPolicy 0 = .ok (.iload_n 1, 1) := by decide +kernel
theorem dX11_setPolicy_1 : decode cX11_setPolicy 1 = .ok (.ifCond .lt 12, 3) := by decide +kernel
theorem dX11_setPolicy_4 : decode cX11_setPolicy 4 = .ok (.iload_n 1, 1) := by decide +kernel
theorem dX11_setPolicy_5 : decode cX11_setPolicy 5 = .ok (.iconst 2, 1) := by decide +kernel
theorem dX11_setPolicy_6 : decode cX11_setPolicy 6 = .ok (.if_icmp .gt 7, 3) := by decide +kernel
theorem dX11_setPolicy_9 : decode cX11_setPolicy 9 = .ok (.iconst 1, 1) := by decide +kernel
theorem dX11_setPolicy_10 : decode cX11_setPolicy 10 = .ok (.goto 4, 3) := by decide +kernel
theorem dX11_setPolicy_13 : decode cX11_setPolicy 13 = .ok (.iconst 0, 1) := by decide +kernel
theorem dX11_setPolicy_14 : decode cX11_setPolicy 14 = .ok (.invokestatic 79, 3) := by decide +kernel
theorem dX11_setPolicy_17 : decode cX11_setPolicy 17 = .ok (.aload_n 0, 1) := by decide +kernel
theorem dX11_setPolicy_18 : decode cX11_setPolicy 18 = .ok (.invokevirtual 137, 3) := by decide +kernel
theorem dX11_setPolicy_21 : decode cX11_setPolicy 21 = .ok (.aload_n 0, 1) := by decide +kernel
theorem dX11_setPolicy_22 : decode cX11_setPolicy 22 = .ok (.getfield 35, 3) := by decide +kernel
theorem dX11_setPolicy_25 : decode cX11_setPolicy 25 = .ok (.getfield 105, 3) := by decide +kernel
theorem dX11_setPolicy_28 : decode cX11_setPolicy 28 = .ok (.getfield 153, 3) := by decide +kernel
theorem dX11_setPolicy_31 : decode cX11_setPolicy 31 = .ok (.istore_n 2, 1) := by decide +kernel
theorem dX11_setPolicy_32 : decode cX11_setPolicy 32 = .ok (.aload_n 0, 1) := by decide +kernel
theorem dX11_setPolicy_33 : decode cX11_setPolicy 33 = .ok (.getfield 35, 3) := by decide +kernel
theorem dX11_setPolicy_36 : decode cX11_setPolicy 36 = .ok (.getfield 105, 3) := by decide +kernel
theorem dX11_setPolicy_39 : decode cX11_setPolicy 39 = .ok (.iload_n 1, 1) := by decide +kernel
theorem dX11_setPolicy_40 : decode cX11_setPolicy 40 = .ok (.putfield 153, 3) := by decide +kernel
theorem dX11_setPolicy_43 : decode cX11_setPolicy 43 = .ok (.iload_n 2, 1) := by decide +kernel
theorem dX11_setPolicy_44 : decode cX11_setPolicy 44 = .ok (.ireturn, 1) := by decide +kernel
theorem dX11_startBarrier_0 : decode cX11_startBarrier 0 = .ok (.aload_n 0, 1) := by decide +kernel
theorem dX11_startBarrier_1 : decode cX11_startBarrier 1 = .ok (.getfield 35, 3) := by decide +kernel
theorem dX11_startBarrier_4 : decode cX11_startBarrier 4 = .ok (.iload_n 1, 1) := by decide +kernel
theorem dX11_startBarrier_5 : decode cX11_startBarrier 5 = .ok (.invokevirtual 156, 3) := by decide +kernel
theorem dX11_startBarrier_8 : decode cX11_startBarrier 8 = .ok (.invokestatic 134, 3) := by decide +kernel
theorem dX11_startBarrier_11 : decode cX11_startBarrier 11 = .ok (.aload_n 0, 1) := by decide +kernel
theorem dX11_startBarrier_12 : decode cX11_startBarrier 12 = .ok (.invokevirtual 137, 3) := by decide +kernel
theorem dX11_startBarrier_15 : decode cX11_startBarrier 15 = .ok (.aload_n 0, 1) := by decide +kernel
theorem dX11_startBarrier_16 : decode cX11_startBarrier 16 = .ok (.getfield 35, 3) := by decide +kernel
theorem dX11_startBarrier_19 : decode cX11_startBarrier 19 = .ok (.iload_n 1, 1) := by decide +kernel
theorem dX11_startBarrier_20 : decode cX11_startBarrier 20 = .ok (.invokevirtual 159, 3) := by decide +kernel
theorem dX11_startBarrier_23 : decode cX11_startBarrier 23 = .ok (.ireturn, 1) := by decide +kernel
theorem dX11_writeBarrier_0 : decode cX11_writeBarrier 0 = .ok (.aload_n 0, 1) := by decide +kernel
theorem dX11_writeBarrier_1 : decode cX11_writeBarrier 1 = .ok (.getfield 35, 3) := by decide +kernel
theorem dX11_writeBarrier_4 : decode cX11_writeBarrier 4 = .ok (.iload_n 1, 1) := by decide +kernel
theorem dX11_writeBarrier_5 : decode cX11_writeBarrier 5 = .ok (.invokevirtual 162, 3) := by decide +kernel
theorem dX11_writeBarrier_8 : decode cX11_writeBarrier 8 = .ok (.invokestatic 134, 3) := by decide +kernel
theorem dX11_writeBarrier_11 : decode cX11_writeBarrier 11 = .ok (.aload_n 0, 1) := by decide +kernel
theorem dX11_writeBarrier_12 : decode cX11_writeBarrier 12 = .ok (.invokevirtual 137, 3) := by decide +kernel
theorem dX11_writeBarrier_15 : decode cX11_writeBarrier 15 = .ok (.aload_n 0, 1) := by decide +kernel
theorem dX11_writeBarrier_16 : decode cX11_writeBarrier 16 = .ok (.getfield 35, 3) := by decide +kernel
theorem dX11_writeBarrier_19 : decode cX11_writeBarrier 19 = .ok (.iload_n 1, 1) := by decide +kernel
theorem dX11_writeBarrier_20 : decode cX11_writeBarrier 20 = .ok (.invokevirtual 165, 3) := by decide +kernel
theorem dX11_writeBarrier_23 : decode cX11_writeBarrier 23 = .ok (.ireturn, 1) := by decide +kernel
theorem dX11_commitBarrier_0 : decode cX11_commitBarrier 0 = .ok (.aload_n 0, 1) := by decide +kernel
theorem dX11_commitBarrier_1 : decode cX11_commitBarrier 1 = .ok (.getfield 35, 3) := by decide +kernel
theorem dX11_commitBarrier_4 : decode cX11_commitBarrier 4 = .ok (.invokevirtual 168, 3) := by decide +kernel
theorem dX11_commitBarrier_7 : decode cX11_commitBarrier 7 = .ok (.invokestatic 134, 3) := by decide +kernel
theorem dX11_commitBarrier_10 : decode cX11_commitBarrier 10 = .ok (.aload_n 0, 1) := by decide +kernel
theorem dX11_commitBarrier_11 : decode cX11_commitBarrier 11 = .ok (.invokevirtual 137, 3) := by decide +kernel
theorem dX11_commitBarrier_14 : decode cX11_commitBarrier 14 = .ok (.aload_n 0, 1) := by decide +kernel
theorem dX11_commitBarrier_15 : decode cX11_commitBarrier 15 = .ok (.getfield 35, 3) := by decide +kernel
theorem dX11_commitBarrier_18 : decode cX11_commitBarrier 18 = .ok (.invokevirtual 172, 3) := by decide +kernel
theorem dX11_commitBarrier_21 : decode cX11_commitBarrier 21 = .ok (.ireturn, 1) := by decide +kernel
theorem dX11_abandonBarrier_0 : decode cX11_abandonBarrier 0 = .ok (.aload_n 0, 1) := by decide +kernel
theorem dX11_abandonBarrier_1 : decode cX11_abandonBarrier 1 = .ok (.getfield 35, 3) := by decide +kernel
theorem dX11_abandonBarrier_4 : decode cX11_abandonBarrier 4 = .ok (.invokevirtual 175, 3) := by decide +kernel
theorem dX11_abandonBarrier_7 : decode cX11_abandonBarrier 7 = .ok (.invokestatic 134, 3) := by decide +kernel
theorem dX11_abandonBarrier_10 : decode cX11_abandonBarrier 10 = .ok (.aload_n 0, 1) := by decide +kernel
theorem dX11_abandonBarrier_11 : decode cX11_abandonBarrier 11 = .ok (.invokevirtual 137, 3) := by decide +kernel
theorem dX11_abandonBarrier_14 : decode cX11_abandonBarrier 14 = .ok (.aload_n 0, 1) := by decide +kernel
theorem dX11_abandonBarrier_15 : decode cX11_abandonBarrier 15 = .ok (.getfield 35, 3) := by decide +kernel
theorem dX11_abandonBarrier_18 : decode cX11_abandonBarrier 18 = .ok (.invokevirtual 178, 3) := by decide +kernel
theorem dX11_abandonBarrier_21 : decode cX11_abandonBarrier 21 = .ok (.ireturn, 1) := by decide +kernel
theorem dX11_crash_0 : decode cX11_crash 0 = .ok (.aload_n 0, 1) := by decide +kernel
theorem dX11_crash_1 : decode cX11_crash 1 = .ok (.invokevirtual 137, 3) := by decide +kernel
theorem dX11_crash_4 : decode cX11_crash 4 = .ok (.aload_n 0, 1) := by decide +kernel
theorem dX11_crash_5 : decode cX11_crash 5 = .ok (.getfield 35, 3) := by decide +kernel
theorem dX11_crash_8 : decode cX11_crash 8 = .ok (.invokevirtual 181, 3) := by decide +kernel
theorem dX11_crash_11 : decode cX11_crash 11 = .ok (.ireturn, 1) := by decide +kernel
theorem dX11_rollback_0 : decode cX11_rollback 0 = .ok (.aload_n 0, 1) := by decide +kernel
theorem dX11_rollback_1 : decode cX11_rollback 1 = .ok (.getfield 35, 3) := by decide +kernel
theorem dX11_rollback_4 : decode cX11_rollback 4 = .ok (.iload_n 1, 1) := by decide +kernel
theorem dX11_rollback_5 : decode cX11_rollback 5 = .ok (.invokevirtual 184, 3) := by decide +kernel
theorem dX11_rollback_8 : decode cX11_rollback 8 = .ok (.invokestatic 134, 3) := by decide +kernel
theorem dX11_rollback_11 : decode cX11_rollback 11 = .ok (.aload_n 0, 1) := by decide +kernel
theorem dX11_rollback_12 : decode cX11_rollback 12 = .ok (.invokevirtual 137, 3) := by decide +kernel
theorem dX11_rollback_15 : decode cX11_rollback 15 = .ok (.aload_n 0, 1) := by decide +kernel
theorem dX11_rollback_16 : decode cX11_rollback 16 = .ok (.getfield 35, 3) := by decide +kernel
theorem dX11_rollback_19 : decode cX11_rollback 19 = .ok (.iload_n 1, 1) := by decide +kernel
theorem dX11_rollback_20 : decode cX11_rollback 20 = .ok (.invokevirtual 187, 3) := by decide +kernel
theorem dX11_rollback_23 : decode cX11_rollback 23 = .ok (.ireturn, 1) := by decide +kernel
theorem dX11_evictPage_0 : decode cX11_evictPage 0 = .ok (.aload_n 0, 1) := by decide +kernel
theorem dX11_evictPage_1 : decode cX11_evictPage 1 = .ok (.getfield 35, 3) := by decide +kernel
theorem dX11_evictPage_4 : decode cX11_evictPage 4 = .ok (.iload_n 1, 1) := by decide +kernel
theorem dX11_evictPage_5 : decode cX11_evictPage 5 = .ok (.iload_n 2, 1) := by decide +kernel
theorem dX11_evictPage_6 : decode cX11_evictPage 6 = .ok (.invokevirtual 190, 3) := by decide +kernel
theorem dX11_evictPage_9 : decode cX11_evictPage 9 = .ok (.invokestatic 134, 3) := by decide +kernel
theorem dX11_evictPage_12 : decode cX11_evictPage 12 = .ok (.aload_n 0, 1) := by decide +kernel
theorem dX11_evictPage_13 : decode cX11_evictPage 13 = .ok (.invokevirtual 137, 3) := by decide +kernel
theorem dX11_evictPage_16 : decode cX11_evictPage 16 = .ok (.aload_n 0, 1) := by decide +kernel
theorem dX11_evictPage_17 : decode cX11_evictPage 17 = .ok (.getfield 35, 3) := by decide +kernel
theorem dX11_evictPage_20 : decode cX11_evictPage 20 = .ok (.iload_n 1, 1) := by decide +kernel
theorem dX11_evictPage_21 : decode cX11_evictPage 21 = .ok (.iload_n 2, 1) := by decide +kernel
theorem dX11_evictPage_22 : decode cX11_evictPage 22 = .ok (.invokestatic 140, 3) := by decide +kernel
theorem dX11_evictPage_25 : decode cX11_evictPage 25 = .ok (.invokevirtual 193, 3) := by decide +kernel
theorem dX11_evictPage_28 : decode cX11_evictPage 28 = .ok (.ireturn, 1) := by decide +kernel
theorem dX11_runScript_0 : decode cX11_runScript 0 = .ok (.aload_n 0, 1) := by decide +kernel
theorem dX11_runScript_1 : decode cX11_runScript 1 = .ok (.getfield 46, 3) := by decide +kernel
theorem dX11_runScript_4 : decode cX11_runScript 4 = .ok (.aload_n 0, 1) := by decide +kernel
theorem dX11_runScript_5 : decode cX11_runScript 5 = .ok (.getfield 35, 3) := by decide +kernel
theorem dX11_runScript_8 : decode cX11_runScript 8 = .ok (.invokevirtual 196, 3) := by decide +kernel
theorem dX11_runScript_11 : decode cX11_runScript 11 = .ok (.aload_n 0, 1) := by decide +kernel
theorem dX11_runScript_12 : decode cX11_runScript 12 = .ok (.getfield 28, 3) := by decide +kernel
theorem dX11_runScript_15 : decode cX11_runScript 15 = .ok (.aload_n 0, 1) := by decide +kernel
theorem dX11_runScript_16 : decode cX11_runScript 16 = .ok (.getfield 35, 3) := by decide +kernel
theorem dX11_runScript_19 : decode cX11_runScript 19 = .ok (.invokevirtual 200, 3) := by decide +kernel
theorem dX11_runScript_22 : decode cX11_runScript 22 = .ok (.istore_n 1, 1) := by decide +kernel
theorem dX11_runScript_23 : decode cX11_runScript 23 = .ok (.aload_n 0, 1) := by decide +kernel
theorem dX11_runScript_24 : decode cX11_runScript 24 = .ok (.getfield 10, 3) := by decide +kernel
theorem dX11_runScript_27 : decode cX11_runScript 27 = .ok (.iconst 0, 1) := by decide +kernel
theorem dX11_runScript_28 : decode cX11_runScript 28 = .ok (.putfield 64, 3) := by decide +kernel
theorem dX11_runScript_31 : decode cX11_runScript 31 = .ok (.iload_n 1, 1) := by decide +kernel
theorem dX11_runScript_32 : decode cX11_runScript 32 = .ok (.ifCond .lt 13, 3) := by decide +kernel
theorem dX11_runScript_35 : decode cX11_runScript 35 = .ok (.aload_n 0, 1) := by decide +kernel
theorem dX11_runScript_36 : decode cX11_runScript 36 = .ok (.getfield 46, 3) := by decide +kernel
theorem dX11_runScript_39 : decode cX11_runScript 39 = .ok (.invokevirtual 204, 3) := by decide +kernel
theorem dX11_runScript_42 : decode cX11_runScript 42 = .ok (.goto 14, 3) := by decide +kernel
theorem dX11_runScript_45 : decode cX11_runScript 45 = .ok (.aload_n 0, 1) := by decide +kernel
theorem dX11_runScript_46 : decode cX11_runScript 46 = .ok (.getfield 46, 3) := by decide +kernel
theorem dX11_runScript_49 : decode cX11_runScript 49 = .ok (.aload_n 0, 1) := by decide +kernel
theorem dX11_runScript_50 : decode cX11_runScript 50 = .ok (.getfield 35, 3) := by decide +kernel
theorem dX11_runScript_53 : decode cX11_runScript 53 = .ok (.invokevirtual 207, 3) := by decide +kernel
theorem dX11_runScript_56 : decode cX11_runScript 56 = .ok (.iload_n 1, 1) := by decide +kernel
theorem dX11_runScript_57 : decode cX11_runScript 57 = .ok (.ireturn, 1) := by decide +kernel
theorem dX11_pageCount_0 : decode cX11_pageCount 0 = .ok (.aload_n 0, 1) := by decide +kernel
theorem dX11_pageCount_1 : decode cX11_pageCount 1 = .ok (.getfield 35, 3) := by decide +kernel
theorem dX11_pageCount_4 : decode cX11_pageCount 4 = .ok (.getfield 90, 3) := by decide +kernel
theorem dX11_pageCount_7 : decode cX11_pageCount 7 = .ok (.iload_n 1, 1) := by decide +kernel
theorem dX11_pageCount_8 : decode cX11_pageCount 8 = .ok (.invokevirtual 210, 3) := by decide +kernel
theorem dX11_pageCount_11 : decode cX11_pageCount 11 = .ok (.invokestatic 214, 3) := by decide +kernel
theorem dX11_pageCount_14 : decode cX11_pageCount 14 = .ok (.aload_n 0, 1) := by decide +kernel
theorem dX11_pageCount_15 : decode cX11_pageCount 15 = .ok (.getfield 35, 3) := by decide +kernel
theorem dX11_pageCount_18 : decode cX11_pageCount 18 = .ok (.getfield 90, 3) := by decide +kernel
theorem dX11_pageCount_21 : decode cX11_pageCount 21 = .ok (.getfield 217, 3) := by decide +kernel
theorem dX11_pageCount_24 : decode cX11_pageCount 24 = .ok (.iload_n 1, 1) := by decide +kernel
theorem dX11_pageCount_25 : decode cX11_pageCount 25 = .ok (.iaload, 1) := by decide +kernel
theorem dX11_pageCount_26 : decode cX11_pageCount 26 = .ok (.ireturn, 1) := by decide +kernel
theorem dX11_kindOf_0 : decode cX11_kindOf 0 = .ok (.aload_n 0, 1) := by decide +kernel
theorem dX11_kindOf_1 : decode cX11_kindOf 1 = .ok (.getfield 35, 3) := by decide +kernel
theorem dX11_kindOf_4 : decode cX11_kindOf 4 = .ok (.getfield 90, 3) := by decide +kernel
theorem dX11_kindOf_7 : decode cX11_kindOf 7 = .ok (.iload_n 1, 1) := by decide +kernel
theorem dX11_kindOf_8 : decode cX11_kindOf 8 = .ok (.invokevirtual 210, 3) := by decide +kernel
theorem dX11_kindOf_11 : decode cX11_kindOf 11 = .ok (.invokestatic 214, 3) := by decide +kernel
theorem dX11_kindOf_14 : decode cX11_kindOf 14 = .ok (.aload_n 0, 1) := by decide +kernel
theorem dX11_kindOf_15 : decode cX11_kindOf 15 = .ok (.getfield 35, 3) := by decide +kernel
theorem dX11_kindOf_18 : decode cX11_kindOf 18 = .ok (.getfield 90, 3) := by decide +kernel
theorem dX11_kindOf_21 : decode cX11_kindOf 21 = .ok (.getfield 221, 3) := by decide +kernel
theorem dX11_kindOf_24 : decode cX11_kindOf 24 = .ok (.iload_n 1, 1) := by decide +kernel
theorem dX11_kindOf_25 : decode cX11_kindOf 25 = .ok (.iaload, 1) := by decide +kernel
theorem dX11_kindOf_26 : decode cX11_kindOf 26 = .ok (.ireturn, 1) := by decide +kernel
theorem dX11_peek_0 : decode cX11_peek 0 = .ok (.aload_n 0, 1) := by decide +kernel
theorem dX11_peek_1 : decode cX11_peek 1 = .ok (.getfield 35, 3) := by decide +kernel
theorem dX11_peek_4 : decode cX11_peek 4 = .ok (.getfield 90, 3) := by decide +kernel
theorem dX11_peek_7 : decode cX11_peek 7 = .ok (.iload_n 1, 1) := by decide +kernel
theorem dX11_peek_8 : decode cX11_peek 8 = .ok (.iload_n 2, 1) := by decide +kernel
theorem dX11_peek_9 : decode cX11_peek 9 = .ok (.invokevirtual 224, 3) := by decide +kernel
theorem dX11_peek_12 : decode cX11_peek 12 = .ok (.invokestatic 214, 3) := by decide +kernel
theorem dX11_peek_15 : decode cX11_peek 15 = .ok (.aload_n 0, 1) := by decide +kernel
theorem dX11_peek_16 : decode cX11_peek 16 = .ok (.getfield 35, 3) := by decide +kernel
theorem dX11_peek_19 : decode cX11_peek 19 = .ok (.getfield 90, 3) := by decide +kernel
theorem dX11_peek_22 : decode cX11_peek 22 = .ok (.getfield 228, 3) := by decide +kernel
theorem dX11_peek_25 : decode cX11_peek 25 = .ok (.iload_n 1, 1) := by decide +kernel
theorem dX11_peek_26 : decode cX11_peek 26 = .ok (.iload_n 2, 1) := by decide +kernel
theorem dX11_peek_27 : decode cX11_peek 27 = .ok (.invokestatic 140, 3) := by decide +kernel
theorem dX11_peek_30 : decode cX11_peek 30 = .ok (.iaload, 1) := by decide +kernel
theorem dX11_peek_31 : decode cX11_peek 31 = .ok (.ireturn, 1) := by decide +kernel
theorem dX11_peekFloat_0 : decode cX11_peekFloat 0 = .ok (.aload_n 0, 1) := by decide +kernel
theorem dX11_peekFloat_1 : decode cX11_peekFloat 1 = .ok (.getfield 35, 3) := by decide +kernel
theorem dX11_peekFloat_4 : decode cX11_peekFloat 4 = .ok (.getfield 90, 3) := by decide +kernel
theorem dX11_peekFloat_7 : decode cX11_peekFloat 7 = .ok (.iload_n 1, 1) := by decide +kernel
theorem dX11_peekFloat_8 : decode cX11_peekFloat 8 = .ok (.iload_n 2, 1) := by decide +kernel
theorem dX11_peekFloat_9 : decode cX11_peekFloat 9 = .ok (.invokevirtual 224, 3) := by decide +kernel
theorem dX11_peekFloat_12 : decode cX11_peekFloat 12 = .ok (.invokestatic 214, 3) := by decide +kernel
theorem dX11_peekFloat_15 : decode cX11_peekFloat 15 = .ok (.aload_n 0, 1) := by decide +kernel
theorem dX11_peekFloat_16 : decode cX11_peekFloat 16 = .ok (.getfield 35, 3) := by decide +kernel
theorem dX11_peekFloat_19 : decode cX11_peekFloat 19 = .ok (.getfield 90, 3) := by decide +kernel
theorem dX11_peekFloat_22 : decode cX11_peekFloat 22 = .ok (.getfield 221, 3) := by decide +kernel
theorem dX11_peekFloat_25 : decode cX11_peekFloat 25 = .ok (.iload_n 1, 1) := by decide +kernel
theorem dX11_peekFloat_26 : decode cX11_peekFloat 26 = .ok (.iaload, 1) := by decide +kernel
theorem dX11_peekFloat_27 : decode cX11_peekFloat 27 = .ok (.iconst 1, 1) := by decide +kernel
theorem dX11_peekFloat_28 : decode cX11_peekFloat 28 = .ok (.if_icmp .eq 13, 3) := by decide +kernel
theorem dX11_peekFloat_31 : decode cX11_peekFloat 31 = .ok (.new 231, 3) := by decide +kernel
theorem dX11_peekFloat_34 : decode cX11_peekFloat 34 = .ok (.dup, 1) := by decide +kernel
theorem dX11_peekFloat_35 : decode cX11_peekFloat 35 = .ok (.ldc 233, 2) := by decide +kernel
theorem dX11_peekFloat_37 : decode cX11_peekFloat 37 = .ok (.invokespecial 235, 3) := by decide +kernel
theorem dX11_peekFloat_40 : decode cX11_peekFloat 40 = .ok (.athrow, 1) := by decide +kernel
theorem dX11_peekFloat_41 : decode cX11_peekFloat 41 = .ok (.aload_n 0, 1) := by decide +kernel
theorem dX11_peekFloat_42 : decode cX11_peekFloat 42 = .ok (.getfield 35, 3) := by decide +kernel
theorem dX11_peekFloat_45 : decode cX11_peekFloat 45 = .ok (.getfield 90, 3) := by decide +kernel
theorem dX11_peekFloat_48 : decode cX11_peekFloat 48 = .ok (.getfield 228, 3) := by decide +kernel
theorem dX11_peekFloat_51 : decode cX11_peekFloat 51 = .ok (.iload_n 1, 1) := by decide +kernel
theorem dX11_peekFloat_52 : decode cX11_peekFloat 52 = .ok (.iload_n 2, 1) := by decide +kernel
theorem dX11_peekFloat_53 : decode cX11_peekFloat 53 = .ok (.invokestatic 140, 3) := by decide +kernel
theorem dX11_peekFloat_56 : decode cX11_peekFloat 56 = .ok (.iaload, 1) := by decide +kernel
theorem dX11_peekFloat_57 : decode cX11_peekFloat 57 = .ok (.invokestatic 236, 3) := by decide +kernel
theorem dX11_peekFloat_60 : decode cX11_peekFloat 60 = .ok (.freturn, 1) := by decide +kernel
theorem dX11_pageState_0 : decode cX11_pageState 0 = .ok (.aload_n 0, 1) := by decide +kernel
theorem dX11_pageState_1 : decode cX11_pageState 1 = .ok (.getfield 35, 3) := by decide +kernel
theorem dX11_pageState_4 : decode cX11_pageState 4 = .ok (.getfield 90, 3) := by decide +kernel
theorem dX11_pageState_7 : decode cX11_pageState 7 = .ok (.iload_n 1, 1) := by decide +kernel
theorem dX11_pageState_8 : decode cX11_pageState 8 = .ok (.iload_n 2, 1) := by decide +kernel
theorem dX11_pageState_9 : decode cX11_pageState 9 = .ok (.invokevirtual 224, 3) := by decide +kernel
theorem dX11_pageState_12 : decode cX11_pageState 12 = .ok (.invokestatic 214, 3) := by decide +kernel
theorem dX11_pageState_15 : decode cX11_pageState 15 = .ok (.aload_n 0, 1) := by decide +kernel
theorem dX11_pageState_16 : decode cX11_pageState 16 = .ok (.getfield 35, 3) := by decide +kernel
theorem dX11_pageState_19 : decode cX11_pageState 19 = .ok (.getfield 90, 3) := by decide +kernel
theorem dX11_pageState_22 : decode cX11_pageState 22 = .ok (.iload_n 1, 1) := by decide +kernel
theorem dX11_pageState_23 : decode cX11_pageState 23 = .ok (.iload_n 2, 1) := by decide +kernel
theorem dX11_pageState_24 : decode cX11_pageState 24 = .ok (.invokestatic 140, 3) := by decide +kernel
theorem dX11_pageState_27 : decode cX11_pageState 27 = .ok (.invokevirtual 240, 3) := by decide +kernel
theorem dX11_pageState_30 : decode cX11_pageState 30 = .ok (.ireturn, 1) := by decide +kernel
theorem dX11_frameOf_0 : decode cX11_frameOf 0 = .ok (.aload_n 0, 1) := by decide +kernel
theorem dX11_frameOf_1 : decode cX11_frameOf 1 = .ok (.getfield 35, 3) := by decide +kernel
theorem dX11_frameOf_4 : decode cX11_frameOf 4 = .ok (.getfield 90, 3) := by decide +kernel
theorem dX11_frameOf_7 : decode cX11_frameOf 7 = .ok (.iload_n 1, 1) := by decide +kernel
theorem dX11_frameOf_8 : decode cX11_frameOf 8 = .ok (.iload_n 2, 1) := by decide +kernel
theorem dX11_frameOf_9 : decode cX11_frameOf 9 = .ok (.invokevirtual 224, 3) := by decide +kernel
theorem dX11_frameOf_12 : decode cX11_frameOf 12 = .ok (.invokestatic 214, 3) := by decide +kernel
theorem dX11_frameOf_15 : decode cX11_frameOf 15 = .ok (.aload_n 0, 1) := by decide +kernel
theorem dX11_frameOf_16 : decode cX11_frameOf 16 = .ok (.getfield 35, 3) := by decide +kernel
theorem dX11_frameOf_19 : decode cX11_frameOf 19 = .ok (.getfield 90, 3) := by decide +kernel
theorem dX11_frameOf_22 : decode cX11_frameOf 22 = .ok (.getfield 243, 3) := by decide +kernel
theorem dX11_frameOf_25 : decode cX11_frameOf 25 = .ok (.iload_n 1, 1) := by decide +kernel
theorem dX11_frameOf_26 : decode cX11_frameOf 26 = .ok (.iload_n 2, 1) := by decide +kernel
theorem dX11_frameOf_27 : decode cX11_frameOf 27 = .ok (.invokestatic 140, 3) := by decide +kernel
theorem dX11_frameOf_30 : decode cX11_frameOf 30 = .ok (.iaload, 1) := by decide +kernel
theorem dX11_frameOf_31 : decode cX11_frameOf 31 = .ok (.ireturn, 1) := by decide +kernel
theorem dX11_slotOf_0 : decode cX11_slotOf 0 = .ok (.aload_n 0, 1) := by decide +kernel
theorem dX11_slotOf_1 : decode cX11_slotOf 1 = .ok (.getfield 35, 3) := by decide +kernel
theorem dX11_slotOf_4 : decode cX11_slotOf 4 = .ok (.getfield 90, 3) := by decide +kernel
theorem dX11_slotOf_7 : decode cX11_slotOf 7 = .ok (.iload_n 1, 1) := by decide +kernel
theorem dX11_slotOf_8 : decode cX11_slotOf 8 = .ok (.iload_n 2, 1) := by decide +kernel
theorem dX11_slotOf_9 : decode cX11_slotOf 9 = .ok (.invokevirtual 224, 3) := by decide +kernel
theorem dX11_slotOf_12 : decode cX11_slotOf 12 = .ok (.invokestatic 214, 3) := by decide +kernel
theorem dX11_slotOf_15 : decode cX11_slotOf 15 = .ok (.aload_n 0, 1) := by decide +kernel
theorem dX11_slotOf_16 : decode cX11_slotOf 16 = .ok (.getfield 35, 3) := by decide +kernel
theorem dX11_slotOf_19 : decode cX11_slotOf 19 = .ok (.getfield 90, 3) := by decide +kernel
theorem dX11_slotOf_22 : decode cX11_slotOf 22 = .ok (.getfield 245, 3) := by decide +kernel
theorem dX11_slotOf_25 : decode cX11_slotOf 25 = .ok (.iload_n 1, 1) := by decide +kernel
theorem dX11_slotOf_26 : decode cX11_slotOf 26 = .ok (.iload_n 2, 1) := by decide +kernel
theorem dX11_slotOf_27 : decode cX11_slotOf 27 = .ok (.invokestatic 140, 3) := by decide +kernel
theorem dX11_slotOf_30 : decode cX11_slotOf 30 = .ok (.iaload, 1) := by decide +kernel
theorem dX11_slotOf_31 : decode cX11_slotOf 31 = .ok (.ireturn, 1) := by decide +kernel
theorem dX11_frameOwner_0 : decode cX11_frameOwner 0 = .ok (.aload_n 0, 1) := by decide +kernel
theorem dX11_frameOwner_1 : decode cX11_frameOwner 1 = .ok (.getfield 35, 3) := by decide +kernel
theorem dX11_frameOwner_4 : decode cX11_frameOwner 4 = .ok (.getfield 105, 3) := by decide +kernel
theorem dX11_frameOwner_7 : decode cX11_frameOwner 7 = .ok (.iload_n 1, 1) := by decide +kernel
theorem dX11_frameOwner_8 : decode cX11_frameOwner 8 = .ok (.invokevirtual 248, 3) := by decide +kernel
theorem dX11_frameOwner_11 : decode cX11_frameOwner 11 = .ok (.invokestatic 214, 3) := by decide +kernel
theorem dX11_frameOwner_14 : decode cX11_frameOwner 14 = .ok (.aload_n 0, 1) := by decide +kernel
theorem dX11_frameOwner_15 : decode cX11_frameOwner 15 = .ok (.getfield 35, 3) := by decide +kernel
theorem dX11_frameOwner_18 : decode cX11_frameOwner 18 = .ok (.getfield 105, 3) := by decide +kernel
theorem dX11_frameOwner_21 : decode cX11_frameOwner 21 = .ok (.getfield 251, 3) := by decide +kernel
theorem dX11_frameOwner_24 : decode cX11_frameOwner 24 = .ok (.iload_n 1, 1) := by decide +kernel
theorem dX11_frameOwner_25 : decode cX11_frameOwner 25 = .ok (.iaload, 1) := by decide +kernel
theorem dX11_frameOwner_26 : decode cX11_frameOwner 26 = .ok (.ireturn, 1) := by decide +kernel
theorem dX11_frameTime_0 : decode cX11_frameTime 0 = .ok (.aload_n 0, 1) := by decide +kernel
theorem dX11_frameTime_1 : decode cX11_frameTime 1 = .ok (.getfield 35, 3) := by decide +kernel
theorem dX11_frameTime_4 : decode cX11_frameTime 4 = .ok (.getfield 105, 3) := by decide +kernel
theorem dX11_frameTime_7 : decode cX11_frameTime 7 = .ok (.iload_n 1, 1) := by decide +kernel
theorem dX11_frameTime_8 : decode cX11_frameTime 8 = .ok (.invokevirtual 248, 3) := by decide +kernel
theorem dX11_frameTime_11 : decode cX11_frameTime 11 = .ok (.invokestatic 214, 3) := by decide +kernel
theorem dX11_frameTime_14 : decode cX11_frameTime 14 = .ok (.aload_n 0, 1) := by decide +kernel
theorem dX11_frameTime_15 : decode cX11_frameTime 15 = .ok (.getfield 35, 3) := by decide +kernel
theorem dX11_frameTime_18 : decode cX11_frameTime 18 = .ok (.getfield 105, 3) := by decide +kernel
theorem dX11_frameTime_21 : decode cX11_frameTime 21 = .ok (.getfield 251, 3) := by decide +kernel
theorem dX11_frameTime_24 : decode cX11_frameTime 24 = .ok (.iload_n 1, 1) := by decide +kernel
theorem dX11_frameTime_25 : decode cX11_frameTime 25 = .ok (.iaload, 1) := by decide +kernel
theorem dX11_frameTime_26 : decode cX11_frameTime 26 = .ok (.iconst (-1), 1) := by decide +kernel
theorem dX11_frameTime_27 : decode cX11_frameTime 27 = .ok (.if_icmp .eq 7, 3) := by decide +kernel
theorem dX11_frameTime_30 : decode cX11_frameTime 30 = .ok (.iconst 1, 1) := by decide +kernel
theorem dX11_frameTime_31 : decode cX11_frameTime 31 = .ok (.goto 4, 3) := by decide +kernel
theorem dX11_frameTime_34 : decode cX11_frameTime 34 = .ok (.iconst 0, 1) := by decide +kernel
theorem dX11_frameTime_35 : decode cX11_frameTime 35 = .ok (.invokestatic 254, 3) := by decide +kernel
theorem dX11_frameTime_38 : decode cX11_frameTime 38 = .ok (.iload_n 2, 1) := by decide +kernel
theorem dX11_frameTime_39 : decode cX11_frameTime 39 = .ok (.ifCond .eq 8, 3) := by decide +kernel
theorem dX11_frameTime_42 : decode cX11_frameTime 42 = .ok (.iload_n 2, 1) := by decide +kernel
theorem dX11_frameTime_43 : decode cX11_frameTime 43 = .ok (.iconst 1, 1) := by decide +kernel
theorem dX11_frameTime_44 : decode cX11_frameTime 44 = .ok (.if_icmp .ne 7, 3) := by decide +kernel
theorem dX11_frameTime_47 : decode cX11_frameTime 47 = .ok (.iconst 1, 1) := by decide +kernel
theorem dX11_frameTime_48 : decode cX11_frameTime 48 = .ok (.goto 4, 3) := by decide +kernel
theorem dX11_frameTime_51 : decode cX11_frameTime 51 = .ok (.iconst 0, 1) := by decide +kernel
theorem dX11_frameTime_52 : decode cX11_frameTime 52 = .ok (.invokestatic 79, 3) := by decide +kernel
theorem dX11_frameTime_55 : decode cX11_frameTime 55 = .ok (.iload_n 2, 1) := by decide +kernel
theorem dX11_frameTime_56 : decode cX11_frameTime 56 = .ok (.ifCond .ne 18, 3) := by decide +kernel
theorem dX11_frameTime_59 : decode cX11_frameTime 59 = .ok (.aload_n 0, 1) := by decide +kernel
theorem dX11_frameTime_60 : decode cX11_frameTime 60 = .ok (.getfield 35, 3) := by decide +kernel
theorem dX11_frameTime_63 : decode cX11_frameTime 63 = .ok (.getfield 105, 3) := by decide +kernel
theorem dX11_frameTime_66 : decode cX11_frameTime 66 = .ok (.getfield 257, 3) := by decide +kernel
theorem dX11_frameTime_69 : decode cX11_frameTime 69 = .ok (.iload_n 1, 1) := by decide +kernel
theorem dX11_frameTime_70 : decode cX11_frameTime 70 = .ok (.iaload, 1) := by decide +kernel
theorem dX11_frameTime_71 : decode cX11_frameTime 71 = .ok (.goto 15, 3) := by decide +kernel
theorem dX11_frameTime_74 : decode cX11_frameTime 74 = .ok (.aload_n 0, 1) := by decide +kernel
theorem dX11_frameTime_75 : decode cX11_frameTime 75 = .ok (.getfield 35, 3) := by decide +kernel
theorem dX11_frameTime_78 : decode cX11_frameTime 78 = .ok (.getfield 105, 3) := by decide +kernel
theorem dX11_frameTime_81 : decode cX11_frameTime 81 = .ok (.getfield 260, 3) := by decide +kernel
theorem dX11_frameTime_84 : decode cX11_frameTime 84 = .ok (.iload_n 1, 1) := by decide +kernel
theorem dX11_frameTime_85 : decode cX11_frameTime 85 = .ok (.iaload, 1) := by decide +kernel
theorem dX11_frameTime_86 : decode cX11_frameTime 86 = .ok (.ireturn, 1) := by decide +kernel
theorem dX11_victim_0 : decode cX11_victim 0 = .ok (.aload_n 0, 1) := by decide +kernel
theorem dX11_victim_1 : decode cX11_victim 1 = .ok (.getfield 35, 3) := by decide +kernel
theorem dX11_victim_4 : decode cX11_victim 4 = .ok (.invokevirtual 263, 3) := by decide +kernel
theorem dX11_victim_7 : decode cX11_victim 7 = .ok (.ireturn, 1) := by decide +kernel
theorem dX11_residentPages_0 : decode cX11_residentPages 0 = .ok (.aload_n 0, 1) := by decide +kernel
theorem dX11_residentPages_1 : decode cX11_residentPages 1 = .ok (.getfield 35, 3) := by decide +kernel
theorem dX11_residentPages_4 : decode cX11_residentPages 4 = .ok (.getfield 90, 3) := by decide +kernel
theorem dX11_residentPages_7 : decode cX11_residentPages 7 = .ok (.iload_n 1, 1) := by decide +kernel
theorem dX11_residentPages_8 : decode cX11_residentPages 8 = .ok (.invokevirtual 210, 3) := by decide +kernel
theorem dX11_residentPages_11 : decode cX11_residentPages 11 = .ok (.invokestatic 214, 3) := by decide +kernel
theorem dX11_residentPages_14 : decode cX11_residentPages 14 = .ok (.aload_n 0, 1) := by decide +kernel
theorem dX11_residentPages_15 : decode cX11_residentPages 15 = .ok (.getfield 35, 3) := by decide +kernel
theorem dX11_residentPages_18 : decode cX11_residentPages 18 = .ok (.getfield 90, 3) := by decide +kernel
theorem dX11_residentPages_21 : decode cX11_residentPages 21 = .ok (.iload_n 1, 1) := by decide +kernel
theorem dX11_residentPages_22 : decode cX11_residentPages 22 = .ok (.invokevirtual 266, 3) := by decide +kernel
theorem dX11_residentPages_25 : decode cX11_residentPages 25 = .ok (.ireturn, 1) := by decide +kernel
theorem dX11_dirtyPages_0 : decode cX11_dirtyPages 0 = .ok (.aload_n 0, 1) := by decide +kernel
theorem dX11_dirtyPages_1 : decode cX11_dirtyPages 1 = .ok (.getfield 35, 3) := by decide +kernel
theorem dX11_dirtyPages_4 : decode cX11_dirtyPages 4 = .ok (.getfield 90, 3) := by decide +kernel
theorem dX11_dirtyPages_7 : decode cX11_dirtyPages 7 = .ok (.iload_n 1, 1) := by decide +kernel
theorem dX11_dirtyPages_8 : decode cX11_dirtyPages 8 = .ok (.invokevirtual 210, 3) := by decide +kernel
theorem dX11_dirtyPages_11 : decode cX11_dirtyPages 11 = .ok (.invokestatic 214, 3) := by decide +kernel
theorem dX11_dirtyPages_14 : decode cX11_dirtyPages 14 = .ok (.aload_n 0, 1) := by decide +kernel
theorem dX11_dirtyPages_15 : decode cX11_dirtyPages 15 = .ok (.getfield 35, 3) := by decide +kernel
theorem dX11_dirtyPages_18 : decode cX11_dirtyPages 18 = .ok (.getfield 90, 3) := by decide +kernel
theorem dX11_dirtyPages_21 : decode cX11_dirtyPages 21 = .ok (.getfield 269, 3) := by decide +kernel
theorem dX11_dirtyPages_24 : decode cX11_dirtyPages 24 = .ok (.iload_n 1, 1) := by decide +kernel
theorem dX11_dirtyPages_25 : decode cX11_dirtyPages 25 = .ok (.iaload, 1) := by decide +kernel
theorem dX11_dirtyPages_26 : decode cX11_dirtyPages 26 = .ok (.ireturn, 1) := by decide +kernel
theorem dX11_slotUse_0 : decode cX11_slotUse 0 = .ok (.aload_n 0, 1) := by decide +kernel
theorem dX11_slotUse_1 : decode cX11_slotUse 1 = .ok (.getfield 35, 3) := by decide +kernel
theorem dX11_slotUse_4 : decode cX11_slotUse 4 = .ok (.getfield 114, 3) := by decide +kernel
theorem dX11_slotUse_7 : decode cX11_slotUse 7 = .ok (.iload_n 1, 1) := by decide +kernel
theorem dX11_slotUse_8 : decode cX11_slotUse 8 = .ok (.invokevirtual 272, 3) := by decide +kernel
theorem dX11_slotUse_11 : decode cX11_slotUse 11 = .ok (.invokestatic 214, 3) := by decide +kernel
theorem dX11_slotUse_14 : decode cX11_slotUse 14 = .ok (.aload_n 0, 1) := by decide +kernel
theorem dX11_slotUse_15 : decode cX11_slotUse 15 = .ok (.getfield 35, 3) := by decide +kernel
theorem dX11_slotUse_18 : decode cX11_slotUse 18 = .ok (.invokevirtual 275, 3) := by decide +kernel
theorem dX11_slotUse_21 : decode cX11_slotUse 21 = .ok (.iload_n 1, 1) := by decide +kernel
theorem dX11_slotUse_22 : decode cX11_slotUse 22 = .ok (.iaload, 1) := by decide +kernel
theorem dX11_slotUse_23 : decode cX11_slotUse 23 = .ok (.ireturn, 1) := by decide +kernel
theorem dX11_slotOwner_0 : decode cX11_slotOwner 0 = .ok (.aload_n 0, 1) := by decide +kernel
theorem dX11_slotOwner_1 : decode cX11_slotOwner 1 = .ok (.getfield 35, 3) := by decide +kernel
theorem dX11_slotOwner_4 : decode cX11_slotOwner 4 = .ok (.getfield 114, 3) := by decide +kernel
theorem dX11_slotOwner_7 : decode cX11_slotOwner 7 = .ok (.iload_n 1, 1) := by decide +kernel
theorem dX11_slotOwner_8 : decode cX11_slotOwner 8 = .ok (.invokevirtual 272, 3) := by decide +kernel
theorem dX11_slotOwner_11 : decode cX11_slotOwner 11 = .ok (.invokestatic 214, 3) := by decide +kernel
theorem dX11_slotOwner_14 : decode cX11_slotOwner 14 = .ok (.aload_n 0, 1) := by decide +kernel
theorem dX11_slotOwner_15 : decode cX11_slotOwner 15 = .ok (.getfield 35, 3) := by decide +kernel
theorem dX11_slotOwner_18 : decode cX11_slotOwner 18 = .ok (.getfield 114, 3) := by decide +kernel
theorem dX11_slotOwner_21 : decode cX11_slotOwner 21 = .ok (.getfield 279, 3) := by decide +kernel
theorem dX11_slotOwner_24 : decode cX11_slotOwner 24 = .ok (.iload_n 1, 1) := by decide +kernel
theorem dX11_slotOwner_25 : decode cX11_slotOwner 25 = .ok (.iaload, 1) := by decide +kernel
theorem dX11_slotOwner_26 : decode cX11_slotOwner 26 = .ok (.ireturn, 1) := by decide +kernel
theorem dX11_slotStamp_0 : decode cX11_slotStamp 0 = .ok (.aload_n 0, 1) := by decide +kernel
theorem dX11_slotStamp_1 : decode cX11_slotStamp 1 = .ok (.getfield 35, 3) := by decide +kernel
theorem dX11_slotStamp_4 : decode cX11_slotStamp 4 = .ok (.getfield 114, 3) := by decide +kernel
theorem dX11_slotStamp_7 : decode cX11_slotStamp 7 = .ok (.iload_n 1, 1) := by decide +kernel
theorem dX11_slotStamp_8 : decode cX11_slotStamp 8 = .ok (.invokevirtual 272, 3) := by decide +kernel
theorem dX11_slotStamp_11 : decode cX11_slotStamp 11 = .ok (.invokestatic 214, 3) := by decide +kernel
theorem dX11_slotStamp_14 : decode cX11_slotStamp 14 = .ok (.aload_n 0, 1) := by decide +kernel
theorem dX11_slotStamp_15 : decode cX11_slotStamp 15 = .ok (.getfield 35, 3) := by decide +kernel
theorem dX11_slotStamp_18 : decode cX11_slotStamp 18 = .ok (.getfield 114, 3) := by decide +kernel
theorem dX11_slotStamp_21 : decode cX11_slotStamp 21 = .ok (.getfield 280, 3) := by decide +kernel
theorem dX11_slotStamp_24 : decode cX11_slotStamp 24 = .ok (.iload_n 1, 1) := by decide +kernel
theorem dX11_slotStamp_25 : decode cX11_slotStamp 25 = .ok (.iaload, 1) := by decide +kernel
theorem dX11_slotStamp_26 : decode cX11_slotStamp 26 = .ok (.ireturn, 1) := by decide +kernel
theorem dX11_slotValue_0 : decode cX11_slotValue 0 = .ok (.aload_n 0, 1) := by decide +kernel
theorem dX11_slotValue_1 : decode cX11_slotValue 1 = .ok (.getfield 35, 3) := by decide +kernel
theorem dX11_slotValue_4 : decode cX11_slotValue 4 = .ok (.getfield 114, 3) := by decide +kernel
theorem dX11_slotValue_7 : decode cX11_slotValue 7 = .ok (.iload_n 1, 1) := by decide +kernel
theorem dX11_slotValue_8 : decode cX11_slotValue 8 = .ok (.invokevirtual 272, 3) := by decide +kernel
theorem dX11_slotValue_11 : decode cX11_slotValue 11 = .ok (.invokestatic 214, 3) := by decide +kernel
theorem dX11_slotValue_14 : decode cX11_slotValue 14 = .ok (.aload_n 0, 1) := by decide +kernel
theorem dX11_slotValue_15 : decode cX11_slotValue 15 = .ok (.getfield 35, 3) := by decide +kernel
theorem dX11_slotValue_18 : decode cX11_slotValue 18 = .ok (.getfield 114, 3) := by decide +kernel
theorem dX11_slotValue_21 : decode cX11_slotValue 21 = .ok (.getfield 283, 3) := by decide +kernel
theorem dX11_slotValue_24 : decode cX11_slotValue 24 = .ok (.iload_n 1, 1) := by decide +kernel
theorem dX11_slotValue_25 : decode cX11_slotValue 25 = .ok (.iaload, 1) := by decide +kernel
theorem dX11_slotValue_26 : decode cX11_slotValue 26 = .ok (.ireturn, 1) := by decide +kernel
theorem dX11_nextSlot_0 : decode cX11_nextSlot 0 = .ok (.aload_n 0, 1) := by decide +kernel
theorem dX11_nextSlot_1 : decode cX11_nextSlot 1 = .ok (.getfield 35, 3) := by decide +kernel
theorem dX11_nextSlot_4 : decode cX11_nextSlot 4 = .ok (.invokevirtual 284, 3) := by decide +kernel
theorem dX11_nextSlot_7 : decode cX11_nextSlot 7 = .ok (.ireturn, 1) := by decide +kernel
theorem dX11_freeSlots_0 : decode cX11_freeSlots 0 = .ok (.aload_n 0, 1) := by decide +kernel
theorem dX11_freeSlots_1 : decode cX11_freeSlots 1 = .ok (.getfield 35, 3) := by decide +kernel
theorem dX11_freeSlots_4 : decode cX11_freeSlots 4 = .ok (.invokevirtual 287, 3) := by decide +kernel
theorem dX11_freeSlots_7 : decode cX11_freeSlots 7 = .ok (.ireturn, 1) := by decide +kernel
theorem dX11_sharedSlots_0 : decode cX11_sharedSlots 0 = .ok (.aload_n 0, 1) := by decide +kernel
theorem dX11_sharedSlots_1 : decode cX11_sharedSlots 1 = .ok (.getfield 35, 3) := by decide +kernel
theorem dX11_sharedSlots_4 : decode cX11_sharedSlots 4 = .ok (.invokevirtual 290, 3) := by decide +kernel
theorem dX11_sharedSlots_7 : decode cX11_sharedSlots 7 = .ok (.ireturn, 1) := by decide +kernel
theorem dX11_longestRun_0 : decode cX11_longestRun 0 = .ok (.aload_n 0, 1) := by decide +kernel
theorem dX11_longestRun_1 : decode cX11_longestRun 1 = .ok (.getfield 35, 3) := by decide +kernel
theorem dX11_longestRun_4 : decode cX11_longestRun 4 = .ok (.invokevirtual 293, 3) := by decide +kernel
theorem dX11_longestRun_7 : decode cX11_longestRun 7 = .ok (.ireturn, 1) := by decide +kernel
theorem dX11_freeSlot_0 : decode cX11_freeSlot 0 = .ok (.iload_n 1, 1) := by decide +kernel
theorem dX11_freeSlot_1 : decode cX11_freeSlot 1 = .ok (.ifCond .lt 18, 3) := by decide +kernel
theorem dX11_freeSlot_4 : decode cX11_freeSlot 4 = .ok (.iload_n 1, 1) := by decide +kernel
theorem dX11_freeSlot_5 : decode cX11_freeSlot 5 = .ok (.aload_n 0, 1) := by decide +kernel
theorem dX11_freeSlot_6 : decode cX11_freeSlot 6 = .ok (.getfield 35, 3) := by decide +kernel
theorem dX11_freeSlot_9 : decode cX11_freeSlot 9 = .ok (.invokevirtual 287, 3) := by decide +kernel
theorem dX11_freeSlot_12 : decode cX11_freeSlot 12 = .ok (.if_icmp .ge 7, 3) := by decide +kernel
theorem dX11_freeSlot_15 : decode cX11_freeSlot 15 = .ok (.iconst 1, 1) := by decide +kernel
theorem dX11_freeSlot_16 : decode cX11_freeSlot 16 = .ok (.goto 4, 3) := by decide +kernel
theorem dX11_freeSlot_19 : decode cX11_freeSlot 19 = .ok (.iconst 0, 1) := by decide +kernel
theorem dX11_freeSlot_20 : decode cX11_freeSlot 20 = .ok (.invokestatic 214, 3) := by decide +kernel
theorem dX11_freeSlot_23 : decode cX11_freeSlot 23 = .ok (.aload_n 0, 1) := by decide +kernel
theorem dX11_freeSlot_24 : decode cX11_freeSlot 24 = .ok (.getfield 35, 3) := by decide +kernel
theorem dX11_freeSlot_27 : decode cX11_freeSlot 27 = .ok (.iload_n 1, 1) := by decide +kernel
theorem dX11_freeSlot_28 : decode cX11_freeSlot 28 = .ok (.invokevirtual 296, 3) := by decide +kernel
theorem dX11_freeSlot_31 : decode cX11_freeSlot 31 = .ok (.ireturn, 1) := by decide +kernel
theorem dX11_twins_0 : decode cX11_twins 0 = .ok (.aload_n 0, 1) := by decide +kernel
theorem dX11_twins_1 : decode cX11_twins 1 = .ok (.getfield 35, 3) := by decide +kernel
theorem dX11_twins_4 : decode cX11_twins 4 = .ok (.getfield 114, 3) := by decide +kernel
theorem dX11_twins_7 : decode cX11_twins 7 = .ok (.iload_n 1, 1) := by decide +kernel
theorem dX11_twins_8 : decode cX11_twins 8 = .ok (.invokevirtual 272, 3) := by decide +kernel
theorem dX11_twins_11 : decode cX11_twins 11 = .ok (.invokestatic 214, 3) := by decide +kernel
theorem dX11_twins_14 : decode cX11_twins 14 = .ok (.aload_n 0, 1) := by decide +kernel
theorem dX11_twins_15 : decode cX11_twins 15 = .ok (.getfield 35, 3) := by decide +kernel
theorem dX11_twins_18 : decode cX11_twins 18 = .ok (.invokevirtual 275, 3) := by decide +kernel
theorem dX11_twins_21 : decode cX11_twins 21 = .ok (.iload_n 1, 1) := by decide +kernel
theorem dX11_twins_22 : decode cX11_twins 22 = .ok (.iaload, 1) := by decide +kernel
theorem dX11_twins_23 : decode cX11_twins 23 = .ok (.ifCond .eq 7, 3) := by decide +kernel
theorem dX11_twins_26 : decode cX11_twins 26 = .ok (.iconst 1, 1) := by decide +kernel
theorem dX11_twins_27 : decode cX11_twins 27 = .ok (.goto 4, 3) := by decide +kernel
theorem dX11_twins_30 : decode cX11_twins 30 = .ok (.iconst 0, 1) := by decide +kernel
theorem dX11_twins_31 : decode cX11_twins 31 = .ok (.invokestatic 254, 3) := by decide +kernel
theorem dX11_twins_34 : decode cX11_twins 34 = .ok (.aload_n 0, 1) := by decide +kernel
theorem dX11_twins_35 : decode cX11_twins 35 = .ok (.getfield 35, 3) := by decide +kernel
theorem dX11_twins_38 : decode cX11_twins 38 = .ok (.iload_n 1, 1) := by decide +kernel
theorem dX11_twins_39 : decode cX11_twins 39 = .ok (.invokevirtual 299, 3) := by decide +kernel
theorem dX11_twins_42 : decode cX11_twins 42 = .ok (.ireturn, 1) := by decide +kernel
theorem dX11_barrierSet_0 : decode cX11_barrierSet 0 = .ok (.aload_n 0, 1) := by decide +kernel
theorem dX11_barrierSet_1 : decode cX11_barrierSet 1 = .ok (.getfield 35, 3) := by decide +kernel
theorem dX11_barrierSet_4 : decode cX11_barrierSet 4 = .ok (.getfield 121, 3) := by decide +kernel
theorem dX11_barrierSet_7 : decode cX11_barrierSet 7 = .ok (.getfield 302, 3) := by decide +kernel
theorem dX11_barrierSet_10 : decode cX11_barrierSet 10 = .ok (.ireturn, 1) := by decide +kernel
theorem dX11_pendingPages_0 : decode cX11_pendingPages 0 = .ok (.aload_n 0, 1) := by decide +kernel
theorem dX11_pendingPages_1 : decode cX11_pendingPages 1 = .ok (.getfield 35, 3) := by decide +kernel
theorem dX11_pendingPages_4 : decode cX11_pendingPages 4 = .ok (.getfield 121, 3) := by decide +kernel
theorem dX11_pendingPages_7 : decode cX11_pendingPages 7 = .ok (.invokevirtual 305, 3) := by decide +kernel
theorem dX11_pendingPages_10 : decode cX11_pendingPages 10 = .ok (.ireturn, 1) := by decide +kernel
theorem dX11_pendingPage_0 : decode cX11_pendingPage 0 = .ok (.iload_n 1, 1) := by decide +kernel
theorem dX11_pendingPage_1 : decode cX11_pendingPage 1 = .ok (.ifCond .lt 21, 3) := by decide +kernel
theorem dX11_pendingPage_4 : decode cX11_pendingPage 4 = .ok (.iload_n 1, 1) := by decide +kernel
theorem dX11_pendingPage_5 : decode cX11_pendingPage 5 = .ok (.aload_n 0, 1) := by decide +kernel
theorem dX11_pendingPage_6 : decode cX11_pendingPage 6 = .ok (.getfield 35, 3) := by decide +kernel
theorem dX11_pendingPage_9 : decode cX11_pendingPage 9 = .ok (.getfield 121, 3) := by decide +kernel
theorem dX11_pendingPage_12 : decode cX11_pendingPage 12 = .ok (.invokevirtual 305, 3) := by decide +kernel
theorem dX11_pendingPage_15 : decode cX11_pendingPage 15 = .ok (.if_icmp .ge 7, 3) := by decide +kernel
theorem dX11_pendingPage_18 : decode cX11_pendingPage 18 = .ok (.iconst 1, 1) := by decide +kernel
theorem dX11_pendingPage_19 : decode cX11_pendingPage 19 = .ok (.goto 4, 3) := by decide +kernel
theorem dX11_pendingPage_22 : decode cX11_pendingPage 22 = .ok (.iconst 0, 1) := by decide +kernel
theorem dX11_pendingPage_23 : decode cX11_pendingPage 23 = .ok (.invokestatic 214, 3) := by decide +kernel
theorem dX11_pendingPage_26 : decode cX11_pendingPage 26 = .ok (.aload_n 0, 1) := by decide +kernel
theorem dX11_pendingPage_27 : decode cX11_pendingPage 27 = .ok (.getfield 35, 3) := by decide +kernel
theorem dX11_pendingPage_30 : decode cX11_pendingPage 30 = .ok (.getfield 121, 3) := by decide +kernel
theorem dX11_pendingPage_33 : decode cX11_pendingPage 33 = .ok (.iload_n 1, 1) := by decide +kernel
theorem dX11_pendingPage_34 : decode cX11_pendingPage 34 = .ok (.invokevirtual 308, 3) := by decide +kernel
theorem dX11_pendingPage_37 : decode cX11_pendingPage 37 = .ok (.ireturn, 1) := by decide +kernel
theorem dX11_checkpointEpoch_0 : decode cX11_checkpointEpoch 0 = .ok (.aload_n 0, 1) := by decide +kernel
theorem dX11_checkpointEpoch_1 : decode cX11_checkpointEpoch 1 = .ok (.getfield 35, 3) := by decide +kernel
theorem dX11_checkpointEpoch_4 : decode cX11_checkpointEpoch 4 = .ok (.getfield 90, 3) := by decide +kernel
theorem dX11_checkpointEpoch_7 : decode cX11_checkpointEpoch 7 = .ok (.iload_n 1, 1) := by decide +kernel
theorem dX11_checkpointEpoch_8 : decode cX11_checkpointEpoch 8 = .ok (.invokevirtual 210, 3) := by decide +kernel
theorem dX11_checkpointEpoch_11 : decode cX11_checkpointEpoch 11 = .ok (.invokestatic 214, 3) := by decide +kernel
theorem dX11_checkpointEpoch_14 : decode cX11_checkpointEpoch 14 = .ok (.aload_n 0, 1) := by decide +kernel
theorem dX11_checkpointEpoch_15 : decode cX11_checkpointEpoch 15 = .ok (.getfield 35, 3) := by decide +kernel
theorem dX11_checkpointEpoch_18 : decode cX11_checkpointEpoch 18 = .ok (.getfield 121, 3) := by decide +kernel
theorem dX11_checkpointEpoch_21 : decode cX11_checkpointEpoch 21 = .ok (.getfield 311, 3) := by decide +kernel
theorem dX11_checkpointEpoch_24 : decode cX11_checkpointEpoch 24 = .ok (.iload_n 1, 1) := by decide +kernel
theorem dX11_checkpointEpoch_25 : decode cX11_checkpointEpoch 25 = .ok (.iaload, 1) := by decide +kernel
theorem dX11_checkpointEpoch_26 : decode cX11_checkpointEpoch 26 = .ok (.ireturn, 1) := by decide +kernel
theorem dX11_checkpointSlot_0 : decode cX11_checkpointSlot 0 = .ok (.aload_n 0, 1) := by decide +kernel
theorem dX11_checkpointSlot_1 : decode cX11_checkpointSlot 1 = .ok (.getfield 35, 3) := by decide +kernel
theorem dX11_checkpointSlot_4 : decode cX11_checkpointSlot 4 = .ok (.getfield 90, 3) := by decide +kernel
theorem dX11_checkpointSlot_7 : decode cX11_checkpointSlot 7 = .ok (.iload_n 1, 1) := by decide +kernel
theorem dX11_checkpointSlot_8 : decode cX11_checkpointSlot 8 = .ok (.iload_n 2, 1) := by decide +kernel
theorem dX11_checkpointSlot_9 : decode cX11_checkpointSlot 9 = .ok (.invokevirtual 224, 3) := by decide +kernel
theorem dX11_checkpointSlot_12 : decode cX11_checkpointSlot 12 = .ok (.invokestatic 214, 3) := by decide +kernel
theorem dX11_checkpointSlot_15 : decode cX11_checkpointSlot 15 = .ok (.aload_n 0, 1) := by decide +kernel
theorem dX11_checkpointSlot_16 : decode cX11_checkpointSlot 16 = .ok (.getfield 35, 3) := by decide +kernel
theorem dX11_checkpointSlot_19 : decode cX11_checkpointSlot 19 = .ok (.getfield 121, 3) := by decide +kernel
theorem dX11_checkpointSlot_22 : decode cX11_checkpointSlot 22 = .ok (.getfield 311, 3) := by decide +kernel
theorem dX11_checkpointSlot_25 : decode cX11_checkpointSlot 25 = .ok (.iload_n 1, 1) := by decide +kernel
theorem dX11_checkpointSlot_26 : decode cX11_checkpointSlot 26 = .ok (.iaload, 1) := by decide +kernel
theorem dX11_checkpointSlot_27 : decode cX11_checkpointSlot 27 = .ok (.iconst (-1), 1) := by decide +kernel
theorem dX11_checkpointSlot_28 : decode cX11_checkpointSlot 28 = .ok (.if_icmp .eq 7, 3) := by decide +kernel
theorem dX11_checkpointSlot_31 : decode cX11_checkpointSlot 31 = .ok (.iconst 1, 1) := by decide +kernel
theorem dX11_checkpointSlot_32 : decode cX11_checkpointSlot 32 = .ok (.goto 4, 3) := by decide +kernel
theorem dX11_checkpointSlot_35 : decode cX11_checkpointSlot 35 = .ok (.iconst 0, 1) := by decide +kernel
theorem dX11_checkpointSlot_36 : decode cX11_checkpointSlot 36 = .ok (.invokestatic 254, 3) := by decide +kernel
theorem dX11_checkpointSlot_39 : decode cX11_checkpointSlot 39 = .ok (.aload_n 0, 1) := by decide +kernel
theorem dX11_checkpointSlot_40 : decode cX11_checkpointSlot 40 = .ok (.getfield 35, 3) := by decide +kernel
theorem dX11_checkpointSlot_43 : decode cX11_checkpointSlot 43 = .ok (.getfield 121, 3) := by decide +kernel
theorem dX11_checkpointSlot_46 : decode cX11_checkpointSlot 46 = .ok (.getfield 314, 3) := by decide +kernel
theorem dX11_checkpointSlot_49 : decode cX11_checkpointSlot 49 = .ok (.iload_n 1, 1) := by decide +kernel
theorem dX11_checkpointSlot_50 : decode cX11_checkpointSlot 50 = .ok (.iload_n 2, 1) := by decide +kernel
theorem dX11_checkpointSlot_51 : decode cX11_checkpointSlot 51 = .ok (.invokestatic 140, 3) := by decide +kernel
theorem dX11_checkpointSlot_54 : decode cX11_checkpointSlot 54 = .ok (.iaload, 1) := by decide +kernel
theorem dX11_checkpointSlot_55 : decode cX11_checkpointSlot 55 = .ok (.ireturn, 1) := by decide +kernel
theorem dX11_checkpointValue_0 : decode cX11_checkpointValue 0 = .ok (.aload_n 0, 1) := by decide +kernel
theorem dX11_checkpointValue_1 : decode cX11_checkpointValue 1 = .ok (.getfield 35, 3) := by decide +kernel
theorem dX11_checkpointValue_4 : decode cX11_checkpointValue 4 = .ok (.getfield 90, 3) := by decide +kernel
theorem dX11_checkpointValue_7 : decode cX11_checkpointValue 7 = .ok (.iload_n 1, 1) := by decide +kernel
theorem dX11_checkpointValue_8 : decode cX11_checkpointValue 8 = .ok (.iload_n 2, 1) := by decide +kernel
theorem dX11_checkpointValue_9 : decode cX11_checkpointValue 9 = .ok (.invokevirtual 224, 3) := by decide +kernel
theorem dX11_checkpointValue_12 : decode cX11_checkpointValue 12 = .ok (.invokestatic 214, 3) := by decide +kernel
theorem dX11_checkpointValue_15 : decode cX11_checkpointValue 15 = .ok (.aload_n 0, 1) := by decide +kernel
theorem dX11_checkpointValue_16 : decode cX11_checkpointValue 16 = .ok (.getfield 35, 3) := by decide +kernel
theorem dX11_checkpointValue_19 : decode cX11_checkpointValue 19 = .ok (.getfield 121, 3) := by decide +kernel
theorem dX11_checkpointValue_22 : decode cX11_checkpointValue 22 = .ok (.getfield 311, 3) := by decide +kernel
theorem dX11_checkpointValue_25 : decode cX11_checkpointValue 25 = .ok (.iload_n 1, 1) := by decide +kernel
theorem dX11_checkpointValue_26 : decode cX11_checkpointValue 26 = .ok (.iaload, 1) := by decide +kernel
theorem dX11_checkpointValue_27 : decode cX11_checkpointValue 27 = .ok (.iconst (-1), 1) := by decide +kernel
theorem dX11_checkpointValue_28 : decode cX11_checkpointValue 28 = .ok (.if_icmp .eq 7, 3) := by decide +kernel
theorem dX11_checkpointValue_31 : decode cX11_checkpointValue 31 = .ok (.iconst 1, 1) := by decide +kernel
theorem dX11_checkpointValue_32 : decode cX11_checkpointValue 32 = .ok (.goto 4, 3) := by decide +kernel
theorem dX11_checkpointValue_35 : decode cX11_checkpointValue 35 = .ok (.iconst 0, 1) := by decide +kernel
theorem dX11_checkpointValue_36 : decode cX11_checkpointValue 36 = .ok (.invokestatic 254, 3) := by decide +kernel
theorem dX11_checkpointValue_39 : decode cX11_checkpointValue 39 = .ok (.aload_n 0, 1) := by decide +kernel
theorem dX11_checkpointValue_40 : decode cX11_checkpointValue 40 = .ok (.getfield 35, 3) := by decide +kernel
theorem dX11_checkpointValue_43 : decode cX11_checkpointValue 43 = .ok (.iload_n 1, 1) := by decide +kernel
theorem dX11_checkpointValue_44 : decode cX11_checkpointValue 44 = .ok (.iload_n 2, 1) := by decide +kernel
theorem dX11_checkpointValue_45 : decode cX11_checkpointValue 45 = .ok (.invokestatic 140, 3) := by decide +kernel
theorem dX11_checkpointValue_48 : decode cX11_checkpointValue 48 = .ok (.invokevirtual 317, 3) := by decide +kernel
theorem dX11_checkpointValue_51 : decode cX11_checkpointValue 51 = .ok (.ireturn, 1) := by decide +kernel
theorem dX11_wouldWrite_0 : decode cX11_wouldWrite 0 = .ok (.aload_n 0, 1) := by decide +kernel
theorem dX11_wouldWrite_1 : decode cX11_wouldWrite 1 = .ok (.getfield 35, 3) := by decide +kernel
theorem dX11_wouldWrite_4 : decode cX11_wouldWrite 4 = .ok (.getfield 90, 3) := by decide +kernel
theorem dX11_wouldWrite_7 : decode cX11_wouldWrite 7 = .ok (.iload_n 1, 1) := by decide +kernel
theorem dX11_wouldWrite_8 : decode cX11_wouldWrite 8 = .ok (.invokevirtual 320, 3) := by decide +kernel
theorem dX11_wouldWrite_11 : decode cX11_wouldWrite 11 = .ok (.invokestatic 79, 3) := by decide +kernel
theorem dX11_wouldWrite_14 : decode cX11_wouldWrite 14 = .ok (.aload_n 0, 1) := by decide +kernel
theorem dX11_wouldWrite_15 : decode cX11_wouldWrite 15 = .ok (.getfield 35, 3) := by decide +kernel
theorem dX11_wouldWrite_18 : decode cX11_wouldWrite 18 = .ok (.getfield 90, 3) := by decide +kernel
theorem dX11_wouldWrite_21 : decode cX11_wouldWrite 21 = .ok (.iload_n 1, 1) := by decide +kernel
theorem dX11_wouldWrite_22 : decode cX11_wouldWrite 22 = .ok (.invokevirtual 323, 3) := by decide +kernel
theorem dX11_wouldWrite_25 : decode cX11_wouldWrite 25 = .ok (.ireturn, 1) := by decide +kernel
theorem dX11_wouldFree_0 : decode cX11_wouldFree 0 = .ok (.aload_n 0, 1) := by decide +kernel
theorem dX11_wouldFree_1 : decode cX11_wouldFree 1 = .ok (.getfield 35, 3) := by decide +kernel
theorem dX11_wouldFree_4 : decode cX11_wouldFree 4 = .ok (.iload_n 1, 1) := by decide +kernel
theorem dX11_wouldFree_5 : decode cX11_wouldFree 5 = .ok (.invokevirtual 156, 3) := by decide +kernel
theorem dX11_wouldFree_8 : decode cX11_wouldFree 8 = .ok (.invokestatic 134, 3) := by decide +kernel
theorem dX11_wouldFree_11 : decode cX11_wouldFree 11 = .ok (.aload_n 0, 1) := by decide +kernel
theorem dX11_wouldFree_12 : decode cX11_wouldFree 12 = .ok (.getfield 35, 3) := by decide +kernel
theorem dX11_wouldFree_15 : decode cX11_wouldFree 15 = .ok (.iload_n 1, 1) := by decide +kernel
theorem dX11_wouldFree_16 : decode cX11_wouldFree 16 = .ok (.invokevirtual 326, 3) := by decide +kernel
theorem dX11_wouldFree_19 : decode cX11_wouldFree 19 = .ok (.ireturn, 1) := by decide +kernel
theorem dX11_bestBarrier_0 : decode cX11_bestBarrier 0 = .ok (.iload_n 1, 1) := by decide +kernel
theorem dX11_bestBarrier_1 : decode cX11_bestBarrier 1 = .ok (.ifCond .lt 13, 3) := by decide +kernel
theorem dX11_bestBarrier_4 : decode cX11_bestBarrier 4 = .ok (.iload_n 1, 1) := by decide +kernel
theorem dX11_bestBarrier_5 : decode cX11_bestBarrier 5 = .ok (.bipush 48, 2) := by decide +kernel
theorem dX11_bestBarrier_7 : decode cX11_bestBarrier 7 = .ok (.if_icmp .gt 7, 3) := by decide +kernel
theorem dX11_bestBarrier_10 : decode cX11_bestBarrier 10 = .ok (.iconst 1, 1) := by decide +kernel
theorem dX11_bestBarrier_11 : decode cX11_bestBarrier 11 = .ok (.goto 4, 3) := by decide +kernel
theorem dX11_bestBarrier_14 : decode cX11_bestBarrier 14 = .ok (.iconst 0, 1) := by decide +kernel
theorem dX11_bestBarrier_15 : decode cX11_bestBarrier 15 = .ok (.invokestatic 79, 3) := by decide +kernel
theorem dX11_bestBarrier_18 : decode cX11_bestBarrier 18 = .ok (.aload_n 0, 1) := by decide +kernel
theorem dX11_bestBarrier_19 : decode cX11_bestBarrier 19 = .ok (.getfield 35, 3) := by decide +kernel
theorem dX11_bestBarrier_22 : decode cX11_bestBarrier 22 = .ok (.getfield 121, 3) := by decide +kernel
theorem dX11_bestBarrier_25 : decode cX11_bestBarrier 25 = .ok (.getfield 302, 3) := by decide +kernel
theorem dX11_bestBarrier_28 : decode cX11_bestBarrier 28 = .ok (.ifCond .eq 14, 3) := by decide +kernel
theorem dX11_bestBarrier_31 : decode cX11_bestBarrier 31 = .ok (.new 68, 3) := by decide +kernel
theorem dX11_bestBarrier_34 : decode cX11_bestBarrier 34 = .ok (.dup, 1) := by decide +kernel
theorem dX11_bestBarrier_35 : decode cX11_bestBarrier 35 = .ok (.ldc_w 329, 3) := by decide +kernel
theorem dX11_bestBarrier_38 : decode cX11_bestBarrier 38 = .ok (.invokespecial 72, 3) := by decide +kernel
theorem dX11_bestBarrier_41 : decode cX11_bestBarrier 41 = .ok (.athrow, 1) := by decide +kernel
theorem dX11_bestBarrier_42 : decode cX11_bestBarrier 42 = .ok (.aload_n 0, 1) := by decide +kernel
theorem dX11_bestBarrier_43 : decode cX11_bestBarrier 43 = .ok (.getfield 35, 3) := by decide +kernel
theorem dX11_bestBarrier_46 : decode cX11_bestBarrier 46 = .ok (.iload_n 1, 1) := by decide +kernel
theorem dX11_bestBarrier_47 : decode cX11_bestBarrier 47 = .ok (.invokevirtual 331, 3) := by decide +kernel
theorem dX11_bestBarrier_50 : decode cX11_bestBarrier 50 = .ok (.ireturn, 1) := by decide +kernel
theorem dX11_lostPages_0 : decode cX11_lostPages 0 = .ok (.aload_n 0, 1) := by decide +kernel
theorem dX11_lostPages_1 : decode cX11_lostPages 1 = .ok (.getfield 35, 3) := by decide +kernel
theorem dX11_lostPages_4 : decode cX11_lostPages 4 = .ok (.getfield 90, 3) := by decide +kernel
theorem dX11_lostPages_7 : decode cX11_lostPages 7 = .ok (.iload_n 1, 1) := by decide +kernel
theorem dX11_lostPages_8 : decode cX11_lostPages 8 = .ok (.invokevirtual 210, 3) := by decide +kernel
theorem dX11_lostPages_11 : decode cX11_lostPages 11 = .ok (.invokestatic 214, 3) := by decide +kernel
theorem dX11_lostPages_14 : decode cX11_lostPages 14 = .ok (.aload_n 0, 1) := by decide +kernel
theorem dX11_lostPages_15 : decode cX11_lostPages 15 = .ok (.getfield 35, 3) := by decide +kernel
theorem dX11_lostPages_18 : decode cX11_lostPages 18 = .ok (.iload_n 1, 1) := by decide +kernel
theorem dX11_lostPages_19 : decode cX11_lostPages 19 = .ok (.invokevirtual 334, 3) := by decide +kernel
theorem dX11_lostPages_22 : decode cX11_lostPages 22 = .ok (.ireturn, 1) := by decide +kernel
theorem dX11_barrierLog_0 : decode cX11_barrierLog 0 = .ok (.iload_n 1, 1) := by decide +kernel
theorem dX11_barrierLog_1 : decode cX11_barrierLog 1 = .ok (.ifCond .lt 21, 3) := by decide +kernel
theorem dX11_barrierLog_4 : decode cX11_barrierLog 4 = .ok (.iload_n 1, 1) := by decide +kernel
theorem dX11_barrierLog_5 : decode cX11_barrierLog 5 = .ok (.aload_n 0, 1) := by decide +kernel
theorem dX11_barrierLog_6 : decode cX11_barrierLog 6 = .ok (.getfield 35, 3) := by decide +kernel
theorem dX11_barrierLog_9 : decode cX11_barrierLog 9 = .ok (.getfield 121, 3) := by decide +kernel
theorem dX11_barrierLog_12 : decode cX11_barrierLog 12 = .ok (.invokevirtual 337, 3) := by decide +kernel
theorem dX11_barrierLog_15 : decode cX11_barrierLog 15 = .ok (.if_icmp .ge 7, 3) := by decide +kernel
theorem dX11_barrierLog_18 : decode cX11_barrierLog 18 = .ok (.iconst 1, 1) := by decide +kernel
theorem dX11_barrierLog_19 : decode cX11_barrierLog 19 = .ok (.goto 4, 3) := by decide +kernel
theorem dX11_barrierLog_22 : decode cX11_barrierLog 22 = .ok (.iconst 0, 1) := by decide +kernel
theorem dX11_barrierLog_23 : decode cX11_barrierLog 23 = .ok (.invokestatic 214, 3) := by decide +kernel
theorem dX11_barrierLog_26 : decode cX11_barrierLog 26 = .ok (.iload_n 2, 1) := by decide +kernel
theorem dX11_barrierLog_27 : decode cX11_barrierLog 27 = .ok (.ifCond .lt 12, 3) := by decide +kernel
theorem dX11_barrierLog_30 : decode cX11_barrierLog 30 = .ok (.iload_n 2, 1) := by decide +kernel
theorem dX11_barrierLog_31 : decode cX11_barrierLog 31 = .ok (.iconst 4, 1) := by decide +kernel
theorem dX11_barrierLog_32 : decode cX11_barrierLog 32 = .ok (.if_icmp .ge 7, 3) := by decide +kernel
theorem dX11_barrierLog_35 : decode cX11_barrierLog 35 = .ok (.iconst 1, 1) := by decide +kernel
theorem dX11_barrierLog_36 : decode cX11_barrierLog 36 = .ok (.goto 4, 3) := by decide +kernel
theorem dX11_barrierLog_39 : decode cX11_barrierLog 39 = .ok (.iconst 0, 1) := by decide +kernel
theorem dX11_barrierLog_40 : decode cX11_barrierLog 40 = .ok (.invokestatic 79, 3) := by decide +kernel
theorem dX11_barrierLog_43 : decode cX11_barrierLog 43 = .ok (.aload_n 0, 1) := by decide +kernel
theorem dX11_barrierLog_44 : decode cX11_barrierLog 44 = .ok (.getfield 35, 3) := by decide +kernel
theorem dX11_barrierLog_47 : decode cX11_barrierLog 47 = .ok (.getfield 121, 3) := by decide +kernel
theorem dX11_barrierLog_50 : decode cX11_barrierLog 50 = .ok (.iload_n 1, 1) := by decide +kernel
theorem dX11_barrierLog_51 : decode cX11_barrierLog 51 = .ok (.iload_n 2, 1) := by decide +kernel
theorem dX11_barrierLog_52 : decode cX11_barrierLog 52 = .ok (.invokevirtual 340, 3) := by decide +kernel
theorem dX11_barrierLog_55 : decode cX11_barrierLog 55 = .ok (.ireturn, 1) := by decide +kernel
theorem dX11_recentAccess_0 : decode cX11_recentAccess 0 = .ok (.iload_n 1, 1) := by decide +kernel
theorem dX11_recentAccess_1 : decode cX11_recentAccess 1 = .ok (.ifCond .lt 21, 3) := by decide +kernel
theorem dX11_recentAccess_4 : decode cX11_recentAccess 4 = .ok (.iload_n 1, 1) := by decide +kernel
theorem dX11_recentAccess_5 : decode cX11_recentAccess 5 = .ok (.aload_n 0, 1) := by decide +kernel
theorem dX11_recentAccess_6 : decode cX11_recentAccess 6 = .ok (.getfield 35, 3) := by decide +kernel
theorem dX11_recentAccess_9 : decode cX11_recentAccess 9 = .ok (.getfield 343, 3) := by decide +kernel
theorem dX11_recentAccess_12 : decode cX11_recentAccess 12 = .ok (.invokevirtual 347, 3) := by decide +kernel
theorem dX11_recentAccess_15 : decode cX11_recentAccess 15 = .ok (.if_icmp .ge 7, 3) := by decide +kernel
theorem dX11_recentAccess_18 : decode cX11_recentAccess 18 = .ok (.iconst 1, 1) := by decide +kernel
theorem dX11_recentAccess_19 : decode cX11_recentAccess 19 = .ok (.goto 4, 3) := by decide +kernel
theorem dX11_recentAccess_22 : decode cX11_recentAccess 22 = .ok (.iconst 0, 1) := by decide +kernel
theorem dX11_recentAccess_23 : decode cX11_recentAccess 23 = .ok (.invokestatic 214, 3) := by decide +kernel
theorem dX11_recentAccess_26 : decode cX11_recentAccess 26 = .ok (.aload_n 0, 1) := by decide +kernel
theorem dX11_recentAccess_27 : decode cX11_recentAccess 27 = .ok (.getfield 35, 3) := by decide +kernel
theorem dX11_recentAccess_30 : decode cX11_recentAccess 30 = .ok (.getfield 343, 3) := by decide +kernel
theorem dX11_recentAccess_33 : decode cX11_recentAccess 33 = .ok (.iload_n 1, 1) := by decide +kernel
theorem dX11_recentAccess_34 : decode cX11_recentAccess 34 = .ok (.invokevirtual 352, 3) := by decide +kernel
theorem dX11_recentAccess_37 : decode cX11_recentAccess 37 = .ok (.ireturn, 1) := by decide +kernel
theorem dX11_faultsWith_0 : decode cX11_faultsWith 0 = .ok (.iload_n 1, 1) := by decide +kernel
theorem dX11_faultsWith_1 : decode cX11_faultsWith 1 = .ok (.iconst 1, 1) := by decide +kernel
theorem dX11_faultsWith_2 : decode cX11_faultsWith 2 = .ok (.if_icmp .lt 13, 3) := by decide +kernel
theorem dX11_faultsWith_5 : decode cX11_faultsWith 5 = .ok (.iload_n 1, 1) := by decide +kernel
theorem dX11_faultsWith_6 : decode cX11_faultsWith 6 = .ok (.bipush 16, 2) := by decide +kernel
theorem dX11_faultsWith_8 : decode cX11_faultsWith 8 = .ok (.if_icmp .gt 7, 3) := by decide +kernel
theorem dX11_faultsWith_11 : decode cX11_faultsWith 11 = .ok (.iconst 1, 1) := by decide +kernel
theorem dX11_faultsWith_12 : decode cX11_faultsWith 12 = .ok (.goto 4, 3) := by decide +kernel
theorem dX11_faultsWith_15 : decode cX11_faultsWith 15 = .ok (.iconst 0, 1) := by decide +kernel
theorem dX11_faultsWith_16 : decode cX11_faultsWith 16 = .ok (.invokestatic 79, 3) := by decide +kernel
theorem dX11_faultsWith_19 : decode cX11_faultsWith 19 = .ok (.iload_n 2, 1) := by decide +kernel
theorem dX11_faultsWith_20 : decode cX11_faultsWith 20 = .ok (.ifCond .lt 12, 3) := by decide +kernel
theorem dX11_faultsWith_23 : decode cX11_faultsWith 23 = .ok (.iload_n 2, 1) := by decide +kernel
theorem dX11_faultsWith_24 : decode cX11_faultsWith 24 = .ok (.iconst 2, 1) := by decide +kernel
theorem dX11_faultsWith_25 : decode cX11_faultsWith 25 = .ok (.if_icmp .gt 7, 3) := by decide +kernel
theorem dX11_faultsWith_28 : decode cX11_faultsWith 28 = .ok (.iconst 1, 1) := by decide +kernel
theorem dX11_faultsWith_29 : decode cX11_faultsWith 29 = .ok (.goto 4, 3) := by decide +kernel
theorem dX11_faultsWith_32 : decode cX11_faultsWith 32 = .ok (.iconst 0, 1) := by decide +kernel
theorem dX11_faultsWith_33 : decode cX11_faultsWith 33 = .ok (.invokestatic 79, 3) := by decide +kernel
theorem dX11_faultsWith_36 : decode cX11_faultsWith 36 = .ok (.aload_n 0, 1) := by decide +kernel
theorem dX11_faultsWith_37 : decode cX11_faultsWith 37 = .ok (.getfield 53, 3) := by decide +kernel
theorem dX11_faultsWith_40 : decode cX11_faultsWith 40 = .ok (.aload_n 0, 1) := by decide +kernel
theorem dX11_faultsWith_41 : decode cX11_faultsWith 41 = .ok (.getfield 35, 3) := by decide +kernel
theorem dX11_faultsWith_44 : decode cX11_faultsWith 44 = .ok (.getfield 343, 3) := by decide +kernel
theorem dX11_faultsWith_47 : decode cX11_faultsWith 47 = .ok (.iload_n 1, 1) := by decide +kernel
theorem dX11_faultsWith_48 : decode cX11_faultsWith 48 = .ok (.iload_n 2, 1) := by decide +kernel
theorem dX11_faultsWith_49 : decode cX11_faultsWith 49 = .ok (.invokevirtual 355, 3) := by decide +kernel
theorem dX11_faultsWith_52 : decode cX11_faultsWith 52 = .ok (.ireturn, 1) := by decide +kernel
theorem dX11_leastFrames_0 : decode cX11_leastFrames 0 = .ok (.iload_n 1, 1) := by decide +kernel
theorem dX11_leastFrames_1 : decode cX11_leastFrames 1 = .ok (.ifCond .lt 13, 3) := by decide +kernel
theorem dX11_leastFrames_4 : decode cX11_leastFrames 4 = .ok (.iload_n 1, 1) := by decide +kernel
theorem dX11_leastFrames_5 : decode cX11_leastFrames 5 = .ok (.bipush 64, 2) := by decide +kernel
theorem dX11_leastFrames_7 : decode cX11_leastFrames 7 = .ok (.if_icmp .gt 7, 3) := by decide +kernel
theorem dX11_leastFrames_10 : decode cX11_leastFrames 10 = .ok (.iconst 1, 1) := by decide +kernel
theorem dX11_leastFrames_11 : decode cX11_leastFrames 11 = .ok (.goto 4, 3) := by decide +kernel
theorem dX11_leastFrames_14 : decode cX11_leastFrames 14 = .ok (.iconst 0, 1) := by decide +kernel
theorem dX11_leastFrames_15 : decode cX11_leastFrames 15 = .ok (.invokestatic 79, 3) := by decide +kernel
theorem dX11_leastFrames_18 : decode cX11_leastFrames 18 = .ok (.aload_n 0, 1) := by decide +kernel
theorem dX11_leastFrames_19 : decode cX11_leastFrames 19 = .ok (.getfield 53, 3) := by decide +kernel
theorem dX11_leastFrames_22 : decode cX11_leastFrames 22 = .ok (.aload_n 0, 1) := by decide +kernel
theorem dX11_leastFrames_23 : decode cX11_leastFrames 23 = .ok (.getfield 35, 3) := by decide +kernel
theorem dX11_leastFrames_26 : decode cX11_leastFrames 26 = .ok (.getfield 343, 3) := by decide +kernel
theorem dX11_leastFrames_29 : decode cX11_leastFrames 29 = .ok (.iload_n 1, 1) := by decide +kernel
theorem dX11_leastFrames_30 : decode cX11_leastFrames 30 = .ok (.invokevirtual 359, 3) := by decide +kernel
theorem dX11_leastFrames_33 : decode cX11_leastFrames 33 = .ok (.istore_n 2, 1) := by decide +kernel
theorem dX11_leastFrames_34 : decode cX11_leastFrames 34 = .ok (.iload_n 2, 1) := by decide +kernel
theorem dX11_leastFrames_35 : decode cX11_leastFrames 35 = .ok (.iconst (-1), 1) := by decide +kernel
theorem dX11_leastFrames_36 : decode cX11_leastFrames 36 = .ok (.if_icmp .eq 7, 3) := by decide +kernel
theorem dX11_leastFrames_39 : decode cX11_leastFrames 39 = .ok (.iconst 1, 1) := by decide +kernel
theorem dX11_leastFrames_40 : decode cX11_leastFrames 40 = .ok (.goto 4, 3) := by decide +kernel
theorem dX11_leastFrames_43 : decode cX11_leastFrames 43 = .ok (.iconst 0, 1) := by decide +kernel
theorem dX11_leastFrames_44 : decode cX11_leastFrames 44 = .ok (.invokestatic 254, 3) := by decide +kernel
theorem dX11_leastFrames_47 : decode cX11_leastFrames 47 = .ok (.iload_n 2, 1) := by decide +kernel
theorem dX11_leastFrames_48 : decode cX11_leastFrames 48 = .ok (.ireturn, 1) := by decide +kernel
theorem dX11_workingSet_0 : decode cX11_workingSet 0 = .ok (.iload_n 1, 1) := by decide +kernel
theorem dX11_workingSet_1 : decode cX11_workingSet 1 = .ok (.iconst 1, 1) := by decide +kernel
theorem dX11_workingSet_2 : decode cX11_workingSet 2 = .ok (.if_icmp .lt 13, 3) := by decide +kernel
theorem dX11_workingSet_5 : decode cX11_workingSet 5 = .ok (.iload_n 1, 1) := by decide +kernel
theorem dX11_workingSet_6 : decode cX11_workingSet 6 = .ok (.bipush 64, 2) := by decide +kernel
theorem dX11_workingSet_8 : decode cX11_workingSet 8 = .ok (.if_icmp .gt 7, 3) := by decide +kernel
theorem dX11_workingSet_11 : decode cX11_workingSet 11 = .ok (.iconst 1, 1) := by decide +kernel
theorem dX11_workingSet_12 : decode cX11_workingSet 12 = .ok (.goto 4, 3) := by decide +kernel
theorem dX11_workingSet_15 : decode cX11_workingSet 15 = .ok (.iconst 0, 1) := by decide +kernel
theorem dX11_workingSet_16 : decode cX11_workingSet 16 = .ok (.invokestatic 79, 3) := by decide +kernel
theorem dX11_workingSet_19 : decode cX11_workingSet 19 = .ok (.aload_n 0, 1) := by decide +kernel
theorem dX11_workingSet_20 : decode cX11_workingSet 20 = .ok (.getfield 35, 3) := by decide +kernel
theorem dX11_workingSet_23 : decode cX11_workingSet 23 = .ok (.getfield 343, 3) := by decide +kernel
theorem dX11_workingSet_26 : decode cX11_workingSet 26 = .ok (.iload_n 1, 1) := by decide +kernel
theorem dX11_workingSet_27 : decode cX11_workingSet 27 = .ok (.invokevirtual 363, 3) := by decide +kernel
theorem dX11_workingSet_30 : decode cX11_workingSet 30 = .ok (.ireturn, 1) := by decide +kernel
theorem dX11_hottestPage_0 : decode cX11_hottestPage 0 = .ok (.aload_n 0, 1) := by decide +kernel
theorem dX11_hottestPage_1 : decode cX11_hottestPage 1 = .ok (.getfield 35, 3) := by decide +kernel
theorem dX11_hottestPage_4 : decode cX11_hottestPage 4 = .ok (.getfield 343, 3) := by decide +kernel
theorem dX11_hottestPage_7 : decode cX11_hottestPage 7 = .ok (.invokevirtual 347, 3) := by decide +kernel
theorem dX11_hottestPage_10 : decode cX11_hottestPage 10 = .ok (.ifCond .le 7, 3) := by decide +kernel
theorem dX11_hottestPage_13 : decode cX11_hottestPage 13 = .ok (.iconst 1, 1) := by decide +kernel
theorem dX11_hottestPage_14 : decode cX11_hottestPage 14 = .ok (.goto 4, 3) := by decide +kernel
theorem dX11_hottestPage_17 : decode cX11_hottestPage 17 = .ok (.iconst 0, 1) := by decide +kernel
theorem dX11_hottestPage_18 : decode cX11_hottestPage 18 = .ok (.invokestatic 254, 3) := by decide +kernel
theorem dX11_hottestPage_21 : decode cX11_hottestPage 21 = .ok (.aload_n 0, 1) := by decide +kernel
theorem dX11_hottestPage_22 : decode cX11_hottestPage 22 = .ok (.getfield 35, 3) := by decide +kernel
theorem dX11_hottestPage_25 : decode cX11_hottestPage 25 = .ok (.getfield 343, 3) := by decide +kernel
theorem dX11_hottestPage_28 : decode cX11_hottestPage 28 = .ok (.invokevirtual 366, 3) := by decide +kernel
theorem dX11_hottestPage_31 : decode cX11_hottestPage 31 = .ok (.ireturn, 1) := by decide +kernel
theorem dX11_hitRatioBits_0 : decode cX11_hitRatioBits 0 = .ok (.aload_n 0, 1) := by decide +kernel
theorem dX11_hitRatioBits_1 : decode cX11_hitRatioBits 1 = .ok (.getfield 35, 3) := by decide +kernel
theorem dX11_hitRatioBits_4 : decode cX11_hitRatioBits 4 = .ok (.getfield 343, 3) := by decide +kernel
theorem dX11_hitRatioBits_7 : decode cX11_hitRatioBits 7 = .ok (.getfield 369, 3) := by decide +kernel
theorem dX11_hitRatioBits_10 : decode cX11_hitRatioBits 10 = .ok (.istore_n 1, 1) := by decide +kernel
theorem dX11_hitRatioBits_11 : decode cX11_hitRatioBits 11 = .ok (.iload_n 1, 1) := by decide +kernel
theorem dX11_hitRatioBits_12 : decode cX11_hitRatioBits 12 = .ok (.ifCond .ne 14, 3) := by decide +kernel
theorem dX11_hitRatioBits_15 : decode cX11_hitRatioBits 15 = .ok (.new 370, 3) := by decide +kernel
theorem dX11_hitRatioBits_18 : decode cX11_hitRatioBits 18 = .ok (.dup, 1) := by decide +kernel
theorem dX11_hitRatioBits_19 : decode cX11_hitRatioBits 19 = .ok (.ldc_w 372, 3) := by decide +kernel
theorem dX11_hitRatioBits_22 : decode cX11_hitRatioBits 22 = .ok (.invokespecial 374, 3) := by decide +kernel
theorem dX11_hitRatioBits_25 : decode cX11_hitRatioBits 25 = .ok (.athrow, 1) := by decide +kernel
theorem dX11_hitRatioBits_26 : decode cX11_hitRatioBits 26 = .ok (.iload_n 1, 1) := by decide +kernel
theorem dX11_hitRatioBits_27 : decode cX11_hitRatioBits 27 = .ok (.aload_n 0, 1) := by decide +kernel
theorem dX11_hitRatioBits_28 : decode cX11_hitRatioBits 28 = .ok (.getfield 35, 3) := by decide +kernel
theorem dX11_hitRatioBits_31 : decode cX11_hitRatioBits 31 = .ok (.getfield 343, 3) := by decide +kernel
theorem dX11_hitRatioBits_34 : decode cX11_hitRatioBits 34 = .ok (.getfield 375, 3) := by decide +kernel
theorem dX11_hitRatioBits_37 : decode cX11_hitRatioBits 37 = .ok (.isub, 1) := by decide +kernel
theorem dX11_hitRatioBits_38 : decode cX11_hitRatioBits 38 = .ok (.i2f, 1) := by decide +kernel
theorem dX11_hitRatioBits_39 : decode cX11_hitRatioBits 39 = .ok (.iload_n 1, 1) := by decide +kernel
theorem dX11_hitRatioBits_40 : decode cX11_hitRatioBits 40 = .ok (.i2f, 1) := by decide +kernel
theorem dX11_hitRatioBits_41 : decode cX11_hitRatioBits 41 = .ok (.fdiv, 1) := by decide +kernel
theorem dX11_hitRatioBits_42 : decode cX11_hitRatioBits 42 = .ok (.invokestatic 378, 3) := by decide +kernel
theorem dX11_hitRatioBits_45 : decode cX11_hitRatioBits 45 = .ok (.ireturn, 1) := by decide +kernel
theorem dX11_total_0 : decode cX11_total 0 = .ok (.iload_n 1, 1) := by decide +kernel
theorem dX11_total_1 : decode cX11_total 1 = .ok (.tableswitch 149 0 7 #[47, 58, 69, 80, 91, 99, 117, 138], 47) := by decide +kernel
theorem dX11_total_48 : decode cX11_total 48 = .ok (.aload_n 0, 1) := by decide +kernel
theorem dX11_total_49 : decode cX11_total 49 = .ok (.getfield 35, 3) := by decide +kernel
theorem dX11_total_52 : decode cX11_total 52 = .ok (.getfield 343, 3) := by decide +kernel
theorem dX11_total_55 : decode cX11_total 55 = .ok (.getfield 369, 3) := by decide +kernel
theorem dX11_total_58 : decode cX11_total 58 = .ok (.ireturn, 1) := by decide +kernel
theorem dX11_total_59 : decode cX11_total 59 = .ok (.aload_n 0, 1) := by decide +kernel
theorem dX11_total_60 : decode cX11_total 60 = .ok (.getfield 35, 3) := by decide +kernel
theorem dX11_total_63 : decode cX11_total 63 = .ok (.getfield 343, 3) := by decide +kernel
theorem dX11_total_66 : decode cX11_total 66 = .ok (.getfield 375, 3) := by decide +kernel
theorem dX11_total_69 : decode cX11_total 69 = .ok (.ireturn, 1) := by decide +kernel
theorem dX11_total_70 : decode cX11_total 70 = .ok (.aload_n 0, 1) := by decide +kernel
theorem dX11_total_71 : decode cX11_total 71 = .ok (.getfield 35, 3) := by decide +kernel
theorem dX11_total_74 : decode cX11_total 74 = .ok (.getfield 114, 3) := by decide +kernel
theorem dX11_total_77 : decode cX11_total 77 = .ok (.getfield 382, 3) := by decide +kernel
theorem dX11_total_80 : decode cX11_total 80 = .ok (.ireturn, 1) := by decide +kernel
theorem dX11_total_81 : decode cX11_total 81 = .ok (.aload_n 0, 1) := by decide +kernel
theorem dX11_total_82 : decode cX11_total 82 = .ok (.getfield 35, 3) := by decide +kernel
theorem dX11_total_85 : decode cX11_total 85 = .ok (.getfield 121, 3) := by decide +kernel
theorem dX11_total_88 : decode cX11_total 88 = .ok (.getfield 385, 3) := by decide +kernel
theorem dX11_total_91 : decode cX11_total 91 = .ok (.ireturn, 1) := by decide +kernel
theorem dX11_total_92 : decode cX11_total 92 = .ok (.aload_n 0, 1) := by decide +kernel
theorem dX11_total_93 : decode cX11_total 93 = .ok (.getfield 35, 3) := by decide +kernel
theorem dX11_total_96 : decode cX11_total 96 = .ok (.getfield 388, 3) := by decide +kernel
theorem dX11_total_99 : decode cX11_total 99 = .ok (.ireturn, 1) := by decide +kernel
theorem dX11_total_100 : decode cX11_total 100 = .ok (.aload_n 0, 1) := by decide +kernel
theorem dX11_total_101 : decode cX11_total 101 = .ok (.getfield 35, 3) := by decide +kernel
theorem dX11_total_104 : decode cX11_total 104 = .ok (.aload_n 0, 1) := by decide +kernel
theorem dX11_total_105 : decode cX11_total 105 = .ok (.getfield 35, 3) := by decide +kernel
theorem dX11_total_108 : decode cX11_total 108 = .ok (.getfield 90, 3) := by decide +kernel
theorem dX11_total_111 : decode cX11_total 111 = .ok (.invokevirtual 391, 3) := by decide +kernel
theorem dX11_total_114 : decode cX11_total 114 = .ok (.invokevirtual 394, 3) := by decide +kernel
theorem dX11_total_117 : decode cX11_total 117 = .ok (.ireturn, 1) := by decide +kernel
theorem dX11_total_118 : decode cX11_total 118 = .ok (.aload_n 0, 1) := by decide +kernel
theorem dX11_total_119 : decode cX11_total 119 = .ok (.getfield 35, 3) := by decide +kernel
theorem dX11_total_122 : decode cX11_total 122 = .ok (.getfield 90, 3) := by decide +kernel
theorem dX11_total_125 : decode cX11_total 125 = .ok (.aload_n 0, 1) := by decide +kernel
theorem dX11_total_126 : decode cX11_total 126 = .ok (.getfield 35, 3) := by decide +kernel
theorem dX11_total_129 : decode cX11_total 129 = .ok (.getfield 90, 3) := by decide +kernel
theorem dX11_total_132 : decode cX11_total 132 = .ok (.invokevirtual 391, 3) := by decide +kernel
theorem dX11_total_135 : decode cX11_total 135 = .ok (.invokevirtual 323, 3) := by decide +kernel
theorem dX11_total_138 : decode cX11_total 138 = .ok (.ireturn, 1) := by decide +kernel
theorem dX11_total_139 : decode cX11_total 139 = .ok (.aload_n 0, 1) := by decide +kernel
theorem dX11_total_140 : decode cX11_total 140 = .ok (.getfield 35, 3) := by decide +kernel
theorem dX11_total_143 : decode cX11_total 143 = .ok (.getfield 105, 3) := by decide +kernel
theorem dX11_total_146 : decode cX11_total 146 = .ok (.getfield 153, 3) := by decide +kernel
theorem dX11_total_149 : decode cX11_total 149 = .ok (.ireturn, 1) := by decide +kernel
theorem dX11_total_150 : decode cX11_total 150 = .ok (.new 397, 3) := by decide +kernel
theorem dX11_total_153 : decode cX11_total 153 = .ok (.dup, 1) := by decide +kernel
theorem dX11_total_154 : decode cX11_total 154 = .ok (.ldc_w 399, 3) := by decide +kernel
theorem dX11_total_157 : decode cX11_total 157 = .ok (.invokespecial 401, 3) := by decide +kernel
theorem dX11_total_160 : decode cX11_total 160 = .ok (.athrow, 1) := by decide +kernel
theorem dX11_writeReport_0 : decode cX11_writeReport 0 = .ok (.aload_n 0, 1) := by decide +kernel
theorem dX11_writeReport_1 : decode cX11_writeReport 1 = .ok (.getfield 60, 3) := by decide +kernel
theorem dX11_writeReport_4 : decode cX11_writeReport 4 = .ok (.iconst 0, 1) := by decide +kernel
theorem dX11_writeReport_5 : decode cX11_writeReport 5 = .ok (.invokevirtual 402, 3) := by decide +kernel
theorem dX11_writeReport_8 : decode cX11_writeReport 8 = .ok (.aload_n 0, 1) := by decide +kernel
theorem dX11_writeReport_9 : decode cX11_writeReport 9 = .ok (.getfield 60, 3) := by decide +kernel
theorem dX11_writeReport_12 : decode cX11_writeReport 12 = .ok (.ldc_w 405, 3) := by decide +kernel
theorem dX11_writeReport_15 : decode cX11_writeReport 15 = .ok (.invokevirtual 407, 3) := by decide +kernel
theorem dX11_writeReport_18 : decode cX11_writeReport 18 = .ok (.pop, 1) := by decide +kernel
theorem dX11_writeReport_19 : decode cX11_writeReport 19 = .ok (.aload_n 0, 1) := by decide +kernel
theorem dX11_writeReport_20 : decode cX11_writeReport 20 = .ok (.getfield 60, 3) := by decide +kernel
theorem dX11_writeReport_23 : decode cX11_writeReport 23 = .ok (.aload_n 0, 1) := by decide +kernel
theorem dX11_writeReport_24 : decode cX11_writeReport 24 = .ok (.getfield 35, 3) := by decide +kernel
theorem dX11_writeReport_27 : decode cX11_writeReport 27 = .ok (.getfield 121, 3) := by decide +kernel
theorem dX11_writeReport_30 : decode cX11_writeReport 30 = .ok (.getfield 125, 3) := by decide +kernel
theorem dX11_writeReport_33 : decode cX11_writeReport 33 = .ok (.invokevirtual 411, 3) := by decide +kernel
theorem dX11_writeReport_36 : decode cX11_writeReport 36 = .ok (.pop, 1) := by decide +kernel
theorem dX11_writeReport_37 : decode cX11_writeReport 37 = .ok (.aload_n 0, 1) := by decide +kernel
theorem dX11_writeReport_38 : decode cX11_writeReport 38 = .ok (.getfield 60, 3) := by decide +kernel
theorem dX11_writeReport_41 : decode cX11_writeReport 41 = .ok (.ldc_w 414, 3) := by decide +kernel
theorem dX11_writeReport_44 : decode cX11_writeReport 44 = .ok (.invokevirtual 407, 3) := by decide +kernel
theorem dX11_writeReport_47 : decode cX11_writeReport 47 = .ok (.pop, 1) := by decide +kernel
theorem dX11_writeReport_48 : decode cX11_writeReport 48 = .ok (.aload_n 0, 1) := by decide +kernel
theorem dX11_writeReport_49 : decode cX11_writeReport 49 = .ok (.getfield 60, 3) := by decide +kernel
theorem dX11_writeReport_52 : decode cX11_writeReport 52 = .ok (.aload_n 0, 1) := by decide +kernel
theorem dX11_writeReport_53 : decode cX11_writeReport 53 = .ok (.getfield 35, 3) := by decide +kernel
theorem dX11_writeReport_56 : decode cX11_writeReport 56 = .ok (.invokevirtual 287, 3) := by decide +kernel
theorem dX11_writeReport_59 : decode cX11_writeReport 59 = .ok (.invokevirtual 411, 3) := by decide +kernel
theorem dX11_writeReport_62 : decode cX11_writeReport 62 = .ok (.pop, 1) := by decide +kernel
theorem dX11_writeReport_63 : decode cX11_writeReport 63 = .ok (.aload_n 0, 1) := by decide +kernel
theorem dX11_writeReport_64 : decode cX11_writeReport 64 = .ok (.getfield 60, 3) := by decide +kernel
theorem dX11_writeReport_67 : decode cX11_writeReport 67 = .ok (.ldc_w 416, 3) := by decide +kernel
theorem dX11_writeReport_70 : decode cX11_writeReport 70 = .ok (.invokevirtual 407, 3) := by decide +kernel
theorem dX11_writeReport_73 : decode cX11_writeReport 73 = .ok (.pop, 1) := by decide +kernel
theorem dX11_writeReport_74 : decode cX11_writeReport 74 = .ok (.aload_n 0, 1) := by decide +kernel
theorem dX11_writeReport_75 : decode cX11_writeReport 75 = .ok (.getfield 60, 3) := by decide +kernel
theorem dX11_writeReport_78 : decode cX11_writeReport 78 = .ok (.aload_n 0, 1) := by decide +kernel
theorem dX11_writeReport_79 : decode cX11_writeReport 79 = .ok (.getfield 35, 3) := by decide +kernel
theorem dX11_writeReport_82 : decode cX11_writeReport 82 = .ok (.getfield 343, 3) := by decide +kernel
theorem dX11_writeReport_85 : decode cX11_writeReport 85 = .ok (.getfield 369, 3) := by decide +kernel
theorem dX11_writeReport_88 : decode cX11_writeReport 88 = .ok (.invokevirtual 411, 3) := by decide +kernel
theorem dX11_writeReport_91 : decode cX11_writeReport 91 = .ok (.pop, 1) := by decide +kernel
theorem dX11_writeReport_92 : decode cX11_writeReport 92 = .ok (.aload_n 0, 1) := by decide +kernel
theorem dX11_writeReport_93 : decode cX11_writeReport 93 = .ok (.getfield 60, 3) := by decide +kernel
theorem dX11_writeReport_96 : decode cX11_writeReport 96 = .ok (.bipush 10, 2) := by decide +kernel
theorem dX11_writeReport_98 : decode cX11_writeReport 98 = .ok (.invokevirtual 418, 3) := by decide +kernel
theorem dX11_writeReport_101 : decode cX11_writeReport 101 = .ok (.pop, 1) := by decide +kernel
theorem dX11_writeReport_102 : decode cX11_writeReport 102 = .ok (.iconst 0, 1) := by decide +kernel
theorem dX11_writeReport_103 : decode cX11_writeReport 103 = .ok (.istore_n 1, 1) := by decide +kernel
theorem dX11_writeReport_104 : decode cX11_writeReport 104 = .ok (.iload_n 1, 1) := by decide +kernel
theorem dX11_writeReport_105 : decode cX11_writeReport 105 = .ok (.aload_n 0, 1) := by decide +kernel
theorem dX11_writeReport_106 : decode cX11_writeReport 106 = .ok (.getfield 35, 3) := by decide +kernel
theorem dX11_writeReport_109 : decode cX11_writeReport 109 = .ok (.getfield 90, 3) := by decide +kernel
theorem dX11_writeReport_112 : decode cX11_writeReport 112 = .ok (.getfield 94, 3) := by decide +kernel
theorem dX11_writeReport_115 : decode cX11_writeReport 115 = .ok (.if_icmp .ge 14, 3) := by decide +kernel
theorem dX11_writeReport_118 : decode cX11_writeReport 118 = .ok (.aload_n 0, 1) := by decide +kernel
theorem dX11_writeReport_119 : decode cX11_writeReport 119 = .ok (.iload_n 1, 1) := by decide +kernel
theorem dX11_writeReport_120 : decode cX11_writeReport 120 = .ok (.invokevirtual 421, 3) := by decide +kernel
theorem dX11_writeReport_123 : decode cX11_writeReport 123 = .ok (.iinc 1 1, 3) := by decide +kernel
theorem dX11_writeReport_126 : decode cX11_writeReport 126 = .ok (.goto (-22), 3) := by decide +kernel
theorem dX11_writeReport_129 : decode cX11_writeReport 129 = .ok (.aload_n 0, 1) := by decide +kernel
theorem dX11_writeReport_130 : decode cX11_writeReport 130 = .ok (.getfield 60, 3) := by decide +kernel
theorem dX11_writeReport_133 : decode cX11_writeReport 133 = .ok (.invokevirtual 424, 3) := by decide +kernel
theorem dX11_writeReport_136 : decode cX11_writeReport 136 = .ok (.ireturn, 1) := by decide +kernel
theorem dX11_reportByte_0 : decode cX11_reportByte 0 = .ok (.iload_n 1, 1) := by decide +kernel
