theorem dX11_reportByte_1 : decode cX11_reportByte 1 = .ok (.ifCond .lt 18, 3) := by decide +kernel
theorem dX11_reportByte_4 : decode cX11_reportByte 4 = .ok (.iload_n 1, 1) := by decide +kernel
theorem dX11_reportByte_5 : decode cX11_reportByte 5 = .ok (.aload_n 0, 1) := by decide +kernel
theorem dX11_reportByte_6 : decode cX11_reportByte 6 = .ok (.getfield 60, 3) := by decide +kernel
theorem dX11_reportByte_9 : decode cX11_reportByte 9 = .ok (.invokevirtual 424, 3) := by decide +kernel
theorem dX11_reportByte_12 : decode cX11_reportByte 12 = .ok (.if_icmp .ge 7, 3) := by decide +kernel
theorem dX11_reportByte_15 : decode cX11_reportByte 15 = .ok (.iconst 1, 1) := by decide +kernel
theorem dX11_reportByte_16 : decode cX11_reportByte 16 = .ok (.goto 4, 3) := by decide +kernel
theorem dX11_reportByte_19 : decode cX11_reportByte 19 = .ok (.iconst 0, 1) := by decide +kernel
theorem dX11_reportByte_20 : decode cX11_reportByte 20 = .ok (.invokestatic 214, 3) := by decide +kernel
theorem dX11_reportByte_23 : decode cX11_reportByte 23 = .ok (.aload_n 0, 1) := by decide +kernel
theorem dX11_reportByte_24 : decode cX11_reportByte 24 = .ok (.getfield 60, 3) := by decide +kernel
theorem dX11_reportByte_27 : decode cX11_reportByte 27 = .ok (.iload_n 1, 1) := by decide +kernel
theorem dX11_reportByte_28 : decode cX11_reportByte 28 = .ok (.invokevirtual 426, 3) := by decide +kernel
theorem dX11_reportByte_31 : decode cX11_reportByte 31 = .ok (.ireturn, 1) := by decide +kernel
theorem dX11_undo_0 : decode cX11_undo 0 = .ok (.aload_n 0, 1) := by decide +kernel
theorem dX11_undo_1 : decode cX11_undo 1 = .ok (.getfield 46, 3) := by decide +kernel
theorem dX11_undo_4 : decode cX11_undo 4 = .ok (.getfield 430, 3) := by decide +kernel
theorem dX11_undo_7 : decode cX11_undo 7 = .ok (.ifCond .ne 14, 3) := by decide +kernel
theorem dX11_undo_10 : decode cX11_undo 10 = .ok (.new 68, 3) := by decide +kernel
theorem dX11_undo_13 : decode cX11_undo 13 = .ok (.dup, 1) := by decide +kernel
theorem dX11_undo_14 : decode cX11_undo 14 = .ok (.ldc_w 433, 3) := by decide +kernel
theorem dX11_undo_17 : decode cX11_undo 17 = .ok (.invokespecial 72, 3) := by decide +kernel
theorem dX11_undo_20 : decode cX11_undo 20 = .ok (.athrow, 1) := by decide +kernel
theorem dX11_undo_21 : decode cX11_undo 21 = .ok (.aload_n 0, 1) := by decide +kernel
theorem dX11_undo_22 : decode cX11_undo 22 = .ok (.getfield 46, 3) := by decide +kernel
theorem dX11_undo_25 : decode cX11_undo 25 = .ok (.aload_n 0, 1) := by decide +kernel
theorem dX11_undo_26 : decode cX11_undo 26 = .ok (.getfield 35, 3) := by decide +kernel
theorem dX11_undo_29 : decode cX11_undo 29 = .ok (.invokevirtual 435, 3) := by decide +kernel
theorem dX11_undo_32 : decode cX11_undo 32 = .ok (.aload_n 0, 1) := by decide +kernel
theorem dX11_undo_33 : decode cX11_undo 33 = .ok (.getfield 46, 3) := by decide +kernel
theorem dX11_undo_36 : decode cX11_undo 36 = .ok (.getfield 430, 3) := by decide +kernel
theorem dX11_undo_39 : decode cX11_undo 39 = .ok (.ireturn, 1) := by decide +kernel
theorem dX11_undoDepth_0 : decode cX11_undoDepth 0 = .ok (.aload_n 0, 1) := by decide +kernel
theorem dX11_undoDepth_1 : decode cX11_undoDepth 1 = .ok (.getfield 46, 3) := by decide +kernel
theorem dX11_undoDepth_4 : decode cX11_undoDepth 4 = .ok (.getfield 430, 3) := by decide +kernel
theorem dX11_undoDepth_7 : decode cX11_undoDepth 7 = .ok (.ireturn, 1) := by decide +kernel
theorem dX11_idOf_0 : decode cX11_idOf 0 = .ok (.bipush 8, 2) := by decide +kernel
theorem dX11_idOf_2 : decode cX11_idOf 2 = .ok (.iload_n 0, 1) := by decide +kernel
theorem dX11_idOf_3 : decode cX11_idOf 3 = .ok (.imul, 1) := by decide +kernel
theorem dX11_idOf_4 : decode cX11_idOf 4 = .ok (.iload_n 1, 1) := by decide +kernel
theorem dX11_idOf_5 : decode cX11_idOf 5 = .ok (.iadd, 1) := by decide +kernel
theorem dX11_idOf_6 : decode cX11_idOf 6 = .ok (.ireturn, 1) := by decide +kernel
theorem dX11_remember_0 : decode cX11_remember 0 = .ok (.aload_n 0, 1) := by decide +kernel
theorem dX11_remember_1 : decode cX11_remember 1 = .ok (.getfield 46, 3) := by decide +kernel
theorem dX11_remember_4 : decode cX11_remember 4 = .ok (.aload_n 0, 1) := by decide +kernel
theorem dX11_remember_5 : decode cX11_remember 5 = .ok (.getfield 35, 3) := by decide +kernel
theorem dX11_remember_8 : decode cX11_remember 8 = .ok (.invokevirtual 196, 3) := by decide +kernel
theorem dX11_remember_11 : decode cX11_remember 11 = .ok (.aload_n 0, 1) := by decide +kernel
theorem dX11_remember_12 : decode cX11_remember 12 = .ok (.getfield 46, 3) := by decide +kernel
theorem dX11_remember_15 : decode cX11_remember 15 = .ok (.invokevirtual 204, 3) := by decide +kernel
theorem dX11_remember_18 : decode cX11_remember 18 = .ok (.return_, 1) := by decide +kernel
theorem dX11_demand_0 : decode cX11_demand 0 = .ok (.iload_n 0, 1) := by decide +kernel
theorem dX11_demand_1 : decode cX11_demand 1 = .ok (.tableswitch 90 1 5 #[35, 46, 57, 68, 79], 35) := by decide +kernel
theorem dX11_demand_36 : decode cX11_demand 36 = .ok (.new 438, 3) := by decide +kernel
theorem dX11_demand_39 : decode cX11_demand 39 = .ok (.dup, 1) := by decide +kernel
theorem dX11_demand_40 : decode cX11_demand 40 = .ok (.ldc_w 440, 3) := by decide +kernel
theorem dX11_demand_43 : decode cX11_demand 43 = .ok (.invokespecial 442, 3) := by decide +kernel
theorem dX11_demand_46 : decode cX11_demand 46 = .ok (.athrow, 1) := by decide +kernel
theorem dX11_demand_47 : decode cX11_demand 47 = .ok (.new 397, 3) := by decide +kernel
theorem dX11_demand_50 : decode cX11_demand 50 = .ok (.dup, 1) := by decide +kernel
theorem dX11_demand_51 : decode cX11_demand 51 = .ok (.ldc_w 443, 3) := by decide +kernel
theorem dX11_demand_54 : decode cX11_demand 54 = .ok (.invokespecial 401, 3) := by decide +kernel
theorem dX11_demand_57 : decode cX11_demand 57 = .ok (.athrow, 1) := by decide +kernel
theorem dX11_demand_58 : decode cX11_demand 58 = .ok (.new 68, 3) := by decide +kernel
theorem dX11_demand_61 : decode cX11_demand 61 = .ok (.dup, 1) := by decide +kernel
theorem dX11_demand_62 : decode cX11_demand 62 = .ok (.ldc_w 445, 3) := by decide +kernel
theorem dX11_demand_65 : decode cX11_demand 65 = .ok (.invokespecial 72, 3) := by decide +kernel
theorem dX11_demand_68 : decode cX11_demand 68 = .ok (.athrow, 1) := by decide +kernel
theorem dX11_demand_69 : decode cX11_demand 69 = .ok (.new 447, 3) := by decide +kernel
theorem dX11_demand_72 : decode cX11_demand 72 = .ok (.dup, 1) := by decide +kernel
theorem dX11_demand_73 : decode cX11_demand 73 = .ok (.ldc_w 449, 3) := by decide +kernel
theorem dX11_demand_76 : decode cX11_demand 76 = .ok (.invokespecial 451, 3) := by decide +kernel
theorem dX11_demand_79 : decode cX11_demand 79 = .ok (.athrow, 1) := by decide +kernel
theorem dX11_demand_80 : decode cX11_demand 80 = .ok (.new 231, 3) := by decide +kernel
theorem dX11_demand_83 : decode cX11_demand 83 = .ok (.dup, 1) := by decide +kernel
theorem dX11_demand_84 : decode cX11_demand 84 = .ok (.ldc_w 452, 3) := by decide +kernel
theorem dX11_demand_87 : decode cX11_demand 87 = .ok (.invokespecial 235, 3) := by decide +kernel
theorem dX11_demand_90 : decode cX11_demand 90 = .ok (.athrow, 1) := by decide +kernel
theorem dX11_demand_91 : decode cX11_demand 91 = .ok (.return_, 1) := by decide +kernel
theorem dX11_demandIndex_0 : decode cX11_demandIndex 0 = .ok (.iload_n 0, 1) := by decide +kernel
theorem dX11_demandIndex_1 : decode cX11_demandIndex 1 = .ok (.ifCond .eq 7, 3) := by decide +kernel
theorem dX11_demandIndex_4 : decode cX11_demandIndex 4 = .ok (.iconst 0, 1) := by decide +kernel
theorem dX11_demandIndex_5 : decode cX11_demandIndex 5 = .ok (.goto 4, 3) := by decide +kernel
theorem dX11_demandIndex_8 : decode cX11_demandIndex 8 = .ok (.iconst 1, 1) := by decide +kernel
theorem dX11_demandIndex_9 : decode cX11_demandIndex 9 = .ok (.invokestatic 134, 3) := by decide +kernel
theorem dX11_demandIndex_12 : decode cX11_demandIndex 12 = .ok (.return_, 1) := by decide +kernel
theorem dX11_demandArgument_0 : decode cX11_demandArgument 0 = .ok (.iload_n 0, 1) := by decide +kernel
theorem dX11_demandArgument_1 : decode cX11_demandArgument 1 = .ok (.ifCond .eq 7, 3) := by decide +kernel
theorem dX11_demandArgument_4 : decode cX11_demandArgument 4 = .ok (.iconst 0, 1) := by decide +kernel
theorem dX11_demandArgument_5 : decode cX11_demandArgument 5 = .ok (.goto 4, 3) := by decide +kernel
theorem dX11_demandArgument_8 : decode cX11_demandArgument 8 = .ok (.iconst 2, 1) := by decide +kernel
theorem dX11_demandArgument_9 : decode cX11_demandArgument 9 = .ok (.invokestatic 134, 3) := by decide +kernel
theorem dX11_demandArgument_12 : decode cX11_demandArgument 12 = .ok (.return_, 1) := by decide +kernel
theorem dX11_demandElement_0 : decode cX11_demandElement 0 = .ok (.iload_n 0, 1) := by decide +kernel
theorem dX11_demandElement_1 : decode cX11_demandElement 1 = .ok (.ifCond .eq 7, 3) := by decide +kernel
theorem dX11_demandElement_4 : decode cX11_demandElement 4 = .ok (.iconst 0, 1) := by decide +kernel
theorem dX11_demandElement_5 : decode cX11_demandElement 5 = .ok (.goto 4, 3) := by decide +kernel
theorem dX11_demandElement_8 : decode cX11_demandElement 8 = .ok (.iconst 4, 1) := by decide +kernel
theorem dX11_demandElement_9 : decode cX11_demandElement 9 = .ok (.invokestatic 134, 3) := by decide +kernel
theorem dX11_demandElement_12 : decode cX11_demandElement 12 = .ok (.return_, 1) := by decide +kernel
theorem dX11_reportProcess_0 : decode cX11_reportProcess 0 = .ok (.aload_n 0, 1) := by decide +kernel
theorem dX11_reportProcess_1 : decode cX11_reportProcess 1 = .ok (.getfield 60, 3) := by decide +kernel
theorem dX11_reportProcess_4 : decode cX11_reportProcess 4 = .ok (.ldc_w 454, 3) := by decide +kernel
theorem dX11_reportProcess_7 : decode cX11_reportProcess 7 = .ok (.invokevirtual 407, 3) := by decide +kernel
theorem dX11_reportProcess_10 : decode cX11_reportProcess 10 = .ok (.pop, 1) := by decide +kernel
theorem dX11_reportProcess_11 : decode cX11_reportProcess 11 = .ok (.aload_n 0, 1) := by decide +kernel
theorem dX11_reportProcess_12 : decode cX11_reportProcess 12 = .ok (.getfield 60, 3) := by decide +kernel
theorem dX11_reportProcess_15 : decode cX11_reportProcess 15 = .ok (.iload_n 1, 1) := by decide +kernel
theorem dX11_reportProcess_16 : decode cX11_reportProcess 16 = .ok (.invokevirtual 411, 3) := by decide +kernel
theorem dX11_reportProcess_19 : decode cX11_reportProcess 19 = .ok (.pop, 1) := by decide +kernel
theorem dX11_reportProcess_20 : decode cX11_reportProcess 20 = .ok (.aload_n 0, 1) := by decide +kernel
theorem dX11_reportProcess_21 : decode cX11_reportProcess 21 = .ok (.getfield 60, 3) := by decide +kernel
theorem dX11_reportProcess_24 : decode cX11_reportProcess 24 = .ok (.aload_n 0, 1) := by decide +kernel
theorem dX11_reportProcess_25 : decode cX11_reportProcess 25 = .ok (.getfield 35, 3) := by decide +kernel
theorem dX11_reportProcess_28 : decode cX11_reportProcess 28 = .ok (.getfield 90, 3) := by decide +kernel
theorem dX11_reportProcess_31 : decode cX11_reportProcess 31 = .ok (.getfield 221, 3) := by decide +kernel
theorem dX11_reportProcess_34 : decode cX11_reportProcess 34 = .ok (.iload_n 1, 1) := by decide +kernel
theorem dX11_reportProcess_35 : decode cX11_reportProcess 35 = .ok (.iaload, 1) := by decide +kernel
theorem dX11_reportProcess_36 : decode cX11_reportProcess 36 = .ok (.iconst 1, 1) := by decide +kernel
theorem dX11_reportProcess_37 : decode cX11_reportProcess 37 = .ok (.if_icmp .ne 9, 3) := by decide +kernel
theorem dX11_reportProcess_40 : decode cX11_reportProcess 40 = .ok (.ldc_w 456, 3) := by decide +kernel
theorem dX11_reportProcess_43 : decode cX11_reportProcess 43 = .ok (.goto 6, 3) := by decide +kernel
theorem dX11_reportProcess_46 : decode cX11_reportProcess 46 = .ok (.ldc_w 458, 3) := by decide +kernel
theorem dX11_reportProcess_49 : decode cX11_reportProcess 49 = .ok (.invokevirtual 407, 3) := by decide +kernel
theorem dX11_reportProcess_52 : decode cX11_reportProcess 52 = .ok (.pop, 1) := by decide +kernel
theorem dX11_reportProcess_53 : decode cX11_reportProcess 53 = .ok (.aload_n 0, 1) := by decide +kernel
theorem dX11_reportProcess_54 : decode cX11_reportProcess 54 = .ok (.getfield 60, 3) := by decide +kernel
theorem dX11_reportProcess_57 : decode cX11_reportProcess 57 = .ok (.ldc_w 460, 3) := by decide +kernel
theorem dX11_reportProcess_60 : decode cX11_reportProcess 60 = .ok (.invokevirtual 407, 3) := by decide +kernel
theorem dX11_reportProcess_63 : decode cX11_reportProcess 63 = .ok (.pop, 1) := by decide +kernel
theorem dX11_reportProcess_64 : decode cX11_reportProcess 64 = .ok (.aload_n 0, 1) := by decide +kernel
theorem dX11_reportProcess_65 : decode cX11_reportProcess 65 = .ok (.getfield 35, 3) := by decide +kernel
theorem dX11_reportProcess_68 : decode cX11_reportProcess 68 = .ok (.getfield 121, 3) := by decide +kernel
theorem dX11_reportProcess_71 : decode cX11_reportProcess 71 = .ok (.getfield 311, 3) := by decide +kernel
theorem dX11_reportProcess_74 : decode cX11_reportProcess 74 = .ok (.iload_n 1, 1) := by decide +kernel
theorem dX11_reportProcess_75 : decode cX11_reportProcess 75 = .ok (.iaload, 1) := by decide +kernel
theorem dX11_reportProcess_76 : decode cX11_reportProcess 76 = .ok (.istore_n 2, 1) := by decide +kernel
theorem dX11_reportProcess_77 : decode cX11_reportProcess 77 = .ok (.iload_n 2, 1) := by decide +kernel
theorem dX11_reportProcess_78 : decode cX11_reportProcess 78 = .ok (.iconst (-1), 1) := by decide +kernel
theorem dX11_reportProcess_79 : decode cX11_reportProcess 79 = .ok (.if_icmp .ne 17, 3) := by decide +kernel
theorem dX11_reportProcess_82 : decode cX11_reportProcess 82 = .ok (.aload_n 0, 1) := by decide +kernel
theorem dX11_reportProcess_83 : decode cX11_reportProcess 83 = .ok (.getfield 60, 3) := by decide +kernel
theorem dX11_reportProcess_86 : decode cX11_reportProcess 86 = .ok (.ldc_w 462, 3) := by decide +kernel
theorem dX11_reportProcess_89 : decode cX11_reportProcess 89 = .ok (.invokevirtual 407, 3) := by decide +kernel
theorem dX11_reportProcess_92 : decode cX11_reportProcess 92 = .ok (.pop, 1) := by decide +kernel
theorem dX11_reportProcess_93 : decode cX11_reportProcess 93 = .ok (.goto 12, 3) := by decide +kernel
theorem dX11_reportProcess_96 : decode cX11_reportProcess 96 = .ok (.aload_n 0, 1) := by decide +kernel
theorem dX11_reportProcess_97 : decode cX11_reportProcess 97 = .ok (.getfield 60, 3) := by decide +kernel
theorem dX11_reportProcess_100 : decode cX11_reportProcess 100 = .ok (.iload_n 2, 1) := by decide +kernel
theorem dX11_reportProcess_101 : decode cX11_reportProcess 101 = .ok (.invokevirtual 411, 3) := by decide +kernel
theorem dX11_reportProcess_104 : decode cX11_reportProcess 104 = .ok (.pop, 1) := by decide +kernel
theorem dX11_reportProcess_105 : decode cX11_reportProcess 105 = .ok (.iconst 0, 1) := by decide +kernel
theorem dX11_reportProcess_106 : decode cX11_reportProcess 106 = .ok (.istore_n 3, 1) := by decide +kernel
theorem dX11_reportProcess_107 : decode cX11_reportProcess 107 = .ok (.iload_n 3, 1) := by decide +kernel
theorem dX11_reportProcess_108 : decode cX11_reportProcess 108 = .ok (.aload_n 0, 1) := by decide +kernel
theorem dX11_reportProcess_109 : decode cX11_reportProcess 109 = .ok (.getfield 35, 3) := by decide +kernel
theorem dX11_reportProcess_112 : decode cX11_reportProcess 112 = .ok (.getfield 90, 3) := by decide +kernel
theorem dX11_reportProcess_115 : decode cX11_reportProcess 115 = .ok (.getfield 217, 3) := by decide +kernel
theorem dX11_reportProcess_118 : decode cX11_reportProcess 118 = .ok (.iload_n 1, 1) := by decide +kernel
theorem dX11_reportProcess_119 : decode cX11_reportProcess 119 = .ok (.iaload, 1) := by decide +kernel
theorem dX11_reportProcess_120 : decode cX11_reportProcess 120 = .ok (.if_icmp .ge 42, 3) := by decide +kernel
theorem dX11_reportProcess_123 : decode cX11_reportProcess 123 = .ok (.aload_n 0, 1) := by decide +kernel
theorem dX11_reportProcess_124 : decode cX11_reportProcess 124 = .ok (.getfield 60, 3) := by decide +kernel
theorem dX11_reportProcess_127 : decode cX11_reportProcess 127 = .ok (.bipush 32, 2) := by decide +kernel
theorem dX11_reportProcess_129 : decode cX11_reportProcess 129 = .ok (.invokevirtual 418, 3) := by decide +kernel
theorem dX11_reportProcess_132 : decode cX11_reportProcess 132 = .ok (.pop, 1) := by decide +kernel
theorem dX11_reportProcess_133 : decode cX11_reportProcess 133 = .ok (.aload_n 0, 1) := by decide +kernel
theorem dX11_reportProcess_134 : decode cX11_reportProcess 134 = .ok (.getfield 60, 3) := by decide +kernel
theorem dX11_reportProcess_137 : decode cX11_reportProcess 137 = .ok (.aload_n 0, 1) := by decide +kernel
theorem dX11_reportProcess_138 : decode cX11_reportProcess 138 = .ok (.getfield 35, 3) := by decide +kernel
theorem dX11_reportProcess_141 : decode cX11_reportProcess 141 = .ok (.getfield 90, 3) := by decide +kernel
theorem dX11_reportProcess_144 : decode cX11_reportProcess 144 = .ok (.iload_n 1, 1) := by decide +kernel
theorem dX11_reportProcess_145 : decode cX11_reportProcess 145 = .ok (.iload_n 3, 1) := by decide +kernel
theorem dX11_reportProcess_146 : decode cX11_reportProcess 146 = .ok (.invokestatic 140, 3) := by decide +kernel
theorem dX11_reportProcess_149 : decode cX11_reportProcess 149 = .ok (.invokevirtual 240, 3) := by decide +kernel
theorem dX11_reportProcess_152 : decode cX11_reportProcess 152 = .ok (.invokevirtual 411, 3) := by decide +kernel
theorem dX11_reportProcess_155 : decode cX11_reportProcess 155 = .ok (.pop, 1) := by decide +kernel
theorem dX11_reportProcess_156 : decode cX11_reportProcess 156 = .ok (.iinc 3 1, 3) := by decide +kernel
theorem dX11_reportProcess_159 : decode cX11_reportProcess 159 = .ok (.goto (-52), 3) := by decide +kernel
theorem dX11_reportProcess_162 : decode cX11_reportProcess 162 = .ok (.aload_n 0, 1) := by decide +kernel
theorem dX11_reportProcess_163 : decode cX11_reportProcess 163 = .ok (.getfield 60, 3) := by decide +kernel
theorem dX11_reportProcess_166 : decode cX11_reportProcess 166 = .ok (.bipush 10, 2) := by decide +kernel
theorem dX11_reportProcess_168 : decode cX11_reportProcess 168 = .ok (.invokevirtual 418, 3) := by decide +kernel
theorem dX11_reportProcess_171 : decode cX11_reportProcess 171 = .ok (.pop, 1) := by decide +kernel
theorem dX11_reportProcess_172 : decode cX11_reportProcess 172 = .ok (.return_, 1) := by decide +kernel
theorem dX11_isNanPattern_0 : decode cX11_isNanPattern 0 = .ok (.iload_n 0, 1) := by decide +kernel
theorem dX11_isNanPattern_1 : decode cX11_isNanPattern 1 = .ok (.ldc_w 464, 3) := by decide +kernel
theorem dX11_isNanPattern_4 : decode cX11_isNanPattern 4 = .ok (.iand, 1) := by decide +kernel
theorem dX11_isNanPattern_5 : decode cX11_isNanPattern 5 = .ok (.ldc_w 464, 3) := by decide +kernel
theorem dX11_isNanPattern_8 : decode cX11_isNanPattern 8 = .ok (.if_icmp .ne 15, 3) := by decide +kernel
theorem dX11_isNanPattern_11 : decode cX11_isNanPattern 11 = .ok (.iload_n 0, 1) := by decide +kernel
theorem dX11_isNanPattern_12 : decode cX11_isNanPattern 12 = .ok (.ldc_w 465, 3) := by decide +kernel
theorem dX11_isNanPattern_15 : decode cX11_isNanPattern 15 = .ok (.iand, 1) := by decide +kernel
theorem dX11_isNanPattern_16 : decode cX11_isNanPattern 16 = .ok (.ifCond .eq 7, 3) := by decide +kernel
theorem dX11_isNanPattern_19 : decode cX11_isNanPattern 19 = .ok (.iconst 1, 1) := by decide +kernel
theorem dX11_isNanPattern_20 : decode cX11_isNanPattern 20 = .ok (.goto 4, 3) := by decide +kernel
theorem dX11_isNanPattern_23 : decode cX11_isNanPattern 23 = .ok (.iconst 0, 1) := by decide +kernel
theorem dX11_isNanPattern_24 : decode cX11_isNanPattern 24 = .ok (.ireturn, 1) := by decide +kernel
theorem dX11_floatOfBits_0 : decode cX11_floatOfBits 0 = .ok (.iload_n 0, 1) := by decide +kernel
theorem dX11_floatOfBits_1 : decode cX11_floatOfBits 1 = .ok (.invokestatic 466, 3) := by decide +kernel
theorem dX11_floatOfBits_4 : decode cX11_floatOfBits 4 = .ok (.ifCond .eq 7, 3) := by decide +kernel
theorem dX11_floatOfBits_7 : decode cX11_floatOfBits 7 = .ok (.ldc_w 469, 3) := by decide +kernel
theorem dX11_floatOfBits_10 : decode cX11_floatOfBits 10 = .ok (.freturn, 1) := by decide +kernel
theorem dX11_floatOfBits_11 : decode cX11_floatOfBits 11 = .ok (.iload_n 0, 1) := by decide +kernel
theorem dX11_floatOfBits_12 : decode cX11_floatOfBits 12 = .ok (.ldc_w 464, 3) := by decide +kernel
theorem dX11_floatOfBits_15 : decode cX11_floatOfBits 15 = .ok (.iand, 1) := by decide +kernel
theorem dX11_floatOfBits_16 : decode cX11_floatOfBits 16 = .ok (.bipush 23, 2) := by decide +kernel
theorem dX11_floatOfBits_18 : decode cX11_floatOfBits 18 = .ok (.ishr, 1) := by decide +kernel
theorem dX11_floatOfBits_19 : decode cX11_floatOfBits 19 = .ok (.istore_n 1, 1) := by decide +kernel
theorem dX11_floatOfBits_20 : decode cX11_floatOfBits 20 = .ok (.iload_n 0, 1) := by decide +kernel
theorem dX11_floatOfBits_21 : decode cX11_floatOfBits 21 = .ok (.ldc_w 465, 3) := by decide +kernel
theorem dX11_floatOfBits_24 : decode cX11_floatOfBits 24 = .ok (.iand, 1) := by decide +kernel
theorem dX11_floatOfBits_25 : decode cX11_floatOfBits 25 = .ok (.istore_n 2, 1) := by decide +kernel
theorem dX11_floatOfBits_26 : decode cX11_floatOfBits 26 = .ok (.iload_n 1, 1) := by decide +kernel
theorem dX11_floatOfBits_27 : decode cX11_floatOfBits 27 = .ok (.ifCond .ne 7, 3) := by decide +kernel
theorem dX11_floatOfBits_30 : decode cX11_floatOfBits 30 = .ok (.iload_n 2, 1) := by decide +kernel
theorem dX11_floatOfBits_31 : decode cX11_floatOfBits 31 = .ok (.goto 8, 3) := by decide +kernel
theorem dX11_floatOfBits_34 : decode cX11_floatOfBits 34 = .ok (.iload_n 2, 1) := by decide +kernel
theorem dX11_floatOfBits_35 : decode cX11_floatOfBits 35 = .ok (.ldc_w 470, 3) := by decide +kernel
theorem dX11_floatOfBits_38 : decode cX11_floatOfBits 38 = .ok (.iadd, 1) := by decide +kernel
theorem dX11_floatOfBits_39 : decode cX11_floatOfBits 39 = .ok (.i2f, 1) := by decide +kernel
theorem dX11_floatOfBits_40 : decode cX11_floatOfBits 40 = .ok (.fstore_n 3, 1) := by decide +kernel
theorem dX11_floatOfBits_41 : decode cX11_floatOfBits 41 = .ok (.iload_n 1, 1) := by decide +kernel
theorem dX11_floatOfBits_42 : decode cX11_floatOfBits 42 = .ok (.ifCond .ne 7, 3) := by decide +kernel
theorem dX11_floatOfBits_45 : decode cX11_floatOfBits 45 = .ok (.iconst 1, 1) := by decide +kernel
theorem dX11_floatOfBits_46 : decode cX11_floatOfBits 46 = .ok (.goto 4, 3) := by decide +kernel
theorem dX11_floatOfBits_49 : decode cX11_floatOfBits 49 = .ok (.iload_n 1, 1) := by decide +kernel
theorem dX11_floatOfBits_50 : decode cX11_floatOfBits 50 = .ok (.sipush 150, 3) := by decide +kernel
theorem dX11_floatOfBits_53 : decode cX11_floatOfBits 53 = .ok (.isub, 1) := by decide +kernel
theorem dX11_floatOfBits_54 : decode cX11_floatOfBits 54 = .ok (.istore 4, 2) := by decide +kernel
theorem dX11_floatOfBits_56 : decode cX11_floatOfBits 56 = .ok (.iconst 0, 1) := by decide +kernel
theorem dX11_floatOfBits_57 : decode cX11_floatOfBits 57 = .ok (.istore 5, 2) := by decide +kernel
theorem dX11_floatOfBits_59 : decode cX11_floatOfBits 59 = .ok (.iload 5, 2) := by decide +kernel
theorem dX11_floatOfBits_61 : decode cX11_floatOfBits 61 = .ok (.iload 4, 2) := by decide +kernel
theorem dX11_floatOfBits_63 : decode cX11_floatOfBits 63 = .ok (.if_icmp .ge 13, 3) := by decide +kernel
theorem dX11_floatOfBits_66 : decode cX11_floatOfBits 66 = .ok (.fload_n 3, 1) := by decide +kernel
theorem dX11_floatOfBits_67 : decode cX11_floatOfBits 67 = .ok (.fconst 2, 1) := by decide +kernel
theorem dX11_floatOfBits_68 : decode cX11_floatOfBits 68 = .ok (.fmul, 1) := by decide +kernel
theorem dX11_floatOfBits_69 : decode cX11_floatOfBits 69 = .ok (.fstore_n 3, 1) := by decide +kernel
theorem dX11_floatOfBits_70 : decode cX11_floatOfBits 70 = .ok (.iinc 5 1, 3) := by decide +kernel
theorem dX11_floatOfBits_73 : decode cX11_floatOfBits 73 = .ok (.goto (-14), 3) := by decide +kernel
theorem dX11_floatOfBits_76 : decode cX11_floatOfBits 76 = .ok (.iconst 0, 1) := by decide +kernel
theorem dX11_floatOfBits_77 : decode cX11_floatOfBits 77 = .ok (.istore 5, 2) := by decide +kernel
theorem dX11_floatOfBits_79 : decode cX11_floatOfBits 79 = .ok (.iload 5, 2) := by decide +kernel
theorem dX11_floatOfBits_81 : decode cX11_floatOfBits 81 = .ok (.iload 4, 2) := by decide +kernel
theorem dX11_floatOfBits_83 : decode cX11_floatOfBits 83 = .ok (.if_icmp .le 15, 3) := by decide +kernel
theorem dX11_floatOfBits_86 : decode cX11_floatOfBits 86 = .ok (.fload_n 3, 1) := by decide +kernel
theorem dX11_floatOfBits_87 : decode cX11_floatOfBits 87 = .ok (.ldc_w 471, 3) := by decide +kernel
theorem dX11_floatOfBits_90 : decode cX11_floatOfBits 90 = .ok (.fmul, 1) := by decide +kernel
theorem dX11_floatOfBits_91 : decode cX11_floatOfBits 91 = .ok (.fstore_n 3, 1) := by decide +kernel
theorem dX11_floatOfBits_92 : decode cX11_floatOfBits 92 = .ok (.iinc 5 (-1), 3) := by decide +kernel
theorem dX11_floatOfBits_95 : decode cX11_floatOfBits 95 = .ok (.goto (-16), 3) := by decide +kernel
theorem dX11_floatOfBits_98 : decode cX11_floatOfBits 98 = .ok (.iload_n 0, 1) := by decide +kernel
theorem dX11_floatOfBits_99 : decode cX11_floatOfBits 99 = .ok (.ifCond .ge 11, 3) := by decide +kernel
theorem dX11_floatOfBits_102 : decode cX11_floatOfBits 102 = .ok (.fload_n 3, 1) := by decide +kernel
theorem dX11_floatOfBits_103 : decode cX11_floatOfBits 103 = .ok (.ldc_w 472, 3) := by decide +kernel
theorem dX11_floatOfBits_106 : decode cX11_floatOfBits 106 = .ok (.fmul, 1) := by decide +kernel
theorem dX11_floatOfBits_107 : decode cX11_floatOfBits 107 = .ok (.goto 4, 3) := by decide +kernel
theorem dX11_floatOfBits_110 : decode cX11_floatOfBits 110 = .ok (.fload_n 3, 1) := by decide +kernel
theorem dX11_floatOfBits_111 : decode cX11_floatOfBits 111 = .ok (.freturn, 1) := by decide +kernel
theorem dX11_bitsOfRatio_0 : decode cX11_bitsOfRatio 0 = .ok (.fload_n 0, 1) := by decide +kernel
theorem dX11_bitsOfRatio_1 : decode cX11_bitsOfRatio 1 = .ok (.fconst 0, 1) := by decide +kernel
theorem dX11_bitsOfRatio_2 : decode cX11_bitsOfRatio 2 = .ok (.fcmp .g, 1) := by decide +kernel
theorem dX11_bitsOfRatio_3 : decode cX11_bitsOfRatio 3 = .ok (.ifCond .gt 5, 3) := by decide +kernel
theorem dX11_bitsOfRatio_6 : decode cX11_bitsOfRatio 6 = .ok (.iconst 0, 1) := by decide +kernel
theorem dX11_bitsOfRatio_7 : decode cX11_bitsOfRatio 7 = .ok (.ireturn, 1) := by decide +kernel
theorem dX11_bitsOfRatio_8 : decode cX11_bitsOfRatio 8 = .ok (.fload_n 0, 1) := by decide +kernel
theorem dX11_bitsOfRatio_9 : decode cX11_bitsOfRatio 9 = .ok (.fstore_n 1, 1) := by decide +kernel
theorem dX11_bitsOfRatio_10 : decode cX11_bitsOfRatio 10 = .ok (.bipush 127, 2) := by decide +kernel
theorem dX11_bitsOfRatio_12 : decode cX11_bitsOfRatio 12 = .ok (.istore_n 2, 1) := by decide +kernel
theorem dX11_bitsOfRatio_13 : decode cX11_bitsOfRatio 13 = .ok (.fload_n 1, 1) := by decide +kernel
theorem dX11_bitsOfRatio_14 : decode cX11_bitsOfRatio 14 = .ok (.fconst 1, 1) := by decide +kernel
theorem dX11_bitsOfRatio_15 : decode cX11_bitsOfRatio 15 = .ok (.fcmp .g, 1) := by decide +kernel
theorem dX11_bitsOfRatio_16 : decode cX11_bitsOfRatio 16 = .ok (.ifCond .ge 18, 3) := by decide +kernel
theorem dX11_bitsOfRatio_19 : decode cX11_bitsOfRatio 19 = .ok (.iload_n 2, 1) := by decide +kernel
theorem dX11_bitsOfRatio_20 : decode cX11_bitsOfRatio 20 = .ok (.iconst 1, 1) := by decide +kernel
theorem dX11_bitsOfRatio_21 : decode cX11_bitsOfRatio 21 = .ok (.if_icmp .le 13, 3) := by decide +kernel
theorem dX11_bitsOfRatio_24 : decode cX11_bitsOfRatio 24 = .ok (.fload_n 1, 1) := by decide +kernel
theorem dX11_bitsOfRatio_25 : decode cX11_bitsOfRatio 25 = .ok (.fconst 2, 1) := by decide +kernel
theorem dX11_bitsOfRatio_26 : decode cX11_bitsOfRatio 26 = .ok (.fmul, 1) := by decide +kernel
theorem dX11_bitsOfRatio_27 : decode cX11_bitsOfRatio 27 = .ok (.fstore_n 1, 1) := by decide +kernel
theorem dX11_bitsOfRatio_28 : decode cX11_bitsOfRatio 28 = .ok (.iinc 2 (-1), 3) := by decide +kernel
theorem dX11_bitsOfRatio_31 : decode cX11_bitsOfRatio 31 = .ok (.goto (-18), 3) := by decide +kernel
theorem dX11_bitsOfRatio_34 : decode cX11_bitsOfRatio 34 = .ok (.iload_n 2, 1) := by decide +kernel
theorem dX11_bitsOfRatio_35 : decode cX11_bitsOfRatio 35 = .ok (.bipush 23, 2) := by decide +kernel
theorem dX11_bitsOfRatio_37 : decode cX11_bitsOfRatio 37 = .ok (.ishl, 1) := by decide +kernel
theorem dX11_bitsOfRatio_38 : decode cX11_bitsOfRatio 38 = .ok (.fload_n 1, 1) := by decide +kernel
theorem dX11_bitsOfRatio_39 : decode cX11_bitsOfRatio 39 = .ok (.ldc_w 473, 3) := by decide +kernel
theorem dX11_bitsOfRatio_42 : decode cX11_bitsOfRatio 42 = .ok (.fmul, 1) := by decide +kernel
theorem dX11_bitsOfRatio_43 : decode cX11_bitsOfRatio 43 = .ok (.f2i, 1) := by decide +kernel
theorem dX11_bitsOfRatio_44 : decode cX11_bitsOfRatio 44 = .ok (.iadd, 1) := by decide +kernel
theorem dX11_bitsOfRatio_45 : decode cX11_bitsOfRatio 45 = .ok (.ldc_w 470, 3) := by decide +kernel
theorem dX11_bitsOfRatio_48 : decode cX11_bitsOfRatio 48 = .ok (.isub, 1) := by decide +kernel
theorem dX11_bitsOfRatio_49 : decode cX11_bitsOfRatio 49 = .ok (.ireturn, 1) := by decide +kernel
theorem dX12_init_0 : decode cX12_init 0 = .ok (.aload_n 0, 1) := by decide +kernel
theorem dX12_init_1 : decode cX12_init 1 = .ok (.invokespecial 1, 3) := by decide +kernel
theorem dX12_init_4 : decode cX12_init 4 = .ok (.aload_n 0, 1) := by decide +kernel
theorem dX12_init_5 : decode cX12_init 5 = .ok (.sipush 608, 3) := by decide +kernel
theorem dX12_init_8 : decode cX12_init 8 = .ok (.newarray .int, 2) := by decide +kernel
theorem dX12_init_10 : decode cX12_init 10 = .ok (.putfield 7, 3) := by decide +kernel
theorem dX12_init_13 : decode cX12_init 13 = .ok (.aload_n 0, 1) := by decide +kernel
theorem dX12_init_14 : decode cX12_init 14 = .ok (.sipush 608, 3) := by decide +kernel
theorem dX12_init_17 : decode cX12_init 17 = .ok (.newarray .int, 2) := by decide +kernel
theorem dX12_init_19 : decode cX12_init 19 = .ok (.putfield 13, 3) := by decide +kernel
theorem dX12_init_22 : decode cX12_init 22 = .ok (.aload_n 0, 1) := by decide +kernel
theorem dX12_init_23 : decode cX12_init 23 = .ok (.sipush 608, 3) := by decide +kernel
theorem dX12_init_26 : decode cX12_init 26 = .ok (.newarray .int, 2) := by decide +kernel
theorem dX12_init_28 : decode cX12_init 28 = .ok (.putfield 16, 3) := by decide +kernel
theorem dX12_init_31 : decode cX12_init 31 = .ok (.aload_n 0, 1) := by decide +kernel
theorem dX12_init_32 : decode cX12_init 32 = .ok (.sipush 6080, 3) := by decide +kernel
theorem dX12_init_35 : decode cX12_init 35 = .ok (.newarray .int, 2) := by decide +kernel
theorem dX12_init_37 : decode cX12_init 37 = .ok (.putfield 19, 3) := by decide +kernel
theorem dX12_init_40 : decode cX12_init 40 = .ok (.aload_n 0, 1) := by decide +kernel
theorem dX12_init_41 : decode cX12_init 41 = .ok (.sipush 400, 3) := by decide +kernel
theorem dX12_init_44 : decode cX12_init 44 = .ok (.newarray .byte, 2) := by decide +kernel
theorem dX12_init_46 : decode cX12_init 46 = .ok (.putfield 22, 3) := by decide +kernel
theorem dX12_init_49 : decode cX12_init 49 = .ok (.aload_n 0, 1) := by decide +kernel
theorem dX12_init_50 : decode cX12_init 50 = .ok (.iconst (-1), 1) := by decide +kernel
theorem dX12_init_51 : decode cX12_init 51 = .ok (.putfield 26, 3) := by decide +kernel
theorem dX12_init_54 : decode cX12_init 54 = .ok (.aload_n 0, 1) := by decide +kernel
theorem dX12_init_55 : decode cX12_init 55 = .ok (.iconst 3, 1) := by decide +kernel
theorem dX12_init_56 : decode cX12_init 56 = .ok (.newarray .int, 2) := by decide +kernel
theorem dX12_init_58 : decode cX12_init 58 = .ok (.putfield 30, 3) := by decide +kernel
theorem dX12_init_61 : decode cX12_init 61 = .ok (.aload_n 0, 1) := by decide +kernel
theorem dX12_init_62 : decode cX12_init 62 = .ok (.bipush 16, 2) := by decide +kernel
theorem dX12_init_64 : decode cX12_init 64 = .ok (.newarray .int, 2) := by decide +kernel
theorem dX12_init_66 : decode cX12_init 66 = .ok (.putfield 33, 3) := by decide +kernel
theorem dX12_init_69 : decode cX12_init 69 = .ok (.aload_n 0, 1) := by decide +kernel
theorem dX12_init_70 : decode cX12_init 70 = .ok (.bipush 16, 2) := by decide +kernel
theorem dX12_init_72 : decode cX12_init 72 = .ok (.newarray .int, 2) := by decide +kernel
theorem dX12_init_74 : decode cX12_init 74 = .ok (.putfield 36, 3) := by decide +kernel
theorem dX12_init_77 : decode cX12_init 77 = .ok (.aload_n 0, 1) := by decide +kernel
theorem dX12_init_78 : decode cX12_init 78 = .ok (.bipush 16, 2) := by decide +kernel
theorem dX12_init_80 : decode cX12_init 80 = .ok (.newarray .int, 2) := by decide +kernel
theorem dX12_init_82 : decode cX12_init 82 = .ok (.putfield 39, 3) := by decide +kernel
theorem dX12_init_85 : decode cX12_init 85 = .ok (.aload_n 0, 1) := by decide +kernel
theorem dX12_init_86 : decode cX12_init 86 = .ok (.sipush 800, 3) := by decide +kernel
theorem dX12_init_89 : decode cX12_init 89 = .ok (.newarray .byte, 2) := by decide +kernel
theorem dX12_init_91 : decode cX12_init 91 = .ok (.putfield 42, 3) := by decide +kernel
theorem dX12_init_94 : decode cX12_init 94 = .ok (.aload_n 0, 1) := by decide +kernel
theorem dX12_init_95 : decode cX12_init 95 = .ok (.getfield 7, 3) := by decide +kernel
theorem dX12_init_98 : decode cX12_init 98 = .ok (.invokestatic 45, 3) := by decide +kernel
theorem dX12_init_101 : decode cX12_init 101 = .ok (.return_, 1) := by decide +kernel
theorem dX12_lay_0 : decode cX12_lay 0 = .ok (.iconst 0, 1) := by decide +kernel
theorem dX12_lay_1 : decode cX12_lay 1 = .ok (.istore_n 1, 1) := by decide +kernel
theorem dX12_lay_2 : decode cX12_lay 2 = .ok (.iload_n 1, 1) := by decide +kernel
theorem dX12_lay_3 : decode cX12_lay 3 = .ok (.sipush 608, 3) := by decide +kernel
theorem dX12_lay_6 : decode cX12_lay 6 = .ok (.if_icmp .ge 13, 3) := by decide +kernel
theorem dX12_lay_9 : decode cX12_lay 9 = .ok (.aload_n 0, 1) := by decide +kernel
theorem dX12_lay_10 : decode cX12_lay 10 = .ok (.iload_n 1, 1) := by decide +kernel
theorem dX12_lay_11 : decode cX12_lay 11 = .ok (.iconst 0, 1) := by decide +kernel
theorem dX12_lay_12 : decode cX12_lay 12 = .ok (.iastore, 1) := by decide +kernel
theorem dX12_lay_13 : decode cX12_lay 13 = .ok (.iinc 1 1, 3) := by decide +kernel
theorem dX12_lay_16 : decode cX12_lay 16 = .ok (.goto (-14), 3) := by decide +kernel
theorem dX12_lay_19 : decode cX12_lay 19 = .ok (.aload_n 0, 1) := by decide +kernel
theorem dX12_lay_20 : decode cX12_lay 20 = .ok (.iconst 0, 1) := by decide +kernel
theorem dX12_lay_21 : decode cX12_lay 21 = .ok (.iconst 1, 1) := by decide +kernel
theorem dX12_lay_22 : decode cX12_lay 22 = .ok (.iastore, 1) := by decide +kernel
theorem dX12_lay_23 : decode cX12_lay 23 = .ok (.aload_n 0, 1) := by decide +kernel
theorem dX12_lay_24 : decode cX12_lay 24 = .ok (.iconst 1, 1) := by decide +kernel
theorem dX12_lay_25 : decode cX12_lay 25 = .ok (.iconst 1, 1) := by decide +kernel
theorem dX12_lay_26 : decode cX12_lay 26 = .ok (.iastore, 1) := by decide +kernel
theorem dX12_lay_27 : decode cX12_lay 27 = .ok (.iconst 0, 1) := by decide +kernel
theorem dX12_lay_28 : decode cX12_lay 28 = .ok (.istore_n 1, 1) := by decide +kernel
theorem dX12_lay_29 : decode cX12_lay 29 = .ok (.iload_n 1, 1) := by decide +kernel
theorem dX12_lay_30 : decode cX12_lay 30 = .ok (.bipush 6, 2) := by decide +kernel
theorem dX12_lay_32 : decode cX12_lay 32 = .ok (.if_icmp .ge 16, 3) := by decide +kernel
theorem dX12_lay_35 : decode cX12_lay 35 = .ok (.aload_n 0, 1) := by decide +kernel
theorem dX12_lay_36 : decode cX12_lay 36 = .ok (.bipush 26, 2) := by decide +kernel
theorem dX12_lay_38 : decode cX12_lay 38 = .ok (.iload_n 1, 1) := by decide +kernel
theorem dX12_lay_39 : decode cX12_lay 39 = .ok (.iadd, 1) := by decide +kernel
theorem dX12_lay_40 : decode cX12_lay 40 = .ok (.iconst (-1), 1) := by decide +kernel
theorem dX12_lay_41 : decode cX12_lay 41 = .ok (.iastore, 1) := by decide +kernel
theorem dX12_lay_42 : decode cX12_lay 42 = .ok (.iinc 1 1, 3) := by decide +kernel
theorem dX12_lay_45 : decode cX12_lay 45 = .ok (.goto (-16), 3) := by decide +kernel
theorem dX12_lay_48 : decode cX12_lay 48 = .ok (.iconst 0, 1) := by decide +kernel
theorem dX12_lay_49 : decode cX12_lay 49 = .ok (.istore_n 1, 1) := by decide +kernel
theorem dX12_lay_50 : decode cX12_lay 50 = .ok (.iload_n 1, 1) := by decide +kernel
theorem dX12_lay_51 : decode cX12_lay 51 = .ok (.bipush 48, 2) := by decide +kernel
theorem dX12_lay_53 : decode cX12_lay 53 = .ok (.if_icmp .ge 40, 3) := by decide +kernel
theorem dX12_lay_56 : decode cX12_lay 56 = .ok (.aload_n 0, 1) := by decide +kernel
theorem dX12_lay_57 : decode cX12_lay 57 = .ok (.bipush 80, 2) := by decide +kernel
theorem dX12_lay_59 : decode cX12_lay 59 = .ok (.iload_n 1, 1) := by decide +kernel
theorem dX12_lay_60 : decode cX12_lay 60 = .ok (.iadd, 1) := by decide +kernel
theorem dX12_lay_61 : decode cX12_lay 61 = .ok (.iconst (-1), 1) := by decide +kernel
theorem dX12_lay_62 : decode cX12_lay 62 = .ok (.iastore, 1) := by decide +kernel
theorem dX12_lay_63 : decode cX12_lay 63 = .ok (.aload_n 0, 1) := by decide +kernel
theorem dX12_lay_64 : decode cX12_lay 64 = .ok (.sipush 128, 3) := by decide +kernel
theorem dX12_lay_67 : decode cX12_lay 67 = .ok (.iload_n 1, 1) := by decide +kernel
theorem dX12_lay_68 : decode cX12_lay 68 = .ok (.iadd, 1) := by decide +kernel
theorem dX12_lay_69 : decode cX12_lay 69 = .ok (.iconst (-1), 1) := by decide +kernel
theorem dX12_lay_70 : decode cX12_lay 70 = .ok (.iastore, 1) := by decide +kernel
theorem dX12_lay_71 : decode cX12_lay 71 = .ok (.aload_n 0, 1) := by decide +kernel
theorem dX12_lay_72 : decode cX12_lay 72 = .ok (.sipush 224, 3) := by decide +kernel
theorem dX12_lay_75 : decode cX12_lay 75 = .ok (.iload_n 1, 1) := by decide +kernel
theorem dX12_lay_76 : decode cX12_lay 76 = .ok (.iadd, 1) := by decide +kernel
theorem dX12_lay_77 : decode cX12_lay 77 = .ok (.iconst (-1), 1) := by decide +kernel
theorem dX12_lay_78 : decode cX12_lay 78 = .ok (.iastore, 1) := by decide +kernel
theorem dX12_lay_79 : decode cX12_lay 79 = .ok (.aload_n 0, 1) := by decide +kernel
theorem dX12_lay_80 : decode cX12_lay 80 = .ok (.sipush 272, 3) := by decide +kernel
theorem dX12_lay_83 : decode cX12_lay 83 = .ok (.iload_n 1, 1) := by decide +kernel
theorem dX12_lay_84 : decode cX12_lay 84 = .ok (.iadd, 1) := by decide +kernel
theorem dX12_lay_85 : decode cX12_lay 85 = .ok (.iconst (-1), 1) := by decide +kernel
theorem dX12_lay_86 : decode cX12_lay 86 = .ok (.iastore, 1) := by decide +kernel
theorem dX12_lay_87 : decode cX12_lay 87 = .ok (.iinc 1 1, 3) := by decide +kernel
theorem dX12_lay_90 : decode cX12_lay 90 = .ok (.goto (-40), 3) := by decide +kernel
theorem dX12_lay_93 : decode cX12_lay 93 = .ok (.iconst 0, 1) := by decide +kernel
theorem dX12_lay_94 : decode cX12_lay 94 = .ok (.istore_n 1, 1) := by decide +kernel
theorem dX12_lay_95 : decode cX12_lay 95 = .ok (.iload_n 1, 1) := by decide +kernel
theorem dX12_lay_96 : decode cX12_lay 96 = .ok (.bipush 16, 2) := by decide +kernel
theorem dX12_lay_98 : decode cX12_lay 98 = .ok (.if_icmp .ge 17, 3) := by decide +kernel
theorem dX12_lay_101 : decode cX12_lay 101 = .ok (.aload_n 0, 1) := by decide +kernel
theorem dX12_lay_102 : decode cX12_lay 102 = .ok (.sipush 320, 3) := by decide +kernel
theorem dX12_lay_105 : decode cX12_lay 105 = .ok (.iload_n 1, 1) := by decide +kernel
theorem dX12_lay_106 : decode cX12_lay 106 = .ok (.iadd, 1) := by decide +kernel
theorem dX12_lay_107 : decode cX12_lay 107 = .ok (.iconst (-1), 1) := by decide +kernel
theorem dX12_lay_108 : decode cX12_lay 108 = .ok (.iastore, 1) := by decide +kernel
theorem dX12_lay_109 : decode cX12_lay 109 = .ok (.iinc 1 1, 3) := by decide +kernel
theorem dX12_lay_112 : decode cX12_lay 112 = .ok (.goto (-17), 3) := by decide +kernel
theorem dX12_lay_115 : decode cX12_lay 115 = .ok (.iconst 0, 1) := by decide +kernel
theorem dX12_lay_116 : decode cX12_lay 116 = .ok (.istore_n 1, 1) := by decide +kernel
theorem dX12_lay_117 : decode cX12_lay 117 = .ok (.iload_n 1, 1) := by decide +kernel
theorem dX12_lay_118 : decode cX12_lay 118 = .ok (.bipush 48, 2) := by decide +kernel
theorem dX12_lay_120 : decode cX12_lay 120 = .ok (.if_icmp .ge 25, 3) := by decide +kernel
theorem dX12_lay_123 : decode cX12_lay 123 = .ok (.aload_n 0, 1) := by decide +kernel
theorem dX12_lay_124 : decode cX12_lay 124 = .ok (.sipush 416, 3) := by decide +kernel
theorem dX12_lay_127 : decode cX12_lay 127 = .ok (.iload_n 1, 1) := by decide +kernel
theorem dX12_lay_128 : decode cX12_lay 128 = .ok (.iadd, 1) := by decide +kernel
theorem dX12_lay_129 : decode cX12_lay 129 = .ok (.iconst (-1), 1) := by decide +kernel
theorem dX12_lay_130 : decode cX12_lay 130 = .ok (.iastore, 1) := by decide +kernel
theorem dX12_lay_131 : decode cX12_lay 131 = .ok (.aload_n 0, 1) := by decide +kernel
theorem dX12_lay_132 : decode cX12_lay 132 = .ok (.sipush 464, 3) := by decide +kernel
theorem dX12_lay_135 : decode cX12_lay 135 = .ok (.iload_n 1, 1) := by decide +kernel
theorem dX12_lay_136 : decode cX12_lay 136 = .ok (.iadd, 1) := by decide +kernel
theorem dX12_lay_137 : decode cX12_lay 137 = .ok (.iconst (-1), 1) := by decide +kernel
theorem dX12_lay_138 : decode cX12_lay 138 = .ok (.iastore, 1) := by decide +kernel
theorem dX12_lay_139 : decode cX12_lay 139 = .ok (.iinc 1 1, 3) := by decide +kernel
theorem dX12_lay_142 : decode cX12_lay 142 = .ok (.goto (-25), 3) := by decide +kernel
theorem dX12_lay_145 : decode cX12_lay 145 = .ok (.return_, 1) := by decide +kernel
theorem dX12_thrown_0 : decode cX12_thrown 0 = .ok (.aload_n 0, 1) := by decide +kernel
theorem dX12_thrown_1 : decode cX12_thrown 1 = .ok (.getfield 49, 3) := by decide +kernel
theorem dX12_thrown_4 : decode cX12_thrown 4 = .ok (.ireturn, 1) := by decide +kernel
theorem dX12_in_0 : decode cX12_in 0 = .ok (.lload_n 0, 1) := by decide +kernel
theorem dX12_in_1 : decode cX12_in 1 = .ok (.lload_n 2, 1) := by decide +kernel
theorem dX12_in_2 : decode cX12_in 2 = .ok (.lcmp, 1) := by decide +kernel
theorem dX12_in_3 : decode cX12_in 3 = .ok (.ifCond .lt 14, 3) := by decide +kernel
theorem dX12_in_6 : decode cX12_in 6 = .ok (.lload_n 0, 1) := by decide +kernel
theorem dX12_in_7 : decode cX12_in 7 = .ok (.lload 4, 2) := by decide +kernel
theorem dX12_in_9 : decode cX12_in 9 = .ok (.lcmp, 1) := by decide +kernel
theorem dX12_in_10 : decode cX12_in 10 = .ok (.ifCond .gt 7, 3) := by decide +kernel
theorem dX12_in_13 : decode cX12_in 13 = .ok (.iconst 1, 1) := by decide +kernel
theorem dX12_in_14 : decode cX12_in 14 = .ok (.goto 4, 3) := by decide +kernel
theorem dX12_in_17 : decode cX12_in 17 = .ok (.iconst 0, 1) := by decide +kernel
theorem dX12_in_18 : decode cX12_in 18 = .ok (.ireturn, 1) := by decide +kernel
theorem dX12_no_0 : decode cX12_no 0 = .ok (.aload_n 0, 1) := by decide +kernel
theorem dX12_no_1 : decode cX12_no 1 = .ok (.iload_n 1, 1) := by decide +kernel
theorem dX12_no_2 : decode cX12_no 2 = .ok (.putfield 49, 3) := by decide +kernel
theorem dX12_no_5 : decode cX12_no 5 = .ok (.iconst 0, 1) := by decide +kernel
theorem dX12_no_6 : decode cX12_no 6 = .ok (.ireturn, 1) := by decide +kernel
theorem dX12_fails_0 : decode cX12_fails 0 = .ok (.aload_n 0, 1) := by decide +kernel
theorem dX12_fails_1 : decode cX12_fails 1 = .ok (.iload_n 1, 1) := by decide +kernel
theorem dX12_fails_2 : decode cX12_fails 2 = .ok (.ifCond .eq 7, 3) := by decide +kernel
theorem dX12_fails_5 : decode cX12_fails 5 = .ok (.iload_n 2, 1) := by decide +kernel
theorem dX12_fails_6 : decode cX12_fails 6 = .ok (.goto 4, 3) := by decide +kernel
theorem dX12_fails_9 : decode cX12_fails 9 = .ok (.iconst 0, 1) := by decide +kernel
theorem dX12_fails_10 : decode cX12_fails 10 = .ok (.putfield 49, 3) := by decide +kernel
theorem dX12_fails_13 : decode cX12_fails 13 = .ok (.iload_n 1, 1) := by decide +kernel
theorem dX12_fails_14 : decode cX12_fails 14 = .ok (.ireturn, 1) := by decide +kernel
theorem dX12_isProcess_0 : decode cX12_isProcess 0 = .ok (.iload_n 1, 1) := by decide +kernel
theorem dX12_isProcess_1 : decode cX12_isProcess 1 = .ok (.i2l, 1) := by decide +kernel
theorem dX12_isProcess_2 : decode cX12_isProcess 2 = .ok (.lconst 0, 1) := by decide +kernel
theorem dX12_isProcess_3 : decode cX12_isProcess 3 = .ok (.aload_n 0, 1) := by decide +kernel
theorem dX12_isProcess_4 : decode cX12_isProcess 4 = .ok (.getfield 7, 3) := by decide +kernel
theorem dX12_isProcess_7 : decode cX12_isProcess 7 = .ok (.iconst 3, 1) := by decide +kernel
theorem dX12_isProcess_8 : decode cX12_isProcess 8 = .ok (.iaload, 1) := by decide +kernel
theorem dX12_isProcess_9 : decode cX12_isProcess 9 = .ok (.iconst 1, 1) := by decide +kernel
theorem dX12_isProcess_10 : decode cX12_isProcess 10 = .ok (.isub, 1) := by decide +kernel
theorem dX12_isProcess_11 : decode cX12_isProcess 11 = .ok (.i2l, 1) := by decide +kernel
theorem dX12_isProcess_12 : decode cX12_isProcess 12 = .ok (.invokestatic 52, 3) := by decide +kernel
theorem dX12_isProcess_15 : decode cX12_isProcess 15 = .ok (.ireturn, 1) := by decide +kernel
theorem dX12_isPage_0 : decode cX12_isPage 0 = .ok (.aload_n 0, 1) := by decide +kernel
theorem dX12_isPage_1 : decode cX12_isPage 1 = .ok (.iload_n 1, 1) := by decide +kernel
theorem dX12_isPage_2 : decode cX12_isPage 2 = .ok (.invokevirtual 56, 3) := by decide +kernel
theorem dX12_isPage_5 : decode cX12_isPage 5 = .ok (.ifCond .eq 28, 3) := by decide +kernel
theorem dX12_isPage_8 : decode cX12_isPage 8 = .ok (.iload_n 2, 1) := by decide +kernel
theorem dX12_isPage_9 : decode cX12_isPage 9 = .ok (.i2l, 1) := by decide +kernel
theorem dX12_isPage_10 : decode cX12_isPage 10 = .ok (.lconst 0, 1) := by decide +kernel
theorem dX12_isPage_11 : decode cX12_isPage 11 = .ok (.aload_n 0, 1) := by decide +kernel
theorem dX12_isPage_12 : decode cX12_isPage 12 = .ok (.getfield 7, 3) := by decide +kernel
theorem dX12_isPage_15 : decode cX12_isPage 15 = .ok (.bipush 20, 2) := by decide +kernel
theorem dX12_isPage_17 : decode cX12_isPage 17 = .ok (.iload_n 1, 1) := by decide +kernel
theorem dX12_isPage_18 : decode cX12_isPage 18 = .ok (.iadd, 1) := by decide +kernel
theorem dX12_isPage_19 : decode cX12_isPage 19 = .ok (.iaload, 1) := by decide +kernel
theorem dX12_isPage_20 : decode cX12_isPage 20 = .ok (.iconst 1, 1) := by decide +kernel
theorem dX12_isPage_21 : decode cX12_isPage 21 = .ok (.isub, 1) := by decide +kernel
theorem dX12_isPage_22 : decode cX12_isPage 22 = .ok (.i2l, 1) := by decide +kernel
theorem dX12_isPage_23 : decode cX12_isPage 23 = .ok (.invokestatic 52, 3) := by decide +kernel
theorem dX12_isPage_26 : decode cX12_isPage 26 = .ok (.ifCond .eq 7, 3) := by decide +kernel
theorem dX12_isPage_29 : decode cX12_isPage 29 = .ok (.iconst 1, 1) := by decide +kernel
theorem dX12_isPage_30 : decode cX12_isPage 30 = .ok (.goto 4, 3) := by decide +kernel
theorem dX12_isPage_33 : decode cX12_isPage 33 = .ok (.iconst 0, 1) := by decide +kernel
theorem dX12_isPage_34 : decode cX12_isPage 34 = .ok (.ireturn, 1) := by decide +kernel
theorem dX12_isNoProcess_0 : decode cX12_isNoProcess 0 = .ok (.aload_n 0, 1) := by decide +kernel
theorem dX12_isNoProcess_1 : decode cX12_isNoProcess 1 = .ok (.aload_n 0, 1) := by decide +kernel
theorem dX12_isNoProcess_2 : decode cX12_isNoProcess 2 = .ok (.iload_n 1, 1) := by decide +kernel
theorem dX12_isNoProcess_3 : decode cX12_isNoProcess 3 = .ok (.invokevirtual 56, 3) := by decide +kernel
theorem dX12_isNoProcess_6 : decode cX12_isNoProcess 6 = .ok (.ifCond .ne 7, 3) := by decide +kernel
theorem dX12_isNoProcess_9 : decode cX12_isNoProcess 9 = .ok (.iconst 1, 1) := by decide +kernel
theorem dX12_isNoProcess_10 : decode cX12_isNoProcess 10 = .ok (.goto 4, 3) := by decide +kernel
theorem dX12_isNoProcess_13 : decode cX12_isNoProcess 13 = .ok (.iconst 0, 1) := by decide +kernel
theorem dX12_isNoProcess_14 : decode cX12_isNoProcess 14 = .ok (.iconst 1, 1) := by decide +kernel
theorem dX12_isNoProcess_15 : decode cX12_isNoProcess 15 = .ok (.invokevirtual 60, 3) := by decide +kernel
theorem dX12_isNoProcess_18 : decode cX12_isNoProcess 18 = .ok (.ireturn, 1) := by decide +kernel
theorem dX12_isNoPage_0 : decode cX12_isNoPage 0 = .ok (.aload_n 0, 1) := by decide +kernel
theorem dX12_isNoPage_1 : decode cX12_isNoPage 1 = .ok (.aload_n 0, 1) := by decide +kernel
theorem dX12_isNoPage_2 : decode cX12_isNoPage 2 = .ok (.iload_n 1, 1) := by decide +kernel
theorem dX12_isNoPage_3 : decode cX12_isNoPage 3 = .ok (.iload_n 2, 1) := by decide +kernel
theorem dX12_isNoPage_4 : decode cX12_isNoPage 4 = .ok (.invokevirtual 64, 3) := by decide +kernel
theorem dX12_isNoPage_7 : decode cX12_isNoPage 7 = .ok (.ifCond .ne 7, 3) := by decide +kernel
theorem dX12_isNoPage_10 : decode cX12_isNoPage 10 = .ok (.iconst 1, 1) := by decide +kernel
theorem dX12_isNoPage_11 : decode cX12_isNoPage 11 = .ok (.goto 4, 3) := by decide +kernel
theorem dX12_isNoPage_14 : decode cX12_isNoPage 14 = .ok (.iconst 0, 1) := by decide +kernel
theorem dX12_isNoPage_15 : decode cX12_isNoPage 15 = .ok (.iconst 1, 1) := by decide +kernel
theorem dX12_isNoPage_16 : decode cX12_isNoPage 16 = .ok (.invokevirtual 60, 3) := by decide +kernel
theorem dX12_isNoPage_19 : decode cX12_isNoPage 19 = .ok (.ireturn, 1) := by decide +kernel
theorem dX12_isNoSlot_0 : decode cX12_isNoSlot 0 = .ok (.aload_n 0, 1) := by decide +kernel
theorem dX12_isNoSlot_1 : decode cX12_isNoSlot 1 = .ok (.iload_n 1, 1) := by decide +kernel
theorem dX12_isNoSlot_2 : decode cX12_isNoSlot 2 = .ok (.i2l, 1) := by decide +kernel
theorem dX12_isNoSlot_3 : decode cX12_isNoSlot 3 = .ok (.lconst 0, 1) := by decide +kernel
theorem dX12_isNoSlot_4 : decode cX12_isNoSlot 4 = .ok (.aload_n 0, 1) := by decide +kernel
theorem dX12_isNoSlot_5 : decode cX12_isNoSlot 5 = .ok (.getfield 7, 3) := by decide +kernel
theorem dX12_isNoSlot_8 : decode cX12_isNoSlot 8 = .ok (.iconst 1, 1) := by decide +kernel
theorem dX12_isNoSlot_9 : decode cX12_isNoSlot 9 = .ok (.iaload, 1) := by decide +kernel
theorem dX12_isNoSlot_10 : decode cX12_isNoSlot 10 = .ok (.iconst 1, 1) := by decide +kernel
theorem dX12_isNoSlot_11 : decode cX12_isNoSlot 11 = .ok (.isub, 1) := by decide +kernel
theorem dX12_isNoSlot_12 : decode cX12_isNoSlot 12 = .ok (.i2l, 1) := by decide +kernel
theorem dX12_isNoSlot_13 : decode cX12_isNoSlot 13 = .ok (.invokestatic 52, 3) := by decide +kernel
theorem dX12_isNoSlot_16 : decode cX12_isNoSlot 16 = .ok (.ifCond .ne 7, 3) := by decide +kernel
theorem dX12_isNoSlot_19 : decode cX12_isNoSlot 19 = .ok (.iconst 1, 1) := by decide +kernel
theorem dX12_isNoSlot_20 : decode cX12_isNoSlot 20 = .ok (.goto 4, 3) := by decide +kernel
theorem dX12_isNoSlot_23 : decode cX12_isNoSlot 23 = .ok (.iconst 0, 1) := by decide +kernel
theorem dX12_isNoSlot_24 : decode cX12_isNoSlot 24 = .ok (.iconst 1, 1) := by decide +kernel
theorem dX12_isNoSlot_25 : decode cX12_isNoSlot 25 = .ok (.invokevirtual 60, 3) := by decide +kernel
theorem dX12_isNoSlot_28 : decode cX12_isNoSlot 28 = .ok (.ireturn, 1) := by decide +kernel
theorem dX12_isNoFrame_0 : decode cX12_isNoFrame 0 = .ok (.aload_n 0, 1) := by decide +kernel
theorem dX12_isNoFrame_1 : decode cX12_isNoFrame 1 = .ok (.iload_n 1, 1) := by decide +kernel
theorem dX12_isNoFrame_2 : decode cX12_isNoFrame 2 = .ok (.i2l, 1) := by decide +kernel
theorem dX12_isNoFrame_3 : decode cX12_isNoFrame 3 = .ok (.lconst 0, 1) := by decide +kernel
theorem dX12_isNoFrame_4 : decode cX12_isNoFrame 4 = .ok (.aload_n 0, 1) := by decide +kernel
theorem dX12_isNoFrame_5 : decode cX12_isNoFrame 5 = .ok (.getfield 7, 3) := by decide +kernel
theorem dX12_isNoFrame_8 : decode cX12_isNoFrame 8 = .ok (.iconst 0, 1) := by decide +kernel
theorem dX12_isNoFrame_9 : decode cX12_isNoFrame 9 = .ok (.iaload, 1) := by decide +kernel
theorem dX12_isNoFrame_10 : decode cX12_isNoFrame 10 = .ok (.iconst 1, 1) := by decide +kernel
theorem dX12_isNoFrame_11 : decode cX12_isNoFrame 11 = .ok (.isub, 1) := by decide +kernel
theorem dX12_isNoFrame_12 : decode cX12_isNoFrame 12 = .ok (.i2l, 1) := by decide +kernel
theorem dX12_isNoFrame_13 : decode cX12_isNoFrame 13 = .ok (.invokestatic 52, 3) := by decide +kernel
theorem dX12_isNoFrame_16 : decode cX12_isNoFrame 16 = .ok (.ifCond .ne 7, 3) := by decide +kernel
theorem dX12_isNoFrame_19 : decode cX12_isNoFrame 19 = .ok (.iconst 1, 1) := by decide +kernel
theorem dX12_isNoFrame_20 : decode cX12_isNoFrame 20 = .ok (.goto 4, 3) := by decide +kernel
theorem dX12_isNoFrame_23 : decode cX12_isNoFrame 23 = .ok (.iconst 0, 1) := by decide +kernel
theorem dX12_isNoFrame_24 : decode cX12_isNoFrame 24 = .ok (.iconst 1, 1) := by decide +kernel
theorem dX12_isNoFrame_25 : decode cX12_isNoFrame 25 = .ok (.invokevirtual 60, 3) := by decide +kernel
theorem dX12_isNoFrame_28 : decode cX12_isNoFrame 28 = .ok (.ireturn, 1) := by decide +kernel
theorem dX12_isNoSet_0 : decode cX12_isNoSet 0 = .ok (.iload_n 1, 1) := by decide +kernel
theorem dX12_isNoSet_1 : decode cX12_isNoSet 1 = .ok (.i2l, 1) := by decide +kernel
theorem dX12_isNoSet_2 : decode cX12_isNoSet 2 = .ok (.lconst 1, 1) := by decide +kernel
theorem dX12_isNoSet_3 : decode cX12_isNoSet 3 = .ok (.iconst 1, 1) := by decide +kernel
theorem dX12_isNoSet_4 : decode cX12_isNoSet 4 = .ok (.aload_n 0, 1) := by decide +kernel
theorem dX12_isNoSet_5 : decode cX12_isNoSet 5 = .ok (.getfield 7, 3) := by decide +kernel
theorem dX12_isNoSet_8 : decode cX12_isNoSet 8 = .ok (.iconst 3, 1) := by decide +kernel
theorem dX12_isNoSet_9 : decode cX12_isNoSet 9 = .ok (.iaload, 1) := by decide +kernel
theorem dX12_isNoSet_10 : decode cX12_isNoSet 10 = .ok (.ishl, 1) := by decide +kernel
theorem dX12_isNoSet_11 : decode cX12_isNoSet 11 = .ok (.iconst 1, 1) := by decide +kernel
theorem dX12_isNoSet_12 : decode cX12_isNoSet 12 = .ok (.isub, 1) := by decide +kernel
theorem dX12_isNoSet_13 : decode cX12_isNoSet 13 = .ok (.i2l, 1) := by decide +kernel
theorem dX12_isNoSet_14 : decode cX12_isNoSet 14 = .ok (.invokestatic 52, 3) := by decide +kernel
theorem dX12_isNoSet_17 : decode cX12_isNoSet 17 = .ok (.ifCond .ne 7, 3) := by decide +kernel
theorem dX12_isNoSet_20 : decode cX12_isNoSet 20 = .ok (.iconst 1, 1) := by decide +kernel
theorem dX12_isNoSet_21 : decode cX12_isNoSet 21 = .ok (.goto 4, 3) := by decide +kernel
theorem dX12_isNoSet_24 : decode cX12_isNoSet 24 = .ok (.iconst 0, 1) := by decide +kernel
theorem dX12_isNoSet_25 : decode cX12_isNoSet 25 = .ok (.ireturn, 1) := by decide +kernel
theorem dX12_has_0 : decode cX12_has 0 = .ok (.iload_n 0, 1) := by decide +kernel
theorem dX12_has_1 : decode cX12_has 1 = .ok (.iload_n 1, 1) := by decide +kernel
theorem dX12_has_2 : decode cX12_has 2 = .ok (.ishr, 1) := by decide +kernel
theorem dX12_has_3 : decode cX12_has 3 = .ok (.iconst 1, 1) := by decide +kernel
theorem dX12_has_4 : decode cX12_has 4 = .ok (.iand, 1) := by decide +kernel
theorem dX12_has_5 : decode cX12_has 5 = .ok (.iconst 1, 1) := by decide +kernel
theorem dX12_has_6 : decode cX12_has 6 = .ok (.if_icmp .ne 7, 3) := by decide +kernel
theorem dX12_has_9 : decode cX12_has 9 = .ok (.iconst 1, 1) := by decide +kernel
theorem dX12_has_10 : decode cX12_has 10 = .ok (.goto 4, 3) := by decide +kernel
theorem dX12_has_13 : decode cX12_has 13 = .ok (.iconst 0, 1) := by decide +kernel
theorem dX12_has_14 : decode cX12_has 14 = .ok (.ireturn, 1) := by decide +kernel
theorem dX12_size_0 : decode cX12_size 0 = .ok (.iconst 0, 1) := by decide +kernel
theorem dX12_size_1 : decode cX12_size 1 = .ok (.istore_n 1, 1) := by decide +kernel
theorem dX12_size_2 : decode cX12_size 2 = .ok (.iconst 0, 1) := by decide +kernel
theorem dX12_size_3 : decode cX12_size 3 = .ok (.istore_n 2, 1) := by decide +kernel
theorem dX12_size_4 : decode cX12_size 4 = .ok (.iload_n 2, 1) := by decide +kernel
theorem dX12_size_5 : decode cX12_size 5 = .ok (.bipush 8, 2) := by decide +kernel
theorem dX12_size_7 : decode cX12_size 7 = .ok (.if_icmp .ge 25, 3) := by decide +kernel
theorem dX12_size_10 : decode cX12_size 10 = .ok (.iload_n 1, 1) := by decide +kernel
theorem dX12_size_11 : decode cX12_size 11 = .ok (.iload_n 0, 1) := by decide +kernel
theorem dX12_size_12 : decode cX12_size 12 = .ok (.iload_n 2, 1) := by decide +kernel
theorem dX12_size_13 : decode cX12_size 13 = .ok (.invokestatic 68, 3) := by decide +kernel
theorem dX12_size_16 : decode cX12_size 16 = .ok (.ifCond .eq 7, 3) := by decide +kernel
theorem dX12_size_19 : decode cX12_size 19 = .ok (.iconst 1, 1) := by decide +kernel
theorem dX12_size_20 : decode cX12_size 20 = .ok (.goto 4, 3) := by decide +kernel
theorem dX12_size_23 : decode cX12_size 23 = .ok (.iconst 0, 1) := by decide +kernel
theorem dX12_size_24 : decode cX12_size 24 = .ok (.iadd, 1) := by decide +kernel
theorem dX12_size_25 : decode cX12_size 25 = .ok (.istore_n 1, 1) := by decide +kernel
theorem dX12_size_26 : decode cX12_size 26 = .ok (.iinc 2 1, 3) := by decide +kernel
theorem dX12_size_29 : decode cX12_size 29 = .ok (.goto (-25), 3) := by decide +kernel
theorem dX12_size_32 : decode cX12_size 32 = .ok (.iload_n 1, 1) := by decide +kernel
theorem dX12_size_33 : decode cX12_size 33 = .ok (.ireturn, 1) := by decide +kernel
theorem dX12_isThere_0 : decode cX12_isThere 0 = .ok (.iload_n 1, 1) := by decide +kernel
theorem dX12_isThere_1 : decode cX12_isThere 1 = .ok (.bipush 8, 2) := by decide +kernel
theorem dX12_isThere_3 : decode cX12_isThere 3 = .ok (.irem, 1) := by decide +kernel
theorem dX12_isThere_4 : decode cX12_isThere 4 = .ok (.aload_n 0, 1) := by decide +kernel
theorem dX12_isThere_5 : decode cX12_isThere 5 = .ok (.getfield 7, 3) := by decide +kernel
theorem dX12_isThere_8 : decode cX12_isThere 8 = .ok (.bipush 20, 2) := by decide +kernel
theorem dX12_isThere_10 : decode cX12_isThere 10 = .ok (.iload_n 1, 1) := by decide +kernel
theorem dX12_isThere_11 : decode cX12_isThere 11 = .ok (.bipush 8, 2) := by decide +kernel
theorem dX12_isThere_13 : decode cX12_isThere 13 = .ok (.idiv, 1) := by decide +kernel
theorem dX12_isThere_14 : decode cX12_isThere 14 = .ok (.iadd, 1) := by decide +kernel
theorem dX12_isThere_15 : decode cX12_isThere 15 = .ok (.iaload, 1) := by decide +kernel
theorem dX12_isThere_16 : decode cX12_isThere 16 = .ok (.if_icmp .ge 20, 3) := by decide +kernel
theorem dX12_isThere_19 : decode cX12_isThere 19 = .ok (.iload_n 1, 1) := by decide +kernel
theorem dX12_isThere_20 : decode cX12_isThere 20 = .ok (.bipush 8, 2) := by decide +kernel
theorem dX12_isThere_22 : decode cX12_isThere 22 = .ok (.idiv, 1) := by decide +kernel
theorem dX12_isThere_23 : decode cX12_isThere 23 = .ok (.aload_n 0, 1) := by decide +kernel
theorem dX12_isThere_24 : decode cX12_isThere 24 = .ok (.getfield 7, 3) := by decide +kernel
theorem dX12_isThere_27 : decode cX12_isThere 27 = .ok (.iconst 3, 1) := by decide +kernel
theorem dX12_isThere_28 : decode cX12_isThere 28 = .ok (.iaload, 1) := by decide +kernel
theorem dX12_isThere_29 : decode cX12_isThere 29 = .ok (.if_icmp .ge 7, 3) := by decide +kernel
theorem dX12_isThere_32 : decode cX12_isThere 32 = .ok (.iconst 1, 1) := by decide +kernel
theorem dX12_isThere_33 : decode cX12_isThere 33 = .ok (.goto 4, 3) := by decide +kernel
theorem dX12_isThere_36 : decode cX12_isThere 36 = .ok (.iconst 0, 1) := by decide +kernel
theorem dX12_isThere_37 : decode cX12_isThere 37 = .ok (.ireturn, 1) := by decide +kernel
theorem dX12_keepAside_0 : decode cX12_keepAside 0 = .ok (.iconst 0, 1) := by decide +kernel
theorem dX12_keepAside_1 : decode cX12_keepAside 1 = .ok (.istore_n 1, 1) := by decide +kernel
theorem dX12_keepAside_2 : decode cX12_keepAside 2 = .ok (.iload_n 1, 1) := by decide +kernel
theorem dX12_keepAside_3 : decode cX12_keepAside 3 = .ok (.sipush 608, 3) := by decide +kernel
theorem dX12_keepAside_6 : decode cX12_keepAside 6 = .ok (.if_icmp .ge 21, 3) := by decide +kernel
theorem dX12_keepAside_9 : decode cX12_keepAside 9 = .ok (.aload_n 0, 1) := by decide +kernel
theorem dX12_keepAside_10 : decode cX12_keepAside 10 = .ok (.getfield 13, 3) := by decide +kernel
theorem dX12_keepAside_13 : decode cX12_keepAside 13 = .ok (.iload_n 1, 1) := by decide +kernel
theorem dX12_keepAside_14 : decode cX12_keepAside 14 = .ok (.aload_n 0, 1) := by decide +kernel
theorem dX12_keepAside_15 : decode cX12_keepAside 15 = .ok (.getfield 7, 3) := by decide +kernel
theorem dX12_keepAside_18 : decode cX12_keepAside 18 = .ok (.iload_n 1, 1) := by decide +kernel
theorem dX12_keepAside_19 : decode cX12_keepAside 19 = .ok (.iaload, 1) := by decide +kernel
theorem dX12_keepAside_20 : decode cX12_keepAside 20 = .ok (.iastore, 1) := by decide +kernel
theorem dX12_keepAside_21 : decode cX12_keepAside 21 = .ok (.iinc 1 1, 3) := by decide +kernel
theorem dX12_keepAside_24 : decode cX12_keepAside 24 = .ok (.goto (-22), 3) := by decide +kernel
theorem dX12_keepAside_27 : decode cX12_keepAside 27 = .ok (.return_, 1) := by decide +kernel
theorem dX12_takeBack_0 : decode cX12_takeBack 0 = .ok (.iconst 0, 1) := by decide +kernel
theorem dX12_takeBack_1 : decode cX12_takeBack 1 = .ok (.istore_n 1, 1) := by decide +kernel
theorem dX12_takeBack_2 : decode cX12_takeBack 2 = .ok (.iload_n 1, 1) := by decide +kernel
theorem dX12_takeBack_3 : decode cX12_takeBack 3 = .ok (.sipush 608, 3) := by decide +kernel
theorem dX12_takeBack_6 : decode cX12_takeBack 6 = .ok (.if_icmp .ge 21, 3) := by decide +kernel
theorem dX12_takeBack_9 : decode cX12_takeBack 9 = .ok (.aload_n 0, 1) := by decide +kernel
theorem dX12_takeBack_10 : decode cX12_takeBack 10 = .ok (.getfield 7, 3) := by decide +kernel
theorem dX12_takeBack_13 : decode cX12_takeBack 13 = .ok (.iload_n 1, 1) := by decide +kernel
theorem dX12_takeBack_14 : decode cX12_takeBack 14 = .ok (.aload_n 0, 1) := by decide +kernel
theorem dX12_takeBack_15 : decode cX12_takeBack 15 = .ok (.getfield 13, 3) := by decide +kernel
theorem dX12_takeBack_18 : decode cX12_takeBack 18 = .ok (.iload_n 1, 1) := by decide +kernel
theorem dX12_takeBack_19 : decode cX12_takeBack 19 = .ok (.iaload, 1) := by decide +kernel
theorem dX12_takeBack_20 : decode cX12_takeBack 20 = .ok (.iastore, 1) := by decide +kernel
theorem dX12_takeBack_21 : decode cX12_takeBack 21 = .ok (.iinc 1 1, 3) := by decide +kernel
theorem dX12_takeBack_24 : decode cX12_takeBack 24 = .ok (.goto (-22), 3) := by decide +kernel
theorem dX12_takeBack_27 : decode cX12_takeBack 27 = .ok (.return_, 1) := by decide +kernel
theorem dX12_push_0 : decode cX12_push 0 = .ok (.aload_n 0, 1) := by decide +kernel
theorem dX12_push_1 : decode cX12_push 1 = .ok (.getfield 71, 3) := by decide +kernel
theorem dX12_push_4 : decode cX12_push 4 = .ok (.bipush 10, 2) := by decide +kernel
theorem dX12_push_6 : decode cX12_push 6 = .ok (.if_icmp .ne 46, 3) := by decide +kernel
theorem dX12_push_9 : decode cX12_push 9 = .ok (.sipush 608, 3) := by decide +kernel
theorem dX12_push_12 : decode cX12_push 12 = .ok (.istore_n 1, 1) := by decide +kernel
theorem dX12_push_13 : decode cX12_push 13 = .ok (.iload_n 1, 1) := by decide +kernel
theorem dX12_push_14 : decode cX12_push 14 = .ok (.sipush 6080, 3) := by decide +kernel
theorem dX12_push_17 : decode cX12_push 17 = .ok (.if_icmp .ge 25, 3) := by decide +kernel
theorem dX12_push_20 : decode cX12_push 20 = .ok (.aload_n 0, 1) := by decide +kernel
theorem dX12_push_21 : decode cX12_push 21 = .ok (.getfield 19, 3) := by decide +kernel
theorem dX12_push_24 : decode cX12_push 24 = .ok (.iload_n 1, 1) := by decide +kernel
theorem dX12_push_25 : decode cX12_push 25 = .ok (.sipush 608, 3) := by decide +kernel
theorem dX12_push_28 : decode cX12_push 28 = .ok (.isub, 1) := by decide +kernel
theorem dX12_push_29 : decode cX12_push 29 = .ok (.aload_n 0, 1) := by decide +kernel
theorem dX12_push_30 : decode cX12_push 30 = .ok (.getfield 19, 3) := by decide +kernel
theorem dX12_push_33 : decode cX12_push 33 = .ok (.iload_n 1, 1) := by decide +kernel
theorem dX12_push_34 : decode cX12_push 34 = .ok (.iaload, 1) := by decide +kernel
theorem dX12_push_35 : decode cX12_push 35 = .ok (.iastore, 1) := by decide +kernel
theorem dX12_push_36 : decode cX12_push 36 = .ok (.iinc 1 1, 3) := by decide +kernel
theorem dX12_push_39 : decode cX12_push 39 = .ok (.goto (-26), 3) := by decide +kernel
theorem dX12_push_42 : decode cX12_push 42 = .ok (.aload_n 0, 1) := by decide +kernel
theorem dX12_push_43 : decode cX12_push 43 = .ok (.dup, 1) := by decide +kernel
theorem dX12_push_44 : decode cX12_push 44 = .ok (.getfield 71, 3) := by decide +kernel
theorem dX12_push_47 : decode cX12_push 47 = .ok (.iconst 1, 1) := by decide +kernel
theorem dX12_push_48 : decode cX12_push 48 = .ok (.isub, 1) := by decide +kernel
theorem dX12_push_49 : decode cX12_push 49 = .ok (.putfield 71, 3) := by decide +kernel
theorem dX12_push_52 : decode cX12_push 52 = .ok (.iconst 0, 1) := by decide +kernel
theorem dX12_push_53 : decode cX12_push 53 = .ok (.istore_n 1, 1) := by decide +kernel
theorem dX12_push_54 : decode cX12_push 54 = .ok (.iload_n 1, 1) := by decide +kernel
theorem dX12_push_55 : decode cX12_push 55 = .ok (.sipush 608, 3) := by decide +kernel
theorem dX12_push_58 : decode cX12_push 58 = .ok (.if_icmp .ge 30, 3) := by decide +kernel
theorem dX12_push_61 : decode cX12_push 61 = .ok (.aload_n 0, 1) := by decide +kernel
theorem dX12_push_62 : decode cX12_push 62 = .ok (.getfield 19, 3) := by decide +kernel
theorem dX12_push_65 : decode cX12_push 65 = .ok (.sipush 608, 3) := by decide +kernel
theorem dX12_push_68 : decode cX12_push 68 = .ok (.aload_n 0, 1) := by decide +kernel
theorem dX12_push_69 : decode cX12_push 69 = .ok (.getfield 71, 3) := by decide +kernel
theorem dX12_push_72 : decode cX12_push 72 = .ok (.imul, 1) := by decide +kernel
theorem dX12_push_73 : decode cX12_push 73 = .ok (.iload_n 1, 1) := by decide +kernel
theorem dX12_push_74 : decode cX12_push 74 = .ok (.iadd, 1) := by decide +kernel
theorem dX12_push_75 : decode cX12_push 75 = .ok (.aload_n 0, 1) := by decide +kernel
theorem dX12_push_76 : decode cX12_push 76 = .ok (.getfield 13, 3) := by decide +kernel
theorem dX12_push_79 : decode cX12_push 79 = .ok (.iload_n 1, 1) := by decide +kernel
theorem dX12_push_80 : decode cX12_push 80 = .ok (.iaload, 1) := by decide +kernel
theorem dX12_push_81 : decode cX12_push 81 = .ok (.iastore, 1) := by decide +kernel
theorem dX12_push_82 : decode cX12_push 82 = .ok (.iinc 1 1, 3) := by decide +kernel
theorem dX12_push_85 : decode cX12_push 85 = .ok (.goto (-31), 3) := by decide +kernel
theorem dX12_push_88 : decode cX12_push 88 = .ok (.aload_n 0, 1) := by decide +kernel
theorem dX12_push_89 : decode cX12_push 89 = .ok (.dup, 1) := by decide +kernel
theorem dX12_push_90 : decode cX12_push 90 = .ok (.getfield 71, 3) := by decide +kernel
theorem dX12_push_93 : decode cX12_push 93 = .ok (.iconst 1, 1) := by decide +kernel
theorem dX12_push_94 : decode cX12_push 94 = .ok (.iadd, 1) := by decide +kernel
theorem dX12_push_95 : decode cX12_push 95 = .ok (.putfield 71, 3) := by decide +kernel
theorem dX12_push_98 : decode cX12_push 98 = .ok (.return_, 1) := by decide +kernel
theorem dX12_remember_0 : decode cX12_remember 0 = .ok (.aload_n 0, 1) := by decide +kernel
theorem dX12_remember_1 : decode cX12_remember 1 = .ok (.invokevirtual 74, 3) := by decide +kernel
theorem dX12_remember_4 : decode cX12_remember 4 = .ok (.aload_n 0, 1) := by decide +kernel
theorem dX12_remember_5 : decode cX12_remember 5 = .ok (.invokevirtual 77, 3) := by decide +kernel
theorem dX12_remember_8 : decode cX12_remember 8 = .ok (.return_, 1) := by decide +kernel
theorem dX12_undo_0 : decode cX12_undo 0 = .ok (.aload_n 0, 1) := by decide +kernel
theorem dX12_undo_1 : decode cX12_undo 1 = .ok (.getfield 71, 3) := by decide +kernel
theorem dX12_undo_4 : decode cX12_undo 4 = .ok (.ifCond .ne 9, 3) := by decide +kernel
theorem dX12_undo_7 : decode cX12_undo 7 = .ok (.aload_n 0, 1) := by decide +kernel
theorem dX12_undo_8 : decode cX12_undo 8 = .ok (.iconst 1, 1) := by decide +kernel
theorem dX12_undo_9 : decode cX12_undo 9 = .ok (.invokevirtual 80, 3) := by decide +kernel
theorem dX12_undo_12 : decode cX12_undo 12 = .ok (.ireturn, 1) := by decide +kernel
theorem dX12_undo_13 : decode cX12_undo 13 = .ok (.aload_n 0, 1) := by decide +kernel
theorem dX12_undo_14 : decode cX12_undo 14 = .ok (.iconst 0, 1) := by decide +kernel
theorem dX12_undo_15 : decode cX12_undo 15 = .ok (.putfield 49, 3) := by decide +kernel
theorem dX12_undo_18 : decode cX12_undo 18 = .ok (.aload_n 0, 1) := by decide +kernel
theorem dX12_undo_19 : decode cX12_undo 19 = .ok (.dup, 1) := by decide +kernel
theorem dX12_undo_20 : decode cX12_undo 20 = .ok (.getfield 71, 3) := by decide +kernel
theorem dX12_undo_23 : decode cX12_undo 23 = .ok (.iconst 1, 1) := by decide +kernel
theorem dX12_undo_24 : decode cX12_undo 24 = .ok (.isub, 1) := by decide +kernel
theorem dX12_undo_25 : decode cX12_undo 25 = .ok (.putfield 71, 3) := by decide +kernel
theorem dX12_undo_28 : decode cX12_undo 28 = .ok (.iconst 0, 1) := by decide +kernel
theorem dX12_undo_29 : decode cX12_undo 29 = .ok (.istore_n 1, 1) := by decide +kernel
theorem dX12_undo_30 : decode cX12_undo 30 = .ok (.iload_n 1, 1) := by decide +kernel
theorem dX12_undo_31 : decode cX12_undo 31 = .ok (.sipush 608, 3) := by decide +kernel
theorem dX12_undo_34 : decode cX12_undo 34 = .ok (.if_icmp .ge 30, 3) := by decide +kernel
theorem dX12_undo_37 : decode cX12_undo 37 = .ok (.aload_n 0, 1) := by decide +kernel
theorem dX12_undo_38 : decode cX12_undo 38 = .ok (.getfield 7, 3) := by decide +kernel
theorem dX12_undo_41 : decode cX12_undo 41 = .ok (.iload_n 1, 1) := by decide +kernel
theorem dX12_undo_42 : decode cX12_undo 42 = .ok (.aload_n 0, 1) := by decide +kernel
theorem dX12_undo_43 : decode cX12_undo 43 = .ok (.getfield 19, 3) := by decide +kernel
theorem dX12_undo_46 : decode cX12_undo 46 = .ok (.sipush 608, 3) := by decide +kernel
theorem dX12_undo_49 : decode cX12_undo 49 = .ok (.aload_n 0, 1) := by decide +kernel
theorem dX12_undo_50 : decode cX12_undo 50 = .ok (.getfield 71, 3) := by decide +kernel
theorem dX12_undo_53 : decode cX12_undo 53 = .ok (.imul, 1) := by decide +kernel
theorem dX12_undo_54 : decode cX12_undo 54 = .ok (.iload_n 1, 1) := by decide +kernel
theorem dX12_undo_55 : decode cX12_undo 55 = .ok (.iadd, 1) := by decide +kernel
theorem dX12_undo_56 : decode cX12_undo 56 = .ok (.iaload, 1) := by decide +kernel
theorem dX12_undo_57 : decode cX12_undo 57 = .ok (.iastore, 1) := by decide +kernel
theorem dX12_undo_58 : decode cX12_undo 58 = .ok (.iinc 1 1, 3) := by decide +kernel
theorem dX12_undo_61 : decode cX12_undo 61 = .ok (.goto (-31), 3) := by decide +kernel
theorem dX12_undo_64 : decode cX12_undo 64 = .ok (.aload_n 0, 1) := by decide +kernel
theorem dX12_undo_65 : decode cX12_undo 65 = .ok (.getfield 71, 3) := by decide +kernel
theorem dX12_undo_68 : decode cX12_undo 68 = .ok (.ireturn, 1) := by decide +kernel
theorem dX12_undoDepth_0 : decode cX12_undoDepth 0 = .ok (.aload_n 0, 1) := by decide +kernel
theorem dX12_undoDepth_1 : decode cX12_undoDepth 1 = .ok (.iconst 0, 1) := by decide +kernel
theorem dX12_undoDepth_2 : decode cX12_undoDepth 2 = .ok (.putfield 49, 3) := by decide +kernel
theorem dX12_undoDepth_5 : decode cX12_undoDepth 5 = .ok (.aload_n 0, 1) := by decide +kernel
theorem dX12_undoDepth_6 : decode cX12_undoDepth 6 = .ok (.getfield 71, 3) := by decide +kernel
theorem dX12_undoDepth_9 : decode cX12_undoDepth 9 = .ok (.ireturn, 1) := by decide +kernel
theorem dX12_bring_0 : decode cX12_bring 0 = .ok (.iconst 3, 1) := by decide +kernel
theorem dX12_bring_1 : decode cX12_bring 1 = .ok (.istore_n 2, 1) := by decide +kernel
theorem dX12_bring_2 : decode cX12_bring 2 = .ok (.iload_n 2, 1) := by decide +kernel
theorem dX12_bring_3 : decode cX12_bring 3 = .ok (.ifCond .lt 32, 3) := by decide +kernel
theorem dX12_bring_6 : decode cX12_bring 6 = .ok (.aload_n 0, 1) := by decide +kernel
theorem dX12_bring_7 : decode cX12_bring 7 = .ok (.getfield 22, 3) := by decide +kernel
theorem dX12_bring_10 : decode cX12_bring 10 = .ok (.aload_n 0, 1) := by decide +kernel
theorem dX12_bring_11 : decode cX12_bring 11 = .ok (.dup, 1) := by decide +kernel
theorem dX12_bring_12 : decode cX12_bring 12 = .ok (.getfield 84, 3) := by decide +kernel
theorem dX12_bring_15 : decode cX12_bring 15 = .ok (.dup_x1, 1) := by decide +kernel
theorem dX12_bring_16 : decode cX12_bring 16 = .ok (.iconst 1, 1) := by decide +kernel
theorem dX12_bring_17 : decode cX12_bring 17 = .ok (.iadd, 1) := by decide +kernel
theorem dX12_bring_18 : decode cX12_bring 18 = .ok (.putfield 84, 3) := by decide +kernel
theorem dX12_bring_21 : decode cX12_bring 21 = .ok (.iload_n 1, 1) := by decide +kernel
theorem dX12_bring_22 : decode cX12_bring 22 = .ok (.bipush 8, 2) := by decide +kernel
theorem dX12_bring_24 : decode cX12_bring 24 = .ok (.iload_n 2, 1) := by decide +kernel
theorem dX12_bring_25 : decode cX12_bring 25 = .ok (.imul, 1) := by decide +kernel
theorem dX12_bring_26 : decode cX12_bring 26 = .ok (.ishr, 1) := by decide +kernel
theorem dX12_bring_27 : decode cX12_bring 27 = .ok (.i2b, 1) := by decide +kernel
theorem dX12_bring_28 : decode cX12_bring 28 = .ok (.bastore, 1) := by decide +kernel
theorem dX12_bring_29 : decode cX12_bring 29 = .ok (.iinc 2 (-1), 3) := by decide +kernel
theorem dX12_bring_32 : decode cX12_bring 32 = .ok (.goto (-30), 3) := by decide +kernel
theorem dX12_bring_35 : decode cX12_bring 35 = .ok (.return_, 1) := by decide +kernel
theorem dX12_appendText_0 : decode cX12_appendText 0 = .ok (.aload_n 0, 1) := by decide +kernel
theorem dX12_appendText_1 : decode cX12_appendText 1 = .ok (.getfield 84, 3) := by decide +kernel
theorem dX12_appendText_4 : decode cX12_appendText 4 = .ok (.bipush 20, 2) := by decide +kernel
theorem dX12_appendText_6 : decode cX12_appendText 6 = .ok (.iadd, 1) := by decide +kernel
theorem dX12_appendText_7 : decode cX12_appendText 7 = .ok (.sipush 400, 3) := by decide +kernel
theorem dX12_appendText_10 : decode cX12_appendText 10 = .ok (.if_icmp .le 9, 3) := by decide +kernel
theorem dX12_appendText_13 : decode cX12_appendText 13 = .ok (.aload_n 0, 1) := by decide +kernel
theorem dX12_appendText_14 : decode cX12_appendText 14 = .ok (.iconst 1, 1) := by decide +kernel
theorem dX12_appendText_15 : decode cX12_appendText 15 = .ok (.invokevirtual 80, 3) := by decide +kernel
theorem dX12_appendText_18 : decode cX12_appendText 18 = .ok (.ireturn, 1) := by decide +kernel
theorem dX12_appendText_19 : decode cX12_appendText 19 = .ok (.aload_n 0, 1) := by decide +kernel
theorem dX12_appendText_20 : decode cX12_appendText 20 = .ok (.iconst 0, 1) := by decide +kernel
theorem dX12_appendText_21 : decode cX12_appendText 21 = .ok (.putfield 49, 3) := by decide +kernel
theorem dX12_appendText_24 : decode cX12_appendText 24 = .ok (.aload_n 0, 1) := by decide +kernel
theorem dX12_appendText_25 : decode cX12_appendText 25 = .ok (.iload_n 1, 1) := by decide +kernel
theorem dX12_appendText_26 : decode cX12_appendText 26 = .ok (.invokevirtual 87, 3) := by decide +kernel
theorem dX12_appendText_29 : decode cX12_appendText 29 = .ok (.aload_n 0, 1) := by decide +kernel
theorem dX12_appendText_30 : decode cX12_appendText 30 = .ok (.iload_n 2, 1) := by decide +kernel
theorem dX12_appendText_31 : decode cX12_appendText 31 = .ok (.invokevirtual 87, 3) := by decide +kernel
theorem dX12_appendText_34 : decode cX12_appendText 34 = .ok (.aload_n 0, 1) := by decide +kernel
theorem dX12_appendText_35 : decode cX12_appendText 35 = .ok (.iload_n 3, 1) := by decide +kernel
theorem dX12_appendText_36 : decode cX12_appendText 36 = .ok (.invokevirtual 87, 3) := by decide +kernel
theorem dX12_appendText_39 : decode cX12_appendText 39 = .ok (.aload_n 0, 1) := by decide +kernel
theorem dX12_appendText_40 : decode cX12_appendText 40 = .ok (.iload 4, 2) := by decide +kernel
theorem dX12_appendText_42 : decode cX12_appendText 42 = .ok (.invokevirtual 87, 3) := by decide +kernel
theorem dX12_appendText_45 : decode cX12_appendText 45 = .ok (.aload_n 0, 1) := by decide +kernel
theorem dX12_appendText_46 : decode cX12_appendText 46 = .ok (.iload 5, 2) := by decide +kernel
theorem dX12_appendText_48 : decode cX12_appendText 48 = .ok (.invokevirtual 87, 3) := by decide +kernel
theorem dX12_appendText_51 : decode cX12_appendText 51 = .ok (.aload_n 0, 1) := by decide +kernel
theorem dX12_appendText_52 : decode cX12_appendText 52 = .ok (.getfield 84, 3) := by decide +kernel
theorem dX12_appendText_55 : decode cX12_appendText 55 = .ok (.ireturn, 1) := by decide +kernel
theorem dX12_truncateText_0 : decode cX12_truncateText 0 = .ok (.iload_n 1, 1) := by decide +kernel
theorem dX12_truncateText_1 : decode cX12_truncateText 1 = .ok (.i2l, 1) := by decide +kernel
theorem dX12_truncateText_2 : decode cX12_truncateText 2 = .ok (.lconst 0, 1) := by decide +kernel
theorem dX12_truncateText_3 : decode cX12_truncateText 3 = .ok (.aload_n 0, 1) := by decide +kernel
theorem dX12_truncateText_4 : decode cX12_truncateText 4 = .ok (.getfield 84, 3) := by decide +kernel
theorem dX12_truncateText_7 : decode cX12_truncateText 7 = .ok (.i2l, 1) := by decide +kernel
theorem dX12_truncateText_8 : decode cX12_truncateText 8 = .ok (.invokestatic 52, 3) := by decide +kernel
theorem dX12_truncateText_11 : decode cX12_truncateText 11 = .ok (.ifCond .ne 9, 3) := by decide +kernel
theorem dX12_truncateText_14 : decode cX12_truncateText 14 = .ok (.aload_n 0, 1) := by decide +kernel
theorem dX12_truncateText_15 : decode cX12_truncateText 15 = .ok (.iconst 1, 1) := by decide +kernel
theorem dX12_truncateText_16 : decode cX12_truncateText 16 = .ok (.invokevirtual 80, 3) := by decide +kernel
theorem dX12_truncateText_19 : decode cX12_truncateText 19 = .ok (.ireturn, 1) := by decide +kernel
theorem dX12_truncateText_20 : decode cX12_truncateText 20 = .ok (.aload_n 0, 1) := by decide +kernel
theorem dX12_truncateText_21 : decode cX12_truncateText 21 = .ok (.iconst 0, 1) := by decide +kernel
theorem dX12_truncateText_22 : decode cX12_truncateText 22 = .ok (.putfield 49, 3) := by decide +kernel
theorem dX12_truncateText_25 : decode cX12_truncateText 25 = .ok (.aload_n 0, 1) := by decide +kernel
theorem dX12_truncateText_26 : decode cX12_truncateText 26 = .ok (.iload_n 1, 1) := by decide +kernel
theorem dX12_truncateText_27 : decode cX12_truncateText 27 = .ok (.putfield 84, 3) := by decide +kernel
theorem dX12_truncateText_30 : decode cX12_truncateText 30 = .ok (.iload_n 1, 1) := by decide +kernel
theorem dX12_truncateText_31 : decode cX12_truncateText 31 = .ok (.ireturn, 1) := by decide +kernel
theorem dX12_byteAt_0 : decode cX12_byteAt 0 = .ok (.iload_n 1, 1) := by decide +kernel
theorem dX12_byteAt_1 : decode cX12_byteAt 1 = .ok (.aload_n 0, 1) := by decide +kernel
theorem dX12_byteAt_2 : decode cX12_byteAt 2 = .ok (.getfield 91, 3) := by decide +kernel
theorem dX12_byteAt_5 : decode cX12_byteAt 5 = .ok (.if_icmp .ge 16, 3) := by decide +kernel
theorem dX12_byteAt_8 : decode cX12_byteAt 8 = .ok (.aload_n 0, 1) := by decide +kernel
theorem dX12_byteAt_9 : decode cX12_byteAt 9 = .ok (.getfield 22, 3) := by decide +kernel
theorem dX12_byteAt_12 : decode cX12_byteAt 12 = .ok (.iload_n 1, 1) := by decide +kernel
theorem dX12_byteAt_13 : decode cX12_byteAt 13 = .ok (.baload, 1) := by decide +kernel
theorem dX12_byteAt_14 : decode cX12_byteAt 14 = .ok (.sipush 255, 3) := by decide +kernel
theorem dX12_byteAt_17 : decode cX12_byteAt 17 = .ok (.iand, 1) := by decide +kernel
theorem dX12_byteAt_18 : decode cX12_byteAt 18 = .ok (.goto 4, 3) := by decide +kernel
theorem dX12_byteAt_21 : decode cX12_byteAt 21 = .ok (.iconst (-1), 1) := by decide +kernel
theorem dX12_byteAt_22 : decode cX12_byteAt 22 = .ok (.ireturn, 1) := by decide +kernel
theorem dX12_next_0 : decode cX12_next 0 = .ok (.aload_n 0, 1) := by decide +kernel
theorem dX12_next_1 : decode cX12_next 1 = .ok (.aload_n 0, 1) := by decide +kernel
theorem dX12_next_2 : decode cX12_next 2 = .ok (.getfield 94, 3) := by decide +kernel
theorem dX12_next_5 : decode cX12_next 5 = .ok (.putfield 97, 3) := by decide +kernel
theorem dX12_next_8 : decode cX12_next 8 = .ok (.aload_n 0, 1) := by decide +kernel
theorem dX12_next_9 : decode cX12_next 9 = .ok (.aload_n 0, 1) := by decide +kernel
theorem dX12_next_10 : decode cX12_next 10 = .ok (.getfield 97, 3) := by decide +kernel
theorem dX12_next_13 : decode cX12_next 13 = .ok (.invokevirtual 100, 3) := by decide +kernel
theorem dX12_next_16 : decode cX12_next 16 = .ok (.bipush 32, 2) := by decide +kernel
theorem dX12_next_18 : decode cX12_next 18 = .ok (.if_icmp .eq 16, 3) := by decide +kernel
theorem dX12_next_21 : decode cX12_next 21 = .ok (.aload_n 0, 1) := by decide +kernel
theorem dX12_next_22 : decode cX12_next 22 = .ok (.aload_n 0, 1) := by decide +kernel
theorem dX12_next_23 : decode cX12_next 23 = .ok (.getfield 97, 3) := by decide +kernel
theorem dX12_next_26 : decode cX12_next 26 = .ok (.invokevirtual 100, 3) := by decide +kernel
theorem dX12_next_29 : decode cX12_next 29 = .ok (.bipush 10, 2) := by decide +kernel
theorem dX12_next_31 : decode cX12_next 31 = .ok (.if_icmp .ne 16, 3) := by decide +kernel
theorem dX12_next_34 : decode cX12_next 34 = .ok (.aload_n 0, 1) := by decide +kernel
theorem dX12_next_35 : decode cX12_next 35 = .ok (.dup, 1) := by decide +kernel
theorem dX12_next_36 : decode cX12_next 36 = .ok (.getfield 97, 3) := by decide +kernel
theorem dX12_next_39 : decode cX12_next 39 = .ok (.iconst 1, 1) := by decide +kernel
theorem dX12_next_40 : decode cX12_next 40 = .ok (.iadd, 1) := by decide +kernel
theorem dX12_next_41 : decode cX12_next 41 = .ok (.putfield 97, 3) := by decide +kernel
theorem dX12_next_44 : decode cX12_next 44 = .ok (.goto (-36), 3) := by decide +kernel
theorem dX12_next_47 : decode cX12_next 47 = .ok (.aload_n 0, 1) := by decide +kernel
theorem dX12_next_48 : decode cX12_next 48 = .ok (.aload_n 0, 1) := by decide +kernel
theorem dX12_next_49 : decode cX12_next 49 = .ok (.getfield 97, 3) := by decide +kernel
theorem dX12_next_52 : decode cX12_next 52 = .ok (.putfield 94, 3) := by decide +kernel
theorem dX12_next_55 : decode cX12_next 55 = .ok (.aload_n 0, 1) := by decide +kernel
theorem dX12_next_56 : decode cX12_next 56 = .ok (.aload_n 0, 1) := by decide +kernel
theorem dX12_next_57 : decode cX12_next 57 = .ok (.getfield 94, 3) := by decide +kernel
theorem dX12_next_60 : decode cX12_next 60 = .ok (.invokevirtual 100, 3) := by decide +kernel
theorem dX12_next_63 : decode cX12_next 63 = .ok (.i2l, 1) := by decide +kernel
theorem dX12_next_64 : decode cX12_next 64 = .ok (.ldc2_w 103, 3) := by decide +kernel
theorem dX12_next_67 : decode cX12_next 67 = .ok (.ldc2_w 105, 3) := by decide +kernel
theorem dX12_next_70 : decode cX12_next 70 = .ok (.invokestatic 52, 3) := by decide +kernel
theorem dX12_next_73 : decode cX12_next 73 = .ok (.ifCond .eq 37, 3) := by decide +kernel
theorem dX12_next_76 : decode cX12_next 76 = .ok (.aload_n 0, 1) := by decide +kernel
theorem dX12_next_77 : decode cX12_next 77 = .ok (.aload_n 0, 1) := by decide +kernel
theorem dX12_next_78 : decode cX12_next 78 = .ok (.getfield 94, 3) := by decide +kernel
theorem dX12_next_81 : decode cX12_next 81 = .ok (.invokevirtual 100, 3) := by decide +kernel
theorem dX12_next_84 : decode cX12_next 84 = .ok (.i2l, 1) := by decide +kernel
theorem dX12_next_85 : decode cX12_next 85 = .ok (.ldc2_w 103, 3) := by decide +kernel
theorem dX12_next_88 : decode cX12_next 88 = .ok (.ldc2_w 105, 3) := by decide +kernel
theorem dX12_next_91 : decode cX12_next 91 = .ok (.invokestatic 52, 3) := by decide +kernel
theorem dX12_next_94 : decode cX12_next 94 = .ok (.ifCond .eq 92, 3) := by decide +kernel
theorem dX12_next_97 : decode cX12_next 97 = .ok (.aload_n 0, 1) := by decide +kernel
theorem dX12_next_98 : decode cX12_next 98 = .ok (.dup, 1) := by decide +kernel
theorem dX12_next_99 : decode cX12_next 99 = .ok (.getfield 94, 3) := by decide +kernel
theorem dX12_next_102 : decode cX12_next 102 = .ok (.iconst 1, 1) := by decide +kernel
theorem dX12_next_103 : decode cX12_next 103 = .ok (.iadd, 1) := by decide +kernel
theorem dX12_next_104 : decode cX12_next 104 = .ok (.putfield 94, 3) := by decide +kernel
theorem dX12_next_107 : decode cX12_next 107 = .ok (.goto (-31), 3) := by decide +kernel
theorem dX12_next_110 : decode cX12_next 110 = .ok (.aload_n 0, 1) := by decide +kernel
theorem dX12_next_111 : decode cX12_next 111 = .ok (.aload_n 0, 1) := by decide +kernel
theorem dX12_next_112 : decode cX12_next 112 = .ok (.getfield 94, 3) := by decide +kernel
theorem dX12_next_115 : decode cX12_next 115 = .ok (.invokevirtual 100, 3) := by decide +kernel
theorem dX12_next_118 : decode cX12_next 118 = .ok (.i2l, 1) := by decide +kernel
theorem dX12_next_119 : decode cX12_next 119 = .ok (.ldc2_w 107, 3) := by decide +kernel
theorem dX12_next_122 : decode cX12_next 122 = .ok (.ldc2_w 109, 3) := by decide +kernel
theorem dX12_next_125 : decode cX12_next 125 = .ok (.invokestatic 52, 3) := by decide +kernel
theorem dX12_next_128 : decode cX12_next 128 = .ok (.ifCond .eq 37, 3) := by decide +kernel
theorem dX12_next_131 : decode cX12_next 131 = .ok (.aload_n 0, 1) := by decide +kernel
theorem dX12_next_132 : decode cX12_next 132 = .ok (.aload_n 0, 1) := by decide +kernel
theorem dX12_next_133 : decode cX12_next 133 = .ok (.getfield 94, 3) := by decide +kernel
theorem dX12_next_136 : decode cX12_next 136 = .ok (.invokevirtual 100, 3) := by decide +kernel
theorem dX12_next_139 : decode cX12_next 139 = .ok (.i2l, 1) := by decide +kernel
theorem dX12_next_140 : decode cX12_next 140 = .ok (.ldc2_w 107, 3) := by decide +kernel
theorem dX12_next_143 : decode cX12_next 143 = .ok (.ldc2_w 109, 3) := by decide +kernel
theorem dX12_next_146 : decode cX12_next 146 = .ok (.invokestatic 52, 3) := by decide +kernel
theorem dX12_next_149 : decode cX12_next 149 = .ok (.ifCond .eq 37, 3) := by decide +kernel
theorem dX12_next_152 : decode cX12_next 152 = .ok (.aload_n 0, 1) := by decide +kernel
theorem dX12_next_153 : decode cX12_next 153 = .ok (.dup, 1) := by decide +kernel
theorem dX12_next_154 : decode cX12_next 154 = .ok (.getfield 94, 3) := by decide +kernel
theorem dX12_next_157 : decode cX12_next 157 = .ok (.iconst 1, 1) := by decide +kernel
theorem dX12_next_158 : decode cX12_next 158 = .ok (.iadd, 1) := by decide +kernel
theorem dX12_next_159 : decode cX12_next 159 = .ok (.putfield 94, 3) := by decide +kernel
theorem dX12_next_162 : decode cX12_next 162 = .ok (.goto (-31), 3) := by decide +kernel
theorem dX12_next_165 : decode cX12_next 165 = .ok (.aload_n 0, 1) := by decide +kernel
theorem dX12_next_166 : decode cX12_next 166 = .ok (.getfield 94, 3) := by decide +kernel
theorem dX12_next_169 : decode cX12_next 169 = .ok (.aload_n 0, 1) := by decide +kernel
theorem dX12_next_170 : decode cX12_next 170 = .ok (.getfield 91, 3) := by decide +kernel
theorem dX12_next_173 : decode cX12_next 173 = .ok (.if_icmp .ge 13, 3) := by decide +kernel
theorem dX12_next_176 : decode cX12_next 176 = .ok (.aload_n 0, 1) := by decide +kernel
theorem dX12_next_177 : decode cX12_next 177 = .ok (.dup, 1) := by decide +kernel
theorem dX12_next_178 : decode cX12_next 178 = .ok (.getfield 94, 3) := by decide +kernel
theorem dX12_next_181 : decode cX12_next 181 = .ok (.iconst 1, 1) := by decide +kernel
theorem dX12_next_182 : decode cX12_next 182 = .ok (.iadd, 1) := by decide +kernel
theorem dX12_next_183 : decode cX12_next 183 = .ok (.putfield 94, 3) := by decide +kernel
theorem dX12_next_186 : decode cX12_next 186 = .ok (.return_, 1) := by decide +kernel
theorem dX12_wrong_0 : decode cX12_wrong 0 = .ok (.aload_n 0, 1) := by decide +kernel
theorem dX12_wrong_1 : decode cX12_wrong 1 = .ok (.getfield 111, 3) := by decide +kernel
theorem dX12_wrong_4 : decode cX12_wrong 4 = .ok (.ifCond .le 4, 3) := by decide +kernel
theorem dX12_wrong_7 : decode cX12_wrong 7 = .ok (.return_, 1) := by decide +kernel
theorem dX12_wrong_8 : decode cX12_wrong 8 = .ok (.aload_n 0, 1) := by decide +kernel
theorem dX12_wrong_9 : decode cX12_wrong 9 = .ok (.iload_n 1, 1) := by decide +kernel
theorem dX12_wrong_10 : decode cX12_wrong 10 = .ok (.putfield 111, 3) := by decide +kernel
theorem dX12_wrong_13 : decode cX12_wrong 13 = .ok (.aload_n 0, 1) := by decide +kernel
theorem dX12_wrong_14 : decode cX12_wrong 14 = .ok (.aload_n 0, 1) := by decide +kernel
theorem dX12_wrong_15 : decode cX12_wrong 15 = .ok (.getfield 97, 3) := by decide +kernel
theorem dX12_wrong_18 : decode cX12_wrong 18 = .ok (.putfield 26, 3) := by decide +kernel
theorem dX12_wrong_21 : decode cX12_wrong 21 = .ok (.return_, 1) := by decide +kernel
theorem dX12_isWord_0 : decode cX12_isWord 0 = .ok (.aload_n 0, 1) := by decide +kernel
theorem dX12_isWord_1 : decode cX12_isWord 1 = .ok (.getfield 94, 3) := by decide +kernel
theorem dX12_isWord_4 : decode cX12_isWord 4 = .ok (.aload_n 0, 1) := by decide +kernel
theorem dX12_isWord_5 : decode cX12_isWord 5 = .ok (.getfield 97, 3) := by decide +kernel
theorem dX12_isWord_8 : decode cX12_isWord 8 = .ok (.isub, 1) := by decide +kernel
theorem dX12_isWord_9 : decode cX12_isWord 9 = .ok (.aload_n 1, 1) := by decide +kernel
theorem dX12_isWord_10 : decode cX12_isWord 10 = .ok (.invokevirtual 114, 3) := by decide +kernel
theorem dX12_isWord_13 : decode cX12_isWord 13 = .ok (.if_icmp .ne 7, 3) := by decide +kernel
theorem dX12_isWord_16 : decode cX12_isWord 16 = .ok (.iconst 1, 1) := by decide +kernel
theorem dX12_isWord_17 : decode cX12_isWord 17 = .ok (.goto 4, 3) := by decide +kernel
theorem dX12_isWord_20 : decode cX12_isWord 20 = .ok (.iconst 0, 1) := by decide +kernel
theorem dX12_isWord_21 : decode cX12_isWord 21 = .ok (.istore_n 2, 1) := by decide +kernel
theorem dX12_isWord_22 : decode cX12_isWord 22 = .ok (.iconst 0, 1) := by decide +kernel
theorem dX12_isWord_23 : decode cX12_isWord 23 = .ok (.istore_n 3, 1) := by decide +kernel
theorem dX12_isWord_24 : decode cX12_isWord 24 = .ok (.iload_n 3, 1) := by decide +kernel
theorem dX12_isWord_25 : decode cX12_isWord 25 = .ok (.aload_n 1, 1) := by decide +kernel
theorem dX12_isWord_26 : decode cX12_isWord 26 = .ok (.invokevirtual 114, 3) := by decide +kernel
theorem dX12_isWord_29 : decode cX12_isWord 29 = .ok (.if_icmp .ge 37, 3) := by decide +kernel
theorem dX12_isWord_32 : decode cX12_isWord 32 = .ok (.iload_n 2, 1) := by decide +kernel
theorem dX12_isWord_33 : decode cX12_isWord 33 = .ok (.ifCond .eq 33, 3) := by decide +kernel
theorem dX12_isWord_36 : decode cX12_isWord 36 = .ok (.aload_n 0, 1) := by decide +kernel
theorem dX12_isWord_37 : decode cX12_isWord 37 = .ok (.aload_n 0, 1) := by decide +kernel
theorem dX12_isWord_38 : decode cX12_isWord 38 = .ok (.getfield 97, 3) := by decide +kernel
theorem dX12_isWord_41 : decode cX12_isWord 41 = .ok (.iload_n 3, 1) := by decide +kernel
theorem dX12_isWord_42 : decode cX12_isWord 42 = .ok (.iadd, 1) := by decide +kernel
theorem dX12_isWord_43 : decode cX12_isWord 43 = .ok (.invokevirtual 100, 3) := by decide +kernel
theorem dX12_isWord_46 : decode cX12_isWord 46 = .ok (.aload_n 1, 1) := by decide +kernel
theorem dX12_isWord_47 : decode cX12_isWord 47 = .ok (.iload_n 3, 1) := by decide +kernel
theorem dX12_isWord_48 : decode cX12_isWord 48 = .ok (.invokevirtual 119, 3) := by decide +kernel
theorem dX12_isWord_51 : decode cX12_isWord 51 = .ok (.if_icmp .ne 7, 3) := by decide +kernel
theorem dX12_isWord_54 : decode cX12_isWord 54 = .ok (.iconst 1, 1) := by decide +kernel
theorem dX12_isWord_55 : decode cX12_isWord 55 = .ok (.goto 4, 3) := by decide +kernel
theorem dX12_isWord_58 : decode cX12_isWord 58 = .ok (.iconst 0, 1) := by decide +kernel
theorem dX12_isWord_59 : decode cX12_isWord 59 = .ok (.istore_n 2, 1) := by decide +kernel
theorem dX12_isWord_60 : decode cX12_isWord 60 = .ok (.iinc 3 1, 3) := by decide +kernel
theorem dX12_isWord_63 : decode cX12_isWord 63 = .ok (.goto (-39), 3) := by decide +kernel
theorem dX12_isWord_66 : decode cX12_isWord 66 = .ok (.iload_n 2, 1) := by decide +kernel
theorem dX12_isWord_67 : decode cX12_isWord 67 = .ok (.ireturn, 1) := by decide +kernel
theorem dX12_isDigit_0 : decode cX12_isDigit 0 = .ok (.aload_n 0, 1) := by decide +kernel
theorem dX12_isDigit_1 : decode cX12_isDigit 1 = .ok (.aload_n 0, 1) := by decide +kernel
theorem dX12_isDigit_2 : decode cX12_isDigit 2 = .ok (.getfield 97, 3) := by decide +kernel
theorem dX12_isDigit_5 : decode cX12_isDigit 5 = .ok (.invokevirtual 100, 3) := by decide +kernel
theorem dX12_isDigit_8 : decode cX12_isDigit 8 = .ok (.i2l, 1) := by decide +kernel
theorem dX12_isDigit_9 : decode cX12_isDigit 9 = .ok (.ldc2_w 107, 3) := by decide +kernel
theorem dX12_isDigit_12 : decode cX12_isDigit 12 = .ok (.ldc2_w 109, 3) := by decide +kernel
theorem dX12_isDigit_15 : decode cX12_isDigit 15 = .ok (.invokestatic 52, 3) := by decide +kernel
theorem dX12_isDigit_18 : decode cX12_isDigit 18 = .ok (.ireturn, 1) := by decide +kernel
theorem dX12_pass_0 : decode cX12_pass 0 = .ok (.aload_n 0, 1) := by decide +kernel
theorem dX12_pass_1 : decode cX12_pass 1 = .ok (.getfield 111, 3) := by decide +kernel
theorem dX12_pass_4 : decode cX12_pass 4 = .ok (.ifCond .ne 7, 3) := by decide +kernel
theorem dX12_pass_7 : decode cX12_pass 7 = .ok (.aload_n 0, 1) := by decide +kernel
theorem dX12_pass_8 : decode cX12_pass 8 = .ok (.invokevirtual 123, 3) := by decide +kernel
theorem dX12_pass_11 : decode cX12_pass 11 = .ok (.return_, 1) := by decide +kernel
theorem dX12_number_0 : decode cX12_number 0 = .ok (.aload_n 0, 1) := by decide +kernel
theorem dX12_number_1 : decode cX12_number 1 = .ok (.getfield 111, 3) := by decide +kernel
theorem dX12_number_4 : decode cX12_number 4 = .ok (.ifCond .le 5, 3) := by decide +kernel
theorem dX12_number_7 : decode cX12_number 7 = .ok (.iconst 0, 1) := by decide +kernel
theorem dX12_number_8 : decode cX12_number 8 = .ok (.ireturn, 1) := by decide +kernel
theorem dX12_number_9 : decode cX12_number 9 = .ok (.aload_n 0, 1) := by decide +kernel
theorem dX12_number_10 : decode cX12_number 10 = .ok (.invokevirtual 126, 3) := by decide +kernel
theorem dX12_number_13 : decode cX12_number 13 = .ok (.ifCond .ne 11, 3) := by decide +kernel
theorem dX12_number_16 : decode cX12_number 16 = .ok (.aload_n 0, 1) := by decide +kernel
theorem dX12_number_17 : decode cX12_number 17 = .ok (.iconst 1, 1) := by decide +kernel
theorem dX12_number_18 : decode cX12_number 18 = .ok (.invokevirtual 130, 3) := by decide +kernel
theorem dX12_number_21 : decode cX12_number 21 = .ok (.goto 22, 3) := by decide +kernel
theorem dX12_number_24 : decode cX12_number 24 = .ok (.aload_n 0, 1) := by decide +kernel
theorem dX12_number_25 : decode cX12_number 25 = .ok (.getfield 94, 3) := by decide +kernel
theorem dX12_number_28 : decode cX12_number 28 = .ok (.aload_n 0, 1) := by decide +kernel
theorem dX12_number_29 : decode cX12_number 29 = .ok (.getfield 97, 3) := by decide +kernel
theorem dX12_number_32 : decode cX12_number 32 = .ok (.isub, 1) := by decide +kernel
theorem dX12_number_33 : decode cX12_number 33 = .ok (.bipush 9, 2) := by decide +kernel
theorem dX12_number_35 : decode cX12_number 35 = .ok (.if_icmp .le 8, 3) := by decide +kernel
theorem dX12_number_38 : decode cX12_number 38 = .ok (.aload_n 0, 1) := by decide +kernel
theorem dX12_number_39 : decode cX12_number 39 = .ok (.iconst 2, 1) := by decide +kernel
theorem dX12_number_40 : decode cX12_number 40 = .ok (.invokevirtual 130, 3) := by decide +kernel
theorem dX12_number_43 : decode cX12_number 43 = .ok (.iconst 0, 1) := by decide +kernel
theorem dX12_number_44 : decode cX12_number 44 = .ok (.istore_n 3, 1) := by decide +kernel
theorem dX12_number_45 : decode cX12_number 45 = .ok (.aload_n 0, 1) := by decide +kernel
theorem dX12_number_46 : decode cX12_number 46 = .ok (.getfield 97, 3) := by decide +kernel
theorem dX12_number_49 : decode cX12_number 49 = .ok (.istore 4, 2) := by decide +kernel
theorem dX12_number_51 : decode cX12_number 51 = .ok (.iload 4, 2) := by decide +kernel
theorem dX12_number_53 : decode cX12_number 53 = .ok (.aload_n 0, 1) := by decide +kernel
theorem dX12_number_54 : decode cX12_number 54 = .ok (.getfield 94, 3) := by decide +kernel
theorem dX12_number_57 : decode cX12_number 57 = .ok (.if_icmp .ge 31, 3) := by decide +kernel
theorem dX12_number_60 : decode cX12_number 60 = .ok (.aload_n 0, 1) := by decide +kernel
theorem dX12_number_61 : decode cX12_number 61 = .ok (.getfield 111, 3) := by decide +kernel
theorem dX12_number_64 : decode cX12_number 64 = .ok (.ifCond .ne 24, 3) := by decide +kernel
theorem dX12_number_67 : decode cX12_number 67 = .ok (.bipush 10, 2) := by decide +kernel
theorem dX12_number_69 : decode cX12_number 69 = .ok (.iload_n 3, 1) := by decide +kernel
theorem dX12_number_70 : decode cX12_number 70 = .ok (.imul, 1) := by decide +kernel
theorem dX12_number_71 : decode cX12_number 71 = .ok (.aload_n 0, 1) := by decide +kernel
theorem dX12_number_72 : decode cX12_number 72 = .ok (.iload 4, 2) := by decide +kernel
theorem dX12_number_74 : decode cX12_number 74 = .ok (.invokevirtual 100, 3) := by decide +kernel
theorem dX12_number_77 : decode cX12_number 77 = .ok (.iadd, 1) := by decide +kernel
theorem dX12_number_78 : decode cX12_number 78 = .ok (.bipush 48, 2) := by decide +kernel
theorem dX12_number_80 : decode cX12_number 80 = .ok (.isub, 1) := by decide +kernel
theorem dX12_number_81 : decode cX12_number 81 = .ok (.istore_n 3, 1) := by decide +kernel
theorem dX12_number_82 : decode cX12_number 82 = .ok (.iinc 4 1, 3) := by decide +kernel
theorem dX12_number_85 : decode cX12_number 85 = .ok (.goto (-34), 3) := by decide +kernel
theorem dX12_number_88 : decode cX12_number 88 = .ok (.aload_n 0, 1) := by decide +kernel
theorem dX12_number_89 : decode cX12_number 89 = .ok (.getfield 111, 3) := by decide +kernel
theorem dX12_number_92 : decode cX12_number 92 = .ok (.ifCond .ne 20, 3) := by decide +kernel
theorem dX12_number_95 : decode cX12_number 95 = .ok (.iload_n 3, 1) := by decide +kernel
theorem dX12_number_96 : decode cX12_number 96 = .ok (.i2l, 1) := by decide +kernel
theorem dX12_number_97 : decode cX12_number 97 = .ok (.iload_n 1, 1) := by decide +kernel
theorem dX12_number_98 : decode cX12_number 98 = .ok (.i2l, 1) := by decide +kernel
theorem dX12_number_99 : decode cX12_number 99 = .ok (.iload_n 2, 1) := by decide +kernel
theorem dX12_number_100 : decode cX12_number 100 = .ok (.i2l, 1) := by decide +kernel
theorem dX12_number_101 : decode cX12_number 101 = .ok (.invokestatic 52, 3) := by decide +kernel
theorem dX12_number_104 : decode cX12_number 104 = .ok (.ifCond .ne 8, 3) := by decide +kernel
theorem dX12_number_107 : decode cX12_number 107 = .ok (.aload_n 0, 1) := by decide +kernel
theorem dX12_number_108 : decode cX12_number 108 = .ok (.iconst 2, 1) := by decide +kernel
theorem dX12_number_109 : decode cX12_number 109 = .ok (.invokevirtual 130, 3) := by decide +kernel
theorem dX12_number_112 : decode cX12_number 112 = .ok (.aload_n 0, 1) := by decide +kernel
theorem dX12_number_113 : decode cX12_number 113 = .ok (.invokevirtual 133, 3) := by decide +kernel
theorem dX12_number_116 : decode cX12_number 116 = .ok (.iload_n 3, 1) := by decide +kernel
theorem dX12_number_117 : decode cX12_number 117 = .ok (.ireturn, 1) := by decide +kernel
theorem dX12_must_0 : decode cX12_must 0 = .ok (.aload_n 0, 1) := by decide +kernel
theorem dX12_must_1 : decode cX12_must 1 = .ok (.aload_n 1, 1) := by decide +kernel
theorem dX12_must_2 : decode cX12_must 2 = .ok (.invokevirtual 136, 3) := by decide +kernel
theorem dX12_must_5 : decode cX12_must 5 = .ok (.ifCond .ne 8, 3) := by decide +kernel
theorem dX12_must_8 : decode cX12_must 8 = .ok (.aload_n 0, 1) := by decide +kernel
theorem dX12_must_9 : decode cX12_must 9 = .ok (.iconst 1, 1) := by decide +kernel
theorem dX12_must_10 : decode cX12_must 10 = .ok (.invokevirtual 130, 3) := by decide +kernel
theorem dX12_must_13 : decode cX12_must 13 = .ok (.aload_n 0, 1) := by decide +kernel
theorem dX12_must_14 : decode cX12_must 14 = .ok (.invokevirtual 133, 3) := by decide +kernel
theorem dX12_must_17 : decode cX12_must 17 = .ok (.return_, 1) := by decide +kernel
theorem dX12_wordOf_0 : decode cX12_wordOf 0 = .ok (.aload_n 0, 1) := by decide +kernel
theorem dX12_wordOf_1 : decode cX12_wordOf 1 = .ok (.getfield 111, 3) := by decide +kernel
theorem dX12_wordOf_4 : decode cX12_wordOf 4 = .ok (.ifCond .le 5, 3) := by decide +kernel
theorem dX12_wordOf_7 : decode cX12_wordOf 7 = .ok (.iconst 0, 1) := by decide +kernel
theorem dX12_wordOf_8 : decode cX12_wordOf 8 = .ok (.ireturn, 1) := by decide +kernel
theorem dX12_wordOf_9 : decode cX12_wordOf 9 = .ok (.aload_n 0, 1) := by decide +kernel
theorem dX12_wordOf_10 : decode cX12_wordOf 10 = .ok (.aload_n 1, 1) := by decide +kernel
theorem dX12_wordOf_11 : decode cX12_wordOf 11 = .ok (.invokevirtual 136, 3) := by decide +kernel
theorem dX12_wordOf_14 : decode cX12_wordOf 14 = .ok (.ifCond .eq 7, 3) := by decide +kernel
theorem dX12_wordOf_17 : decode cX12_wordOf 17 = .ok (.iconst 0, 1) := by decide +kernel
theorem dX12_wordOf_18 : decode cX12_wordOf 18 = .ok (.goto 28, 3) := by decide +kernel
theorem dX12_wordOf_21 : decode cX12_wordOf 21 = .ok (.aload_n 0, 1) := by decide +kernel
theorem dX12_wordOf_22 : decode cX12_wordOf 22 = .ok (.aload_n 2, 1) := by decide +kernel
theorem dX12_wordOf_23 : decode cX12_wordOf 23 = .ok (.invokevirtual 136, 3) := by decide +kernel
theorem dX12_wordOf_26 : decode cX12_wordOf 26 = .ok (.ifCond .eq 7, 3) := by decide +kernel
theorem dX12_wordOf_29 : decode cX12_wordOf 29 = .ok (.iconst 1, 1) := by decide +kernel
theorem dX12_wordOf_30 : decode cX12_wordOf 30 = .ok (.goto 16, 3) := by decide +kernel
theorem dX12_wordOf_33 : decode cX12_wordOf 33 = .ok (.aload_n 0, 1) := by decide +kernel
theorem dX12_wordOf_34 : decode cX12_wordOf 34 = .ok (.aload_n 3, 1) := by decide +kernel
theorem dX12_wordOf_35 : decode cX12_wordOf 35 = .ok (.invokevirtual 136, 3) := by decide +kernel
theorem dX12_wordOf_38 : decode cX12_wordOf 38 = .ok (.ifCond .eq 7, 3) := by decide +kernel
theorem dX12_wordOf_41 : decode cX12_wordOf 41 = .ok (.iconst 2, 1) := by decide +kernel
theorem dX12_wordOf_42 : decode cX12_wordOf 42 = .ok (.goto 4, 3) := by decide +kernel
theorem dX12_wordOf_45 : decode cX12_wordOf 45 = .ok (.iconst (-1), 1) := by decide +kernel
theorem dX12_wordOf_46 : decode cX12_wordOf 46 = .ok (.istore 4, 2) := by decide +kernel
theorem dX12_wordOf_48 : decode cX12_wordOf 48 = .ok (.iload 4, 2) := by decide +kernel
theorem dX12_wordOf_50 : decode cX12_wordOf 50 = .ok (.iconst (-1), 1) := by decide +kernel
theorem dX12_wordOf_51 : decode cX12_wordOf 51 = .ok (.if_icmp .ne 8, 3) := by decide +kernel
theorem dX12_wordOf_54 : decode cX12_wordOf 54 = .ok (.aload_n 0, 1) := by decide +kernel
theorem dX12_wordOf_55 : decode cX12_wordOf 55 = .ok (.iconst 1, 1) := by decide +kernel
theorem dX12_wordOf_56 : decode cX12_wordOf 56 = .ok (.invokevirtual 130, 3) := by decide +kernel
theorem dX12_wordOf_59 : decode cX12_wordOf 59 = .ok (.aload_n 0, 1) := by decide +kernel
theorem dX12_wordOf_60 : decode cX12_wordOf 60 = .ok (.invokevirtual 133, 3) := by decide +kernel
theorem dX12_wordOf_63 : decode cX12_wordOf 63 = .ok (.iload 4, 2) := by decide +kernel
theorem dX12_wordOf_65 : decode cX12_wordOf 65 = .ok (.ireturn, 1) := by decide +kernel
theorem dX12_readSystem_0 : decode cX12_readSystem 0 = .ok (.aload_n 0, 1) := by decide +kernel
theorem dX12_readSystem_1 : decode cX12_readSystem 1 = .ok (.ldc 140, 2) := by decide +kernel
theorem dX12_readSystem_3 : decode cX12_readSystem 3 = .ok (.invokevirtual 142, 3) := by decide +kernel
theorem dX12_readSystem_6 : decode cX12_readSystem 6 = .ok (.aload_n 0, 1) := by decide +kernel
theorem dX12_readSystem_7 : decode cX12_readSystem 7 = .ok (.getfield 16, 3) := by decide +kernel
theorem dX12_readSystem_10 : decode cX12_readSystem 10 = .ok (.iconst 0, 1) := by decide +kernel
theorem dX12_readSystem_11 : decode cX12_readSystem 11 = .ok (.aload_n 0, 1) := by decide +kernel
theorem dX12_readSystem_12 : decode cX12_readSystem 12 = .ok (.iconst 1, 1) := by decide +kernel
theorem dX12_readSystem_13 : decode cX12_readSystem 13 = .ok (.bipush 16, 2) := by decide +kernel
theorem dX12_readSystem_15 : decode cX12_readSystem 15 = .ok (.invokevirtual 146, 3) := by decide +kernel
theorem dX12_readSystem_18 : decode cX12_readSystem 18 = .ok (.iastore, 1) := by decide +kernel
theorem dX12_readSystem_19 : decode cX12_readSystem 19 = .ok (.aload_n 0, 1) := by decide +kernel
theorem dX12_readSystem_20 : decode cX12_readSystem 20 = .ok (.getfield 16, 3) := by decide +kernel
theorem dX12_readSystem_23 : decode cX12_readSystem 23 = .ok (.iconst 1, 1) := by decide +kernel
theorem dX12_readSystem_24 : decode cX12_readSystem 24 = .ok (.aload_n 0, 1) := by decide +kernel
theorem dX12_readSystem_25 : decode cX12_readSystem 25 = .ok (.iconst 1, 1) := by decide +kernel
theorem dX12_readSystem_26 : decode cX12_readSystem 26 = .ok (.bipush 48, 2) := by decide +kernel
theorem dX12_readSystem_28 : decode cX12_readSystem 28 = .ok (.invokevirtual 146, 3) := by decide +kernel
theorem dX12_readSystem_31 : decode cX12_readSystem 31 = .ok (.iastore, 1) := by decide +kernel
theorem dX12_readSystem_32 : decode cX12_readSystem 32 = .ok (.aload_n 0, 1) := by decide +kernel
theorem dX12_readSystem_33 : decode cX12_readSystem 33 = .ok (.getfield 16, 3) := by decide +kernel
theorem dX12_readSystem_36 : decode cX12_readSystem 36 = .ok (.iconst 2, 1) := by decide +kernel
theorem dX12_readSystem_37 : decode cX12_readSystem 37 = .ok (.aload_n 0, 1) := by decide +kernel
theorem dX12_readSystem_38 : decode cX12_readSystem 38 = .ok (.ldc 150, 2) := by decide +kernel
theorem dX12_readSystem_40 : decode cX12_readSystem 40 = .ok (.ldc 152, 2) := by decide +kernel
theorem dX12_readSystem_42 : decode cX12_readSystem 42 = .ok (.ldc 154, 2) := by decide +kernel
theorem dX12_readSystem_44 : decode cX12_readSystem 44 = .ok (.invokevirtual 156, 3) := by decide +kernel
theorem dX12_readSystem_47 : decode cX12_readSystem 47 = .ok (.iastore, 1) := by decide +kernel
theorem dX12_readSystem_48 : decode cX12_readSystem 48 = .ok (.aload_n 0, 1) := by decide +kernel
theorem dX12_readSystem_49 : decode cX12_readSystem 49 = .ok (.ldc 160, 2) := by decide +kernel
theorem dX12_readSystem_51 : decode cX12_readSystem 51 = .ok (.invokevirtual 142, 3) := by decide +kernel
theorem dX12_readSystem_54 : decode cX12_readSystem 54 = .ok (.return_, 1) := by decide +kernel
theorem dX12_readProcess_0 : decode cX12_readProcess 0 = .ok (.aload_n 0, 1) := by decide +kernel
theorem dX12_readProcess_1 : decode cX12_readProcess 1 = .ok (.getfield 16, 3) := by decide +kernel
theorem dX12_readProcess_4 : decode cX12_readProcess 4 = .ok (.iconst 3, 1) := by decide +kernel
theorem dX12_readProcess_5 : decode cX12_readProcess 5 = .ok (.iaload, 1) := by decide +kernel
theorem dX12_readProcess_6 : decode cX12_readProcess 6 = .ok (.istore_n 1, 1) := by decide +kernel
theorem dX12_readProcess_7 : decode cX12_readProcess 7 = .ok (.aload_n 0, 1) := by decide +kernel
theorem dX12_readProcess_8 : decode cX12_readProcess 8 = .ok (.ldc 162, 2) := by decide +kernel
theorem dX12_readProcess_10 : decode cX12_readProcess 10 = .ok (.invokevirtual 136, 3) := by decide +kernel
theorem dX12_readProcess_13 : decode cX12_readProcess 13 = .ok (.ifCond .ne 8, 3) := by decide +kernel
theorem dX12_readProcess_16 : decode cX12_readProcess 16 = .ok (.aload_n 0, 1) := by decide +kernel
theorem dX12_readProcess_17 : decode cX12_readProcess 17 = .ok (.iconst 1, 1) := by decide +kernel
theorem dX12_readProcess_18 : decode cX12_readProcess 18 = .ok (.invokevirtual 130, 3) := by decide +kernel
theorem dX12_readProcess_21 : decode cX12_readProcess 21 = .ok (.iload_n 1, 1) := by decide +kernel
theorem dX12_readProcess_22 : decode cX12_readProcess 22 = .ok (.bipush 6, 2) := by decide +kernel
theorem dX12_readProcess_24 : decode cX12_readProcess 24 = .ok (.if_icmp .ne 8, 3) := by decide +kernel
theorem dX12_readProcess_27 : decode cX12_readProcess 27 = .ok (.aload_n 0, 1) := by decide +kernel
theorem dX12_readProcess_28 : decode cX12_readProcess 28 = .ok (.iconst 3, 1) := by decide +kernel
theorem dX12_readProcess_29 : decode cX12_readProcess 29 = .ok (.invokevirtual 130, 3) := by decide +kernel
theorem dX12_readProcess_32 : decode cX12_readProcess 32 = .ok (.aload_n 0, 1) := by decide +kernel
theorem dX12_readProcess_33 : decode cX12_readProcess 33 = .ok (.invokevirtual 133, 3) := by decide +kernel
theorem dX12_readProcess_36 : decode cX12_readProcess 36 = .ok (.aload_n 0, 1) := by decide +kernel
theorem dX12_readProcess_37 : decode cX12_readProcess 37 = .ok (.ldc 164, 2) := by decide +kernel
theorem dX12_readProcess_39 : decode cX12_readProcess 39 = .ok (.ldc 166, 2) := by decide +kernel
theorem dX12_readProcess_41 : decode cX12_readProcess 41 = .ok (.ldc 166, 2) := by decide +kernel
theorem dX12_readProcess_43 : decode cX12_readProcess 43 = .ok (.invokevirtual 156, 3) := by decide +kernel
theorem dX12_readProcess_46 : decode cX12_readProcess 46 = .ok (.istore_n 2, 1) := by decide +kernel
theorem dX12_readProcess_47 : decode cX12_readProcess 47 = .ok (.aload_n 0, 1) := by decide +kernel
theorem dX12_readProcess_48 : decode cX12_readProcess 48 = .ok (.iconst 1, 1) := by decide +kernel
theorem dX12_readProcess_49 : decode cX12_readProcess 49 = .ok (.bipush 8, 2) := by decide +kernel
theorem dX12_readProcess_51 : decode cX12_readProcess 51 = .ok (.invokevirtual 146, 3) := by decide +kernel
theorem dX12_readProcess_54 : decode cX12_readProcess 54 = .ok (.istore_n 3, 1) := by decide +kernel
theorem dX12_readProcess_55 : decode cX12_readProcess 55 = .ok (.aload_n 0, 1) := by decide +kernel
theorem dX12_readProcess_56 : decode cX12_readProcess 56 = .ok (.ldc 160, 2) := by decide +kernel
theorem dX12_readProcess_58 : decode cX12_readProcess 58 = .ok (.invokevirtual 142, 3) := by decide +kernel
theorem dX12_readProcess_61 : decode cX12_readProcess 61 = .ok (.aload_n 0, 1) := by decide +kernel
theorem dX12_readProcess_62 : decode cX12_readProcess 62 = .ok (.getfield 111, 3) := by decide +kernel
theorem dX12_readProcess_65 : decode cX12_readProcess 65 = .ok (.ifCond .le 4, 3) := by decide +kernel
theorem dX12_readProcess_68 : decode cX12_readProcess 68 = .ok (.return_, 1) := by decide +kernel
theorem dX12_readProcess_69 : decode cX12_readProcess 69 = .ok (.aload_n 0, 1) := by decide +kernel
theorem dX12_readProcess_70 : decode cX12_readProcess 70 = .ok (.getfield 16, 3) := by decide +kernel
theorem dX12_readProcess_73 : decode cX12_readProcess 73 = .ok (.bipush 14, 2) := by decide +kernel
theorem dX12_readProcess_75 : decode cX12_readProcess 75 = .ok (.iload_n 1, 1) := by decide +kernel
theorem dX12_readProcess_76 : decode cX12_readProcess 76 = .ok (.iadd, 1) := by decide +kernel
theorem dX12_readProcess_77 : decode cX12_readProcess 77 = .ok (.iload_n 2, 1) := by decide +kernel
theorem dX12_readProcess_78 : decode cX12_readProcess 78 = .ok (.iastore, 1) := by decide +kernel
theorem dX12_readProcess_79 : decode cX12_readProcess 79 = .ok (.aload_n 0, 1) := by decide +kernel
theorem dX12_readProcess_80 : decode cX12_readProcess 80 = .ok (.getfield 16, 3) := by decide +kernel
theorem dX12_readProcess_83 : decode cX12_readProcess 83 = .ok (.bipush 20, 2) := by decide +kernel
theorem dX12_readProcess_85 : decode cX12_readProcess 85 = .ok (.iload_n 1, 1) := by decide +kernel
theorem dX12_readProcess_86 : decode cX12_readProcess 86 = .ok (.iadd, 1) := by decide +kernel
theorem dX12_readProcess_87 : decode cX12_readProcess 87 = .ok (.iload_n 3, 1) := by decide +kernel
theorem dX12_readProcess_88 : decode cX12_readProcess 88 = .ok (.iastore, 1) := by decide +kernel
theorem dX12_readProcess_89 : decode cX12_readProcess 89 = .ok (.aload_n 0, 1) := by decide +kernel
theorem dX12_readProcess_90 : decode cX12_readProcess 90 = .ok (.getfield 16, 3) := by decide +kernel
theorem dX12_readProcess_93 : decode cX12_readProcess 93 = .ok (.iconst 3, 1) := by decide +kernel
theorem dX12_readProcess_94 : decode cX12_readProcess 94 = .ok (.dup2, 1) := by decide +kernel
theorem dX12_readProcess_95 : decode cX12_readProcess 95 = .ok (.iaload, 1) := by decide +kernel
theorem dX12_readProcess_96 : decode cX12_readProcess 96 = .ok (.iconst 1, 1) := by decide +kernel
theorem dX12_readProcess_97 : decode cX12_readProcess 97 = .ok (.iadd, 1) := by decide +kernel
theorem dX12_readProcess_98 : decode cX12_readProcess 98 = .ok (.iastore, 1) := by decide +kernel
theorem dX12_readProcess_99 : decode cX12_readProcess 99 = .ok (.return_, 1) := by decide +kernel
theorem dX12_begin_0 : decode cX12_begin 0 = .ok (.aload_n 0, 1) := by decide +kernel
theorem dX12_begin_1 : decode cX12_begin 1 = .ok (.aload_n 0, 1) := by decide +kernel
theorem dX12_begin_2 : decode cX12_begin 2 = .ok (.getfield 84, 3) := by decide +kernel
theorem dX12_begin_5 : decode cX12_begin 5 = .ok (.putfield 91, 3) := by decide +kernel
theorem dX12_begin_8 : decode cX12_begin 8 = .ok (.aload_n 0, 1) := by decide +kernel
theorem dX12_begin_9 : decode cX12_begin 9 = .ok (.iconst 0, 1) := by decide +kernel
theorem dX12_begin_10 : decode cX12_begin 10 = .ok (.putfield 84, 3) := by decide +kernel
theorem dX12_begin_13 : decode cX12_begin 13 = .ok (.aload_n 0, 1) := by decide +kernel
theorem dX12_begin_14 : decode cX12_begin 14 = .ok (.iconst 0, 1) := by decide +kernel
theorem dX12_begin_15 : decode cX12_begin 15 = .ok (.putfield 94, 3) := by decide +kernel
theorem dX12_begin_18 : decode cX12_begin 18 = .ok (.aload_n 0, 1) := by decide +kernel
theorem dX12_begin_19 : decode cX12_begin 19 = .ok (.iconst 0, 1) := by decide +kernel
theorem dX12_begin_20 : decode cX12_begin 20 = .ok (.putfield 111, 3) := by decide +kernel
theorem dX12_begin_23 : decode cX12_begin 23 = .ok (.aload_n 0, 1) := by decide +kernel
theorem dX12_begin_24 : decode cX12_begin 24 = .ok (.invokevirtual 123, 3) := by decide +kernel
theorem dX12_begin_27 : decode cX12_begin 27 = .ok (.return_, 1) := by decide +kernel
theorem dX12_parseSystem_0 : decode cX12_parseSystem 0 = .ok (.aload_n 0, 1) := by decide +kernel
theorem dX12_parseSystem_1 : decode cX12_parseSystem 1 = .ok (.iconst 0, 1) := by decide +kernel
theorem dX12_parseSystem_2 : decode cX12_parseSystem 2 = .ok (.putfield 49, 3) := by decide +kernel
theorem dX12_parseSystem_5 : decode cX12_parseSystem 5 = .ok (.aload_n 0, 1) := by decide +kernel
theorem dX12_parseSystem_6 : decode cX12_parseSystem 6 = .ok (.iconst (-1), 1) := by decide +kernel
theorem dX12_parseSystem_7 : decode cX12_parseSystem 7 = .ok (.putfield 26, 3) := by decide +kernel
theorem dX12_parseSystem_10 : decode cX12_parseSystem 10 = .ok (.aload_n 0, 1) := by decide +kernel
theorem dX12_parseSystem_11 : decode cX12_parseSystem 11 = .ok (.getfield 16, 3) := by decide +kernel
theorem dX12_parseSystem_14 : decode cX12_parseSystem 14 = .ok (.invokestatic 45, 3) := by decide +kernel
theorem dX12_parseSystem_17 : decode cX12_parseSystem 17 = .ok (.aload_n 0, 1) := by decide +kernel
theorem dX12_parseSystem_18 : decode cX12_parseSystem 18 = .ok (.invokevirtual 168, 3) := by decide +kernel
theorem dX12_parseSystem_21 : decode cX12_parseSystem 21 = .ok (.aload_n 0, 1) := by decide +kernel
theorem dX12_parseSystem_22 : decode cX12_parseSystem 22 = .ok (.invokevirtual 171, 3) := by decide +kernel
theorem dX12_parseSystem_25 : decode cX12_parseSystem 25 = .ok (.aload_n 0, 1) := by decide +kernel
theorem dX12_parseSystem_26 : decode cX12_parseSystem 26 = .ok (.invokevirtual 174, 3) := by decide +kernel
theorem dX12_parseSystem_29 : decode cX12_parseSystem 29 = .ok (.aload_n 0, 1) := by decide +kernel
theorem dX12_parseSystem_30 : decode cX12_parseSystem 30 = .ok (.getfield 111, 3) := by decide +kernel
theorem dX12_parseSystem_33 : decode cX12_parseSystem 33 = .ok (.ifCond .ne 14, 3) := by decide +kernel
theorem dX12_parseSystem_36 : decode cX12_parseSystem 36 = .ok (.aload_n 0, 1) := by decide +kernel
theorem dX12_parseSystem_37 : decode cX12_parseSystem 37 = .ok (.getfield 97, 3) := by decide +kernel
theorem dX12_parseSystem_40 : decode cX12_parseSystem 40 = .ok (.aload_n 0, 1) := by decide +kernel
theorem dX12_parseSystem_41 : decode cX12_parseSystem 41 = .ok (.getfield 91, 3) := by decide +kernel
theorem dX12_parseSystem_44 : decode cX12_parseSystem 44 = .ok (.if_icmp .lt (-19), 3) := by decide +kernel
theorem dX12_parseSystem_47 : decode cX12_parseSystem 47 = .ok (.aload_n 0, 1) := by decide +kernel
theorem dX12_parseSystem_48 : decode cX12_parseSystem 48 = .ok (.getfield 111, 3) := by decide +kernel
theorem dX12_parseSystem_51 : decode cX12_parseSystem 51 = .ok (.ifCond .le 5, 3) := by decide +kernel
theorem dX12_parseSystem_54 : decode cX12_parseSystem 54 = .ok (.iconst (-1), 1) := by decide +kernel
theorem dX12_parseSystem_55 : decode cX12_parseSystem 55 = .ok (.ireturn, 1) := by decide +kernel
theorem dX12_parseSystem_56 : decode cX12_parseSystem 56 = .ok (.iconst 0, 1) := by decide +kernel
theorem dX12_parseSystem_57 : decode cX12_parseSystem 57 = .ok (.istore_n 1, 1) := by decide +kernel
theorem dX12_parseSystem_58 : decode cX12_parseSystem 58 = .ok (.iload_n 1, 1) := by decide +kernel
theorem dX12_parseSystem_59 : decode cX12_parseSystem 59 = .ok (.sipush 608, 3) := by decide +kernel
theorem dX12_parseSystem_62 : decode cX12_parseSystem 62 = .ok (.if_icmp .ge 21, 3) := by decide +kernel
theorem dX12_parseSystem_65 : decode cX12_parseSystem 65 = .ok (.aload_n 0, 1) := by decide +kernel
theorem dX12_parseSystem_66 : decode cX12_parseSystem 66 = .ok (.getfield 7, 3) := by decide +kernel
theorem dX12_parseSystem_69 : decode cX12_parseSystem 69 = .ok (.iload_n 1, 1) := by decide +kernel
theorem dX12_parseSystem_70 : decode cX12_parseSystem 70 = .ok (.aload_n 0, 1) := by decide +kernel
theorem dX12_parseSystem_71 : decode cX12_parseSystem 71 = .ok (.getfield 16, 3) := by decide +kernel
theorem dX12_parseSystem_74 : decode cX12_parseSystem 74 = .ok (.iload_n 1, 1) := by decide +kernel
theorem dX12_parseSystem_75 : decode cX12_parseSystem 75 = .ok (.iaload, 1) := by decide +kernel
theorem dX12_parseSystem_76 : decode cX12_parseSystem 76 = .ok (.iastore, 1) := by decide +kernel
theorem dX12_parseSystem_77 : decode cX12_parseSystem 77 = .ok (.iinc 1 1, 3) := by decide +kernel
theorem dX12_parseSystem_80 : decode cX12_parseSystem 80 = .ok (.goto (-22), 3) := by decide +kernel
theorem dX12_parseSystem_83 : decode cX12_parseSystem 83 = .ok (.aload_n 0, 1) := by decide +kernel
theorem dX12_parseSystem_84 : decode cX12_parseSystem 84 = .ok (.iconst 0, 1) := by decide +kernel
theorem dX12_parseSystem_85 : decode cX12_parseSystem 85 = .ok (.putfield 71, 3) := by decide +kernel
theorem dX12_parseSystem_88 : decode cX12_parseSystem 88 = .ok (.aload_n 0, 1) := by decide +kernel
theorem dX12_parseSystem_89 : decode cX12_parseSystem 89 = .ok (.getfield 7, 3) := by decide +kernel
theorem dX12_parseSystem_92 : decode cX12_parseSystem 92 = .ok (.iconst 3, 1) := by decide +kernel
theorem dX12_parseSystem_93 : decode cX12_parseSystem 93 = .ok (.iaload, 1) := by decide +kernel
theorem dX12_parseSystem_94 : decode cX12_parseSystem 94 = .ok (.ireturn, 1) := by decide +kernel
theorem dX12_errorCode_0 : decode cX12_errorCode 0 = .ok (.aload_n 0, 1) := by decide +kernel
theorem dX12_errorCode_1 : decode cX12_errorCode 1 = .ok (.iconst 0, 1) := by decide +kernel
theorem dX12_errorCode_2 : decode cX12_errorCode 2 = .ok (.putfield 49, 3) := by decide +kernel
theorem dX12_errorCode_5 : decode cX12_errorCode 5 = .ok (.aload_n 0, 1) := by decide +kernel
theorem dX12_errorCode_6 : decode cX12_errorCode 6 = .ok (.getfield 111, 3) := by decide +kernel
theorem dX12_errorCode_9 : decode cX12_errorCode 9 = .ok (.ireturn, 1) := by decide +kernel
theorem dX12_errorPosition_0 : decode cX12_errorPosition 0 = .ok (.aload_n 0, 1) := by decide +kernel
theorem dX12_errorPosition_1 : decode cX12_errorPosition 1 = .ok (.iconst 0, 1) := by decide +kernel
theorem dX12_errorPosition_2 : decode cX12_errorPosition 2 = .ok (.putfield 49, 3) := by decide +kernel
theorem dX12_errorPosition_5 : decode cX12_errorPosition 5 = .ok (.aload_n 0, 1) := by decide +kernel
theorem dX12_errorPosition_6 : decode cX12_errorPosition 6 = .ok (.getfield 26, 3) := by decide +kernel
theorem dX12_errorPosition_9 : decode cX12_errorPosition 9 = .ok (.ireturn, 1) := by decide +kernel
theorem dX12_processCount_0 : decode cX12_processCount 0 = .ok (.aload_n 0, 1) := by decide +kernel
theorem dX12_processCount_1 : decode cX12_processCount 1 = .ok (.iconst 0, 1) := by decide +kernel
theorem dX12_processCount_2 : decode cX12_processCount 2 = .ok (.putfield 49, 3) := by decide +kernel
theorem dX12_processCount_5 : decode cX12_processCount 5 = .ok (.aload_n 0, 1) := by decide +kernel
theorem dX12_processCount_6 : decode cX12_processCount 6 = .ok (.getfield 7, 3) := by decide +kernel
theorem dX12_processCount_9 : decode cX12_processCount 9 = .ok (.iconst 3, 1) := by decide +kernel
theorem dX12_processCount_10 : decode cX12_processCount 10 = .ok (.iaload, 1) := by decide +kernel
theorem dX12_processCount_11 : decode cX12_processCount 11 = .ok (.ireturn, 1) := by decide +kernel
theorem dX12_frameCount_0 : decode cX12_frameCount 0 = .ok (.aload_n 0, 1) := by decide +kernel
theorem dX12_frameCount_1 : decode cX12_frameCount 1 = .ok (.iconst 0, 1) := by decide +kernel
theorem dX12_frameCount_2 : decode cX12_frameCount 2 = .ok (.putfield 49, 3) := by decide +kernel
theorem dX12_frameCount_5 : decode cX12_frameCount 5 = .ok (.aload_n 0, 1) := by decide +kernel
theorem dX12_frameCount_6 : decode cX12_frameCount 6 = .ok (.getfield 7, 3) := by decide +kernel
theorem dX12_frameCount_9 : decode cX12_frameCount 9 = .ok (.iconst 0, 1) := by decide +kernel
theorem dX12_frameCount_10 : decode cX12_frameCount 10 = .ok (.iaload, 1) := by decide +kernel
theorem dX12_frameCount_11 : decode cX12_frameCount 11 = .ok (.ireturn, 1) := by decide +kernel
theorem dX12_slotCount_0 : decode cX12_slotCount 0 = .ok (.aload_n 0, 1) := by decide +kernel
theorem dX12_slotCount_1 : decode cX12_slotCount 1 = .ok (.iconst 0, 1) := by decide +kernel
theorem dX12_slotCount_2 : decode cX12_slotCount 2 = .ok (.putfield 49, 3) := by decide +kernel
theorem dX12_slotCount_5 : decode cX12_slotCount 5 = .ok (.aload_n 0, 1) := by decide +kernel
theorem dX12_slotCount_6 : decode cX12_slotCount 6 = .ok (.getfield 7, 3) := by decide +kernel
theorem dX12_slotCount_9 : decode cX12_slotCount 9 = .ok (.iconst 1, 1) := by decide +kernel
theorem dX12_slotCount_10 : decode cX12_slotCount 10 = .ok (.iaload, 1) := by decide +kernel
theorem dX12_slotCount_11 : decode cX12_slotCount 11 = .ok (.ireturn, 1) := by decide +kernel
theorem dX12_epoch_0 : decode cX12_epoch 0 = .ok (.aload_n 0, 1) := by decide +kernel
theorem dX12_epoch_1 : decode cX12_epoch 1 = .ok (.iconst 0, 1) := by decide +kernel
theorem dX12_epoch_2 : decode cX12_epoch 2 = .ok (.putfield 49, 3) := by decide +kernel
theorem dX12_epoch_5 : decode cX12_epoch 5 = .ok (.aload_n 0, 1) := by decide +kernel
theorem dX12_epoch_6 : decode cX12_epoch 6 = .ok (.getfield 7, 3) := by decide +kernel
theorem dX12_epoch_9 : decode cX12_epoch 9 = .ok (.iconst 4, 1) := by decide +kernel
theorem dX12_epoch_10 : decode cX12_epoch 10 = .ok (.iaload, 1) := by decide +kernel
theorem dX12_epoch_11 : decode cX12_epoch 11 = .ok (.ireturn, 1) := by decide +kernel
theorem dX12_useOf_0 : decode cX12_useOf 0 = .ok (.iconst 0, 1) := by decide +kernel
theorem dX12_useOf_1 : decode cX12_useOf 1 = .ok (.istore_n 2, 1) := by decide +kernel
theorem dX12_useOf_2 : decode cX12_useOf 2 = .ok (.iconst 0, 1) := by decide +kernel
theorem dX12_useOf_3 : decode cX12_useOf 3 = .ok (.istore_n 3, 1) := by decide +kernel
theorem dX12_useOf_4 : decode cX12_useOf 4 = .ok (.iload_n 3, 1) := by decide +kernel
theorem dX12_useOf_5 : decode cX12_useOf 5 = .ok (.bipush 48, 2) := by decide +kernel
theorem dX12_useOf_7 : decode cX12_useOf 7 = .ok (.if_icmp .ge 108, 3) := by decide +kernel
theorem dX12_useOf_10 : decode cX12_useOf 10 = .ok (.aload_n 0, 1) := by decide +kernel
theorem dX12_useOf_11 : decode cX12_useOf 11 = .ok (.iload_n 3, 1) := by decide +kernel
theorem dX12_useOf_12 : decode cX12_useOf 12 = .ok (.invokevirtual 177, 3) := by decide +kernel
theorem dX12_useOf_15 : decode cX12_useOf 15 = .ok (.ifCond .ne 6, 3) := by decide +kernel
theorem dX12_useOf_18 : decode cX12_useOf 18 = .ok (.goto 91, 3) := by decide +kernel
theorem dX12_useOf_21 : decode cX12_useOf 21 = .ok (.iload_n 3, 1) := by decide +kernel
theorem dX12_useOf_22 : decode cX12_useOf 22 = .ok (.bipush 8, 2) := by decide +kernel
theorem dX12_useOf_24 : decode cX12_useOf 24 = .ok (.idiv, 1) := by decide +kernel
theorem dX12_useOf_25 : decode cX12_useOf 25 = .ok (.istore 4, 2) := by decide +kernel
theorem dX12_useOf_27 : decode cX12_useOf 27 = .ok (.aload_n 0, 1) := by decide +kernel
theorem dX12_useOf_28 : decode cX12_useOf 28 = .ok (.getfield 7, 3) := by decide +kernel
theorem dX12_useOf_31 : decode cX12_useOf 31 = .ok (.bipush 80, 2) := by decide +kernel
theorem dX12_useOf_33 : decode cX12_useOf 33 = .ok (.iload_n 3, 1) := by decide +kernel
theorem dX12_useOf_34 : decode cX12_useOf 34 = .ok (.iadd, 1) := by decide +kernel
theorem dX12_useOf_35 : decode cX12_useOf 35 = .ok (.iaload, 1) := by decide +kernel
theorem dX12_useOf_36 : decode cX12_useOf 36 = .ok (.iload_n 1, 1) := by decide +kernel
theorem dX12_useOf_37 : decode cX12_useOf 37 = .ok (.if_icmp .ne 7, 3) := by decide +kernel
theorem dX12_useOf_40 : decode cX12_useOf 40 = .ok (.iload_n 2, 1) := by decide +kernel
theorem dX12_useOf_41 : decode cX12_useOf 41 = .ok (.iconst 1, 1) := by decide +kernel
theorem dX12_useOf_42 : decode cX12_useOf 42 = .ok (.ior, 1) := by decide +kernel
theorem dX12_useOf_43 : decode cX12_useOf 43 = .ok (.istore_n 2, 1) := by decide +kernel
theorem dX12_useOf_44 : decode cX12_useOf 44 = .ok (.aload_n 0, 1) := by decide +kernel
theorem dX12_useOf_45 : decode cX12_useOf 45 = .ok (.getfield 7, 3) := by decide +kernel
theorem dX12_useOf_48 : decode cX12_useOf 48 = .ok (.bipush 26, 2) := by decide +kernel
theorem dX12_useOf_50 : decode cX12_useOf 50 = .ok (.iload 4, 2) := by decide +kernel
theorem dX12_useOf_52 : decode cX12_useOf 52 = .ok (.iadd, 1) := by decide +kernel
theorem dX12_useOf_53 : decode cX12_useOf 53 = .ok (.iaload, 1) := by decide +kernel
theorem dX12_useOf_54 : decode cX12_useOf 54 = .ok (.iconst (-1), 1) := by decide +kernel
theorem dX12_useOf_55 : decode cX12_useOf 55 = .ok (.if_icmp .eq 21, 3) := by decide +kernel
theorem dX12_useOf_58 : decode cX12_useOf 58 = .ok (.aload_n 0, 1) := by decide +kernel
theorem dX12_useOf_59 : decode cX12_useOf 59 = .ok (.getfield 7, 3) := by decide +kernel
theorem dX12_useOf_62 : decode cX12_useOf 62 = .ok (.sipush 272, 3) := by decide +kernel
theorem dX12_useOf_65 : decode cX12_useOf 65 = .ok (.iload_n 3, 1) := by decide +kernel
theorem dX12_useOf_66 : decode cX12_useOf 66 = .ok (.iadd, 1) := by decide +kernel
theorem dX12_useOf_67 : decode cX12_useOf 67 = .ok (.iaload, 1) := by decide +kernel
theorem dX12_useOf_68 : decode cX12_useOf 68 = .ok (.iload_n 1, 1) := by decide +kernel
theorem dX12_useOf_69 : decode cX12_useOf 69 = .ok (.if_icmp .ne 7, 3) := by decide +kernel
theorem dX12_useOf_72 : decode cX12_useOf 72 = .ok (.iload_n 2, 1) := by decide +kernel
theorem dX12_useOf_73 : decode cX12_useOf 73 = .ok (.iconst 2, 1) := by decide +kernel
theorem dX12_useOf_74 : decode cX12_useOf 74 = .ok (.ior, 1) := by decide +kernel
theorem dX12_useOf_75 : decode cX12_useOf 75 = .ok (.istore_n 2, 1) := by decide +kernel
theorem dX12_useOf_76 : decode cX12_useOf 76 = .ok (.aload_n 0, 1) := by decide +kernel
theorem dX12_useOf_77 : decode cX12_useOf 77 = .ok (.getfield 7, 3) := by decide +kernel
theorem dX12_useOf_80 : decode cX12_useOf 80 = .ok (.bipush 10, 2) := by decide +kernel
theorem dX12_useOf_82 : decode cX12_useOf 82 = .ok (.iaload, 1) := by decide +kernel
theorem dX12_useOf_83 : decode cX12_useOf 83 = .ok (.iload 4, 2) := by decide +kernel
theorem dX12_useOf_85 : decode cX12_useOf 85 = .ok (.invokestatic 68, 3) := by decide +kernel
theorem dX12_useOf_88 : decode cX12_useOf 88 = .ok (.ifCond .eq 21, 3) := by decide +kernel
theorem dX12_useOf_91 : decode cX12_useOf 91 = .ok (.aload_n 0, 1) := by decide +kernel
theorem dX12_useOf_92 : decode cX12_useOf 92 = .ok (.getfield 7, 3) := by decide +kernel
theorem dX12_useOf_95 : decode cX12_useOf 95 = .ok (.sipush 224, 3) := by decide +kernel
theorem dX12_useOf_98 : decode cX12_useOf 98 = .ok (.iload_n 3, 1) := by decide +kernel
theorem dX12_useOf_99 : decode cX12_useOf 99 = .ok (.iadd, 1) := by decide +kernel
theorem dX12_useOf_100 : decode cX12_useOf 100 = .ok (.iaload, 1) := by decide +kernel
theorem dX12_useOf_101 : decode cX12_useOf 101 = .ok (.iload_n 1, 1) := by decide +kernel
theorem dX12_useOf_102 : decode cX12_useOf 102 = .ok (.if_icmp .ne 7, 3) := by decide +kernel
theorem dX12_useOf_105 : decode cX12_useOf 105 = .ok (.iload_n 2, 1) := by decide +kernel
theorem dX12_useOf_106 : decode cX12_useOf 106 = .ok (.iconst 4, 1) := by decide +kernel
theorem dX12_useOf_107 : decode cX12_useOf 107 = .ok (.ior, 1) := by decide +kernel
theorem dX12_useOf_108 : decode cX12_useOf 108 = .ok (.istore_n 2, 1) := by decide +kernel
theorem dX12_useOf_109 : decode cX12_useOf 109 = .ok (.iinc 3 1, 3) := by decide +kernel
theorem dX12_useOf_112 : decode cX12_useOf 112 = .ok (.goto (-108), 3) := by decide +kernel
theorem dX12_useOf_115 : decode cX12_useOf 115 = .ok (.iload_n 2, 1) := by decide +kernel
theorem dX12_useOf_116 : decode cX12_useOf 116 = .ok (.ireturn, 1) := by decide +kernel
theorem dX12_freeCount_0 : decode cX12_freeCount 0 = .ok (.iconst 0, 1) := by decide +kernel
theorem dX12_freeCount_1 : decode cX12_freeCount 1 = .ok (.istore_n 1, 1) := by decide +kernel
theorem dX12_freeCount_2 : decode cX12_freeCount 2 = .ok (.iconst 0, 1) := by decide +kernel
theorem dX12_freeCount_3 : decode cX12_freeCount 3 = .ok (.istore_n 2, 1) := by decide +kernel
theorem dX12_freeCount_4 : decode cX12_freeCount 4 = .ok (.iload_n 2, 1) := by decide +kernel
theorem dX12_freeCount_5 : decode cX12_freeCount 5 = .ok (.aload_n 0, 1) := by decide +kernel
theorem dX12_freeCount_6 : decode cX12_freeCount 6 = .ok (.getfield 7, 3) := by decide +kernel
theorem dX12_freeCount_9 : decode cX12_freeCount 9 = .ok (.iconst 1, 1) := by decide +kernel
theorem dX12_freeCount_10 : decode cX12_freeCount 10 = .ok (.iaload, 1) := by decide +kernel
theorem dX12_freeCount_11 : decode cX12_freeCount 11 = .ok (.if_icmp .ge 25, 3) := by decide +kernel
theorem dX12_freeCount_14 : decode cX12_freeCount 14 = .ok (.iload_n 1, 1) := by decide +kernel
theorem dX12_freeCount_15 : decode cX12_freeCount 15 = .ok (.aload_n 0, 1) := by decide +kernel
theorem dX12_freeCount_16 : decode cX12_freeCount 16 = .ok (.iload_n 2, 1) := by decide +kernel
theorem dX12_freeCount_17 : decode cX12_freeCount 17 = .ok (.invokevirtual 180, 3) := by decide +kernel
theorem dX12_freeCount_20 : decode cX12_freeCount 20 = .ok (.ifCond .ne 7, 3) := by decide +kernel
theorem dX12_freeCount_23 : decode cX12_freeCount 23 = .ok (.iconst 1, 1) := by decide +kernel
theorem dX12_freeCount_24 : decode cX12_freeCount 24 = .ok (.goto 4, 3) := by decide +kernel
theorem dX12_freeCount_27 : decode cX12_freeCount 27 = .ok (.iconst 0, 1) := by decide +kernel
theorem dX12_freeCount_28 : decode cX12_freeCount 28 = .ok (.iadd, 1) := by decide +kernel
theorem dX12_freeCount_29 : decode cX12_freeCount 29 = .ok (.istore_n 1, 1) := by decide +kernel
theorem dX12_freeCount_30 : decode cX12_freeCount 30 = .ok (.iinc 2 1, 3) := by decide +kernel
theorem dX12_freeCount_33 : decode cX12_freeCount 33 = .ok (.goto (-29), 3) := by decide +kernel
theorem dX12_freeCount_36 : decode cX12_freeCount 36 = .ok (.iload_n 1, 1) := by decide +kernel
theorem dX12_freeCount_37 : decode cX12_freeCount 37 = .ok (.ireturn, 1) := by decide +kernel
theorem dX12_isSooner_0 : decode cX12_isSooner 0 = .ok (.aload_n 0, 1) := by decide +kernel
theorem dX12_isSooner_1 : decode cX12_isSooner 1 = .ok (.getfield 7, 3) := by decide +kernel
theorem dX12_isSooner_4 : decode cX12_isSooner 4 = .ok (.sipush 464, 3) := by decide +kernel
theorem dX12_isSooner_7 : decode cX12_isSooner 7 = .ok (.iload_n 1, 1) := by decide +kernel
theorem dX12_isSooner_8 : decode cX12_isSooner 8 = .ok (.iadd, 1) := by decide +kernel
theorem dX12_isSooner_9 : decode cX12_isSooner 9 = .ok (.iaload, 1) := by decide +kernel
theorem dX12_isSooner_10 : decode cX12_isSooner 10 = .ok (.aload_n 0, 1) := by decide +kernel
theorem dX12_isSooner_11 : decode cX12_isSooner 11 = .ok (.getfield 7, 3) := by decide +kernel
theorem dX12_isSooner_14 : decode cX12_isSooner 14 = .ok (.sipush 464, 3) := by decide +kernel
theorem dX12_isSooner_17 : decode cX12_isSooner 17 = .ok (.iload_n 2, 1) := by decide +kernel
theorem dX12_isSooner_18 : decode cX12_isSooner 18 = .ok (.iadd, 1) := by decide +kernel
theorem dX12_isSooner_19 : decode cX12_isSooner 19 = .ok (.iaload, 1) := by decide +kernel
theorem dX12_isSooner_20 : decode cX12_isSooner 20 = .ok (.if_icmp .lt 31, 3) := by decide +kernel
theorem dX12_isSooner_23 : decode cX12_isSooner 23 = .ok (.aload_n 0, 1) := by decide +kernel
theorem dX12_isSooner_24 : decode cX12_isSooner 24 = .ok (.getfield 7, 3) := by decide +kernel
theorem dX12_isSooner_27 : decode cX12_isSooner 27 = .ok (.sipush 464, 3) := by decide +kernel
theorem dX12_isSooner_30 : decode cX12_isSooner 30 = .ok (.iload_n 1, 1) := by decide +kernel
theorem dX12_isSooner_31 : decode cX12_isSooner 31 = .ok (.iadd, 1) := by decide +kernel
theorem dX12_isSooner_32 : decode cX12_isSooner 32 = .ok (.iaload, 1) := by decide +kernel
theorem dX12_isSooner_33 : decode cX12_isSooner 33 = .ok (.aload_n 0, 1) := by decide +kernel
theorem dX12_isSooner_34 : decode cX12_isSooner 34 = .ok (.getfield 7, 3) := by decide +kernel
theorem dX12_isSooner_37 : decode cX12_isSooner 37 = .ok (.sipush 464, 3) := by decide +kernel
theorem dX12_isSooner_40 : decode cX12_isSooner 40 = .ok (.iload_n 2, 1) := by decide +kernel
theorem dX12_isSooner_41 : decode cX12_isSooner 41 = .ok (.iadd, 1) := by decide +kernel
theorem dX12_isSooner_42 : decode cX12_isSooner 42 = .ok (.iaload, 1) := by decide +kernel
theorem dX12_isSooner_43 : decode cX12_isSooner 43 = .ok (.if_icmp .ne 12, 3) := by decide +kernel
theorem dX12_isSooner_46 : decode cX12_isSooner 46 = .ok (.iload_n 1, 1) := by decide +kernel
theorem dX12_isSooner_47 : decode cX12_isSooner 47 = .ok (.iload_n 2, 1) := by decide +kernel
theorem dX12_isSooner_48 : decode cX12_isSooner 48 = .ok (.if_icmp .ge 7, 3) := by decide +kernel
theorem dX12_isSooner_51 : decode cX12_isSooner 51 = .ok (.iconst 1, 1) := by decide +kernel
theorem dX12_isSooner_52 : decode cX12_isSooner 52 = .ok (.goto 4, 3) := by decide +kernel
theorem dX12_isSooner_55 : decode cX12_isSooner 55 = .ok (.iconst 0, 1) := by decide +kernel
theorem dX12_isSooner_56 : decode cX12_isSooner 56 = .ok (.ireturn, 1) := by decide +kernel
theorem dX12_nextFree_0 : decode cX12_nextFree 0 = .ok (.iconst (-1), 1) := by decide +kernel
theorem dX12_nextFree_1 : decode cX12_nextFree 1 = .ok (.istore_n 1, 1) := by decide +kernel
theorem dX12_nextFree_2 : decode cX12_nextFree 2 = .ok (.iconst 0, 1) := by decide +kernel
theorem dX12_nextFree_3 : decode cX12_nextFree 3 = .ok (.istore_n 2, 1) := by decide +kernel
theorem dX12_nextFree_4 : decode cX12_nextFree 4 = .ok (.iload_n 2, 1) := by decide +kernel
theorem dX12_nextFree_5 : decode cX12_nextFree 5 = .ok (.aload_n 0, 1) := by decide +kernel
theorem dX12_nextFree_6 : decode cX12_nextFree 6 = .ok (.getfield 7, 3) := by decide +kernel
theorem dX12_nextFree_9 : decode cX12_nextFree 9 = .ok (.iconst 1, 1) := by decide +kernel
theorem dX12_nextFree_10 : decode cX12_nextFree 10 = .ok (.iaload, 1) := by decide +kernel
theorem dX12_nextFree_11 : decode cX12_nextFree 11 = .ok (.if_icmp .ge 33, 3) := by decide +kernel
theorem dX12_nextFree_14 : decode cX12_nextFree 14 = .ok (.aload_n 0, 1) := by decide +kernel
theorem dX12_nextFree_15 : decode cX12_nextFree 15 = .ok (.iload_n 2, 1) := by decide +kernel
theorem dX12_nextFree_16 : decode cX12_nextFree 16 = .ok (.invokevirtual 180, 3) := by decide +kernel
theorem dX12_nextFree_19 : decode cX12_nextFree 19 = .ok (.ifCond .ne 19, 3) := by decide +kernel
theorem dX12_nextFree_22 : decode cX12_nextFree 22 = .ok (.iload_n 1, 1) := by decide +kernel
theorem dX12_nextFree_23 : decode cX12_nextFree 23 = .ok (.iconst (-1), 1) := by decide +kernel
theorem dX12_nextFree_24 : decode cX12_nextFree 24 = .ok (.if_icmp .eq 12, 3) := by decide +kernel
theorem dX12_nextFree_27 : decode cX12_nextFree 27 = .ok (.aload_n 0, 1) := by decide +kernel
theorem dX12_nextFree_28 : decode cX12_nextFree 28 = .ok (.iload_n 2, 1) := by decide +kernel
theorem dX12_nextFree_29 : decode cX12_nextFree 29 = .ok (.iload_n 1, 1) := by decide +kernel
theorem dX12_nextFree_30 : decode cX12_nextFree 30 = .ok (.invokevirtual 183, 3) := by decide +kernel
theorem dX12_nextFree_33 : decode cX12_nextFree 33 = .ok (.ifCond .eq 5, 3) := by decide +kernel
theorem dX12_nextFree_36 : decode cX12_nextFree 36 = .ok (.iload_n 2, 1) := by decide +kernel
theorem dX12_nextFree_37 : decode cX12_nextFree 37 = .ok (.istore_n 1, 1) := by decide +kernel
theorem dX12_nextFree_38 : decode cX12_nextFree 38 = .ok (.iinc 2 1, 3) := by decide +kernel
theorem dX12_nextFree_41 : decode cX12_nextFree 41 = .ok (.goto (-37), 3) := by decide +kernel
theorem dX12_nextFree_44 : decode cX12_nextFree 44 = .ok (.iload_n 1, 1) := by decide +kernel
theorem dX12_nextFree_45 : decode cX12_nextFree 45 = .ok (.ireturn, 1) := by decide +kernel
theorem dX12_isPending_0 : decode cX12_isPending 0 = .ok (.aload_n 0, 1) := by decide +kernel
theorem dX12_isPending_1 : decode cX12_isPending 1 = .ok (.getfield 7, 3) := by decide +kernel
theorem dX12_isPending_4 : decode cX12_isPending 4 = .ok (.bipush 10, 2) := by decide +kernel
theorem dX12_isPending_6 : decode cX12_isPending 6 = .ok (.iaload, 1) := by decide +kernel
theorem dX12_isPending_7 : decode cX12_isPending 7 = .ok (.iload_n 1, 1) := by decide +kernel
theorem dX12_isPending_8 : decode cX12_isPending 8 = .ok (.bipush 8, 2) := by decide +kernel
theorem dX12_isPending_10 : decode cX12_isPending 10 = .ok (.idiv, 1) := by decide +kernel
theorem dX12_isPending_11 : decode cX12_isPending 11 = .ok (.invokestatic 68, 3) := by decide +kernel
theorem dX12_isPending_14 : decode cX12_isPending 14 = .ok (.ifCond .eq 22, 3) := by decide +kernel
theorem dX12_isPending_17 : decode cX12_isPending 17 = .ok (.aload_n 0, 1) := by decide +kernel
theorem dX12_isPending_18 : decode cX12_isPending 18 = .ok (.getfield 7, 3) := by decide +kernel
theorem dX12_isPending_21 : decode cX12_isPending 21 = .ok (.sipush 224, 3) := by decide +kernel
theorem dX12_isPending_24 : decode cX12_isPending 24 = .ok (.iload_n 1, 1) := by decide +kernel
theorem dX12_isPending_25 : decode cX12_isPending 25 = .ok (.iadd, 1) := by decide +kernel
theorem dX12_isPending_26 : decode cX12_isPending 26 = .ok (.iaload, 1) := by decide +kernel
theorem dX12_isPending_27 : decode cX12_isPending 27 = .ok (.bipush (-2), 2) := by decide +kernel
theorem dX12_isPending_29 : decode cX12_isPending 29 = .ok (.if_icmp .ne 7, 3) := by decide +kernel
theorem dX12_isPending_32 : decode cX12_isPending 32 = .ok (.iconst 1, 1) := by decide +kernel
theorem dX12_isPending_33 : decode cX12_isPending 33 = .ok (.goto 4, 3) := by decide +kernel
theorem dX12_isPending_36 : decode cX12_isPending 36 = .ok (.iconst 0, 1) := by decide +kernel
theorem dX12_isPending_37 : decode cX12_isPending 37 = .ok (.ireturn, 1) := by decide +kernel
theorem dX12_take_0 : decode cX12_take 0 = .ok (.aload_n 0, 1) := by decide +kernel
theorem dX12_take_1 : decode cX12_take 1 = .ok (.invokevirtual 186, 3) := by decide +kernel
theorem dX12_take_4 : decode cX12_take 4 = .ok (.istore_n 2, 1) := by decide +kernel
theorem dX12_take_5 : decode cX12_take 5 = .ok (.aload_n 0, 1) := by decide +kernel
theorem dX12_take_6 : decode cX12_take 6 = .ok (.getfield 7, 3) := by decide +kernel
theorem dX12_take_9 : decode cX12_take 9 = .ok (.sipush 368, 3) := by decide +kernel
theorem dX12_take_12 : decode cX12_take 12 = .ok (.iload_n 2, 1) := by decide +kernel
theorem dX12_take_13 : decode cX12_take 13 = .ok (.iadd, 1) := by decide +kernel
theorem dX12_take_14 : decode cX12_take 14 = .ok (.aload_n 0, 1) := by decide +kernel
theorem dX12_take_15 : decode cX12_take 15 = .ok (.getfield 7, 3) := by decide +kernel
theorem dX12_take_18 : decode cX12_take 18 = .ok (.bipush 32, 2) := by decide +kernel
theorem dX12_take_20 : decode cX12_take 20 = .ok (.iload_n 1, 1) := by decide +kernel
theorem dX12_take_21 : decode cX12_take 21 = .ok (.iadd, 1) := by decide +kernel
theorem dX12_take_22 : decode cX12_take 22 = .ok (.iaload, 1) := by decide +kernel
theorem dX12_take_23 : decode cX12_take 23 = .ok (.iastore, 1) := by decide +kernel
theorem dX12_take_24 : decode cX12_take 24 = .ok (.aload_n 0, 1) := by decide +kernel
theorem dX12_take_25 : decode cX12_take 25 = .ok (.getfield 7, 3) := by decide +kernel
theorem dX12_take_28 : decode cX12_take 28 = .ok (.sipush 416, 3) := by decide +kernel
theorem dX12_take_31 : decode cX12_take 31 = .ok (.iload_n 2, 1) := by decide +kernel
theorem dX12_take_32 : decode cX12_take 32 = .ok (.iadd, 1) := by decide +kernel
theorem dX12_take_33 : decode cX12_take 33 = .ok (.iload_n 1, 1) := by decide +kernel
theorem dX12_take_34 : decode cX12_take 34 = .ok (.iastore, 1) := by decide +kernel
theorem dX12_take_35 : decode cX12_take 35 = .ok (.aload_n 0, 1) := by decide +kernel
theorem dX12_take_36 : decode cX12_take 36 = .ok (.getfield 7, 3) := by decide +kernel
theorem dX12_take_39 : decode cX12_take 39 = .ok (.sipush 464, 3) := by decide +kernel
theorem dX12_take_42 : decode cX12_take 42 = .ok (.iload_n 2, 1) := by decide +kernel
theorem dX12_take_43 : decode cX12_take 43 = .ok (.iadd, 1) := by decide +kernel
theorem dX12_take_44 : decode cX12_take 44 = .ok (.aload_n 0, 1) := by decide +kernel
theorem dX12_take_45 : decode cX12_take 45 = .ok (.getfield 7, 3) := by decide +kernel
theorem dX12_take_48 : decode cX12_take 48 = .ok (.iconst 4, 1) := by decide +kernel
theorem dX12_take_49 : decode cX12_take 49 = .ok (.iaload, 1) := by decide +kernel
theorem dX12_take_50 : decode cX12_take 50 = .ok (.iastore, 1) := by decide +kernel
theorem dX12_take_51 : decode cX12_take 51 = .ok (.aload_n 0, 1) := by decide +kernel
theorem dX12_take_52 : decode cX12_take 52 = .ok (.getfield 7, 3) := by decide +kernel
theorem dX12_take_55 : decode cX12_take 55 = .ok (.bipush 80, 2) := by decide +kernel
theorem dX12_take_57 : decode cX12_take 57 = .ok (.iload_n 1, 1) := by decide +kernel
theorem dX12_take_58 : decode cX12_take 58 = .ok (.iadd, 1) := by decide +kernel
theorem dX12_take_59 : decode cX12_take 59 = .ok (.iload_n 2, 1) := by decide +kernel
theorem dX12_take_60 : decode cX12_take 60 = .ok (.iastore, 1) := by decide +kernel
theorem dX12_take_61 : decode cX12_take 61 = .ok (.aload_n 0, 1) := by decide +kernel
theorem dX12_take_62 : decode cX12_take 62 = .ok (.getfield 7, 3) := by decide +kernel
theorem dX12_take_65 : decode cX12_take 65 = .ok (.bipush 7, 2) := by decide +kernel
theorem dX12_take_67 : decode cX12_take 67 = .ok (.dup2, 1) := by decide +kernel
theorem dX12_take_68 : decode cX12_take 68 = .ok (.iaload, 1) := by decide +kernel
theorem dX12_take_69 : decode cX12_take 69 = .ok (.iconst 1, 1) := by decide +kernel
theorem dX12_take_70 : decode cX12_take 70 = .ok (.iadd, 1) := by decide +kernel
theorem dX12_take_71 : decode cX12_take 71 = .ok (.iastore, 1) := by decide +kernel
theorem dX12_take_72 : decode cX12_take 72 = .ok (.aload_n 0, 1) := by decide +kernel
theorem dX12_take_73 : decode cX12_take 73 = .ok (.getfield 7, 3) := by decide +kernel
theorem dX12_take_76 : decode cX12_take 76 = .ok (.sipush 176, 3) := by decide +kernel
theorem dX12_take_79 : decode cX12_take 79 = .ok (.iload_n 1, 1) := by decide +kernel
theorem dX12_take_80 : decode cX12_take 80 = .ok (.iadd, 1) := by decide +kernel
theorem dX12_take_81 : decode cX12_take 81 = .ok (.iconst 0, 1) := by decide +kernel
theorem dX12_take_82 : decode cX12_take 82 = .ok (.iastore, 1) := by decide +kernel
theorem dX12_take_83 : decode cX12_take 83 = .ok (.aload_n 0, 1) := by decide +kernel
theorem dX12_take_84 : decode cX12_take 84 = .ok (.iload_n 1, 1) := by decide +kernel
theorem dX12_take_85 : decode cX12_take 85 = .ok (.invokevirtual 189, 3) := by decide +kernel
theorem dX12_take_88 : decode cX12_take 88 = .ok (.ifCond .ne 4, 3) := by decide +kernel
theorem dX12_take_91 : decode cX12_take 91 = .ok (.return_, 1) := by decide +kernel
theorem dX12_take_92 : decode cX12_take 92 = .ok (.aload_n 0, 1) := by decide +kernel
theorem dX12_take_93 : decode cX12_take 93 = .ok (.getfield 7, 3) := by decide +kernel
theorem dX12_take_96 : decode cX12_take 96 = .ok (.sipush 224, 3) := by decide +kernel
theorem dX12_take_99 : decode cX12_take 99 = .ok (.iload_n 1, 1) := by decide +kernel
theorem dX12_take_100 : decode cX12_take 100 = .ok (.iadd, 1) := by decide +kernel
theorem dX12_take_101 : decode cX12_take 101 = .ok (.iload_n 2, 1) := by decide +kernel
theorem dX12_take_102 : decode cX12_take 102 = .ok (.iastore, 1) := by decide +kernel
theorem dX12_take_103 : decode cX12_take 103 = .ok (.aload_n 0, 1) := by decide +kernel
theorem dX12_take_104 : decode cX12_take 104 = .ok (.getfield 7, 3) := by decide +kernel
theorem dX12_take_107 : decode cX12_take 107 = .ok (.bipush 11, 2) := by decide +kernel
theorem dX12_take_109 : decode cX12_take 109 = .ok (.dup2, 1) := by decide +kernel
theorem dX12_take_110 : decode cX12_take 110 = .ok (.iaload, 1) := by decide +kernel
theorem dX12_take_111 : decode cX12_take 111 = .ok (.iconst 1, 1) := by decide +kernel
theorem dX12_take_112 : decode cX12_take 112 = .ok (.iadd, 1) := by decide +kernel
theorem dX12_take_113 : decode cX12_take 113 = .ok (.iastore, 1) := by decide +kernel
theorem dX12_take_114 : decode cX12_take 114 = .ok (.return_, 1) := by decide +kernel
theorem dX12_freeFrame_0 : decode cX12_freeFrame 0 = .ok (.iconst 0, 1) := by decide +kernel
theorem dX12_freeFrame_1 : decode cX12_freeFrame 1 = .ok (.istore_n 1, 1) := by decide +kernel
theorem dX12_freeFrame_2 : decode cX12_freeFrame 2 = .ok (.iload_n 1, 1) := by decide +kernel
theorem dX12_freeFrame_3 : decode cX12_freeFrame 3 = .ok (.aload_n 0, 1) := by decide +kernel
theorem dX12_freeFrame_4 : decode cX12_freeFrame 4 = .ok (.getfield 7, 3) := by decide +kernel
theorem dX12_freeFrame_7 : decode cX12_freeFrame 7 = .ok (.iconst 0, 1) := by decide +kernel
theorem dX12_freeFrame_8 : decode cX12_freeFrame 8 = .ok (.iaload, 1) := by decide +kernel
theorem dX12_freeFrame_9 : decode cX12_freeFrame 9 = .ok (.if_icmp .ge 25, 3) := by decide +kernel
theorem dX12_freeFrame_12 : decode cX12_freeFrame 12 = .ok (.aload_n 0, 1) := by decide +kernel
theorem dX12_freeFrame_13 : decode cX12_freeFrame 13 = .ok (.getfield 7, 3) := by decide +kernel
theorem dX12_freeFrame_16 : decode cX12_freeFrame 16 = .ok (.sipush 320, 3) := by decide +kernel
theorem dX12_freeFrame_19 : decode cX12_freeFrame 19 = .ok (.iload_n 1, 1) := by decide +kernel
theorem dX12_freeFrame_20 : decode cX12_freeFrame 20 = .ok (.iadd, 1) := by decide +kernel
theorem dX12_freeFrame_21 : decode cX12_freeFrame 21 = .ok (.iaload, 1) := by decide +kernel
theorem dX12_freeFrame_22 : decode cX12_freeFrame 22 = .ok (.iconst (-1), 1) := by decide +kernel
theorem dX12_freeFrame_23 : decode cX12_freeFrame 23 = .ok (.if_icmp .ne 5, 3) := by decide +kernel
theorem dX12_freeFrame_26 : decode cX12_freeFrame 26 = .ok (.iload_n 1, 1) := by decide +kernel
theorem dX12_freeFrame_27 : decode cX12_freeFrame 27 = .ok (.ireturn, 1) := by decide +kernel
theorem dX12_freeFrame_28 : decode cX12_freeFrame 28 = .ok (.iinc 1 1, 3) := by decide +kernel
theorem dX12_freeFrame_31 : decode cX12_freeFrame 31 = .ok (.goto (-29), 3) := by decide +kernel
theorem dX12_freeFrame_34 : decode cX12_freeFrame 34 = .ok (.iconst (-1), 1) := by decide +kernel
theorem dX12_freeFrame_35 : decode cX12_freeFrame 35 = .ok (.ireturn, 1) := by decide +kernel
theorem dX12_leastBy_0 : decode cX12_leastBy 0 = .ok (.iconst (-1), 1) := by decide +kernel
theorem dX12_leastBy_1 : decode cX12_leastBy 1 = .ok (.istore_n 3, 1) := by decide +kernel
theorem dX12_leastBy_2 : decode cX12_leastBy 2 = .ok (.iconst 0, 1) := by decide +kernel
theorem dX12_leastBy_3 : decode cX12_leastBy 3 = .ok (.istore 4, 2) := by decide +kernel
theorem dX12_leastBy_5 : decode cX12_leastBy 5 = .ok (.iload 4, 2) := by decide +kernel
theorem dX12_leastBy_7 : decode cX12_leastBy 7 = .ok (.aload_n 0, 1) := by decide +kernel
theorem dX12_leastBy_8 : decode cX12_leastBy 8 = .ok (.getfield 7, 3) := by decide +kernel
theorem dX12_leastBy_11 : decode cX12_leastBy 11 = .ok (.iconst 0, 1) := by decide +kernel
theorem dX12_leastBy_12 : decode cX12_leastBy 12 = .ok (.iaload, 1) := by decide +kernel
theorem dX12_leastBy_13 : decode cX12_leastBy 13 = .ok (.if_icmp .ge 68, 3) := by decide +kernel
theorem dX12_leastBy_16 : decode cX12_leastBy 16 = .ok (.iload_n 2, 1) := by decide +kernel
theorem dX12_leastBy_17 : decode cX12_leastBy 17 = .ok (.ifCond .eq 30, 3) := by decide +kernel
theorem dX12_leastBy_20 : decode cX12_leastBy 20 = .ok (.aload_n 0, 1) := by decide +kernel
theorem dX12_leastBy_21 : decode cX12_leastBy 21 = .ok (.getfield 7, 3) := by decide +kernel
theorem dX12_leastBy_24 : decode cX12_leastBy 24 = .ok (.sipush 176, 3) := by decide +kernel
theorem dX12_leastBy_27 : decode cX12_leastBy 27 = .ok (.aload_n 0, 1) := by decide +kernel
theorem dX12_leastBy_28 : decode cX12_leastBy 28 = .ok (.getfield 7, 3) := by decide +kernel
theorem dX12_leastBy_31 : decode cX12_leastBy 31 = .ok (.sipush 320, 3) := by decide +kernel
theorem dX12_leastBy_34 : decode cX12_leastBy 34 = .ok (.iload 4, 2) := by decide +kernel
theorem dX12_leastBy_36 : decode cX12_leastBy 36 = .ok (.iadd, 1) := by decide +kernel
theorem dX12_leastBy_37 : decode cX12_leastBy 37 = .ok (.iaload, 1) := by decide +kernel
theorem dX12_leastBy_38 : decode cX12_leastBy 38 = .ok (.iadd, 1) := by decide +kernel
theorem dX12_leastBy_39 : decode cX12_leastBy 39 = .ok (.iaload, 1) := by decide +kernel
theorem dX12_leastBy_40 : decode cX12_leastBy 40 = .ok (.iconst 1, 1) := by decide +kernel
theorem dX12_leastBy_41 : decode cX12_leastBy 41 = .ok (.if_icmp .ne 6, 3) := by decide +kernel
theorem dX12_leastBy_44 : decode cX12_leastBy 44 = .ok (.goto 31, 3) := by decide +kernel
theorem dX12_leastBy_47 : decode cX12_leastBy 47 = .ok (.iload_n 3, 1) := by decide +kernel
theorem dX12_leastBy_48 : decode cX12_leastBy 48 = .ok (.iconst (-1), 1) := by decide +kernel
theorem dX12_leastBy_49 : decode cX12_leastBy 49 = .ok (.if_icmp .eq 23, 3) := by decide +kernel
theorem dX12_leastBy_52 : decode cX12_leastBy 52 = .ok (.aload_n 0, 1) := by decide +kernel
theorem dX12_leastBy_53 : decode cX12_leastBy 53 = .ok (.getfield 7, 3) := by decide +kernel
theorem dX12_leastBy_56 : decode cX12_leastBy 56 = .ok (.iload_n 1, 1) := by decide +kernel
theorem dX12_leastBy_57 : decode cX12_leastBy 57 = .ok (.iload 4, 2) := by decide +kernel
theorem dX12_leastBy_59 : decode cX12_leastBy 59 = .ok (.iadd, 1) := by decide +kernel
theorem dX12_leastBy_60 : decode cX12_leastBy 60 = .ok (.iaload, 1) := by decide +kernel
theorem dX12_leastBy_61 : decode cX12_leastBy 61 = .ok (.aload_n 0, 1) := by decide +kernel
theorem dX12_leastBy_62 : decode cX12_leastBy 62 = .ok (.getfield 7, 3) := by decide +kernel
theorem dX12_leastBy_65 : decode cX12_leastBy 65 = .ok (.iload_n 1, 1) := by decide +kernel
theorem dX12_leastBy_66 : decode cX12_leastBy 66 = .ok (.iload_n 3, 1) := by decide +kernel
theorem dX12_leastBy_67 : decode cX12_leastBy 67 = .ok (.iadd, 1) := by decide +kernel
theorem dX12_leastBy_68 : decode cX12_leastBy 68 = .ok (.iaload, 1) := by decide +kernel
theorem dX12_leastBy_69 : decode cX12_leastBy 69 = .ok (.if_icmp .ge 6, 3) := by decide +kernel
theorem dX12_leastBy_72 : decode cX12_leastBy 72 = .ok (.iload 4, 2) := by decide +kernel
theorem dX12_leastBy_74 : decode cX12_leastBy 74 = .ok (.istore_n 3, 1) := by decide +kernel
theorem dX12_leastBy_75 : decode cX12_leastBy 75 = .ok (.iinc 4 1, 3) := by decide +kernel
theorem dX12_leastBy_78 : decode cX12_leastBy 78 = .ok (.goto (-73), 3) := by decide +kernel
theorem dX12_leastBy_81 : decode cX12_leastBy 81 = .ok (.iload_n 3, 1) := by decide +kernel
theorem dX12_leastBy_82 : decode cX12_leastBy 82 = .ok (.ireturn, 1) := by decide +kernel
theorem dX12_victimFrame_0 : decode cX12_victimFrame 0 = .ok (.aload_n 0, 1) := by decide +kernel
theorem dX12_victimFrame_1 : decode cX12_victimFrame 1 = .ok (.getfield 7, 3) := by decide +kernel
theorem dX12_victimFrame_4 : decode cX12_victimFrame 4 = .ok (.iconst 2, 1) := by decide +kernel
theorem dX12_victimFrame_5 : decode cX12_victimFrame 5 = .ok (.iaload, 1) := by decide +kernel
theorem dX12_victimFrame_6 : decode cX12_victimFrame 6 = .ok (.iconst 1, 1) := by decide +kernel
theorem dX12_victimFrame_7 : decode cX12_victimFrame 7 = .ok (.if_icmp .ne 12, 3) := by decide +kernel
theorem dX12_victimFrame_10 : decode cX12_victimFrame 10 = .ok (.aload_n 0, 1) := by decide +kernel
theorem dX12_victimFrame_11 : decode cX12_victimFrame 11 = .ok (.sipush 352, 3) := by decide +kernel
theorem dX12_victimFrame_14 : decode cX12_victimFrame 14 = .ok (.iconst 0, 1) := by decide +kernel
theorem dX12_victimFrame_15 : decode cX12_victimFrame 15 = .ok (.invokevirtual 192, 3) := by decide +kernel
theorem dX12_victimFrame_18 : decode cX12_victimFrame 18 = .ok (.ireturn, 1) := by decide +kernel
theorem dX12_victimFrame_19 : decode cX12_victimFrame 19 = .ok (.aload_n 0, 1) := by decide +kernel
theorem dX12_victimFrame_20 : decode cX12_victimFrame 20 = .ok (.getfield 7, 3) := by decide +kernel
theorem dX12_victimFrame_23 : decode cX12_victimFrame 23 = .ok (.iconst 2, 1) := by decide +kernel
theorem dX12_victimFrame_24 : decode cX12_victimFrame 24 = .ok (.iaload, 1) := by decide +kernel
theorem dX12_victimFrame_25 : decode cX12_victimFrame 25 = .ok (.iconst 2, 1) := by decide +kernel
theorem dX12_victimFrame_26 : decode cX12_victimFrame 26 = .ok (.if_icmp .ne 14, 3) := by decide +kernel
theorem dX12_victimFrame_29 : decode cX12_victimFrame 29 = .ok (.aload_n 0, 1) := by decide +kernel
theorem dX12_victimFrame_30 : decode cX12_victimFrame 30 = .ok (.sipush 336, 3) := by decide +kernel
theorem dX12_victimFrame_33 : decode cX12_victimFrame 33 = .ok (.iconst 1, 1) := by decide +kernel
theorem dX12_victimFrame_34 : decode cX12_victimFrame 34 = .ok (.invokevirtual 192, 3) := by decide +kernel
theorem dX12_victimFrame_37 : decode cX12_victimFrame 37 = .ok (.goto 4, 3) := by decide +kernel
theorem dX12_victimFrame_40 : decode cX12_victimFrame 40 = .ok (.iconst (-1), 1) := by decide +kernel
theorem dX12_victimFrame_41 : decode cX12_victimFrame 41 = .ok (.istore_n 1, 1) := by decide +kernel
theorem dX12_victimFrame_42 : decode cX12_victimFrame 42 = .ok (.iload_n 1, 1) := by decide +kernel
theorem dX12_victimFrame_43 : decode cX12_victimFrame 43 = .ok (.iconst (-1), 1) := by decide +kernel
theorem dX12_victimFrame_44 : decode cX12_victimFrame 44 = .ok (.if_icmp .ne 14, 3) := by decide +kernel
theorem dX12_victimFrame_47 : decode cX12_victimFrame 47 = .ok (.aload_n 0, 1) := by decide +kernel
theorem dX12_victimFrame_48 : decode cX12_victimFrame 48 = .ok (.sipush 336, 3) := by decide +kernel
theorem dX12_victimFrame_51 : decode cX12_victimFrame 51 = .ok (.iconst 0, 1) := by decide +kernel
theorem dX12_victimFrame_52 : decode cX12_victimFrame 52 = .ok (.invokevirtual 192, 3) := by decide +kernel
theorem dX12_victimFrame_55 : decode cX12_victimFrame 55 = .ok (.goto 4, 3) := by decide +kernel
theorem dX12_victimFrame_58 : decode cX12_victimFrame 58 = .ok (.iload_n 1, 1) := by decide +kernel
theorem dX12_victimFrame_59 : decode cX12_victimFrame 59 = .ok (.ireturn, 1) := by decide +kernel
theorem dX12_leave_0 : decode cX12_leave 0 = .ok (.aload_n 0, 1) := by decide +kernel
theorem dX12_leave_1 : decode cX12_leave 1 = .ok (.getfield 7, 3) := by decide +kernel
theorem dX12_leave_4 : decode cX12_leave 4 = .ok (.sipush 320, 3) := by decide +kernel
theorem dX12_leave_7 : decode cX12_leave 7 = .ok (.aload_n 0, 1) := by decide +kernel
theorem dX12_leave_8 : decode cX12_leave 8 = .ok (.getfield 7, 3) := by decide +kernel
theorem dX12_leave_11 : decode cX12_leave 11 = .ok (.sipush 128, 3) := by decide +kernel
theorem dX12_leave_14 : decode cX12_leave 14 = .ok (.iload_n 1, 1) := by decide +kernel
theorem dX12_leave_15 : decode cX12_leave 15 = .ok (.iadd, 1) := by decide +kernel
theorem dX12_leave_16 : decode cX12_leave 16 = .ok (.iaload, 1) := by decide +kernel
theorem dX12_leave_17 : decode cX12_leave 17 = .ok (.iadd, 1) := by decide +kernel
theorem dX12_leave_18 : decode cX12_leave 18 = .ok (.iconst (-1), 1) := by decide +kernel
theorem dX12_leave_19 : decode cX12_leave 19 = .ok (.iastore, 1) := by decide +kernel
theorem dX12_leave_20 : decode cX12_leave 20 = .ok (.aload_n 0, 1) := by decide +kernel
theorem dX12_leave_21 : decode cX12_leave 21 = .ok (.getfield 7, 3) := by decide +kernel
theorem dX12_leave_24 : decode cX12_leave 24 = .ok (.sipush 128, 3) := by decide +kernel
theorem dX12_leave_27 : decode cX12_leave 27 = .ok (.iload_n 1, 1) := by decide +kernel
theorem dX12_leave_28 : decode cX12_leave 28 = .ok (.iadd, 1) := by decide +kernel
theorem dX12_leave_29 : decode cX12_leave 29 = .ok (.iconst (-1), 1) := by decide +kernel
theorem dX12_leave_30 : decode cX12_leave 30 = .ok (.iastore, 1) := by decide +kernel
theorem dX12_leave_31 : decode cX12_leave 31 = .ok (.return_, 1) := by decide +kernel
theorem dX12_evict_0 : decode cX12_evict 0 = .ok (.aload_n 0, 1) := by decide +kernel
theorem dX12_evict_1 : decode cX12_evict 1 = .ok (.getfield 7, 3) := by decide +kernel
theorem dX12_evict_4 : decode cX12_evict 4 = .ok (.sipush 176, 3) := by decide +kernel
theorem dX12_evict_7 : decode cX12_evict 7 = .ok (.iload_n 1, 1) := by decide +kernel
theorem dX12_evict_8 : decode cX12_evict 8 = .ok (.iadd, 1) := by decide +kernel
theorem dX12_evict_9 : decode cX12_evict 9 = .ok (.iaload, 1) := by decide +kernel
theorem dX12_evict_10 : decode cX12_evict 10 = .ok (.iconst 1, 1) := by decide +kernel
theorem dX12_evict_11 : decode cX12_evict 11 = .ok (.if_icmp .ne 8, 3) := by decide +kernel
theorem dX12_evict_14 : decode cX12_evict 14 = .ok (.aload_n 0, 1) := by decide +kernel
theorem dX12_evict_15 : decode cX12_evict 15 = .ok (.iload_n 1, 1) := by decide +kernel
theorem dX12_evict_16 : decode cX12_evict 16 = .ok (.invokevirtual 196, 3) := by decide +kernel
theorem dX12_evict_19 : decode cX12_evict 19 = .ok (.aload_n 0, 1) := by decide +kernel
theorem dX12_evict_20 : decode cX12_evict 20 = .ok (.iload_n 1, 1) := by decide +kernel
theorem dX12_evict_21 : decode cX12_evict 21 = .ok (.invokevirtual 199, 3) := by decide +kernel
theorem dX12_evict_24 : decode cX12_evict 24 = .ok (.return_, 1) := by decide +kernel
theorem dX12_isStuck_0 : decode cX12_isStuck 0 = .ok (.aload_n 0, 1) := by decide +kernel
theorem dX12_isStuck_1 : decode cX12_isStuck 1 = .ok (.getfield 7, 3) := by decide +kernel
theorem dX12_isStuck_4 : decode cX12_isStuck 4 = .ok (.sipush 128, 3) := by decide +kernel
theorem dX12_isStuck_7 : decode cX12_isStuck 7 = .ok (.iload_n 1, 1) := by decide +kernel
theorem dX12_isStuck_8 : decode cX12_isStuck 8 = .ok (.iadd, 1) := by decide +kernel
theorem dX12_isStuck_9 : decode cX12_isStuck 9 = .ok (.iaload, 1) := by decide +kernel
theorem dX12_isStuck_10 : decode cX12_isStuck 10 = .ok (.iconst (-1), 1) := by decide +kernel
theorem dX12_isStuck_11 : decode cX12_isStuck 11 = .ok (.if_icmp .eq 29, 3) := by decide +kernel
theorem dX12_isStuck_14 : decode cX12_isStuck 14 = .ok (.iload_n 2, 1) := by decide +kernel
theorem dX12_isStuck_15 : decode cX12_isStuck 15 = .ok (.ifCond .eq 23, 3) := by decide +kernel
theorem dX12_isStuck_18 : decode cX12_isStuck 18 = .ok (.aload_n 0, 1) := by decide +kernel
theorem dX12_isStuck_19 : decode cX12_isStuck 19 = .ok (.iload_n 1, 1) := by decide +kernel
theorem dX12_isStuck_20 : decode cX12_isStuck 20 = .ok (.invokevirtual 189, 3) := by decide +kernel
theorem dX12_isStuck_23 : decode cX12_isStuck 23 = .ok (.ifCond .eq 15, 3) := by decide +kernel
theorem dX12_isStuck_26 : decode cX12_isStuck 26 = .ok (.aload_n 0, 1) := by decide +kernel
theorem dX12_isStuck_27 : decode cX12_isStuck 27 = .ok (.invokevirtual 186, 3) := by decide +kernel
theorem dX12_isStuck_30 : decode cX12_isStuck 30 = .ok (.iconst (-1), 1) := by decide +kernel
theorem dX12_isStuck_31 : decode cX12_isStuck 31 = .ok (.if_icmp .ne 7, 3) := by decide +kernel
theorem dX12_isStuck_34 : decode cX12_isStuck 34 = .ok (.iconst 1, 1) := by decide +kernel
theorem dX12_isStuck_35 : decode cX12_isStuck 35 = .ok (.goto 4, 3) := by decide +kernel
theorem dX12_isStuck_38 : decode cX12_isStuck 38 = .ok (.iconst 0, 1) := by decide +kernel
theorem dX12_isStuck_39 : decode cX12_isStuck 39 = .ok (.ireturn, 1) := by decide +kernel
theorem dX12_isStuck_40 : decode cX12_isStuck 40 = .ok (.aload_n 0, 1) := by decide +kernel
theorem dX12_isStuck_41 : decode cX12_isStuck 41 = .ok (.invokevirtual 202, 3) := by decide +kernel
theorem dX12_isStuck_44 : decode cX12_isStuck 44 = .ok (.iconst (-1), 1) := by decide +kernel
theorem dX12_isStuck_45 : decode cX12_isStuck 45 = .ok (.if_icmp .ne 41, 3) := by decide +kernel
theorem dX12_isStuck_48 : decode cX12_isStuck 48 = .ok (.aload_n 0, 1) := by decide +kernel
theorem dX12_isStuck_49 : decode cX12_isStuck 49 = .ok (.getfield 7, 3) := by decide +kernel
theorem dX12_isStuck_52 : decode cX12_isStuck 52 = .ok (.sipush 176, 3) := by decide +kernel
theorem dX12_isStuck_55 : decode cX12_isStuck 55 = .ok (.aload_n 0, 1) := by decide +kernel
theorem dX12_isStuck_56 : decode cX12_isStuck 56 = .ok (.getfield 7, 3) := by decide +kernel
theorem dX12_isStuck_59 : decode cX12_isStuck 59 = .ok (.sipush 320, 3) := by decide +kernel
theorem dX12_isStuck_62 : decode cX12_isStuck 62 = .ok (.aload_n 0, 1) := by decide +kernel
theorem dX12_isStuck_63 : decode cX12_isStuck 63 = .ok (.invokevirtual 205, 3) := by decide +kernel
theorem dX12_isStuck_66 : decode cX12_isStuck 66 = .ok (.iadd, 1) := by decide +kernel
theorem dX12_isStuck_67 : decode cX12_isStuck 67 = .ok (.iaload, 1) := by decide +kernel
theorem dX12_isStuck_68 : decode cX12_isStuck 68 = .ok (.iadd, 1) := by decide +kernel
theorem dX12_isStuck_69 : decode cX12_isStuck 69 = .ok (.iaload, 1) := by decide +kernel
theorem dX12_isStuck_70 : decode cX12_isStuck 70 = .ok (.iconst 1, 1) := by decide +kernel
theorem dX12_isStuck_71 : decode cX12_isStuck 71 = .ok (.if_icmp .ne 15, 3) := by decide +kernel
theorem dX12_isStuck_74 : decode cX12_isStuck 74 = .ok (.aload_n 0, 1) := by decide +kernel
theorem dX12_isStuck_75 : decode cX12_isStuck 75 = .ok (.invokevirtual 186, 3) := by decide +kernel
theorem dX12_isStuck_78 : decode cX12_isStuck 78 = .ok (.iconst (-1), 1) := by decide +kernel
theorem dX12_isStuck_79 : decode cX12_isStuck 79 = .ok (.if_icmp .ne 7, 3) := by decide +kernel
theorem dX12_isStuck_82 : decode cX12_isStuck 82 = .ok (.iconst 1, 1) := by decide +kernel
theorem dX12_isStuck_83 : decode cX12_isStuck 83 = .ok (.goto 4, 3) := by decide +kernel
theorem dX12_isStuck_86 : decode cX12_isStuck 86 = .ok (.iconst 0, 1) := by decide +kernel
theorem dX12_isStuck_87 : decode cX12_isStuck 87 = .ok (.ireturn, 1) := by decide +kernel
theorem dX12_access_0 : decode cX12_access 0 = .ok (.aload_n 0, 1) := by decide +kernel
theorem dX12_access_1 : decode cX12_access 1 = .ok (.getfield 7, 3) := by decide +kernel
theorem dX12_access_4 : decode cX12_access 4 = .ok (.iconst 5, 1) := by decide +kernel
theorem dX12_access_5 : decode cX12_access 5 = .ok (.dup2, 1) := by decide +kernel
theorem dX12_access_6 : decode cX12_access 6 = .ok (.iaload, 1) := by decide +kernel
theorem dX12_access_7 : decode cX12_access 7 = .ok (.iconst 1, 1) := by decide +kernel
theorem dX12_access_8 : decode cX12_access 8 = .ok (.iadd, 1) := by decide +kernel
theorem dX12_access_9 : decode cX12_access 9 = .ok (.iastore, 1) := by decide +kernel
theorem dX12_access_10 : decode cX12_access 10 = .ok (.aload_n 0, 1) := by decide +kernel
theorem dX12_access_11 : decode cX12_access 11 = .ok (.getfield 7, 3) := by decide +kernel
theorem dX12_access_14 : decode cX12_access 14 = .ok (.sipush 128, 3) := by decide +kernel
theorem dX12_access_17 : decode cX12_access 17 = .ok (.iload_n 1, 1) := by decide +kernel
theorem dX12_access_18 : decode cX12_access 18 = .ok (.iadd, 1) := by decide +kernel
theorem dX12_access_19 : decode cX12_access 19 = .ok (.iaload, 1) := by decide +kernel
theorem dX12_access_20 : decode cX12_access 20 = .ok (.iconst (-1), 1) := by decide +kernel
theorem dX12_access_21 : decode cX12_access 21 = .ok (.if_icmp .ne 82, 3) := by decide +kernel
theorem dX12_access_24 : decode cX12_access 24 = .ok (.aload_n 0, 1) := by decide +kernel
theorem dX12_access_25 : decode cX12_access 25 = .ok (.getfield 7, 3) := by decide +kernel
theorem dX12_access_28 : decode cX12_access 28 = .ok (.bipush 6, 2) := by decide +kernel
theorem dX12_access_30 : decode cX12_access 30 = .ok (.dup2, 1) := by decide +kernel
theorem dX12_access_31 : decode cX12_access 31 = .ok (.iaload, 1) := by decide +kernel
theorem dX12_access_32 : decode cX12_access 32 = .ok (.iconst 1, 1) := by decide +kernel
theorem dX12_access_33 : decode cX12_access 33 = .ok (.iadd, 1) := by decide +kernel
theorem dX12_access_34 : decode cX12_access 34 = .ok (.iastore, 1) := by decide +kernel
theorem dX12_access_35 : decode cX12_access 35 = .ok (.aload_n 0, 1) := by decide +kernel
theorem dX12_access_36 : decode cX12_access 36 = .ok (.invokevirtual 202, 3) := by decide +kernel
theorem dX12_access_39 : decode cX12_access 39 = .ok (.iconst (-1), 1) := by decide +kernel
theorem dX12_access_40 : decode cX12_access 40 = .ok (.if_icmp .ne 20, 3) := by decide +kernel
theorem dX12_access_43 : decode cX12_access 43 = .ok (.aload_n 0, 1) := by decide +kernel
theorem dX12_access_44 : decode cX12_access 44 = .ok (.aload_n 0, 1) := by decide +kernel
theorem dX12_access_45 : decode cX12_access 45 = .ok (.getfield 7, 3) := by decide +kernel
theorem dX12_access_48 : decode cX12_access 48 = .ok (.sipush 320, 3) := by decide +kernel
theorem dX12_access_51 : decode cX12_access 51 = .ok (.aload_n 0, 1) := by decide +kernel
theorem dX12_access_52 : decode cX12_access 52 = .ok (.invokevirtual 205, 3) := by decide +kernel
theorem dX12_access_55 : decode cX12_access 55 = .ok (.iadd, 1) := by decide +kernel
theorem dX12_access_56 : decode cX12_access 56 = .ok (.iaload, 1) := by decide +kernel
theorem dX12_access_57 : decode cX12_access 57 = .ok (.invokevirtual 208, 3) := by decide +kernel
theorem dX12_access_60 : decode cX12_access 60 = .ok (.aload_n 0, 1) := by decide +kernel
theorem dX12_access_61 : decode cX12_access 61 = .ok (.invokevirtual 202, 3) := by decide +kernel
theorem dX12_access_64 : decode cX12_access 64 = .ok (.istore_n 2, 1) := by decide +kernel
theorem dX12_access_65 : decode cX12_access 65 = .ok (.aload_n 0, 1) := by decide +kernel
theorem dX12_access_66 : decode cX12_access 66 = .ok (.getfield 7, 3) := by decide +kernel
theorem dX12_access_69 : decode cX12_access 69 = .ok (.sipush 320, 3) := by decide +kernel
theorem dX12_access_72 : decode cX12_access 72 = .ok (.iload_n 2, 1) := by decide +kernel
theorem dX12_access_73 : decode cX12_access 73 = .ok (.iadd, 1) := by decide +kernel
theorem dX12_access_74 : decode cX12_access 74 = .ok (.iload_n 1, 1) := by decide +kernel
theorem dX12_access_75 : decode cX12_access 75 = .ok (.iastore, 1) := by decide +kernel
theorem dX12_access_76 : decode cX12_access 76 = .ok (.aload_n 0, 1) := by decide +kernel
theorem dX12_access_77 : decode cX12_access 77 = .ok (.getfield 7, 3) := by decide +kernel
theorem dX12_access_80 : decode cX12_access 80 = .ok (.sipush 128, 3) := by decide +kernel
theorem dX12_access_83 : decode cX12_access 83 = .ok (.iload_n 1, 1) := by decide +kernel
theorem dX12_access_84 : decode cX12_access 84 = .ok (.iadd, 1) := by decide +kernel
theorem dX12_access_85 : decode cX12_access 85 = .ok (.iload_n 2, 1) := by decide +kernel
theorem dX12_access_86 : decode cX12_access 86 = .ok (.iastore, 1) := by decide +kernel
theorem dX12_access_87 : decode cX12_access 87 = .ok (.aload_n 0, 1) := by decide +kernel
theorem dX12_access_88 : decode cX12_access 88 = .ok (.getfield 7, 3) := by decide +kernel
theorem dX12_access_91 : decode cX12_access 91 = .ok (.sipush 352, 3) := by decide +kernel
theorem dX12_access_94 : decode cX12_access 94 = .ok (.iload_n 2, 1) := by decide +kernel
theorem dX12_access_95 : decode cX12_access 95 = .ok (.iadd, 1) := by decide +kernel
theorem dX12_access_96 : decode cX12_access 96 = .ok (.aload_n 0, 1) := by decide +kernel
theorem dX12_access_97 : decode cX12_access 97 = .ok (.getfield 7, 3) := by decide +kernel
theorem dX12_access_100 : decode cX12_access 100 = .ok (.iconst 5, 1) := by decide +kernel
theorem dX12_access_101 : decode cX12_access 101 = .ok (.iaload, 1) := by decide +kernel
theorem dX12_access_102 : decode cX12_access 102 = .ok (.iastore, 1) := by decide +kernel
theorem dX12_access_103 : decode cX12_access 103 = .ok (.aload_n 0, 1) := by decide +kernel
theorem dX12_access_104 : decode cX12_access 104 = .ok (.getfield 7, 3) := by decide +kernel
theorem dX12_access_107 : decode cX12_access 107 = .ok (.sipush 336, 3) := by decide +kernel
theorem dX12_access_110 : decode cX12_access 110 = .ok (.aload_n 0, 1) := by decide +kernel
theorem dX12_access_111 : decode cX12_access 111 = .ok (.getfield 7, 3) := by decide +kernel
theorem dX12_access_114 : decode cX12_access 114 = .ok (.sipush 128, 3) := by decide +kernel
theorem dX12_access_117 : decode cX12_access 117 = .ok (.iload_n 1, 1) := by decide +kernel
theorem dX12_access_118 : decode cX12_access 118 = .ok (.iadd, 1) := by decide +kernel
theorem dX12_access_119 : decode cX12_access 119 = .ok (.iaload, 1) := by decide +kernel
theorem dX12_access_120 : decode cX12_access 120 = .ok (.iadd, 1) := by decide +kernel
theorem dX12_access_121 : decode cX12_access 121 = .ok (.aload_n 0, 1) := by decide +kernel
theorem dX12_access_122 : decode cX12_access 122 = .ok (.getfield 7, 3) := by decide +kernel
theorem dX12_access_125 : decode cX12_access 125 = .ok (.iconst 5, 1) := by decide +kernel
theorem dX12_access_126 : decode cX12_access 126 = .ok (.iaload, 1) := by decide +kernel
theorem dX12_access_127 : decode cX12_access 127 = .ok (.iastore, 1) := by decide +kernel
theorem dX12_access_128 : decode cX12_access 128 = .ok (.bipush 63, 2) := by decide +kernel
theorem dX12_access_130 : decode cX12_access 130 = .ok (.istore_n 2, 1) := by decide +kernel
theorem dX12_access_131 : decode cX12_access 131 = .ok (.iload_n 2, 1) := by decide +kernel
theorem dX12_access_132 : decode cX12_access 132 = .ok (.ifCond .le 31, 3) := by decide +kernel
theorem dX12_access_135 : decode cX12_access 135 = .ok (.aload_n 0, 1) := by decide +kernel
theorem dX12_access_136 : decode cX12_access 136 = .ok (.getfield 7, 3) := by decide +kernel
theorem dX12_access_139 : decode cX12_access 139 = .ok (.sipush 512, 3) := by decide +kernel
theorem dX12_access_142 : decode cX12_access 142 = .ok (.iload_n 2, 1) := by decide +kernel
theorem dX12_access_143 : decode cX12_access 143 = .ok (.iadd, 1) := by decide +kernel
theorem dX12_access_144 : decode cX12_access 144 = .ok (.aload_n 0, 1) := by decide +kernel
theorem dX12_access_145 : decode cX12_access 145 = .ok (.getfield 7, 3) := by decide +kernel
theorem dX12_access_148 : decode cX12_access 148 = .ok (.sipush 512, 3) := by decide +kernel
theorem dX12_access_151 : decode cX12_access 151 = .ok (.iload_n 2, 1) := by decide +kernel
theorem dX12_access_152 : decode cX12_access 152 = .ok (.iadd, 1) := by decide +kernel
theorem dX12_access_153 : decode cX12_access 153 = .ok (.iconst 1, 1) := by decide +kernel
theorem dX12_access_154 : decode cX12_access 154 = .ok (.isub, 1) := by decide +kernel
theorem dX12_access_155 : decode cX12_access 155 = .ok (.iaload, 1) := by decide +kernel
theorem dX12_access_156 : decode cX12_access 156 = .ok (.iastore, 1) := by decide +kernel
theorem dX12_access_157 : decode cX12_access 157 = .ok (.iinc 2 (-1), 3) := by decide +kernel
theorem dX12_access_160 : decode cX12_access 160 = .ok (.goto (-29), 3) := by decide +kernel
theorem dX12_access_163 : decode cX12_access 163 = .ok (.aload_n 0, 1) := by decide +kernel
theorem dX12_access_164 : decode cX12_access 164 = .ok (.getfield 7, 3) := by decide +kernel
theorem dX12_access_167 : decode cX12_access 167 = .ok (.sipush 512, 3) := by decide +kernel
theorem dX12_access_170 : decode cX12_access 170 = .ok (.iload_n 1, 1) := by decide +kernel
theorem dX12_access_171 : decode cX12_access 171 = .ok (.iastore, 1) := by decide +kernel
theorem dX12_access_172 : decode cX12_access 172 = .ok (.aload_n 0, 1) := by decide +kernel
theorem dX12_access_173 : decode cX12_access 173 = .ok (.getfield 7, 3) := by decide +kernel
theorem dX12_access_176 : decode cX12_access 176 = .ok (.bipush 12, 2) := by decide +kernel
theorem dX12_access_178 : decode cX12_access 178 = .ok (.iaload, 1) := by decide +kernel
theorem dX12_access_179 : decode cX12_access 179 = .ok (.bipush 64, 2) := by decide +kernel
theorem dX12_access_181 : decode cX12_access 181 = .ok (.if_icmp .ge 14, 3) := by decide +kernel
theorem dX12_access_184 : decode cX12_access 184 = .ok (.aload_n 0, 1) := by decide +kernel
theorem dX12_access_185 : decode cX12_access 185 = .ok (.getfield 7, 3) := by decide +kernel
theorem dX12_access_188 : decode cX12_access 188 = .ok (.bipush 12, 2) := by decide +kernel
theorem dX12_access_190 : decode cX12_access 190 = .ok (.dup2, 1) := by decide +kernel
theorem dX12_access_191 : decode cX12_access 191 = .ok (.iaload, 1) := by decide +kernel
theorem dX12_access_192 : decode cX12_access 192 = .ok (.iconst 1, 1) := by decide +kernel
theorem dX12_access_193 : decode cX12_access 193 = .ok (.iadd, 1) := by decide +kernel
theorem dX12_access_194 : decode cX12_access 194 = .ok (.iastore, 1) := by decide +kernel
theorem dX12_access_195 : decode cX12_access 195 = .ok (.return_, 1) := by decide +kernel
theorem dX12_isNan_0 : decode cX12_isNan 0 = .ok (.iload_n 0, 1) := by decide +kernel
theorem dX12_isNan_1 : decode cX12_isNan 1 = .ok (.bipush 23, 2) := by decide +kernel
theorem dX12_isNan_3 : decode cX12_isNan 3 = .ok (.ishr, 1) := by decide +kernel
theorem dX12_isNan_4 : decode cX12_isNan 4 = .ok (.sipush 255, 3) := by decide +kernel
theorem dX12_isNan_7 : decode cX12_isNan 7 = .ok (.iand, 1) := by decide +kernel
theorem dX12_isNan_8 : decode cX12_isNan 8 = .ok (.sipush 255, 3) := by decide +kernel
theorem dX12_isNan_11 : decode cX12_isNan 11 = .ok (.if_icmp .ne 14, 3) := by decide +kernel
theorem dX12_isNan_14 : decode cX12_isNan 14 = .ok (.iload_n 0, 1) := by decide +kernel
theorem dX12_isNan_15 : decode cX12_isNan 15 = .ok (.ldc 211, 2) := by decide +kernel
theorem dX12_isNan_17 : decode cX12_isNan 17 = .ok (.iand, 1) := by decide +kernel
theorem dX12_isNan_18 : decode cX12_isNan 18 = .ok (.ifCond .eq 7, 3) := by decide +kernel
theorem dX12_isNan_21 : decode cX12_isNan 21 = .ok (.iconst 1, 1) := by decide +kernel
theorem dX12_isNan_22 : decode cX12_isNan 22 = .ok (.goto 4, 3) := by decide +kernel
theorem dX12_isNan_25 : decode cX12_isNan 25 = .ok (.iconst 0, 1) := by decide +kernel
theorem dX12_isNan_26 : decode cX12_isNan 26 = .ok (.ireturn, 1) := by decide +kernel
theorem dX12_write_0 : decode cX12_write 0 = .ok (.aload_n 0, 1) := by decide +kernel
theorem dX12_write_1 : decode cX12_write 1 = .ok (.iload_n 1, 1) := by decide +kernel
theorem dX12_write_2 : decode cX12_write 2 = .ok (.invokevirtual 189, 3) := by decide +kernel
theorem dX12_write_5 : decode cX12_write 5 = .ok (.ifCond .eq 8, 3) := by decide +kernel
theorem dX12_write_8 : decode cX12_write 8 = .ok (.aload_n 0, 1) := by decide +kernel
theorem dX12_write_9 : decode cX12_write 9 = .ok (.iload_n 1, 1) := by decide +kernel
theorem dX12_write_10 : decode cX12_write 10 = .ok (.invokevirtual 196, 3) := by decide +kernel
theorem dX12_write_13 : decode cX12_write 13 = .ok (.aload_n 0, 1) := by decide +kernel
theorem dX12_write_14 : decode cX12_write 14 = .ok (.iload_n 1, 1) := by decide +kernel
theorem dX12_write_15 : decode cX12_write 15 = .ok (.invokevirtual 212, 3) := by decide +kernel
theorem dX12_write_18 : decode cX12_write 18 = .ok (.aload_n 0, 1) := by decide +kernel
theorem dX12_write_19 : decode cX12_write 19 = .ok (.getfield 7, 3) := by decide +kernel
theorem dX12_write_22 : decode cX12_write 22 = .ok (.bipush 32, 2) := by decide +kernel
theorem dX12_write_24 : decode cX12_write 24 = .ok (.iload_n 1, 1) := by decide +kernel
theorem dX12_write_25 : decode cX12_write 25 = .ok (.iadd, 1) := by decide +kernel
theorem dX12_write_26 : decode cX12_write 26 = .ok (.aload_n 0, 1) := by decide +kernel
theorem dX12_write_27 : decode cX12_write 27 = .ok (.getfield 7, 3) := by decide +kernel
theorem dX12_write_30 : decode cX12_write 30 = .ok (.bipush 14, 2) := by decide +kernel
theorem dX12_write_32 : decode cX12_write 32 = .ok (.iload_n 1, 1) := by decide +kernel
theorem dX12_write_33 : decode cX12_write 33 = .ok (.bipush 8, 2) := by decide +kernel
theorem dX12_write_35 : decode cX12_write 35 = .ok (.idiv, 1) := by decide +kernel
theorem dX12_write_36 : decode cX12_write 36 = .ok (.iadd, 1) := by decide +kernel
theorem dX12_write_37 : decode cX12_write 37 = .ok (.iaload, 1) := by decide +kernel
theorem dX12_write_38 : decode cX12_write 38 = .ok (.iconst 1, 1) := by decide +kernel
theorem dX12_write_39 : decode cX12_write 39 = .ok (.if_icmp .ne 15, 3) := by decide +kernel
theorem dX12_write_42 : decode cX12_write 42 = .ok (.iload_n 2, 1) := by decide +kernel
theorem dX12_write_43 : decode cX12_write 43 = .ok (.invokestatic 215, 3) := by decide +kernel
theorem dX12_write_46 : decode cX12_write 46 = .ok (.ifCond .eq 8, 3) := by decide +kernel
theorem dX12_write_49 : decode cX12_write 49 = .ok (.ldc 218, 2) := by decide +kernel
theorem dX12_write_51 : decode cX12_write 51 = .ok (.goto 4, 3) := by decide +kernel
theorem dX12_write_54 : decode cX12_write 54 = .ok (.iload_n 2, 1) := by decide +kernel
theorem dX12_write_55 : decode cX12_write 55 = .ok (.iastore, 1) := by decide +kernel
theorem dX12_write_56 : decode cX12_write 56 = .ok (.aload_n 0, 1) := by decide +kernel
theorem dX12_write_57 : decode cX12_write 57 = .ok (.getfield 7, 3) := by decide +kernel
theorem dX12_write_60 : decode cX12_write 60 = .ok (.bipush 80, 2) := by decide +kernel
theorem dX12_write_62 : decode cX12_write 62 = .ok (.iload_n 1, 1) := by decide +kernel
theorem dX12_write_63 : decode cX12_write 63 = .ok (.iadd, 1) := by decide +kernel
theorem dX12_write_64 : decode cX12_write 64 = .ok (.iconst (-1), 1) := by decide +kernel
theorem dX12_write_65 : decode cX12_write 65 = .ok (.iastore, 1) := by decide +kernel
theorem dX12_write_66 : decode cX12_write 66 = .ok (.aload_n 0, 1) := by decide +kernel
theorem dX12_write_67 : decode cX12_write 67 = .ok (.getfield 7, 3) := by decide +kernel
theorem dX12_write_70 : decode cX12_write 70 = .ok (.sipush 176, 3) := by decide +kernel
theorem dX12_write_73 : decode cX12_write 73 = .ok (.iload_n 1, 1) := by decide +kernel
theorem dX12_write_74 : decode cX12_write 74 = .ok (.iadd, 1) := by decide +kernel
theorem dX12_write_75 : decode cX12_write 75 = .ok (.iconst 1, 1) := by decide +kernel
theorem dX12_write_76 : decode cX12_write 76 = .ok (.iastore, 1) := by decide +kernel
theorem dX12_write_77 : decode cX12_write 77 = .ok (.return_, 1) := by decide +kernel
theorem dX12_pageOf_0 : decode cX12_pageOf 0 = .ok (.bipush 8, 2) := by decide +kernel
theorem dX12_pageOf_2 : decode cX12_pageOf 2 = .ok (.iload_n 0, 1) := by decide +kernel
theorem dX12_pageOf_3 : decode cX12_pageOf 3 = .ok (.imul, 1) := by decide +kernel
theorem dX12_pageOf_4 : decode cX12_pageOf 4 = .ok (.iload_n 1, 1) := by decide +kernel
theorem dX12_pageOf_5 : decode cX12_pageOf 5 = .ok (.iadd, 1) := by decide +kernel
theorem dX12_pageOf_6 : decode cX12_pageOf 6 = .ok (.ireturn, 1) := by decide +kernel
theorem dX12_readPage_0 : decode cX12_readPage 0 = .ok (.aload_n 0, 1) := by decide +kernel
theorem dX12_readPage_1 : decode cX12_readPage 1 = .ok (.iload_n 1, 1) := by decide +kernel
theorem dX12_readPage_2 : decode cX12_readPage 2 = .ok (.iload_n 2, 1) := by decide +kernel
theorem dX12_readPage_3 : decode cX12_readPage 3 = .ok (.invokevirtual 219, 3) := by decide +kernel
theorem dX12_readPage_6 : decode cX12_readPage 6 = .ok (.ifCond .ne 21, 3) := by decide +kernel
theorem dX12_readPage_9 : decode cX12_readPage 9 = .ok (.aload_n 0, 1) := by decide +kernel
theorem dX12_readPage_10 : decode cX12_readPage 10 = .ok (.aload_n 0, 1) := by decide +kernel
theorem dX12_readPage_11 : decode cX12_readPage 11 = .ok (.iload_n 1, 1) := by decide +kernel
theorem dX12_readPage_12 : decode cX12_readPage 12 = .ok (.iload_n 2, 1) := by decide +kernel
theorem dX12_readPage_13 : decode cX12_readPage 13 = .ok (.invokestatic 222, 3) := by decide +kernel
theorem dX12_readPage_16 : decode cX12_readPage 16 = .ok (.iconst 0, 1) := by decide +kernel
theorem dX12_readPage_17 : decode cX12_readPage 17 = .ok (.invokevirtual 225, 3) := by decide +kernel
theorem dX12_readPage_20 : decode cX12_readPage 20 = .ok (.iconst 2, 1) := by decide +kernel
theorem dX12_readPage_21 : decode cX12_readPage 21 = .ok (.invokevirtual 60, 3) := by decide +kernel
theorem dX12_readPage_24 : decode cX12_readPage 24 = .ok (.ifCond .eq 5, 3) := by decide +kernel
theorem dX12_readPage_27 : decode cX12_readPage 27 = .ok (.iconst 0, 1) := by decide +kernel
theorem dX12_readPage_28 : decode cX12_readPage 28 = .ok (.ireturn, 1) := by decide +kernel
theorem dX12_readPage_29 : decode cX12_readPage 29 = .ok (.aload_n 0, 1) := by decide +kernel
theorem dX12_readPage_30 : decode cX12_readPage 30 = .ok (.invokevirtual 229, 3) := by decide +kernel
theorem dX12_readPage_33 : decode cX12_readPage 33 = .ok (.aload_n 0, 1) := by decide +kernel
theorem dX12_readPage_34 : decode cX12_readPage 34 = .ok (.iload_n 1, 1) := by decide +kernel
theorem dX12_readPage_35 : decode cX12_readPage 35 = .ok (.iload_n 2, 1) := by decide +kernel
theorem dX12_readPage_36 : decode cX12_readPage 36 = .ok (.invokestatic 222, 3) := by decide +kernel
theorem dX12_readPage_39 : decode cX12_readPage 39 = .ok (.invokevirtual 212, 3) := by decide +kernel
theorem dX12_readPage_42 : decode cX12_readPage 42 = .ok (.aload_n 0, 1) := by decide +kernel
theorem dX12_readPage_43 : decode cX12_readPage 43 = .ok (.getfield 7, 3) := by decide +kernel
theorem dX12_readPage_46 : decode cX12_readPage 46 = .ok (.bipush 32, 2) := by decide +kernel
theorem dX12_readPage_48 : decode cX12_readPage 48 = .ok (.iload_n 1, 1) := by decide +kernel
theorem dX12_readPage_49 : decode cX12_readPage 49 = .ok (.iload_n 2, 1) := by decide +kernel
theorem dX12_readPage_50 : decode cX12_readPage 50 = .ok (.invokestatic 222, 3) := by decide +kernel
theorem dX12_readPage_53 : decode cX12_readPage 53 = .ok (.iadd, 1) := by decide +kernel
theorem dX12_readPage_54 : decode cX12_readPage 54 = .ok (.iaload, 1) := by decide +kernel
theorem dX12_readPage_55 : decode cX12_readPage 55 = .ok (.ireturn, 1) := by decide +kernel
theorem dX12_writePage_0 : decode cX12_writePage 0 = .ok (.aload_n 0, 1) := by decide +kernel
theorem dX12_writePage_1 : decode cX12_writePage 1 = .ok (.iload_n 1, 1) := by decide +kernel
theorem dX12_writePage_2 : decode cX12_writePage 2 = .ok (.iload_n 2, 1) := by decide +kernel
theorem dX12_writePage_3 : decode cX12_writePage 3 = .ok (.invokevirtual 219, 3) := by decide +kernel
theorem dX12_writePage_6 : decode cX12_writePage 6 = .ok (.ifCond .ne 21, 3) := by decide +kernel
theorem dX12_writePage_9 : decode cX12_writePage 9 = .ok (.aload_n 0, 1) := by decide +kernel
theorem dX12_writePage_10 : decode cX12_writePage 10 = .ok (.aload_n 0, 1) := by decide +kernel
theorem dX12_writePage_11 : decode cX12_writePage 11 = .ok (.iload_n 1, 1) := by decide +kernel
theorem dX12_writePage_12 : decode cX12_writePage 12 = .ok (.iload_n 2, 1) := by decide +kernel
theorem dX12_writePage_13 : decode cX12_writePage 13 = .ok (.invokestatic 222, 3) := by decide +kernel
theorem dX12_writePage_16 : decode cX12_writePage 16 = .ok (.iconst 1, 1) := by decide +kernel
theorem dX12_writePage_17 : decode cX12_writePage 17 = .ok (.invokevirtual 225, 3) := by decide +kernel
theorem dX12_writePage_20 : decode cX12_writePage 20 = .ok (.iconst 2, 1) := by decide +kernel
theorem dX12_writePage_21 : decode cX12_writePage 21 = .ok (.invokevirtual 60, 3) := by decide +kernel
theorem dX12_writePage_24 : decode cX12_writePage 24 = .ok (.ifCond .eq 5, 3) := by decide +kernel
theorem dX12_writePage_27 : decode cX12_writePage 27 = .ok (.iconst 0, 1) := by decide +kernel
theorem dX12_writePage_28 : decode cX12_writePage 28 = .ok (.ireturn, 1) := by decide +kernel
theorem dX12_writePage_29 : decode cX12_writePage 29 = .ok (.aload_n 0, 1) := by decide +kernel
theorem dX12_writePage_30 : decode cX12_writePage 30 = .ok (.invokevirtual 229, 3) := by decide +kernel
theorem dX12_writePage_33 : decode cX12_writePage 33 = .ok (.aload_n 0, 1) := by decide +kernel
theorem dX12_writePage_34 : decode cX12_writePage 34 = .ok (.getfield 7, 3) := by decide +kernel
theorem dX12_writePage_37 : decode cX12_writePage 37 = .ok (.bipush 32, 2) := by decide +kernel
theorem dX12_writePage_39 : decode cX12_writePage 39 = .ok (.iload_n 1, 1) := by decide +kernel
theorem dX12_writePage_40 : decode cX12_writePage 40 = .ok (.iload_n 2, 1) := by decide +kernel
theorem dX12_writePage_41 : decode cX12_writePage 41 = .ok (.invokestatic 222, 3) := by decide +kernel
theorem dX12_writePage_44 : decode cX12_writePage 44 = .ok (.iadd, 1) := by decide +kernel
theorem dX12_writePage_45 : decode cX12_writePage 45 = .ok (.iaload, 1) := by decide +kernel
theorem dX12_writePage_46 : decode cX12_writePage 46 = .ok (.istore 4, 2) := by decide +kernel
theorem dX12_writePage_48 : decode cX12_writePage 48 = .ok (.aload_n 0, 1) := by decide +kernel
theorem dX12_writePage_49 : decode cX12_writePage 49 = .ok (.iload_n 1, 1) := by decide +kernel
theorem dX12_writePage_50 : decode cX12_writePage 50 = .ok (.iload_n 2, 1) := by decide +kernel
theorem dX12_writePage_51 : decode cX12_writePage 51 = .ok (.invokestatic 222, 3) := by decide +kernel
theorem dX12_writePage_54 : decode cX12_writePage 54 = .ok (.iload_n 3, 1) := by decide +kernel
theorem dX12_writePage_55 : decode cX12_writePage 55 = .ok (.invokevirtual 232, 3) := by decide +kernel
theorem dX12_writePage_58 : decode cX12_writePage 58 = .ok (.iload 4, 2) := by decide +kernel
theorem dX12_writePage_60 : decode cX12_writePage 60 = .ok (.ireturn, 1) := by decide +kernel
theorem dX12_setPolicy_0 : decode cX12_setPolicy 0 = .ok (.aload_n 0, 1) := by decide +kernel
theorem dX12_setPolicy_1 : decode cX12_setPolicy 1 = .ok (.iload_n 1, 1) := by decide +kernel
theorem dX12_setPolicy_2 : decode cX12_setPolicy 2 = .ok (.i2l, 1) := by decide +kernel
theorem dX12_setPolicy_3 : decode cX12_setPolicy 3 = .ok (.lconst 0, 1) := by decide +kernel
theorem dX12_setPolicy_4 : decode cX12_setPolicy 4 = .ok (.ldc2_w 236, 3) := by decide +kernel
theorem dX12_setPolicy_7 : decode cX12_setPolicy 7 = .ok (.invokestatic 52, 3) := by decide +kernel
theorem dX12_setPolicy_10 : decode cX12_setPolicy 10 = .ok (.ifCond .ne 7, 3) := by decide +kernel
theorem dX12_setPolicy_13 : decode cX12_setPolicy 13 = .ok (.iconst 1, 1) := by decide +kernel
theorem dX12_setPolicy_14 : decode cX12_setPolicy 14 = .ok (.goto 4, 3) := by decide +kernel
theorem dX12_setPolicy_17 : decode cX12_setPolicy 17 = .ok (.iconst 0, 1) := by decide +kernel
theorem dX12_setPolicy_18 : decode cX12_setPolicy 18 = .ok (.iconst 1, 1) := by decide +kernel
theorem dX12_setPolicy_19 : decode cX12_setPolicy 19 = .ok (.invokevirtual 60, 3) := by decide +kernel
theorem dX12_setPolicy_22 : decode cX12_setPolicy 22 = .ok (.ifCond .eq 5, 3) := by decide +kernel
theorem dX12_setPolicy_25 : decode cX12_setPolicy 25 = .ok (.iconst 0, 1) := by decide +kernel
theorem dX12_setPolicy_26 : decode cX12_setPolicy 26 = .ok (.ireturn, 1) := by decide +kernel
theorem dX12_setPolicy_27 : decode cX12_setPolicy 27 = .ok (.aload_n 0, 1) := by decide +kernel
theorem dX12_setPolicy_28 : decode cX12_setPolicy 28 = .ok (.invokevirtual 229, 3) := by decide +kernel
theorem dX12_setPolicy_31 : decode cX12_setPolicy 31 = .ok (.aload_n 0, 1) := by decide +kernel
theorem dX12_setPolicy_32 : decode cX12_setPolicy 32 = .ok (.getfield 7, 3) := by decide +kernel
theorem dX12_setPolicy_35 : decode cX12_setPolicy 35 = .ok (.iconst 2, 1) := by decide +kernel
theorem dX12_setPolicy_36 : decode cX12_setPolicy 36 = .ok (.iaload, 1) := by decide +kernel
theorem dX12_setPolicy_37 : decode cX12_setPolicy 37 = .ok (.istore_n 2, 1) := by decide +kernel
theorem dX12_setPolicy_38 : decode cX12_setPolicy 38 = .ok (.aload_n 0, 1) := by decide +kernel
theorem dX12_setPolicy_39 : decode cX12_setPolicy 39 = .ok (.getfield 7, 3) := by decide +kernel
theorem dX12_setPolicy_42 : decode cX12_setPolicy 42 = .ok (.iconst 2, 1) := by decide +kernel
theorem dX12_setPolicy_43 : decode cX12_setPolicy 43 = .ok (.iload_n 1, 1) := by decide +kernel
theorem dX12_setPolicy_44 : decode cX12_setPolicy 44 = .ok (.iastore, 1) := by decide +kernel
theorem dX12_setPolicy_45 : decode cX12_setPolicy 45 = .ok (.iload_n 2, 1) := by decide +kernel
theorem dX12_setPolicy_46 : decode cX12_setPolicy 46 = .ok (.ireturn, 1) := by decide +kernel
theorem dX12_pendingCount_0 : decode cX12_pendingCount 0 = .ok (.iconst 0, 1) := by decide +kernel
theorem dX12_pendingCount_1 : decode cX12_pendingCount 1 = .ok (.istore_n 1, 1) := by decide +kernel
theorem dX12_pendingCount_2 : decode cX12_pendingCount 2 = .ok (.iconst 0, 1) := by decide +kernel
theorem dX12_pendingCount_3 : decode cX12_pendingCount 3 = .ok (.istore_n 2, 1) := by decide +kernel
theorem dX12_pendingCount_4 : decode cX12_pendingCount 4 = .ok (.iload_n 2, 1) := by decide +kernel
theorem dX12_pendingCount_5 : decode cX12_pendingCount 5 = .ok (.bipush 48, 2) := by decide +kernel
theorem dX12_pendingCount_7 : decode cX12_pendingCount 7 = .ok (.if_icmp .ge 33, 3) := by decide +kernel
theorem dX12_pendingCount_10 : decode cX12_pendingCount 10 = .ok (.iload_n 1, 1) := by decide +kernel
theorem dX12_pendingCount_11 : decode cX12_pendingCount 11 = .ok (.aload_n 0, 1) := by decide +kernel
theorem dX12_pendingCount_12 : decode cX12_pendingCount 12 = .ok (.iload_n 2, 1) := by decide +kernel
theorem dX12_pendingCount_13 : decode cX12_pendingCount 13 = .ok (.invokevirtual 177, 3) := by decide +kernel
theorem dX12_pendingCount_16 : decode cX12_pendingCount 16 = .ok (.ifCond .eq 15, 3) := by decide +kernel
theorem dX12_pendingCount_19 : decode cX12_pendingCount 19 = .ok (.aload_n 0, 1) := by decide +kernel
theorem dX12_pendingCount_20 : decode cX12_pendingCount 20 = .ok (.iload_n 2, 1) := by decide +kernel
theorem dX12_pendingCount_21 : decode cX12_pendingCount 21 = .ok (.invokevirtual 189, 3) := by decide +kernel
theorem dX12_pendingCount_24 : decode cX12_pendingCount 24 = .ok (.ifCond .eq 7, 3) := by decide +kernel
theorem dX12_pendingCount_27 : decode cX12_pendingCount 27 = .ok (.iconst 1, 1) := by decide +kernel
theorem dX12_pendingCount_28 : decode cX12_pendingCount 28 = .ok (.goto 4, 3) := by decide +kernel
theorem dX12_pendingCount_31 : decode cX12_pendingCount 31 = .ok (.iconst 0, 1) := by decide +kernel
theorem dX12_pendingCount_32 : decode cX12_pendingCount 32 = .ok (.iadd, 1) := by decide +kernel
theorem dX12_pendingCount_33 : decode cX12_pendingCount 33 = .ok (.istore_n 1, 1) := by decide +kernel
theorem dX12_pendingCount_34 : decode cX12_pendingCount 34 = .ok (.iinc 2 1, 3) := by decide +kernel
theorem dX12_pendingCount_37 : decode cX12_pendingCount 37 = .ok (.goto (-33), 3) := by decide +kernel
theorem dX12_pendingCount_40 : decode cX12_pendingCount 40 = .ok (.iload_n 1, 1) := by decide +kernel
theorem dX12_pendingCount_41 : decode cX12_pendingCount 41 = .ok (.ireturn, 1) := by decide +kernel
theorem dX12_startFor_0 : decode cX12_startFor 0 = .ok (.aload_n 0, 1) := by decide +kernel
theorem dX12_startFor_1 : decode cX12_startFor 1 = .ok (.getfield 7, 3) := by decide +kernel
theorem dX12_startFor_4 : decode cX12_startFor 4 = .ok (.iconst 4, 1) := by decide +kernel
theorem dX12_startFor_5 : decode cX12_startFor 5 = .ok (.dup2, 1) := by decide +kernel
theorem dX12_startFor_6 : decode cX12_startFor 6 = .ok (.iaload, 1) := by decide +kernel
theorem dX12_startFor_7 : decode cX12_startFor 7 = .ok (.iconst 1, 1) := by decide +kernel
theorem dX12_startFor_8 : decode cX12_startFor 8 = .ok (.iadd, 1) := by decide +kernel
theorem dX12_startFor_9 : decode cX12_startFor 9 = .ok (.iastore, 1) := by decide +kernel
theorem dX12_startFor_10 : decode cX12_startFor 10 = .ok (.aload_n 0, 1) := by decide +kernel
theorem dX12_startFor_11 : decode cX12_startFor 11 = .ok (.getfield 7, 3) := by decide +kernel
theorem dX12_startFor_14 : decode cX12_startFor 14 = .ok (.bipush 10, 2) := by decide +kernel
theorem dX12_startFor_16 : decode cX12_startFor 16 = .ok (.iload_n 1, 1) := by decide +kernel
theorem dX12_startFor_17 : decode cX12_startFor 17 = .ok (.iastore, 1) := by decide +kernel
theorem dX12_startFor_18 : decode cX12_startFor 18 = .ok (.aload_n 0, 1) := by decide +kernel
theorem dX12_startFor_19 : decode cX12_startFor 19 = .ok (.getfield 7, 3) := by decide +kernel
theorem dX12_startFor_22 : decode cX12_startFor 22 = .ok (.bipush 11, 2) := by decide +kernel
theorem dX12_startFor_24 : decode cX12_startFor 24 = .ok (.iconst 0, 1) := by decide +kernel
theorem dX12_startFor_25 : decode cX12_startFor 25 = .ok (.iastore, 1) := by decide +kernel
theorem dX12_startFor_26 : decode cX12_startFor 26 = .ok (.iconst 0, 1) := by decide +kernel
theorem dX12_startFor_27 : decode cX12_startFor 27 = .ok (.istore_n 2, 1) := by decide +kernel
theorem dX12_startFor_28 : decode cX12_startFor 28 = .ok (.iload_n 2, 1) := by decide +kernel
theorem dX12_startFor_29 : decode cX12_startFor 29 = .ok (.bipush 48, 2) := by decide +kernel
theorem dX12_startFor_31 : decode cX12_startFor 31 = .ok (.if_icmp .ge 47, 3) := by decide +kernel
theorem dX12_startFor_34 : decode cX12_startFor 34 = .ok (.aload_n 0, 1) := by decide +kernel
theorem dX12_startFor_35 : decode cX12_startFor 35 = .ok (.getfield 7, 3) := by decide +kernel
theorem dX12_startFor_38 : decode cX12_startFor 38 = .ok (.sipush 224, 3) := by decide +kernel
theorem dX12_startFor_41 : decode cX12_startFor 41 = .ok (.iload_n 2, 1) := by decide +kernel
theorem dX12_startFor_42 : decode cX12_startFor 42 = .ok (.iadd, 1) := by decide +kernel
theorem dX12_startFor_43 : decode cX12_startFor 43 = .ok (.aload_n 0, 1) := by decide +kernel
theorem dX12_startFor_44 : decode cX12_startFor 44 = .ok (.getfield 7, 3) := by decide +kernel
theorem dX12_startFor_47 : decode cX12_startFor 47 = .ok (.sipush 176, 3) := by decide +kernel
theorem dX12_startFor_50 : decode cX12_startFor 50 = .ok (.iload_n 2, 1) := by decide +kernel
theorem dX12_startFor_51 : decode cX12_startFor 51 = .ok (.iadd, 1) := by decide +kernel
theorem dX12_startFor_52 : decode cX12_startFor 52 = .ok (.iaload, 1) := by decide +kernel
theorem dX12_startFor_53 : decode cX12_startFor 53 = .ok (.iconst 1, 1) := by decide +kernel
theorem dX12_startFor_54 : decode cX12_startFor 54 = .ok (.if_icmp .ne 8, 3) := by decide +kernel
theorem dX12_startFor_57 : decode cX12_startFor 57 = .ok (.bipush (-2), 2) := by decide +kernel
theorem dX12_startFor_59 : decode cX12_startFor 59 = .ok (.goto 12, 3) := by decide +kernel
theorem dX12_startFor_62 : decode cX12_startFor 62 = .ok (.aload_n 0, 1) := by decide +kernel
theorem dX12_startFor_63 : decode cX12_startFor 63 = .ok (.getfield 7, 3) := by decide +kernel
theorem dX12_startFor_66 : decode cX12_startFor 66 = .ok (.bipush 80, 2) := by decide +kernel
theorem dX12_startFor_68 : decode cX12_startFor 68 = .ok (.iload_n 2, 1) := by decide +kernel
theorem dX12_startFor_69 : decode cX12_startFor 69 = .ok (.iadd, 1) := by decide +kernel
theorem dX12_startFor_70 : decode cX12_startFor 70 = .ok (.iaload, 1) := by decide +kernel
theorem dX12_startFor_71 : decode cX12_startFor 71 = .ok (.iastore, 1) := by decide +kernel
theorem dX12_startFor_72 : decode cX12_startFor 72 = .ok (.iinc 2 1, 3) := by decide +kernel
theorem dX12_startFor_75 : decode cX12_startFor 75 = .ok (.goto (-47), 3) := by decide +kernel
theorem dX12_startFor_78 : decode cX12_startFor 78 = .ok (.return_, 1) := by decide +kernel
theorem dX12_startBarrier_0 : decode cX12_startBarrier 0 = .ok (.aload_n 0, 1) := by decide +kernel
theorem dX12_startBarrier_1 : decode cX12_startBarrier 1 = .ok (.aload_n 0, 1) := by decide +kernel
theorem dX12_startBarrier_2 : decode cX12_startBarrier 2 = .ok (.iload_n 1, 1) := by decide +kernel
theorem dX12_startBarrier_3 : decode cX12_startBarrier 3 = .ok (.invokevirtual 238, 3) := by decide +kernel
theorem dX12_startBarrier_6 : decode cX12_startBarrier 6 = .ok (.iconst 1, 1) := by decide +kernel
theorem dX12_startBarrier_7 : decode cX12_startBarrier 7 = .ok (.invokevirtual 60, 3) := by decide +kernel
theorem dX12_startBarrier_10 : decode cX12_startBarrier 10 = .ok (.ifCond .ne 26, 3) := by decide +kernel
theorem dX12_startBarrier_13 : decode cX12_startBarrier 13 = .ok (.aload_n 0, 1) := by decide +kernel
theorem dX12_startBarrier_14 : decode cX12_startBarrier 14 = .ok (.aload_n 0, 1) := by decide +kernel
theorem dX12_startBarrier_15 : decode cX12_startBarrier 15 = .ok (.getfield 7, 3) := by decide +kernel
theorem dX12_startBarrier_18 : decode cX12_startBarrier 18 = .ok (.bipush 10, 2) := by decide +kernel
theorem dX12_startBarrier_20 : decode cX12_startBarrier 20 = .ok (.iaload, 1) := by decide +kernel
theorem dX12_startBarrier_21 : decode cX12_startBarrier 21 = .ok (.ifCond .eq 7, 3) := by decide +kernel
theorem dX12_startBarrier_24 : decode cX12_startBarrier 24 = .ok (.iconst 1, 1) := by decide +kernel
theorem dX12_startBarrier_25 : decode cX12_startBarrier 25 = .ok (.goto 4, 3) := by decide +kernel
theorem dX12_startBarrier_28 : decode cX12_startBarrier 28 = .ok (.iconst 0, 1) := by decide +kernel
theorem dX12_startBarrier_29 : decode cX12_startBarrier 29 = .ok (.iconst 2, 1) := by decide +kernel
theorem dX12_startBarrier_30 : decode cX12_startBarrier 30 = .ok (.invokevirtual 60, 3) := by decide +kernel
theorem dX12_startBarrier_33 : decode cX12_startBarrier 33 = .ok (.ifCond .eq 5, 3) := by decide +kernel
theorem dX12_startBarrier_36 : decode cX12_startBarrier 36 = .ok (.iconst 0, 1) := by decide +kernel
theorem dX12_startBarrier_37 : decode cX12_startBarrier 37 = .ok (.ireturn, 1) := by decide +kernel
theorem dX12_startBarrier_38 : decode cX12_startBarrier 38 = .ok (.aload_n 0, 1) := by decide +kernel
theorem dX12_startBarrier_39 : decode cX12_startBarrier 39 = .ok (.invokevirtual 229, 3) := by decide +kernel
theorem dX12_startBarrier_42 : decode cX12_startBarrier 42 = .ok (.aload_n 0, 1) := by decide +kernel
theorem dX12_startBarrier_43 : decode cX12_startBarrier 43 = .ok (.iload_n 1, 1) := by decide +kernel
theorem dX12_startBarrier_44 : decode cX12_startBarrier 44 = .ok (.invokevirtual 241, 3) := by decide +kernel
theorem dX12_startBarrier_47 : decode cX12_startBarrier 47 = .ok (.aload_n 0, 1) := by decide +kernel
theorem dX12_startBarrier_48 : decode cX12_startBarrier 48 = .ok (.invokevirtual 244, 3) := by decide +kernel
theorem dX12_startBarrier_51 : decode cX12_startBarrier 51 = .ok (.ireturn, 1) := by decide +kernel
theorem dX12_flush_0 : decode cX12_flush 0 = .ok (.iload_n 1, 1) := by decide +kernel
theorem dX12_flush_1 : decode cX12_flush 1 = .ok (.istore_n 2, 1) := by decide +kernel
theorem dX12_flush_2 : decode cX12_flush 2 = .ok (.iconst 0, 1) := by decide +kernel
theorem dX12_flush_3 : decode cX12_flush 3 = .ok (.istore_n 3, 1) := by decide +kernel
theorem dX12_flush_4 : decode cX12_flush 4 = .ok (.iload_n 3, 1) := by decide +kernel
theorem dX12_flush_5 : decode cX12_flush 5 = .ok (.bipush 48, 2) := by decide +kernel
theorem dX12_flush_7 : decode cX12_flush 7 = .ok (.if_icmp .ge 49, 3) := by decide +kernel
theorem dX12_flush_10 : decode cX12_flush 10 = .ok (.iload_n 2, 1) := by decide +kernel
theorem dX12_flush_11 : decode cX12_flush 11 = .ok (.ifCond .le 45, 3) := by decide +kernel
theorem dX12_flush_14 : decode cX12_flush 14 = .ok (.aload_n 0, 1) := by decide +kernel
theorem dX12_flush_15 : decode cX12_flush 15 = .ok (.iload_n 3, 1) := by decide +kernel
theorem dX12_flush_16 : decode cX12_flush 16 = .ok (.invokevirtual 177, 3) := by decide +kernel
theorem dX12_flush_19 : decode cX12_flush 19 = .ok (.ifCond .eq 31, 3) := by decide +kernel
theorem dX12_flush_22 : decode cX12_flush 22 = .ok (.aload_n 0, 1) := by decide +kernel
theorem dX12_flush_23 : decode cX12_flush 23 = .ok (.iload_n 3, 1) := by decide +kernel
theorem dX12_flush_24 : decode cX12_flush 24 = .ok (.invokevirtual 189, 3) := by decide +kernel
theorem dX12_flush_27 : decode cX12_flush 27 = .ok (.ifCond .ne 6, 3) := by decide +kernel
theorem dX12_flush_30 : decode cX12_flush 30 = .ok (.goto 20, 3) := by decide +kernel
theorem dX12_flush_33 : decode cX12_flush 33 = .ok (.aload_n 0, 1) := by decide +kernel
theorem dX12_flush_34 : decode cX12_flush 34 = .ok (.invokevirtual 186, 3) := by decide +kernel
theorem dX12_flush_37 : decode cX12_flush 37 = .ok (.iconst (-1), 1) := by decide +kernel
theorem dX12_flush_38 : decode cX12_flush 38 = .ok (.if_icmp .ne 4, 3) := by decide +kernel
theorem dX12_flush_41 : decode cX12_flush 41 = .ok (.return_, 1) := by decide +kernel
theorem dX12_flush_42 : decode cX12_flush 42 = .ok (.aload_n 0, 1) := by decide +kernel
theorem dX12_flush_43 : decode cX12_flush 43 = .ok (.iload_n 3, 1) := by decide +kernel
theorem dX12_flush_44 : decode cX12_flush 44 = .ok (.invokevirtual 196, 3) := by decide +kernel
theorem dX12_flush_47 : decode cX12_flush 47 = .ok (.iinc 2 (-1), 3) := by decide +kernel
theorem dX12_flush_50 : decode cX12_flush 50 = .ok (.iinc 3 1, 3) := by decide +kernel
theorem dX12_flush_53 : decode cX12_flush 53 = .ok (.goto (-49), 3) := by decide +kernel
theorem dX12_flush_56 : decode cX12_flush 56 = .ok (.return_, 1) := by decide +kernel
theorem dX12_writeBarrier_0 : decode cX12_writeBarrier 0 = .ok (.aload_n 0, 1) := by decide +kernel
theorem dX12_writeBarrier_1 : decode cX12_writeBarrier 1 = .ok (.iload_n 1, 1) := by decide +kernel
theorem dX12_writeBarrier_2 : decode cX12_writeBarrier 2 = .ok (.i2l, 1) := by decide +kernel
theorem dX12_writeBarrier_3 : decode cX12_writeBarrier 3 = .ok (.lconst 1, 1) := by decide +kernel
theorem dX12_writeBarrier_4 : decode cX12_writeBarrier 4 = .ok (.ldc2_w 107, 3) := by decide +kernel
theorem dX12_writeBarrier_7 : decode cX12_writeBarrier 7 = .ok (.invokestatic 52, 3) := by decide +kernel
theorem dX12_writeBarrier_10 : decode cX12_writeBarrier 10 = .ok (.ifCond .ne 7, 3) := by decide +kernel
theorem dX12_writeBarrier_13 : decode cX12_writeBarrier 13 = .ok (.iconst 1, 1) := by decide +kernel
theorem dX12_writeBarrier_14 : decode cX12_writeBarrier 14 = .ok (.goto 4, 3) := by decide +kernel
theorem dX12_writeBarrier_17 : decode cX12_writeBarrier 17 = .ok (.iconst 0, 1) := by decide +kernel
theorem dX12_writeBarrier_18 : decode cX12_writeBarrier 18 = .ok (.iconst 1, 1) := by decide +kernel
theorem dX12_writeBarrier_19 : decode cX12_writeBarrier 19 = .ok (.invokevirtual 60, 3) := by decide +kernel
theorem dX12_writeBarrier_22 : decode cX12_writeBarrier 22 = .ok (.ifCond .ne 26, 3) := by decide +kernel
theorem dX12_writeBarrier_25 : decode cX12_writeBarrier 25 = .ok (.aload_n 0, 1) := by decide +kernel
theorem dX12_writeBarrier_26 : decode cX12_writeBarrier 26 = .ok (.aload_n 0, 1) := by decide +kernel
theorem dX12_writeBarrier_27 : decode cX12_writeBarrier 27 = .ok (.getfield 7, 3) := by decide +kernel
