theorem dL_appendText_0 : decode cL_appendText 0 = .ok (.aload 6, 2) := by decide +kernel
theorem dL_appendText_2 : decode cL_appendText 2 = .ok (.iconst 0, 1) := by decide +kernel
theorem dL_appendText_3 : decode cL_appendText 3 = .ok (.aload_n 0, 1) := by decide +kernel
theorem dL_appendText_4 : decode cL_appendText 4 = .ok (.iload_n 1, 1) := by decide +kernel
theorem dL_appendText_5 : decode cL_appendText 5 = .ok (.iload_n 2, 1) := by decide +kernel
theorem dL_appendText_6 : decode cL_appendText 6 = .ok (.iload_n 3, 1) := by decide +kernel
theorem dL_appendText_7 : decode cL_appendText 7 = .ok (.iload 4, 2) := by decide +kernel
theorem dL_appendText_9 : decode cL_appendText 9 = .ok (.iload 5, 2) := by decide +kernel
theorem dL_appendText_11 : decode cL_appendText 11 = .ok (.invokevirtual 7, 3) := by decide +kernel
theorem dL_appendText_14 : decode cL_appendText 14 = .ok (.i2l, 1) := by decide +kernel
theorem dL_appendText_15 : decode cL_appendText 15 = .ok (.lastore, 1) := by decide +kernel
theorem dL_appendText_16 : decode cL_appendText 16 = .ok (.goto 7, 3) := by decide +kernel
theorem dL_appendText_19 : decode cL_appendText 19 = .ok (.astore 7, 2) := by decide +kernel
theorem dL_appendText_21 : decode cL_appendText 21 = .ok (.iconst 1, 1) := by decide +kernel
theorem dL_appendText_22 : decode cL_appendText 22 = .ok (.ireturn, 1) := by decide +kernel
theorem dL_appendText_23 : decode cL_appendText 23 = .ok (.iconst 0, 1) := by decide +kernel
theorem dL_appendText_24 : decode cL_appendText 24 = .ok (.ireturn, 1) := by decide +kernel
theorem dL_truncateText_0 : decode cL_truncateText 0 = .ok (.aload_n 2, 1) := by decide +kernel
theorem dL_truncateText_1 : decode cL_truncateText 1 = .ok (.iconst 0, 1) := by decide +kernel
theorem dL_truncateText_2 : decode cL_truncateText 2 = .ok (.aload_n 0, 1) := by decide +kernel
theorem dL_truncateText_3 : decode cL_truncateText 3 = .ok (.iload_n 1, 1) := by decide +kernel
theorem dL_truncateText_4 : decode cL_truncateText 4 = .ok (.invokevirtual 15, 3) := by decide +kernel
theorem dL_truncateText_7 : decode cL_truncateText 7 = .ok (.i2l, 1) := by decide +kernel
theorem dL_truncateText_8 : decode cL_truncateText 8 = .ok (.lastore, 1) := by decide +kernel
theorem dL_truncateText_9 : decode cL_truncateText 9 = .ok (.goto 6, 3) := by decide +kernel
theorem dL_truncateText_12 : decode cL_truncateText 12 = .ok (.astore_n 3, 1) := by decide +kernel
theorem dL_truncateText_13 : decode cL_truncateText 13 = .ok (.iconst 1, 1) := by decide +kernel
theorem dL_truncateText_14 : decode cL_truncateText 14 = .ok (.ireturn, 1) := by decide +kernel
theorem dL_truncateText_15 : decode cL_truncateText 15 = .ok (.iconst 0, 1) := by decide +kernel
theorem dL_truncateText_16 : decode cL_truncateText 16 = .ok (.ireturn, 1) := by decide +kernel
theorem dL_readPage_0 : decode cL_readPage 0 = .ok (.aload_n 3, 1) := by decide +kernel
theorem dL_readPage_1 : decode cL_readPage 1 = .ok (.iconst 0, 1) := by decide +kernel
theorem dL_readPage_2 : decode cL_readPage 2 = .ok (.aload_n 0, 1) := by decide +kernel
theorem dL_readPage_3 : decode cL_readPage 3 = .ok (.iload_n 1, 1) := by decide +kernel
theorem dL_readPage_4 : decode cL_readPage 4 = .ok (.iload_n 2, 1) := by decide +kernel
theorem dL_readPage_5 : decode cL_readPage 5 = .ok (.invokevirtual 21, 3) := by decide +kernel
theorem dL_readPage_8 : decode cL_readPage 8 = .ok (.i2l, 1) := by decide +kernel
theorem dL_readPage_9 : decode cL_readPage 9 = .ok (.lastore, 1) := by decide +kernel
theorem dL_readPage_10 : decode cL_readPage 10 = .ok (.goto 11, 3) := by decide +kernel
theorem dL_readPage_13 : decode cL_readPage 13 = .ok (.astore 4, 2) := by decide +kernel
theorem dL_readPage_15 : decode cL_readPage 15 = .ok (.iconst 1, 1) := by decide +kernel
theorem dL_readPage_16 : decode cL_readPage 16 = .ok (.ireturn, 1) := by decide +kernel
theorem dL_readPage_17 : decode cL_readPage 17 = .ok (.astore 4, 2) := by decide +kernel
theorem dL_readPage_19 : decode cL_readPage 19 = .ok (.iconst 2, 1) := by decide +kernel
theorem dL_readPage_20 : decode cL_readPage 20 = .ok (.ireturn, 1) := by decide +kernel
theorem dL_readPage_21 : decode cL_readPage 21 = .ok (.iconst 0, 1) := by decide +kernel
theorem dL_readPage_22 : decode cL_readPage 22 = .ok (.ireturn, 1) := by decide +kernel
theorem dL_writePage_0 : decode cL_writePage 0 = .ok (.aload 4, 2) := by decide +kernel
theorem dL_writePage_2 : decode cL_writePage 2 = .ok (.iconst 0, 1) := by decide +kernel
theorem dL_writePage_3 : decode cL_writePage 3 = .ok (.aload_n 0, 1) := by decide +kernel
theorem dL_writePage_4 : decode cL_writePage 4 = .ok (.iload_n 1, 1) := by decide +kernel
theorem dL_writePage_5 : decode cL_writePage 5 = .ok (.iload_n 2, 1) := by decide +kernel
theorem dL_writePage_6 : decode cL_writePage 6 = .ok (.iload_n 3, 1) := by decide +kernel
theorem dL_writePage_7 : decode cL_writePage 7 = .ok (.invokevirtual 27, 3) := by decide +kernel
theorem dL_writePage_10 : decode cL_writePage 10 = .ok (.i2l, 1) := by decide +kernel
theorem dL_writePage_11 : decode cL_writePage 11 = .ok (.lastore, 1) := by decide +kernel
theorem dL_writePage_12 : decode cL_writePage 12 = .ok (.goto 11, 3) := by decide +kernel
theorem dL_writePage_15 : decode cL_writePage 15 = .ok (.astore 5, 2) := by decide +kernel
theorem dL_writePage_17 : decode cL_writePage 17 = .ok (.iconst 1, 1) := by decide +kernel
theorem dL_writePage_18 : decode cL_writePage 18 = .ok (.ireturn, 1) := by decide +kernel
theorem dL_writePage_19 : decode cL_writePage 19 = .ok (.astore 5, 2) := by decide +kernel
theorem dL_writePage_21 : decode cL_writePage 21 = .ok (.iconst 2, 1) := by decide +kernel
theorem dL_writePage_22 : decode cL_writePage 22 = .ok (.ireturn, 1) := by decide +kernel
theorem dL_writePage_23 : decode cL_writePage 23 = .ok (.iconst 0, 1) := by decide +kernel
theorem dL_writePage_24 : decode cL_writePage 24 = .ok (.ireturn, 1) := by decide +kernel
theorem dL_setPolicy_0 : decode cL_setPolicy 0 = .ok (.aload_n 2, 1) := by decide +kernel
theorem dL_setPolicy_1 : decode cL_setPolicy 1 = .ok (.iconst 0, 1) := by decide +kernel
theorem dL_setPolicy_2 : decode cL_setPolicy 2 = .ok (.aload_n 0, 1) := by decide +kernel
theorem dL_setPolicy_3 : decode cL_setPolicy 3 = .ok (.iload_n 1, 1) := by decide +kernel
theorem dL_setPolicy_4 : decode cL_setPolicy 4 = .ok (.invokevirtual 31, 3) := by decide +kernel
theorem dL_setPolicy_7 : decode cL_setPolicy 7 = .ok (.i2l, 1) := by decide +kernel
theorem dL_setPolicy_8 : decode cL_setPolicy 8 = .ok (.lastore, 1) := by decide +kernel
theorem dL_setPolicy_9 : decode cL_setPolicy 9 = .ok (.goto 6, 3) := by decide +kernel
theorem dL_setPolicy_12 : decode cL_setPolicy 12 = .ok (.astore_n 3, 1) := by decide +kernel
theorem dL_setPolicy_13 : decode cL_setPolicy 13 = .ok (.iconst 1, 1) := by decide +kernel
theorem dL_setPolicy_14 : decode cL_setPolicy 14 = .ok (.ireturn, 1) := by decide +kernel
theorem dL_setPolicy_15 : decode cL_setPolicy 15 = .ok (.iconst 0, 1) := by decide +kernel
theorem dL_setPolicy_16 : decode cL_setPolicy 16 = .ok (.ireturn, 1) := by decide +kernel
theorem dL_startBarrier_0 : decode cL_startBarrier 0 = .ok (.aload_n 2, 1) := by decide +kernel
theorem dL_startBarrier_1 : decode cL_startBarrier 1 = .ok (.iconst 0, 1) := by decide +kernel
theorem dL_startBarrier_2 : decode cL_startBarrier 2 = .ok (.aload_n 0, 1) := by decide +kernel
theorem dL_startBarrier_3 : decode cL_startBarrier 3 = .ok (.iload_n 1, 1) := by decide +kernel
theorem dL_startBarrier_4 : decode cL_startBarrier 4 = .ok (.invokevirtual 34, 3) := by decide +kernel
theorem dL_startBarrier_7 : decode cL_startBarrier 7 = .ok (.i2l, 1) := by decide +kernel
theorem dL_startBarrier_8 : decode cL_startBarrier 8 = .ok (.lastore, 1) := by decide +kernel
theorem dL_startBarrier_9 : decode cL_startBarrier 9 = .ok (.goto 9, 3) := by decide +kernel
theorem dL_startBarrier_12 : decode cL_startBarrier 12 = .ok (.astore_n 3, 1) := by decide +kernel
theorem dL_startBarrier_13 : decode cL_startBarrier 13 = .ok (.iconst 1, 1) := by decide +kernel
theorem dL_startBarrier_14 : decode cL_startBarrier 14 = .ok (.ireturn, 1) := by decide +kernel
theorem dL_startBarrier_15 : decode cL_startBarrier 15 = .ok (.astore_n 3, 1) := by decide +kernel
theorem dL_startBarrier_16 : decode cL_startBarrier 16 = .ok (.iconst 2, 1) := by decide +kernel
theorem dL_startBarrier_17 : decode cL_startBarrier 17 = .ok (.ireturn, 1) := by decide +kernel
theorem dL_startBarrier_18 : decode cL_startBarrier 18 = .ok (.iconst 0, 1) := by decide +kernel
theorem dL_startBarrier_19 : decode cL_startBarrier 19 = .ok (.ireturn, 1) := by decide +kernel
theorem dL_writeBarrier_0 : decode cL_writeBarrier 0 = .ok (.aload_n 2, 1) := by decide +kernel
theorem dL_writeBarrier_1 : decode cL_writeBarrier 1 = .ok (.iconst 0, 1) := by decide +kernel
theorem dL_writeBarrier_2 : decode cL_writeBarrier 2 = .ok (.aload_n 0, 1) := by decide +kernel
theorem dL_writeBarrier_3 : decode cL_writeBarrier 3 = .ok (.iload_n 1, 1) := by decide +kernel
theorem dL_writeBarrier_4 : decode cL_writeBarrier 4 = .ok (.invokevirtual 37, 3) := by decide +kernel
theorem dL_writeBarrier_7 : decode cL_writeBarrier 7 = .ok (.i2l, 1) := by decide +kernel
theorem dL_writeBarrier_8 : decode cL_writeBarrier 8 = .ok (.lastore, 1) := by decide +kernel
theorem dL_writeBarrier_9 : decode cL_writeBarrier 9 = .ok (.goto 9, 3) := by decide +kernel
theorem dL_writeBarrier_12 : decode cL_writeBarrier 12 = .ok (.astore_n 3, 1) := by decide +kernel
theorem dL_writeBarrier_13 : decode cL_writeBarrier 13 = .ok (.iconst 1, 1) := by decide +kernel
theorem dL_writeBarrier_14 : decode cL_writeBarrier 14 = .ok (.ireturn, 1) := by decide +kernel
theorem dL_writeBarrier_15 : decode cL_writeBarrier 15 = .ok (.astore_n 3, 1) := by decide +kernel
theorem dL_writeBarrier_16 : decode cL_writeBarrier 16 = .ok (.iconst 2, 1) := by decide +kernel
theorem dL_writeBarrier_17 : decode cL_writeBarrier 17 = .ok (.ireturn, 1) := by decide +kernel
theorem dL_writeBarrier_18 : decode cL_writeBarrier 18 = .ok (.iconst 0, 1) := by decide +kernel
theorem dL_writeBarrier_19 : decode cL_writeBarrier 19 = .ok (.ireturn, 1) := by decide +kernel
theorem dL_commitBarrier_0 : decode cL_commitBarrier 0 = .ok (.aload_n 1, 1) := by decide +kernel
theorem dL_commitBarrier_1 : decode cL_commitBarrier 1 = .ok (.iconst 0, 1) := by decide +kernel
theorem dL_commitBarrier_2 : decode cL_commitBarrier 2 = .ok (.aload_n 0, 1) := by decide +kernel
theorem dL_commitBarrier_3 : decode cL_commitBarrier 3 = .ok (.invokevirtual 40, 3) := by decide +kernel
theorem dL_commitBarrier_6 : decode cL_commitBarrier 6 = .ok (.i2l, 1) := by decide +kernel
theorem dL_commitBarrier_7 : decode cL_commitBarrier 7 = .ok (.lastore, 1) := by decide +kernel
theorem dL_commitBarrier_8 : decode cL_commitBarrier 8 = .ok (.goto 9, 3) := by decide +kernel
theorem dL_commitBarrier_11 : decode cL_commitBarrier 11 = .ok (.astore_n 2, 1) := by decide +kernel
theorem dL_commitBarrier_12 : decode cL_commitBarrier 12 = .ok (.iconst 1, 1) := by decide +kernel
theorem dL_commitBarrier_13 : decode cL_commitBarrier 13 = .ok (.ireturn, 1) := by decide +kernel
theorem dL_commitBarrier_14 : decode cL_commitBarrier 14 = .ok (.astore_n 2, 1) := by decide +kernel
theorem dL_commitBarrier_15 : decode cL_commitBarrier 15 = .ok (.iconst 2, 1) := by decide +kernel
theorem dL_commitBarrier_16 : decode cL_commitBarrier 16 = .ok (.ireturn, 1) := by decide +kernel
theorem dL_commitBarrier_17 : decode cL_commitBarrier 17 = .ok (.iconst 0, 1) := by decide +kernel
theorem dL_commitBarrier_18 : decode cL_commitBarrier 18 = .ok (.ireturn, 1) := by decide +kernel
theorem dL_abandonBarrier_0 : decode cL_abandonBarrier 0 = .ok (.aload_n 1, 1) := by decide +kernel
theorem dL_abandonBarrier_1 : decode cL_abandonBarrier 1 = .ok (.iconst 0, 1) := by decide +kernel
theorem dL_abandonBarrier_2 : decode cL_abandonBarrier 2 = .ok (.aload_n 0, 1) := by decide +kernel
theorem dL_abandonBarrier_3 : decode cL_abandonBarrier 3 = .ok (.invokevirtual 46, 3) := by decide +kernel
theorem dL_abandonBarrier_6 : decode cL_abandonBarrier 6 = .ok (.i2l, 1) := by decide +kernel
theorem dL_abandonBarrier_7 : decode cL_abandonBarrier 7 = .ok (.lastore, 1) := by decide +kernel
theorem dL_abandonBarrier_8 : decode cL_abandonBarrier 8 = .ok (.goto 6, 3) := by decide +kernel
theorem dL_abandonBarrier_11 : decode cL_abandonBarrier 11 = .ok (.astore_n 2, 1) := by decide +kernel
theorem dL_abandonBarrier_12 : decode cL_abandonBarrier 12 = .ok (.iconst 1, 1) := by decide +kernel
theorem dL_abandonBarrier_13 : decode cL_abandonBarrier 13 = .ok (.ireturn, 1) := by decide +kernel
theorem dL_abandonBarrier_14 : decode cL_abandonBarrier 14 = .ok (.iconst 0, 1) := by decide +kernel
theorem dL_abandonBarrier_15 : decode cL_abandonBarrier 15 = .ok (.ireturn, 1) := by decide +kernel
theorem dL_rollback_0 : decode cL_rollback 0 = .ok (.aload_n 2, 1) := by decide +kernel
theorem dL_rollback_1 : decode cL_rollback 1 = .ok (.iconst 0, 1) := by decide +kernel
theorem dL_rollback_2 : decode cL_rollback 2 = .ok (.aload_n 0, 1) := by decide +kernel
theorem dL_rollback_3 : decode cL_rollback 3 = .ok (.iload_n 1, 1) := by decide +kernel
theorem dL_rollback_4 : decode cL_rollback 4 = .ok (.invokevirtual 49, 3) := by decide +kernel
theorem dL_rollback_7 : decode cL_rollback 7 = .ok (.i2l, 1) := by decide +kernel
theorem dL_rollback_8 : decode cL_rollback 8 = .ok (.lastore, 1) := by decide +kernel
theorem dL_rollback_9 : decode cL_rollback 9 = .ok (.goto 12, 3) := by decide +kernel
theorem dL_rollback_12 : decode cL_rollback 12 = .ok (.astore_n 3, 1) := by decide +kernel
theorem dL_rollback_13 : decode cL_rollback 13 = .ok (.iconst 1, 1) := by decide +kernel
theorem dL_rollback_14 : decode cL_rollback 14 = .ok (.ireturn, 1) := by decide +kernel
theorem dL_rollback_15 : decode cL_rollback 15 = .ok (.astore_n 3, 1) := by decide +kernel
theorem dL_rollback_16 : decode cL_rollback 16 = .ok (.iconst 2, 1) := by decide +kernel
theorem dL_rollback_17 : decode cL_rollback 17 = .ok (.ireturn, 1) := by decide +kernel
theorem dL_rollback_18 : decode cL_rollback 18 = .ok (.astore_n 3, 1) := by decide +kernel
theorem dL_rollback_19 : decode cL_rollback 19 = .ok (.iconst 3, 1) := by decide +kernel
theorem dL_rollback_20 : decode cL_rollback 20 = .ok (.ireturn, 1) := by decide +kernel
theorem dL_rollback_21 : decode cL_rollback 21 = .ok (.iconst 0, 1) := by decide +kernel
theorem dL_rollback_22 : decode cL_rollback 22 = .ok (.ireturn, 1) := by decide +kernel
theorem dL_evictPage_0 : decode cL_evictPage 0 = .ok (.aload_n 3, 1) := by decide +kernel
theorem dL_evictPage_1 : decode cL_evictPage 1 = .ok (.iconst 0, 1) := by decide +kernel
theorem dL_evictPage_2 : decode cL_evictPage 2 = .ok (.aload_n 0, 1) := by decide +kernel
theorem dL_evictPage_3 : decode cL_evictPage 3 = .ok (.iload_n 1, 1) := by decide +kernel
theorem dL_evictPage_4 : decode cL_evictPage 4 = .ok (.iload_n 2, 1) := by decide +kernel
theorem dL_evictPage_5 : decode cL_evictPage 5 = .ok (.invokevirtual 54, 3) := by decide +kernel
theorem dL_evictPage_8 : decode cL_evictPage 8 = .ok (.i2l, 1) := by decide +kernel
theorem dL_evictPage_9 : decode cL_evictPage 9 = .ok (.lastore, 1) := by decide +kernel
theorem dL_evictPage_10 : decode cL_evictPage 10 = .ok (.goto 15, 3) := by decide +kernel
theorem dL_evictPage_13 : decode cL_evictPage 13 = .ok (.astore 4, 2) := by decide +kernel
theorem dL_evictPage_15 : decode cL_evictPage 15 = .ok (.iconst 1, 1) := by decide +kernel
theorem dL_evictPage_16 : decode cL_evictPage 16 = .ok (.ireturn, 1) := by decide +kernel
theorem dL_evictPage_17 : decode cL_evictPage 17 = .ok (.astore 4, 2) := by decide +kernel
theorem dL_evictPage_19 : decode cL_evictPage 19 = .ok (.iconst 2, 1) := by decide +kernel
theorem dL_evictPage_20 : decode cL_evictPage 20 = .ok (.ireturn, 1) := by decide +kernel
theorem dL_evictPage_21 : decode cL_evictPage 21 = .ok (.astore 4, 2) := by decide +kernel
theorem dL_evictPage_23 : decode cL_evictPage 23 = .ok (.iconst 3, 1) := by decide +kernel
theorem dL_evictPage_24 : decode cL_evictPage 24 = .ok (.ireturn, 1) := by decide +kernel
theorem dL_evictPage_25 : decode cL_evictPage 25 = .ok (.iconst 0, 1) := by decide +kernel
theorem dL_evictPage_26 : decode cL_evictPage 26 = .ok (.ireturn, 1) := by decide +kernel
theorem dL_pageCount_0 : decode cL_pageCount 0 = .ok (.aload_n 2, 1) := by decide +kernel
theorem dL_pageCount_1 : decode cL_pageCount 1 = .ok (.iconst 0, 1) := by decide +kernel
theorem dL_pageCount_2 : decode cL_pageCount 2 = .ok (.aload_n 0, 1) := by decide +kernel
theorem dL_pageCount_3 : decode cL_pageCount 3 = .ok (.iload_n 1, 1) := by decide +kernel
theorem dL_pageCount_4 : decode cL_pageCount 4 = .ok (.invokevirtual 57, 3) := by decide +kernel
theorem dL_pageCount_7 : decode cL_pageCount 7 = .ok (.i2l, 1) := by decide +kernel
theorem dL_pageCount_8 : decode cL_pageCount 8 = .ok (.lastore, 1) := by decide +kernel
theorem dL_pageCount_9 : decode cL_pageCount 9 = .ok (.goto 6, 3) := by decide +kernel
theorem dL_pageCount_12 : decode cL_pageCount 12 = .ok (.astore_n 3, 1) := by decide +kernel
theorem dL_pageCount_13 : decode cL_pageCount 13 = .ok (.iconst 1, 1) := by decide +kernel
theorem dL_pageCount_14 : decode cL_pageCount 14 = .ok (.ireturn, 1) := by decide +kernel
theorem dL_pageCount_15 : decode cL_pageCount 15 = .ok (.iconst 0, 1) := by decide +kernel
theorem dL_pageCount_16 : decode cL_pageCount 16 = .ok (.ireturn, 1) := by decide +kernel
theorem dL_kindOf_0 : decode cL_kindOf 0 = .ok (.aload_n 2, 1) := by decide +kernel
theorem dL_kindOf_1 : decode cL_kindOf 1 = .ok (.iconst 0, 1) := by decide +kernel
theorem dL_kindOf_2 : decode cL_kindOf 2 = .ok (.aload_n 0, 1) := by decide +kernel
theorem dL_kindOf_3 : decode cL_kindOf 3 = .ok (.iload_n 1, 1) := by decide +kernel
theorem dL_kindOf_4 : decode cL_kindOf 4 = .ok (.invokevirtual 60, 3) := by decide +kernel
theorem dL_kindOf_7 : decode cL_kindOf 7 = .ok (.i2l, 1) := by decide +kernel
theorem dL_kindOf_8 : decode cL_kindOf 8 = .ok (.lastore, 1) := by decide +kernel
theorem dL_kindOf_9 : decode cL_kindOf 9 = .ok (.goto 6, 3) := by decide +kernel
theorem dL_kindOf_12 : decode cL_kindOf 12 = .ok (.astore_n 3, 1) := by decide +kernel
theorem dL_kindOf_13 : decode cL_kindOf 13 = .ok (.iconst 1, 1) := by decide +kernel
theorem dL_kindOf_14 : decode cL_kindOf 14 = .ok (.ireturn, 1) := by decide +kernel
theorem dL_kindOf_15 : decode cL_kindOf 15 = .ok (.iconst 0, 1) := by decide +kernel
theorem dL_kindOf_16 : decode cL_kindOf 16 = .ok (.ireturn, 1) := by decide +kernel
theorem dL_peek_0 : decode cL_peek 0 = .ok (.aload_n 3, 1) := by decide +kernel
theorem dL_peek_1 : decode cL_peek 1 = .ok (.iconst 0, 1) := by decide +kernel
theorem dL_peek_2 : decode cL_peek 2 = .ok (.aload_n 0, 1) := by decide +kernel
theorem dL_peek_3 : decode cL_peek 3 = .ok (.iload_n 1, 1) := by decide +kernel
theorem dL_peek_4 : decode cL_peek 4 = .ok (.iload_n 2, 1) := by decide +kernel
theorem dL_peek_5 : decode cL_peek 5 = .ok (.invokevirtual 63, 3) := by decide +kernel
theorem dL_peek_8 : decode cL_peek 8 = .ok (.i2l, 1) := by decide +kernel
theorem dL_peek_9 : decode cL_peek 9 = .ok (.lastore, 1) := by decide +kernel
theorem dL_peek_10 : decode cL_peek 10 = .ok (.goto 7, 3) := by decide +kernel
theorem dL_peek_13 : decode cL_peek 13 = .ok (.astore 4, 2) := by decide +kernel
theorem dL_peek_15 : decode cL_peek 15 = .ok (.iconst 1, 1) := by decide +kernel
theorem dL_peek_16 : decode cL_peek 16 = .ok (.ireturn, 1) := by decide +kernel
theorem dL_peek_17 : decode cL_peek 17 = .ok (.iconst 0, 1) := by decide +kernel
theorem dL_peek_18 : decode cL_peek 18 = .ok (.ireturn, 1) := by decide +kernel
theorem dL_peekFloat_0 : decode cL_peekFloat 0 = .ok (.aload_n 3, 1) := by decide +kernel
theorem dL_peekFloat_1 : decode cL_peekFloat 1 = .ok (.iconst 0, 1) := by decide +kernel
theorem dL_peekFloat_2 : decode cL_peekFloat 2 = .ok (.aload_n 0, 1) := by decide +kernel
theorem dL_peekFloat_3 : decode cL_peekFloat 3 = .ok (.iload_n 1, 1) := by decide +kernel
theorem dL_peekFloat_4 : decode cL_peekFloat 4 = .ok (.iload_n 2, 1) := by decide +kernel
theorem dL_peekFloat_5 : decode cL_peekFloat 5 = .ok (.invokevirtual 66, 3) := by decide +kernel
theorem dL_peekFloat_8 : decode cL_peekFloat 8 = .ok (.f2d, 1) := by decide +kernel
theorem dL_peekFloat_9 : decode cL_peekFloat 9 = .ok (.dastore, 1) := by decide +kernel
theorem dL_peekFloat_10 : decode cL_peekFloat 10 = .ok (.goto 11, 3) := by decide +kernel
theorem dL_peekFloat_13 : decode cL_peekFloat 13 = .ok (.astore 4, 2) := by decide +kernel
theorem dL_peekFloat_15 : decode cL_peekFloat 15 = .ok (.iconst 1, 1) := by decide +kernel
theorem dL_peekFloat_16 : decode cL_peekFloat 16 = .ok (.ireturn, 1) := by decide +kernel
theorem dL_peekFloat_17 : decode cL_peekFloat 17 = .ok (.astore 4, 2) := by decide +kernel
theorem dL_peekFloat_19 : decode cL_peekFloat 19 = .ok (.iconst 2, 1) := by decide +kernel
theorem dL_peekFloat_20 : decode cL_peekFloat 20 = .ok (.ireturn, 1) := by decide +kernel
theorem dL_peekFloat_21 : decode cL_peekFloat 21 = .ok (.iconst 0, 1) := by decide +kernel
theorem dL_peekFloat_22 : decode cL_peekFloat 22 = .ok (.ireturn, 1) := by decide +kernel
theorem dL_pageState_0 : decode cL_pageState 0 = .ok (.aload_n 3, 1) := by decide +kernel
theorem dL_pageState_1 : decode cL_pageState 1 = .ok (.iconst 0, 1) := by decide +kernel
theorem dL_pageState_2 : decode cL_pageState 2 = .ok (.aload_n 0, 1) := by decide +kernel
theorem dL_pageState_3 : decode cL_pageState 3 = .ok (.iload_n 1, 1) := by decide +kernel
theorem dL_pageState_4 : decode cL_pageState 4 = .ok (.iload_n 2, 1) := by decide +kernel
theorem dL_pageState_5 : decode cL_pageState 5 = .ok (.invokevirtual 70, 3) := by decide +kernel
theorem dL_pageState_8 : decode cL_pageState 8 = .ok (.i2l, 1) := by decide +kernel
theorem dL_pageState_9 : decode cL_pageState 9 = .ok (.lastore, 1) := by decide +kernel
theorem dL_pageState_10 : decode cL_pageState 10 = .ok (.goto 7, 3) := by decide +kernel
theorem dL_pageState_13 : decode cL_pageState 13 = .ok (.astore 4, 2) := by decide +kernel
theorem dL_pageState_15 : decode cL_pageState 15 = .ok (.iconst 1, 1) := by decide +kernel
theorem dL_pageState_16 : decode cL_pageState 16 = .ok (.ireturn, 1) := by decide +kernel
theorem dL_pageState_17 : decode cL_pageState 17 = .ok (.iconst 0, 1) := by decide +kernel
theorem dL_pageState_18 : decode cL_pageState 18 = .ok (.ireturn, 1) := by decide +kernel
theorem dL_frameOf_0 : decode cL_frameOf 0 = .ok (.aload_n 3, 1) := by decide +kernel
theorem dL_frameOf_1 : decode cL_frameOf 1 = .ok (.iconst 0, 1) := by decide +kernel
theorem dL_frameOf_2 : decode cL_frameOf 2 = .ok (.aload_n 0, 1) := by decide +kernel
theorem dL_frameOf_3 : decode cL_frameOf 3 = .ok (.iload_n 1, 1) := by decide +kernel
theorem dL_frameOf_4 : decode cL_frameOf 4 = .ok (.iload_n 2, 1) := by decide +kernel
theorem dL_frameOf_5 : decode cL_frameOf 5 = .ok (.invokevirtual 73, 3) := by decide +kernel
theorem dL_frameOf_8 : decode cL_frameOf 8 = .ok (.i2l, 1) := by decide +kernel
theorem dL_frameOf_9 : decode cL_frameOf 9 = .ok (.lastore, 1) := by decide +kernel
theorem dL_frameOf_10 : decode cL_frameOf 10 = .ok (.goto 7, 3) := by decide +kernel
theorem dL_frameOf_13 : decode cL_frameOf 13 = .ok (.astore 4, 2) := by decide +kernel
theorem dL_frameOf_15 : decode cL_frameOf 15 = .ok (.iconst 1, 1) := by decide +kernel
theorem dL_frameOf_16 : decode cL_frameOf 16 = .ok (.ireturn, 1) := by decide +kernel
theorem dL_frameOf_17 : decode cL_frameOf 17 = .ok (.iconst 0, 1) := by decide +kernel
theorem dL_frameOf_18 : decode cL_frameOf 18 = .ok (.ireturn, 1) := by decide +kernel
theorem dL_slotOf_0 : decode cL_slotOf 0 = .ok (.aload_n 3, 1) := by decide +kernel
theorem dL_slotOf_1 : decode cL_slotOf 1 = .ok (.iconst 0, 1) := by decide +kernel
theorem dL_slotOf_2 : decode cL_slotOf 2 = .ok (.aload_n 0, 1) := by decide +kernel
theorem dL_slotOf_3 : decode cL_slotOf 3 = .ok (.iload_n 1, 1) := by decide +kernel
theorem dL_slotOf_4 : decode cL_slotOf 4 = .ok (.iload_n 2, 1) := by decide +kernel
theorem dL_slotOf_5 : decode cL_slotOf 5 = .ok (.invokevirtual 76, 3) := by decide +kernel
theorem dL_slotOf_8 : decode cL_slotOf 8 = .ok (.i2l, 1) := by decide +kernel
theorem dL_slotOf_9 : decode cL_slotOf 9 = .ok (.lastore, 1) := by decide +kernel
theorem dL_slotOf_10 : decode cL_slotOf 10 = .ok (.goto 7, 3) := by decide +kernel
theorem dL_slotOf_13 : decode cL_slotOf 13 = .ok (.astore 4, 2) := by decide +kernel
theorem dL_slotOf_15 : decode cL_slotOf 15 = .ok (.iconst 1, 1) := by decide +kernel
theorem dL_slotOf_16 : decode cL_slotOf 16 = .ok (.ireturn, 1) := by decide +kernel
theorem dL_slotOf_17 : decode cL_slotOf 17 = .ok (.iconst 0, 1) := by decide +kernel
theorem dL_slotOf_18 : decode cL_slotOf 18 = .ok (.ireturn, 1) := by decide +kernel
theorem dL_frameOwner_0 : decode cL_frameOwner 0 = .ok (.aload_n 2, 1) := by decide +kernel
theorem dL_frameOwner_1 : decode cL_frameOwner 1 = .ok (.iconst 0, 1) := by decide +kernel
theorem dL_frameOwner_2 : decode cL_frameOwner 2 = .ok (.aload_n 0, 1) := by decide +kernel
theorem dL_frameOwner_3 : decode cL_frameOwner 3 = .ok (.iload_n 1, 1) := by decide +kernel
theorem dL_frameOwner_4 : decode cL_frameOwner 4 = .ok (.invokevirtual 79, 3) := by decide +kernel
theorem dL_frameOwner_7 : decode cL_frameOwner 7 = .ok (.i2l, 1) := by decide +kernel
theorem dL_frameOwner_8 : decode cL_frameOwner 8 = .ok (.lastore, 1) := by decide +kernel
theorem dL_frameOwner_9 : decode cL_frameOwner 9 = .ok (.goto 6, 3) := by decide +kernel
theorem dL_frameOwner_12 : decode cL_frameOwner 12 = .ok (.astore_n 3, 1) := by decide +kernel
theorem dL_frameOwner_13 : decode cL_frameOwner 13 = .ok (.iconst 1, 1) := by decide +kernel
theorem dL_frameOwner_14 : decode cL_frameOwner 14 = .ok (.ireturn, 1) := by decide +kernel
theorem dL_frameOwner_15 : decode cL_frameOwner 15 = .ok (.iconst 0, 1) := by decide +kernel
theorem dL_frameOwner_16 : decode cL_frameOwner 16 = .ok (.ireturn, 1) := by decide +kernel
theorem dL_frameTime_0 : decode cL_frameTime 0 = .ok (.aload_n 3, 1) := by decide +kernel
theorem dL_frameTime_1 : decode cL_frameTime 1 = .ok (.iconst 0, 1) := by decide +kernel
theorem dL_frameTime_2 : decode cL_frameTime 2 = .ok (.aload_n 0, 1) := by decide +kernel
theorem dL_frameTime_3 : decode cL_frameTime 3 = .ok (.iload_n 1, 1) := by decide +kernel
theorem dL_frameTime_4 : decode cL_frameTime 4 = .ok (.iload_n 2, 1) := by decide +kernel
theorem dL_frameTime_5 : decode cL_frameTime 5 = .ok (.invokevirtual 82, 3) := by decide +kernel
theorem dL_frameTime_8 : decode cL_frameTime 8 = .ok (.i2l, 1) := by decide +kernel
theorem dL_frameTime_9 : decode cL_frameTime 9 = .ok (.lastore, 1) := by decide +kernel
theorem dL_frameTime_10 : decode cL_frameTime 10 = .ok (.goto 15, 3) := by decide +kernel
theorem dL_frameTime_13 : decode cL_frameTime 13 = .ok (.astore 4, 2) := by decide +kernel
theorem dL_frameTime_15 : decode cL_frameTime 15 = .ok (.iconst 1, 1) := by decide +kernel
theorem dL_frameTime_16 : decode cL_frameTime 16 = .ok (.ireturn, 1) := by decide +kernel
theorem dL_frameTime_17 : decode cL_frameTime 17 = .ok (.astore 4, 2) := by decide +kernel
theorem dL_frameTime_19 : decode cL_frameTime 19 = .ok (.iconst 2, 1) := by decide +kernel
theorem dL_frameTime_20 : decode cL_frameTime 20 = .ok (.ireturn, 1) := by decide +kernel
theorem dL_frameTime_21 : decode cL_frameTime 21 = .ok (.astore 4, 2) := by decide +kernel
theorem dL_frameTime_23 : decode cL_frameTime 23 = .ok (.iconst 3, 1) := by decide +kernel
theorem dL_frameTime_24 : decode cL_frameTime 24 = .ok (.ireturn, 1) := by decide +kernel
theorem dL_frameTime_25 : decode cL_frameTime 25 = .ok (.iconst 0, 1) := by decide +kernel
theorem dL_frameTime_26 : decode cL_frameTime 26 = .ok (.ireturn, 1) := by decide +kernel
theorem dL_residentPages_0 : decode cL_residentPages 0 = .ok (.aload_n 2, 1) := by decide +kernel
theorem dL_residentPages_1 : decode cL_residentPages 1 = .ok (.iconst 0, 1) := by decide +kernel
theorem dL_residentPages_2 : decode cL_residentPages 2 = .ok (.aload_n 0, 1) := by decide +kernel
theorem dL_residentPages_3 : decode cL_residentPages 3 = .ok (.iload_n 1, 1) := by decide +kernel
theorem dL_residentPages_4 : decode cL_residentPages 4 = .ok (.invokevirtual 85, 3) := by decide +kernel
theorem dL_residentPages_7 : decode cL_residentPages 7 = .ok (.i2l, 1) := by decide +kernel
theorem dL_residentPages_8 : decode cL_residentPages 8 = .ok (.lastore, 1) := by decide +kernel
theorem dL_residentPages_9 : decode cL_residentPages 9 = .ok (.goto 6, 3) := by decide +kernel
theorem dL_residentPages_12 : decode cL_residentPages 12 = .ok (.astore_n 3, 1) := by decide +kernel
theorem dL_residentPages_13 : decode cL_residentPages 13 = .ok (.iconst 1, 1) := by decide +kernel
theorem dL_residentPages_14 : decode cL_residentPages 14 = .ok (.ireturn, 1) := by decide +kernel
theorem dL_residentPages_15 : decode cL_residentPages 15 = .ok (.iconst 0, 1) := by decide +kernel
theorem dL_residentPages_16 : decode cL_residentPages 16 = .ok (.ireturn, 1) := by decide +kernel
theorem dL_dirtyPages_0 : decode cL_dirtyPages 0 = .ok (.aload_n 2, 1) := by decide +kernel
theorem dL_dirtyPages_1 : decode cL_dirtyPages 1 = .ok (.iconst 0, 1) := by decide +kernel
theorem dL_dirtyPages_2 : decode cL_dirtyPages 2 = .ok (.aload_n 0, 1) := by decide +kernel
theorem dL_dirtyPages_3 : decode cL_dirtyPages 3 = .ok (.iload_n 1, 1) := by decide +kernel
theorem dL_dirtyPages_4 : decode cL_dirtyPages 4 = .ok (.invokevirtual 88, 3) := by decide +kernel
theorem dL_dirtyPages_7 : decode cL_dirtyPages 7 = .ok (.i2l, 1) := by decide +kernel
theorem dL_dirtyPages_8 : decode cL_dirtyPages 8 = .ok (.lastore, 1) := by decide +kernel
theorem dL_dirtyPages_9 : decode cL_dirtyPages 9 = .ok (.goto 6, 3) := by decide +kernel
theorem dL_dirtyPages_12 : decode cL_dirtyPages 12 = .ok (.astore_n 3, 1) := by decide +kernel
theorem dL_dirtyPages_13 : decode cL_dirtyPages 13 = .ok (.iconst 1, 1) := by decide +kernel
theorem dL_dirtyPages_14 : decode cL_dirtyPages 14 = .ok (.ireturn, 1) := by decide +kernel
theorem dL_dirtyPages_15 : decode cL_dirtyPages 15 = .ok (.iconst 0, 1) := by decide +kernel
theorem dL_dirtyPages_16 : decode cL_dirtyPages 16 = .ok (.ireturn, 1) := by decide +kernel
theorem dL_slotUse_0 : decode cL_slotUse 0 = .ok (.aload_n 2, 1) := by decide +kernel
theorem dL_slotUse_1 : decode cL_slotUse 1 = .ok (.iconst 0, 1) := by decide +kernel
theorem dL_slotUse_2 : decode cL_slotUse 2 = .ok (.aload_n 0, 1) := by decide +kernel
theorem dL_slotUse_3 : decode cL_slotUse 3 = .ok (.iload_n 1, 1) := by decide +kernel
theorem dL_slotUse_4 : decode cL_slotUse 4 = .ok (.invokevirtual 91, 3) := by decide +kernel
theorem dL_slotUse_7 : decode cL_slotUse 7 = .ok (.i2l, 1) := by decide +kernel
theorem dL_slotUse_8 : decode cL_slotUse 8 = .ok (.lastore, 1) := by decide +kernel
theorem dL_slotUse_9 : decode cL_slotUse 9 = .ok (.goto 6, 3) := by decide +kernel
theorem dL_slotUse_12 : decode cL_slotUse 12 = .ok (.astore_n 3, 1) := by decide +kernel
theorem dL_slotUse_13 : decode cL_slotUse 13 = .ok (.iconst 1, 1) := by decide +kernel
theorem dL_slotUse_14 : decode cL_slotUse 14 = .ok (.ireturn, 1) := by decide +kernel
theorem dL_slotUse_15 : decode cL_slotUse 15 = .ok (.iconst 0, 1) := by decide +kernel
theorem dL_slotUse_16 : decode cL_slotUse 16 = .ok (.ireturn, 1) := by decide +kernel
theorem dL_slotOwner_0 : decode cL_slotOwner 0 = .ok (.aload_n 2, 1) := by decide +kernel
theorem dL_slotOwner_1 : decode cL_slotOwner 1 = .ok (.iconst 0, 1) := by decide +kernel
theorem dL_slotOwner_2 : decode cL_slotOwner 2 = .ok (.aload_n 0, 1) := by decide +kernel
theorem dL_slotOwner_3 : decode cL_slotOwner 3 = .ok (.iload_n 1, 1) := by decide +kernel
theorem dL_slotOwner_4 : decode cL_slotOwner 4 = .ok (.invokevirtual 94, 3) := by decide +kernel
theorem dL_slotOwner_7 : decode cL_slotOwner 7 = .ok (.i2l, 1) := by decide +kernel
theorem dL_slotOwner_8 : decode cL_slotOwner 8 = .ok (.lastore, 1) := by decide +kernel
theorem dL_slotOwner_9 : decode cL_slotOwner 9 = .ok (.goto 6, 3) := by decide +kernel
theorem dL_slotOwner_12 : decode cL_slotOwner 12 = .ok (.astore_n 3, 1) := by decide +kernel
theorem dL_slotOwner_13 : decode cL_slotOwner 13 = .ok (.iconst 1, 1) := by decide +kernel
theorem dL_slotOwner_14 : decode cL_slotOwner 14 = .ok (.ireturn, 1) := by decide +kernel
theorem dL_slotOwner_15 : decode cL_slotOwner 15 = .ok (.iconst 0, 1) := by decide +kernel
theorem dL_slotOwner_16 : decode cL_slotOwner 16 = .ok (.ireturn, 1) := by decide +kernel
theorem dL_slotStamp_0 : decode cL_slotStamp 0 = .ok (.aload_n 2, 1) := by decide +kernel
theorem dL_slotStamp_1 : decode cL_slotStamp 1 = .ok (.iconst 0, 1) := by decide +kernel
theorem dL_slotStamp_2 : decode cL_slotStamp 2 = .ok (.aload_n 0, 1) := by decide +kernel
theorem dL_slotStamp_3 : decode cL_slotStamp 3 = .ok (.iload_n 1, 1) := by decide +kernel
theorem dL_slotStamp_4 : decode cL_slotStamp 4 = .ok (.invokevirtual 97, 3) := by decide +kernel
theorem dL_slotStamp_7 : decode cL_slotStamp 7 = .ok (.i2l, 1) := by decide +kernel
theorem dL_slotStamp_8 : decode cL_slotStamp 8 = .ok (.lastore, 1) := by decide +kernel
theorem dL_slotStamp_9 : decode cL_slotStamp 9 = .ok (.goto 6, 3) := by decide +kernel
theorem dL_slotStamp_12 : decode cL_slotStamp 12 = .ok (.astore_n 3, 1) := by decide +kernel
theorem dL_slotStamp_13 : decode cL_slotStamp 13 = .ok (.iconst 1, 1) := by decide +kernel
theorem dL_slotStamp_14 : decode cL_slotStamp 14 = .ok (.ireturn, 1) := by decide +kernel
theorem dL_slotStamp_15 : decode cL_slotStamp 15 = .ok (.iconst 0, 1) := by decide +kernel
theorem dL_slotStamp_16 : decode cL_slotStamp 16 = .ok (.ireturn, 1) := by decide +kernel
theorem dL_slotValue_0 : decode cL_slotValue 0 = .ok (.aload_n 2, 1) := by decide +kernel
theorem dL_slotValue_1 : decode cL_slotValue 1 = .ok (.iconst 0, 1) := by decide +kernel
theorem dL_slotValue_2 : decode cL_slotValue 2 = .ok (.aload_n 0, 1) := by decide +kernel
theorem dL_slotValue_3 : decode cL_slotValue 3 = .ok (.iload_n 1, 1) := by decide +kernel
theorem dL_slotValue_4 : decode cL_slotValue 4 = .ok (.invokevirtual 100, 3) := by decide +kernel
theorem dL_slotValue_7 : decode cL_slotValue 7 = .ok (.i2l, 1) := by decide +kernel
theorem dL_slotValue_8 : decode cL_slotValue 8 = .ok (.lastore, 1) := by decide +kernel
theorem dL_slotValue_9 : decode cL_slotValue 9 = .ok (.goto 6, 3) := by decide +kernel
theorem dL_slotValue_12 : decode cL_slotValue 12 = .ok (.astore_n 3, 1) := by decide +kernel
theorem dL_slotValue_13 : decode cL_slotValue 13 = .ok (.iconst 1, 1) := by decide +kernel
theorem dL_slotValue_14 : decode cL_slotValue 14 = .ok (.ireturn, 1) := by decide +kernel
theorem dL_slotValue_15 : decode cL_slotValue 15 = .ok (.iconst 0, 1) := by decide +kernel
theorem dL_slotValue_16 : decode cL_slotValue 16 = .ok (.ireturn, 1) := by decide +kernel
theorem dL_freeSlot_0 : decode cL_freeSlot 0 = .ok (.aload_n 2, 1) := by decide +kernel
theorem dL_freeSlot_1 : decode cL_freeSlot 1 = .ok (.iconst 0, 1) := by decide +kernel
theorem dL_freeSlot_2 : decode cL_freeSlot 2 = .ok (.aload_n 0, 1) := by decide +kernel
theorem dL_freeSlot_3 : decode cL_freeSlot 3 = .ok (.iload_n 1, 1) := by decide +kernel
theorem dL_freeSlot_4 : decode cL_freeSlot 4 = .ok (.invokevirtual 103, 3) := by decide +kernel
theorem dL_freeSlot_7 : decode cL_freeSlot 7 = .ok (.i2l, 1) := by decide +kernel
theorem dL_freeSlot_8 : decode cL_freeSlot 8 = .ok (.lastore, 1) := by decide +kernel
theorem dL_freeSlot_9 : decode cL_freeSlot 9 = .ok (.goto 6, 3) := by decide +kernel
theorem dL_freeSlot_12 : decode cL_freeSlot 12 = .ok (.astore_n 3, 1) := by decide +kernel
theorem dL_freeSlot_13 : decode cL_freeSlot 13 = .ok (.iconst 1, 1) := by decide +kernel
theorem dL_freeSlot_14 : decode cL_freeSlot 14 = .ok (.ireturn, 1) := by decide +kernel
theorem dL_freeSlot_15 : decode cL_freeSlot 15 = .ok (.iconst 0, 1) := by decide +kernel
theorem dL_freeSlot_16 : decode cL_freeSlot 16 = .ok (.ireturn, 1) := by decide +kernel
theorem dL_twins_0 : decode cL_twins 0 = .ok (.aload_n 2, 1) := by decide +kernel
theorem dL_twins_1 : decode cL_twins 1 = .ok (.iconst 0, 1) := by decide +kernel
theorem dL_twins_2 : decode cL_twins 2 = .ok (.aload_n 0, 1) := by decide +kernel
theorem dL_twins_3 : decode cL_twins 3 = .ok (.iload_n 1, 1) := by decide +kernel
theorem dL_twins_4 : decode cL_twins 4 = .ok (.invokevirtual 106, 3) := by decide +kernel
theorem dL_twins_7 : decode cL_twins 7 = .ok (.i2l, 1) := by decide +kernel
theorem dL_twins_8 : decode cL_twins 8 = .ok (.lastore, 1) := by decide +kernel
theorem dL_twins_9 : decode cL_twins 9 = .ok (.goto 9, 3) := by decide +kernel
theorem dL_twins_12 : decode cL_twins 12 = .ok (.astore_n 3, 1) := by decide +kernel
theorem dL_twins_13 : decode cL_twins 13 = .ok (.iconst 1, 1) := by decide +kernel
theorem dL_twins_14 : decode cL_twins 14 = .ok (.ireturn, 1) := by decide +kernel
theorem dL_twins_15 : decode cL_twins 15 = .ok (.astore_n 3, 1) := by decide +kernel
theorem dL_twins_16 : decode cL_twins 16 = .ok (.iconst 2, 1) := by decide +kernel
theorem dL_twins_17 : decode cL_twins 17 = .ok (.ireturn, 1) := by decide +kernel
theorem dL_twins_18 : decode cL_twins 18 = .ok (.iconst 0, 1) := by decide +kernel
theorem dL_twins_19 : decode cL_twins 19 = .ok (.ireturn, 1) := by decide +kernel
theorem dL_pendingPage_0 : decode cL_pendingPage 0 = .ok (.aload_n 2, 1) := by decide +kernel
theorem dL_pendingPage_1 : decode cL_pendingPage 1 = .ok (.iconst 0, 1) := by decide +kernel
theorem dL_pendingPage_2 : decode cL_pendingPage 2 = .ok (.aload_n 0, 1) := by decide +kernel
theorem dL_pendingPage_3 : decode cL_pendingPage 3 = .ok (.iload_n 1, 1) := by decide +kernel
theorem dL_pendingPage_4 : decode cL_pendingPage 4 = .ok (.invokevirtual 109, 3) := by decide +kernel
theorem dL_pendingPage_7 : decode cL_pendingPage 7 = .ok (.i2l, 1) := by decide +kernel
theorem dL_pendingPage_8 : decode cL_pendingPage 8 = .ok (.lastore, 1) := by decide +kernel
theorem dL_pendingPage_9 : decode cL_pendingPage 9 = .ok (.goto 6, 3) := by decide +kernel
theorem dL_pendingPage_12 : decode cL_pendingPage 12 = .ok (.astore_n 3, 1) := by decide +kernel
theorem dL_pendingPage_13 : decode cL_pendingPage 13 = .ok (.iconst 1, 1) := by decide +kernel
theorem dL_pendingPage_14 : decode cL_pendingPage 14 = .ok (.ireturn, 1) := by decide +kernel
theorem dL_pendingPage_15 : decode cL_pendingPage 15 = .ok (.iconst 0, 1) := by decide +kernel
theorem dL_pendingPage_16 : decode cL_pendingPage 16 = .ok (.ireturn, 1) := by decide +kernel
theorem dL_checkpointEpoch_0 : decode cL_checkpointEpoch 0 = .ok (.aload_n 2, 1) := by decide +kernel
theorem dL_checkpointEpoch_1 : decode cL_checkpointEpoch 1 = .ok (.iconst 0, 1) := by decide +kernel
theorem dL_checkpointEpoch_2 : decode cL_checkpointEpoch 2 = .ok (.aload_n 0, 1) := by decide +kernel
theorem dL_checkpointEpoch_3 : decode cL_checkpointEpoch 3 = .ok (.iload_n 1, 1) := by decide +kernel
theorem dL_checkpointEpoch_4 : decode cL_checkpointEpoch 4 = .ok (.invokevirtual 112, 3) := by decide +kernel
theorem dL_checkpointEpoch_7 : decode cL_checkpointEpoch 7 = .ok (.i2l, 1) := by decide +kernel
theorem dL_checkpointEpoch_8 : decode cL_checkpointEpoch 8 = .ok (.lastore, 1) := by decide +kernel
theorem dL_checkpointEpoch_9 : decode cL_checkpointEpoch 9 = .ok (.goto 6, 3) := by decide +kernel
theorem dL_checkpointEpoch_12 : decode cL_checkpointEpoch 12 = .ok (.astore_n 3, 1) := by decide +kernel
theorem dL_checkpointEpoch_13 : decode cL_checkpointEpoch 13 = .ok (.iconst 1, 1) := by decide +kernel
theorem dL_checkpointEpoch_14 : decode cL_checkpointEpoch 14 = .ok (.ireturn, 1) := by decide +kernel
theorem dL_checkpointEpoch_15 : decode cL_checkpointEpoch 15 = .ok (.iconst 0, 1) := by decide +kernel
theorem dL_checkpointEpoch_16 : decode cL_checkpointEpoch 16 = .ok (.ireturn, 1) := by decide +kernel
theorem dL_checkpointSlot_0 : decode cL_checkpointSlot 0 = .ok (.aload_n 3, 1) := by decide +kernel
theorem dL_checkpointSlot_1 : decode cL_checkpointSlot 1 = .ok (.iconst 0, 1) := by decide +kernel
theorem dL_checkpointSlot_2 : decode cL_checkpointSlot 2 = .ok (.aload_n 0, 1) := by decide +kernel
theorem dL_checkpointSlot_3 : decode cL_checkpointSlot 3 = .ok (.iload_n 1, 1) := by decide +kernel
theorem dL_checkpointSlot_4 : decode cL_checkpointSlot 4 = .ok (.iload_n 2, 1) := by decide +kernel
theorem dL_checkpointSlot_5 : decode cL_checkpointSlot 5 = .ok (.invokevirtual 115, 3) := by decide +kernel
theorem dL_checkpointSlot_8 : decode cL_checkpointSlot 8 = .ok (.i2l, 1) := by decide +kernel
theorem dL_checkpointSlot_9 : decode cL_checkpointSlot 9 = .ok (.lastore, 1) := by decide +kernel
theorem dL_checkpointSlot_10 : decode cL_checkpointSlot 10 = .ok (.goto 11, 3) := by decide +kernel
theorem dL_checkpointSlot_13 : decode cL_checkpointSlot 13 = .ok (.astore 4, 2) := by decide +kernel
theorem dL_checkpointSlot_15 : decode cL_checkpointSlot 15 = .ok (.iconst 1, 1) := by decide +kernel
theorem dL_checkpointSlot_16 : decode cL_checkpointSlot 16 = .ok (.ireturn, 1) := by decide +kernel
theorem dL_checkpointSlot_17 : decode cL_checkpointSlot 17 = .ok (.astore 4, 2) := by decide +kernel
theorem dL_checkpointSlot_19 : decode cL_checkpointSlot 19 = .ok (.iconst 2, 1) := by decide +kernel
theorem dL_checkpointSlot_20 : decode cL_checkpointSlot 20 = .ok (.ireturn, 1) := by decide +kernel
theorem dL_checkpointSlot_21 : decode cL_checkpointSlot 21 = .ok (.iconst 0, 1) := by decide +kernel
theorem dL_checkpointSlot_22 : decode cL_checkpointSlot 22 = .ok (.ireturn, 1) := by decide +kernel
theorem dL_checkpointValue_0 : decode cL_checkpointValue 0 = .ok (.aload_n 3, 1) := by decide +kernel
theorem dL_checkpointValue_1 : decode cL_checkpointValue 1 = .ok (.iconst 0, 1) := by decide +kernel
theorem dL_checkpointValue_2 : decode cL_checkpointValue 2 = .ok (.aload_n 0, 1) := by decide +kernel
theorem dL_checkpointValue_3 : decode cL_checkpointValue 3 = .ok (.iload_n 1, 1) := by decide +kernel
theorem dL_checkpointValue_4 : decode cL_checkpointValue 4 = .ok (.iload_n 2, 1) := by decide +kernel
theorem dL_checkpointValue_5 : decode cL_checkpointValue 5 = .ok (.invokevirtual 118, 3) := by decide +kernel
theorem dL_checkpointValue_8 : decode cL_checkpointValue 8 = .ok (.i2l, 1) := by decide +kernel
theorem dL_checkpointValue_9 : decode cL_checkpointValue 9 = .ok (.lastore, 1) := by decide +kernel
theorem dL_checkpointValue_10 : decode cL_checkpointValue 10 = .ok (.goto 11, 3) := by decide +kernel
theorem dL_checkpointValue_13 : decode cL_checkpointValue 13 = .ok (.astore 4, 2) := by decide +kernel
theorem dL_checkpointValue_15 : decode cL_checkpointValue 15 = .ok (.iconst 1, 1) := by decide +kernel
theorem dL_checkpointValue_16 : decode cL_checkpointValue 16 = .ok (.ireturn, 1) := by decide +kernel
theorem dL_checkpointValue_17 : decode cL_checkpointValue 17 = .ok (.astore 4, 2) := by decide +kernel
theorem dL_checkpointValue_19 : decode cL_checkpointValue 19 = .ok (.iconst 2, 1) := by decide +kernel
theorem dL_checkpointValue_20 : decode cL_checkpointValue 20 = .ok (.ireturn, 1) := by decide +kernel
theorem dL_checkpointValue_21 : decode cL_checkpointValue 21 = .ok (.iconst 0, 1) := by decide +kernel
theorem dL_checkpointValue_22 : decode cL_checkpointValue 22 = .ok (.ireturn, 1) := by decide +kernel
theorem dL_wouldWrite_0 : decode cL_wouldWrite 0 = .ok (.aload_n 2, 1) := by decide +kernel
theorem dL_wouldWrite_1 : decode cL_wouldWrite 1 = .ok (.iconst 0, 1) := by decide +kernel
theorem dL_wouldWrite_2 : decode cL_wouldWrite 2 = .ok (.aload_n 0, 1) := by decide +kernel
theorem dL_wouldWrite_3 : decode cL_wouldWrite 3 = .ok (.iload_n 1, 1) := by decide +kernel
theorem dL_wouldWrite_4 : decode cL_wouldWrite 4 = .ok (.invokevirtual 121, 3) := by decide +kernel
theorem dL_wouldWrite_7 : decode cL_wouldWrite 7 = .ok (.i2l, 1) := by decide +kernel
theorem dL_wouldWrite_8 : decode cL_wouldWrite 8 = .ok (.lastore, 1) := by decide +kernel
theorem dL_wouldWrite_9 : decode cL_wouldWrite 9 = .ok (.goto 6, 3) := by decide +kernel
theorem dL_wouldWrite_12 : decode cL_wouldWrite 12 = .ok (.astore_n 3, 1) := by decide +kernel
theorem dL_wouldWrite_13 : decode cL_wouldWrite 13 = .ok (.iconst 1, 1) := by decide +kernel
theorem dL_wouldWrite_14 : decode cL_wouldWrite 14 = .ok (.ireturn, 1) := by decide +kernel
theorem dL_wouldWrite_15 : decode cL_wouldWrite 15 = .ok (.iconst 0, 1) := by decide +kernel
theorem dL_wouldWrite_16 : decode cL_wouldWrite 16 = .ok (.ireturn, 1) := by decide +kernel
theorem dL_wouldFree_0 : decode cL_wouldFree 0 = .ok (.aload_n 2, 1) := by decide +kernel
theorem dL_wouldFree_1 : decode cL_wouldFree 1 = .ok (.iconst 0, 1) := by decide +kernel
theorem dL_wouldFree_2 : decode cL_wouldFree 2 = .ok (.aload_n 0, 1) := by decide +kernel
theorem dL_wouldFree_3 : decode cL_wouldFree 3 = .ok (.iload_n 1, 1) := by decide +kernel
theorem dL_wouldFree_4 : decode cL_wouldFree 4 = .ok (.invokevirtual 124, 3) := by decide +kernel
theorem dL_wouldFree_7 : decode cL_wouldFree 7 = .ok (.i2l, 1) := by decide +kernel
theorem dL_wouldFree_8 : decode cL_wouldFree 8 = .ok (.lastore, 1) := by decide +kernel
theorem dL_wouldFree_9 : decode cL_wouldFree 9 = .ok (.goto 9, 3) := by decide +kernel
theorem dL_wouldFree_12 : decode cL_wouldFree 12 = .ok (.astore_n 3, 1) := by decide +kernel
theorem dL_wouldFree_13 : decode cL_wouldFree 13 = .ok (.iconst 1, 1) := by decide +kernel
theorem dL_wouldFree_14 : decode cL_wouldFree 14 = .ok (.ireturn, 1) := by decide +kernel
theorem dL_wouldFree_15 : decode cL_wouldFree 15 = .ok (.astore_n 3, 1) := by decide +kernel
theorem dL_wouldFree_16 : decode cL_wouldFree 16 = .ok (.iconst 2, 1) := by decide +kernel
theorem dL_wouldFree_17 : decode cL_wouldFree 17 = .ok (.ireturn, 1) := by decide +kernel
theorem dL_wouldFree_18 : decode cL_wouldFree 18 = .ok (.iconst 0, 1) := by decide +kernel
theorem dL_wouldFree_19 : decode cL_wouldFree 19 = .ok (.ireturn, 1) := by decide +kernel
theorem dL_bestBarrier_0 : decode cL_bestBarrier 0 = .ok (.aload_n 2, 1) := by decide +kernel
theorem dL_bestBarrier_1 : decode cL_bestBarrier 1 = .ok (.iconst 0, 1) := by decide +kernel
theorem dL_bestBarrier_2 : decode cL_bestBarrier 2 = .ok (.aload_n 0, 1) := by decide +kernel
theorem dL_bestBarrier_3 : decode cL_bestBarrier 3 = .ok (.iload_n 1, 1) := by decide +kernel
theorem dL_bestBarrier_4 : decode cL_bestBarrier 4 = .ok (.invokevirtual 127, 3) := by decide +kernel
theorem dL_bestBarrier_7 : decode cL_bestBarrier 7 = .ok (.i2l, 1) := by decide +kernel
theorem dL_bestBarrier_8 : decode cL_bestBarrier 8 = .ok (.lastore, 1) := by decide +kernel
theorem dL_bestBarrier_9 : decode cL_bestBarrier 9 = .ok (.goto 9, 3) := by decide +kernel
theorem dL_bestBarrier_12 : decode cL_bestBarrier 12 = .ok (.astore_n 3, 1) := by decide +kernel
theorem dL_bestBarrier_13 : decode cL_bestBarrier 13 = .ok (.iconst 1, 1) := by decide +kernel
theorem dL_bestBarrier_14 : decode cL_bestBarrier 14 = .ok (.ireturn, 1) := by decide +kernel
theorem dL_bestBarrier_15 : decode cL_bestBarrier 15 = .ok (.astore_n 3, 1) := by decide +kernel
theorem dL_bestBarrier_16 : decode cL_bestBarrier 16 = .ok (.iconst 2, 1) := by decide +kernel
theorem dL_bestBarrier_17 : decode cL_bestBarrier 17 = .ok (.ireturn, 1) := by decide +kernel
theorem dL_bestBarrier_18 : decode cL_bestBarrier 18 = .ok (.iconst 0, 1) := by decide +kernel
theorem dL_bestBarrier_19 : decode cL_bestBarrier 19 = .ok (.ireturn, 1) := by decide +kernel
theorem dL_lostPages_0 : decode cL_lostPages 0 = .ok (.aload_n 2, 1) := by decide +kernel
theorem dL_lostPages_1 : decode cL_lostPages 1 = .ok (.iconst 0, 1) := by decide +kernel
theorem dL_lostPages_2 : decode cL_lostPages 2 = .ok (.aload_n 0, 1) := by decide +kernel
theorem dL_lostPages_3 : decode cL_lostPages 3 = .ok (.iload_n 1, 1) := by decide +kernel
theorem dL_lostPages_4 : decode cL_lostPages 4 = .ok (.invokevirtual 130, 3) := by decide +kernel
theorem dL_lostPages_7 : decode cL_lostPages 7 = .ok (.i2l, 1) := by decide +kernel
theorem dL_lostPages_8 : decode cL_lostPages 8 = .ok (.lastore, 1) := by decide +kernel
theorem dL_lostPages_9 : decode cL_lostPages 9 = .ok (.goto 6, 3) := by decide +kernel
theorem dL_lostPages_12 : decode cL_lostPages 12 = .ok (.astore_n 3, 1) := by decide +kernel
theorem dL_lostPages_13 : decode cL_lostPages 13 = .ok (.iconst 1, 1) := by decide +kernel
theorem dL_lostPages_14 : decode cL_lostPages 14 = .ok (.ireturn, 1) := by decide +kernel
theorem dL_lostPages_15 : decode cL_lostPages 15 = .ok (.iconst 0, 1) := by decide +kernel
theorem dL_lostPages_16 : decode cL_lostPages 16 = .ok (.ireturn, 1) := by decide +kernel
theorem dL_barrierLog_0 : decode cL_barrierLog 0 = .ok (.aload_n 3, 1) := by decide +kernel
theorem dL_barrierLog_1 : decode cL_barrierLog 1 = .ok (.iconst 0, 1) := by decide +kernel
theorem dL_barrierLog_2 : decode cL_barrierLog 2 = .ok (.aload_n 0, 1) := by decide +kernel
theorem dL_barrierLog_3 : decode cL_barrierLog 3 = .ok (.iload_n 1, 1) := by decide +kernel
theorem dL_barrierLog_4 : decode cL_barrierLog 4 = .ok (.iload_n 2, 1) := by decide +kernel
theorem dL_barrierLog_5 : decode cL_barrierLog 5 = .ok (.invokevirtual 133, 3) := by decide +kernel
theorem dL_barrierLog_8 : decode cL_barrierLog 8 = .ok (.i2l, 1) := by decide +kernel
theorem dL_barrierLog_9 : decode cL_barrierLog 9 = .ok (.lastore, 1) := by decide +kernel
theorem dL_barrierLog_10 : decode cL_barrierLog 10 = .ok (.goto 11, 3) := by decide +kernel
theorem dL_barrierLog_13 : decode cL_barrierLog 13 = .ok (.astore 4, 2) := by decide +kernel
theorem dL_barrierLog_15 : decode cL_barrierLog 15 = .ok (.iconst 1, 1) := by decide +kernel
theorem dL_barrierLog_16 : decode cL_barrierLog 16 = .ok (.ireturn, 1) := by decide +kernel
theorem dL_barrierLog_17 : decode cL_barrierLog 17 = .ok (.astore 4, 2) := by decide +kernel
theorem dL_barrierLog_19 : decode cL_barrierLog 19 = .ok (.iconst 2, 1) := by decide +kernel
theorem dL_barrierLog_20 : decode cL_barrierLog 20 = .ok (.ireturn, 1) := by decide +kernel
theorem dL_barrierLog_21 : decode cL_barrierLog 21 = .ok (.iconst 0, 1) := by decide +kernel
theorem dL_barrierLog_22 : decode cL_barrierLog 22 = .ok (.ireturn, 1) := by decide +kernel
theorem dL_recentAccess_0 : decode cL_recentAccess 0 = .ok (.aload_n 2, 1) := by decide +kernel
theorem dL_recentAccess_1 : decode cL_recentAccess 1 = .ok (.iconst 0, 1) := by decide +kernel
theorem dL_recentAccess_2 : decode cL_recentAccess 2 = .ok (.aload_n 0, 1) := by decide +kernel
theorem dL_recentAccess_3 : decode cL_recentAccess 3 = .ok (.iload_n 1, 1) := by decide +kernel
theorem dL_recentAccess_4 : decode cL_recentAccess 4 = .ok (.invokevirtual 136, 3) := by decide +kernel
theorem dL_recentAccess_7 : decode cL_recentAccess 7 = .ok (.i2l, 1) := by decide +kernel
theorem dL_recentAccess_8 : decode cL_recentAccess 8 = .ok (.lastore, 1) := by decide +kernel
theorem dL_recentAccess_9 : decode cL_recentAccess 9 = .ok (.goto 6, 3) := by decide +kernel
theorem dL_recentAccess_12 : decode cL_recentAccess 12 = .ok (.astore_n 3, 1) := by decide +kernel
theorem dL_recentAccess_13 : decode cL_recentAccess 13 = .ok (.iconst 1, 1) := by decide +kernel
theorem dL_recentAccess_14 : decode cL_recentAccess 14 = .ok (.ireturn, 1) := by decide +kernel
theorem dL_recentAccess_15 : decode cL_recentAccess 15 = .ok (.iconst 0, 1) := by decide +kernel
theorem dL_recentAccess_16 : decode cL_recentAccess 16 = .ok (.ireturn, 1) := by decide +kernel
theorem dL_faultsWith_0 : decode cL_faultsWith 0 = .ok (.aload_n 3, 1) := by decide +kernel
theorem dL_faultsWith_1 : decode cL_faultsWith 1 = .ok (.iconst 0, 1) := by decide +kernel
theorem dL_faultsWith_2 : decode cL_faultsWith 2 = .ok (.aload_n 0, 1) := by decide +kernel
theorem dL_faultsWith_3 : decode cL_faultsWith 3 = .ok (.iload_n 1, 1) := by decide +kernel
theorem dL_faultsWith_4 : decode cL_faultsWith 4 = .ok (.iload_n 2, 1) := by decide +kernel
theorem dL_faultsWith_5 : decode cL_faultsWith 5 = .ok (.invokevirtual 139, 3) := by decide +kernel
theorem dL_faultsWith_8 : decode cL_faultsWith 8 = .ok (.i2l, 1) := by decide +kernel
theorem dL_faultsWith_9 : decode cL_faultsWith 9 = .ok (.lastore, 1) := by decide +kernel
theorem dL_faultsWith_10 : decode cL_faultsWith 10 = .ok (.goto 7, 3) := by decide +kernel
theorem dL_faultsWith_13 : decode cL_faultsWith 13 = .ok (.astore 4, 2) := by decide +kernel
theorem dL_faultsWith_15 : decode cL_faultsWith 15 = .ok (.iconst 1, 1) := by decide +kernel
theorem dL_faultsWith_16 : decode cL_faultsWith 16 = .ok (.ireturn, 1) := by decide +kernel
theorem dL_faultsWith_17 : decode cL_faultsWith 17 = .ok (.iconst 0, 1) := by decide +kernel
theorem dL_faultsWith_18 : decode cL_faultsWith 18 = .ok (.ireturn, 1) := by decide +kernel
theorem dL_leastFrames_0 : decode cL_leastFrames 0 = .ok (.aload_n 2, 1) := by decide +kernel
theorem dL_leastFrames_1 : decode cL_leastFrames 1 = .ok (.iconst 0, 1) := by decide +kernel
theorem dL_leastFrames_2 : decode cL_leastFrames 2 = .ok (.aload_n 0, 1) := by decide +kernel
theorem dL_leastFrames_3 : decode cL_leastFrames 3 = .ok (.iload_n 1, 1) := by decide +kernel
theorem dL_leastFrames_4 : decode cL_leastFrames 4 = .ok (.invokevirtual 142, 3) := by decide +kernel
theorem dL_leastFrames_7 : decode cL_leastFrames 7 = .ok (.i2l, 1) := by decide +kernel
theorem dL_leastFrames_8 : decode cL_leastFrames 8 = .ok (.lastore, 1) := by decide +kernel
theorem dL_leastFrames_9 : decode cL_leastFrames 9 = .ok (.goto 9, 3) := by decide +kernel
theorem dL_leastFrames_12 : decode cL_leastFrames 12 = .ok (.astore_n 3, 1) := by decide +kernel
theorem dL_leastFrames_13 : decode cL_leastFrames 13 = .ok (.iconst 1, 1) := by decide +kernel
theorem dL_leastFrames_14 : decode cL_leastFrames 14 = .ok (.ireturn, 1) := by decide +kernel
theorem dL_leastFrames_15 : decode cL_leastFrames 15 = .ok (.astore_n 3, 1) := by decide +kernel
theorem dL_leastFrames_16 : decode cL_leastFrames 16 = .ok (.iconst 2, 1) := by decide +kernel
theorem dL_leastFrames_17 : decode cL_leastFrames 17 = .ok (.ireturn, 1) := by decide +kernel
theorem dL_leastFrames_18 : decode cL_leastFrames 18 = .ok (.iconst 0, 1) := by decide +kernel
theorem dL_leastFrames_19 : decode cL_leastFrames 19 = .ok (.ireturn, 1) := by decide +kernel
theorem dL_workingSet_0 : decode cL_workingSet 0 = .ok (.aload_n 2, 1) := by decide +kernel
theorem dL_workingSet_1 : decode cL_workingSet 1 = .ok (.iconst 0, 1) := by decide +kernel
theorem dL_workingSet_2 : decode cL_workingSet 2 = .ok (.aload_n 0, 1) := by decide +kernel
theorem dL_workingSet_3 : decode cL_workingSet 3 = .ok (.iload_n 1, 1) := by decide +kernel
theorem dL_workingSet_4 : decode cL_workingSet 4 = .ok (.invokevirtual 145, 3) := by decide +kernel
theorem dL_workingSet_7 : decode cL_workingSet 7 = .ok (.i2l, 1) := by decide +kernel
theorem dL_workingSet_8 : decode cL_workingSet 8 = .ok (.lastore, 1) := by decide +kernel
theorem dL_workingSet_9 : decode cL_workingSet 9 = .ok (.goto 6, 3) := by decide +kernel
theorem dL_workingSet_12 : decode cL_workingSet 12 = .ok (.astore_n 3, 1) := by decide +kernel
theorem dL_workingSet_13 : decode cL_workingSet 13 = .ok (.iconst 1, 1) := by decide +kernel
theorem dL_workingSet_14 : decode cL_workingSet 14 = .ok (.ireturn, 1) := by decide +kernel
theorem dL_workingSet_15 : decode cL_workingSet 15 = .ok (.iconst 0, 1) := by decide +kernel
theorem dL_workingSet_16 : decode cL_workingSet 16 = .ok (.ireturn, 1) := by decide +kernel
theorem dL_hottestPage_0 : decode cL_hottestPage 0 = .ok (.aload_n 1, 1) := by decide +kernel
theorem dL_hottestPage_1 : decode cL_hottestPage 1 = .ok (.iconst 0, 1) := by decide +kernel
theorem dL_hottestPage_2 : decode cL_hottestPage 2 = .ok (.aload_n 0, 1) := by decide +kernel
theorem dL_hottestPage_3 : decode cL_hottestPage 3 = .ok (.invokevirtual 148, 3) := by decide +kernel
theorem dL_hottestPage_6 : decode cL_hottestPage 6 = .ok (.i2l, 1) := by decide +kernel
theorem dL_hottestPage_7 : decode cL_hottestPage 7 = .ok (.lastore, 1) := by decide +kernel
theorem dL_hottestPage_8 : decode cL_hottestPage 8 = .ok (.goto 6, 3) := by decide +kernel
theorem dL_hottestPage_11 : decode cL_hottestPage 11 = .ok (.astore_n 2, 1) := by decide +kernel
theorem dL_hottestPage_12 : decode cL_hottestPage 12 = .ok (.iconst 1, 1) := by decide +kernel
theorem dL_hottestPage_13 : decode cL_hottestPage 13 = .ok (.ireturn, 1) := by decide +kernel
theorem dL_hottestPage_14 : decode cL_hottestPage 14 = .ok (.iconst 0, 1) := by decide +kernel
theorem dL_hottestPage_15 : decode cL_hottestPage 15 = .ok (.ireturn, 1) := by decide +kernel
theorem dL_hitRatioBits_0 : decode cL_hitRatioBits 0 = .ok (.aload_n 1, 1) := by decide +kernel
theorem dL_hitRatioBits_1 : decode cL_hitRatioBits 1 = .ok (.iconst 0, 1) := by decide +kernel
theorem dL_hitRatioBits_2 : decode cL_hitRatioBits 2 = .ok (.aload_n 0, 1) := by decide +kernel
theorem dL_hitRatioBits_3 : decode cL_hitRatioBits 3 = .ok (.invokevirtual 151, 3) := by decide +kernel
theorem dL_hitRatioBits_6 : decode cL_hitRatioBits 6 = .ok (.i2l, 1) := by decide +kernel
theorem dL_hitRatioBits_7 : decode cL_hitRatioBits 7 = .ok (.lastore, 1) := by decide +kernel
theorem dL_hitRatioBits_8 : decode cL_hitRatioBits 8 = .ok (.goto 6, 3) := by decide +kernel
theorem dL_hitRatioBits_11 : decode cL_hitRatioBits 11 = .ok (.astore_n 2, 1) := by decide +kernel
theorem dL_hitRatioBits_12 : decode cL_hitRatioBits 12 = .ok (.iconst 1, 1) := by decide +kernel
theorem dL_hitRatioBits_13 : decode cL_hitRatioBits 13 = .ok (.ireturn, 1) := by decide +kernel
theorem dL_hitRatioBits_14 : decode cL_hitRatioBits 14 = .ok (.iconst 0, 1) := by decide +kernel
theorem dL_hitRatioBits_15 : decode cL_hitRatioBits 15 = .ok (.ireturn, 1) := by decide +kernel
theorem dL_total_0 : decode cL_total 0 = .ok (.aload_n 2, 1) := by decide +kernel
theorem dL_total_1 : decode cL_total 1 = .ok (.iconst 0, 1) := by decide +kernel
theorem dL_total_2 : decode cL_total 2 = .ok (.aload_n 0, 1) := by decide +kernel
theorem dL_total_3 : decode cL_total 3 = .ok (.iload_n 1, 1) := by decide +kernel
theorem dL_total_4 : decode cL_total 4 = .ok (.invokevirtual 156, 3) := by decide +kernel
theorem dL_total_7 : decode cL_total 7 = .ok (.i2l, 1) := by decide +kernel
theorem dL_total_8 : decode cL_total 8 = .ok (.lastore, 1) := by decide +kernel
theorem dL_total_9 : decode cL_total 9 = .ok (.goto 6, 3) := by decide +kernel
theorem dL_total_12 : decode cL_total 12 = .ok (.astore_n 3, 1) := by decide +kernel
theorem dL_total_13 : decode cL_total 13 = .ok (.iconst 1, 1) := by decide +kernel
theorem dL_total_14 : decode cL_total 14 = .ok (.ireturn, 1) := by decide +kernel
theorem dL_total_15 : decode cL_total 15 = .ok (.iconst 0, 1) := by decide +kernel
theorem dL_total_16 : decode cL_total 16 = .ok (.ireturn, 1) := by decide +kernel
theorem dL_reportByte_0 : decode cL_reportByte 0 = .ok (.aload_n 2, 1) := by decide +kernel
theorem dL_reportByte_1 : decode cL_reportByte 1 = .ok (.iconst 0, 1) := by decide +kernel
theorem dL_reportByte_2 : decode cL_reportByte 2 = .ok (.aload_n 0, 1) := by decide +kernel
theorem dL_reportByte_3 : decode cL_reportByte 3 = .ok (.iload_n 1, 1) := by decide +kernel
theorem dL_reportByte_4 : decode cL_reportByte 4 = .ok (.invokevirtual 159, 3) := by decide +kernel
theorem dL_reportByte_7 : decode cL_reportByte 7 = .ok (.i2l, 1) := by decide +kernel
theorem dL_reportByte_8 : decode cL_reportByte 8 = .ok (.lastore, 1) := by decide +kernel
theorem dL_reportByte_9 : decode cL_reportByte 9 = .ok (.goto 6, 3) := by decide +kernel
theorem dL_reportByte_12 : decode cL_reportByte 12 = .ok (.astore_n 3, 1) := by decide +kernel
theorem dL_reportByte_13 : decode cL_reportByte 13 = .ok (.iconst 1, 1) := by decide +kernel
theorem dL_reportByte_14 : decode cL_reportByte 14 = .ok (.ireturn, 1) := by decide +kernel
theorem dL_reportByte_15 : decode cL_reportByte 15 = .ok (.iconst 0, 1) := by decide +kernel
theorem dL_reportByte_16 : decode cL_reportByte 16 = .ok (.ireturn, 1) := by decide +kernel
theorem dL_undo_0 : decode cL_undo 0 = .ok (.aload_n 1, 1) := by decide +kernel
theorem dL_undo_1 : decode cL_undo 1 = .ok (.iconst 0, 1) := by decide +kernel
theorem dL_undo_2 : decode cL_undo 2 = .ok (.aload_n 0, 1) := by decide +kernel
theorem dL_undo_3 : decode cL_undo 3 = .ok (.invokevirtual 162, 3) := by decide +kernel
theorem dL_undo_6 : decode cL_undo 6 = .ok (.i2l, 1) := by decide +kernel
theorem dL_undo_7 : decode cL_undo 7 = .ok (.lastore, 1) := by decide +kernel
theorem dL_undo_8 : decode cL_undo 8 = .ok (.goto 6, 3) := by decide +kernel
theorem dL_undo_11 : decode cL_undo 11 = .ok (.astore_n 2, 1) := by decide +kernel
theorem dL_undo_12 : decode cL_undo 12 = .ok (.iconst 1, 1) := by decide +kernel
theorem dL_undo_13 : decode cL_undo 13 = .ok (.ireturn, 1) := by decide +kernel
theorem dL_undo_14 : decode cL_undo 14 = .ok (.iconst 0, 1) := by decide +kernel
theorem dL_undo_15 : decode cL_undo 15 = .ok (.ireturn, 1) := by decide +kernel
theorem dL_law_0 : decode cL_law 0 = .ok (.new 8, 3) := by decide +kernel
theorem dL_law_3 : decode cL_law 3 = .ok (.dup, 1) := by decide +kernel
theorem dL_law_4 : decode cL_law 4 = .ok (.invokespecial 165, 3) := by decide +kernel
theorem dL_law_7 : decode cL_law 7 = .ok (.astore_n 1, 1) := by decide +kernel
theorem dL_law_8 : decode cL_law 8 = .ok (.new 166, 3) := by decide +kernel
theorem dL_law_11 : decode cL_law 11 = .ok (.dup, 1) := by decide +kernel
theorem dL_law_12 : decode cL_law 12 = .ok (.invokespecial 168, 3) := by decide +kernel
theorem dL_law_15 : decode cL_law 15 = .ok (.astore_n 2, 1) := by decide +kernel
theorem dL_law_16 : decode cL_law 16 = .ok (.iconst 1, 1) := by decide +kernel
theorem dL_law_17 : decode cL_law 17 = .ok (.newarray .long, 2) := by decide +kernel
theorem dL_law_19 : decode cL_law 19 = .ok (.astore_n 3, 1) := by decide +kernel
theorem dL_law_20 : decode cL_law 20 = .ok (.iconst 1, 1) := by decide +kernel
theorem dL_law_21 : decode cL_law 21 = .ok (.newarray .double, 2) := by decide +kernel
theorem dL_law_23 : decode cL_law 23 = .ok (.astore 4, 2) := by decide +kernel
theorem dL_law_25 : decode cL_law 25 = .ok (.iconst 0, 1) := by decide +kernel
theorem dL_law_26 : decode cL_law 26 = .ok (.istore 5, 2) := by decide +kernel
theorem dL_law_28 : decode cL_law 28 = .ok (.iload 5, 2) := by decide +kernel
theorem dL_law_30 : decode cL_law 30 = .ok (.aload_n 0, 1) := by decide +kernel
theorem dL_law_31 : decode cL_law 31 = .ok (.arraylength, 1) := by decide +kernel
theorem dL_law_32 : decode cL_law 32 = .ok (.bipush 6, 2) := by decide +kernel
theorem dL_law_34 : decode cL_law 34 = .ok (.isub, 1) := by decide +kernel
theorem dL_law_35 : decode cL_law 35 = .ok (.if_icmp .gt 3275, 3) := by decide +kernel
theorem dL_law_38 : decode cL_law 38 = .ok (.aload_n 0, 1) := by decide +kernel
theorem dL_law_39 : decode cL_law 39 = .ok (.iload 5, 2) := by decide +kernel
theorem dL_law_41 : decode cL_law 41 = .ok (.iaload, 1) := by decide +kernel
theorem dL_law_42 : decode cL_law 42 = .ok (.bipush 63, 2) := by decide +kernel
theorem dL_law_44 : decode cL_law 44 = .ok (.iand, 1) := by decide +kernel
theorem dL_law_45 : decode cL_law 45 = .ok (.tableswitch 3259 0 63 #[271, 375, 431, 444, 457, 470, 483, 496, 509, 522, 590, 670, 726, 782, 838, 882, 926, 939, 995, 1063, 1076, 1132, 1188, 1256, 1346, 1414, 1482, 1550, 1606, 1674, 1687, 1743, 1799, 1855, 1911, 1967, 2023, 2036, 2049, 2062, 2075, 2131, 2187, 2200, 2213, 2269, 2325, 2393, 2461, 2517, 2573, 2629, 2685, 2753, 2809, 2877, 2933, 2989, 3033, 3077, 3133, 3146, 3202, 3246], 271) := by decide +kernel
theorem dL_law_316 : decode cL_law 316 = .ok (.aload_n 1, 1) := by decide +kernel
theorem dL_law_317 : decode cL_law 317 = .ok (.aload_n 0, 1) := by decide +kernel
theorem dL_law_318 : decode cL_law 318 = .ok (.iload 5, 2) := by decide +kernel
theorem dL_law_320 : decode cL_law 320 = .ok (.iconst 1, 1) := by decide +kernel
theorem dL_law_321 : decode cL_law 321 = .ok (.iadd, 1) := by decide +kernel
theorem dL_law_322 : decode cL_law 322 = .ok (.iaload, 1) := by decide +kernel
theorem dL_law_323 : decode cL_law 323 = .ok (.aload_n 0, 1) := by decide +kernel
theorem dL_law_324 : decode cL_law 324 = .ok (.iload 5, 2) := by decide +kernel
theorem dL_law_326 : decode cL_law 326 = .ok (.iconst 2, 1) := by decide +kernel
theorem dL_law_327 : decode cL_law 327 = .ok (.iadd, 1) := by decide +kernel
theorem dL_law_328 : decode cL_law 328 = .ok (.iaload, 1) := by decide +kernel
theorem dL_law_329 : decode cL_law 329 = .ok (.aload_n 0, 1) := by decide +kernel
theorem dL_law_330 : decode cL_law 330 = .ok (.iload 5, 2) := by decide +kernel
theorem dL_law_332 : decode cL_law 332 = .ok (.iconst 3, 1) := by decide +kernel
theorem dL_law_333 : decode cL_law 333 = .ok (.iadd, 1) := by decide +kernel
theorem dL_law_334 : decode cL_law 334 = .ok (.iaload, 1) := by decide +kernel
theorem dL_law_335 : decode cL_law 335 = .ok (.aload_n 0, 1) := by decide +kernel
theorem dL_law_336 : decode cL_law 336 = .ok (.iload 5, 2) := by decide +kernel
theorem dL_law_338 : decode cL_law 338 = .ok (.iconst 4, 1) := by decide +kernel
theorem dL_law_339 : decode cL_law 339 = .ok (.iadd, 1) := by decide +kernel
theorem dL_law_340 : decode cL_law 340 = .ok (.iaload, 1) := by decide +kernel
theorem dL_law_341 : decode cL_law 341 = .ok (.aload_n 0, 1) := by decide +kernel
theorem dL_law_342 : decode cL_law 342 = .ok (.iload 5, 2) := by decide +kernel
theorem dL_law_344 : decode cL_law 344 = .ok (.iconst 5, 1) := by decide +kernel
theorem dL_law_345 : decode cL_law 345 = .ok (.iadd, 1) := by decide +kernel
theorem dL_law_346 : decode cL_law 346 = .ok (.iaload, 1) := by decide +kernel
theorem dL_law_347 : decode cL_law 347 = .ok (.aload_n 3, 1) := by decide +kernel
theorem dL_law_348 : decode cL_law 348 = .ok (.invokestatic 169, 3) := by decide +kernel
theorem dL_law_351 : decode cL_law 351 = .ok (.istore 6, 2) := by decide +kernel
theorem dL_law_353 : decode cL_law 353 = .ok (.aload_n 2, 1) := by decide +kernel
theorem dL_law_354 : decode cL_law 354 = .ok (.aload_n 0, 1) := by decide +kernel
theorem dL_law_355 : decode cL_law 355 = .ok (.iload 5, 2) := by decide +kernel
theorem dL_law_357 : decode cL_law 357 = .ok (.iconst 1, 1) := by decide +kernel
theorem dL_law_358 : decode cL_law 358 = .ok (.iadd, 1) := by decide +kernel
theorem dL_law_359 : decode cL_law 359 = .ok (.iaload, 1) := by decide +kernel
theorem dL_law_360 : decode cL_law 360 = .ok (.aload_n 0, 1) := by decide +kernel
theorem dL_law_361 : decode cL_law 361 = .ok (.iload 5, 2) := by decide +kernel
theorem dL_law_363 : decode cL_law 363 = .ok (.iconst 2, 1) := by decide +kernel
theorem dL_law_364 : decode cL_law 364 = .ok (.iadd, 1) := by decide +kernel
theorem dL_law_365 : decode cL_law 365 = .ok (.iaload, 1) := by decide +kernel
theorem dL_law_366 : decode cL_law 366 = .ok (.aload_n 0, 1) := by decide +kernel
theorem dL_law_367 : decode cL_law 367 = .ok (.iload 5, 2) := by decide +kernel
theorem dL_law_369 : decode cL_law 369 = .ok (.iconst 3, 1) := by decide +kernel
theorem dL_law_370 : decode cL_law 370 = .ok (.iadd, 1) := by decide +kernel
theorem dL_law_371 : decode cL_law 371 = .ok (.iaload, 1) := by decide +kernel
theorem dL_law_372 : decode cL_law 372 = .ok (.aload_n 0, 1) := by decide +kernel
theorem dL_law_373 : decode cL_law 373 = .ok (.iload 5, 2) := by decide +kernel
theorem dL_law_375 : decode cL_law 375 = .ok (.iconst 4, 1) := by decide +kernel
theorem dL_law_376 : decode cL_law 376 = .ok (.iadd, 1) := by decide +kernel
theorem dL_law_377 : decode cL_law 377 = .ok (.iaload, 1) := by decide +kernel
theorem dL_law_378 : decode cL_law 378 = .ok (.aload_n 0, 1) := by decide +kernel
theorem dL_law_379 : decode cL_law 379 = .ok (.iload 5, 2) := by decide +kernel
theorem dL_law_381 : decode cL_law 381 = .ok (.iconst 5, 1) := by decide +kernel
theorem dL_law_382 : decode cL_law 382 = .ok (.iadd, 1) := by decide +kernel
theorem dL_law_383 : decode cL_law 383 = .ok (.iaload, 1) := by decide +kernel
theorem dL_law_384 : decode cL_law 384 = .ok (.invokevirtual 174, 3) := by decide +kernel
theorem dL_law_387 : decode cL_law 387 = .ok (.istore 7, 2) := by decide +kernel
theorem dL_law_389 : decode cL_law 389 = .ok (.aload_n 2, 1) := by decide +kernel
theorem dL_law_390 : decode cL_law 390 = .ok (.invokevirtual 175, 3) := by decide +kernel
theorem dL_law_393 : decode cL_law 393 = .ok (.iload 6, 2) := by decide +kernel
theorem dL_law_395 : decode cL_law 395 = .ok (.if_icmp .eq 5, 3) := by decide +kernel
theorem dL_law_398 : decode cL_law 398 = .ok (.iconst 0, 1) := by decide +kernel
theorem dL_law_399 : decode cL_law 399 = .ok (.ireturn, 1) := by decide +kernel
theorem dL_law_400 : decode cL_law 400 = .ok (.iload 6, 2) := by decide +kernel
theorem dL_law_402 : decode cL_law 402 = .ok (.ifCond .ne 15, 3) := by decide +kernel
theorem dL_law_405 : decode cL_law 405 = .ok (.aload_n 3, 1) := by decide +kernel
theorem dL_law_406 : decode cL_law 406 = .ok (.iconst 0, 1) := by decide +kernel
theorem dL_law_407 : decode cL_law 407 = .ok (.laload, 1) := by decide +kernel
theorem dL_law_408 : decode cL_law 408 = .ok (.iload 7, 2) := by decide +kernel
theorem dL_law_410 : decode cL_law 410 = .ok (.i2l, 1) := by decide +kernel
theorem dL_law_411 : decode cL_law 411 = .ok (.lcmp, 1) := by decide +kernel
theorem dL_law_412 : decode cL_law 412 = .ok (.ifCond .eq 5, 3) := by decide +kernel
theorem dL_law_415 : decode cL_law 415 = .ok (.iconst 0, 1) := by decide +kernel
theorem dL_law_416 : decode cL_law 416 = .ok (.ireturn, 1) := by decide +kernel
theorem dL_law_417 : decode cL_law 417 = .ok (.goto 2887, 3) := by decide +kernel
theorem dL_law_420 : decode cL_law 420 = .ok (.aload_n 1, 1) := by decide +kernel
theorem dL_law_421 : decode cL_law 421 = .ok (.aload_n 0, 1) := by decide +kernel
theorem dL_law_422 : decode cL_law 422 = .ok (.iload 5, 2) := by decide +kernel
theorem dL_law_424 : decode cL_law 424 = .ok (.iconst 1, 1) := by decide +kernel
theorem dL_law_425 : decode cL_law 425 = .ok (.iadd, 1) := by decide +kernel
theorem dL_law_426 : decode cL_law 426 = .ok (.iaload, 1) := by decide +kernel
theorem dL_law_427 : decode cL_law 427 = .ok (.aload_n 3, 1) := by decide +kernel
theorem dL_law_428 : decode cL_law 428 = .ok (.invokestatic 178, 3) := by decide +kernel
theorem dL_law_431 : decode cL_law 431 = .ok (.istore 6, 2) := by decide +kernel
theorem dL_law_433 : decode cL_law 433 = .ok (.aload_n 2, 1) := by decide +kernel
theorem dL_law_434 : decode cL_law 434 = .ok (.aload_n 0, 1) := by decide +kernel
theorem dL_law_435 : decode cL_law 435 = .ok (.iload 5, 2) := by decide +kernel
theorem dL_law_437 : decode cL_law 437 = .ok (.iconst 1, 1) := by decide +kernel
theorem dL_law_438 : decode cL_law 438 = .ok (.iadd, 1) := by decide +kernel
theorem dL_law_439 : decode cL_law 439 = .ok (.iaload, 1) := by decide +kernel
theorem dL_law_440 : decode cL_law 440 = .ok (.invokevirtual 181, 3) := by decide +kernel
theorem dL_law_443 : decode cL_law 443 = .ok (.istore 7, 2) := by decide +kernel
theorem dL_law_445 : decode cL_law 445 = .ok (.aload_n 2, 1) := by decide +kernel
theorem dL_law_446 : decode cL_law 446 = .ok (.invokevirtual 175, 3) := by decide +kernel
theorem dL_law_449 : decode cL_law 449 = .ok (.iload 6, 2) := by decide +kernel
theorem dL_law_451 : decode cL_law 451 = .ok (.if_icmp .eq 5, 3) := by decide +kernel
theorem dL_law_454 : decode cL_law 454 = .ok (.iconst 0, 1) := by decide +kernel
theorem dL_law_455 : decode cL_law 455 = .ok (.ireturn, 1) := by decide +kernel
theorem dL_law_456 : decode cL_law 456 = .ok (.iload 6, 2) := by decide +kernel
theorem dL_law_458 : decode cL_law 458 = .ok (.ifCond .ne 15, 3) := by decide +kernel
theorem dL_law_461 : decode cL_law 461 = .ok (.aload_n 3, 1) := by decide +kernel
theorem dL_law_462 : decode cL_law 462 = .ok (.iconst 0, 1) := by decide +kernel
theorem dL_law_463 : decode cL_law 463 = .ok (.laload, 1) := by decide +kernel
theorem dL_law_464 : decode cL_law 464 = .ok (.iload 7, 2) := by decide +kernel
theorem dL_law_466 : decode cL_law 466 = .ok (.i2l, 1) := by decide +kernel
theorem dL_law_467 : decode cL_law 467 = .ok (.lcmp, 1) := by decide +kernel
theorem dL_law_468 : decode cL_law 468 = .ok (.ifCond .eq 5, 3) := by decide +kernel
theorem dL_law_471 : decode cL_law 471 = .ok (.iconst 0, 1) := by decide +kernel
theorem dL_law_472 : decode cL_law 472 = .ok (.ireturn, 1) := by decide +kernel
theorem dL_law_473 : decode cL_law 473 = .ok (.goto 2831, 3) := by decide +kernel
theorem dL_law_476 : decode cL_law 476 = .ok (.aload_n 1, 1) := by decide +kernel
theorem dL_law_477 : decode cL_law 477 = .ok (.invokevirtual 182, 3) := by decide +kernel
theorem dL_law_480 : decode cL_law 480 = .ok (.aload_n 2, 1) := by decide +kernel
theorem dL_law_481 : decode cL_law 481 = .ok (.invokevirtual 185, 3) := by decide +kernel
theorem dL_law_484 : decode cL_law 484 = .ok (.if_icmp .eq 2820, 3) := by decide +kernel
theorem dL_law_487 : decode cL_law 487 = .ok (.iconst 0, 1) := by decide +kernel
theorem dL_law_488 : decode cL_law 488 = .ok (.ireturn, 1) := by decide +kernel
theorem dL_law_489 : decode cL_law 489 = .ok (.aload_n 1, 1) := by decide +kernel
theorem dL_law_490 : decode cL_law 490 = .ok (.invokevirtual 186, 3) := by decide +kernel
theorem dL_law_493 : decode cL_law 493 = .ok (.aload_n 2, 1) := by decide +kernel
theorem dL_law_494 : decode cL_law 494 = .ok (.invokevirtual 189, 3) := by decide +kernel
theorem dL_law_497 : decode cL_law 497 = .ok (.if_icmp .eq 2807, 3) := by decide +kernel
theorem dL_law_500 : decode cL_law 500 = .ok (.iconst 0, 1) := by decide +kernel
theorem dL_law_501 : decode cL_law 501 = .ok (.ireturn, 1) := by decide +kernel
theorem dL_law_502 : decode cL_law 502 = .ok (.aload_n 1, 1) := by decide +kernel
theorem dL_law_503 : decode cL_law 503 = .ok (.invokevirtual 190, 3) := by decide +kernel
theorem dL_law_506 : decode cL_law 506 = .ok (.aload_n 2, 1) := by decide +kernel
theorem dL_law_507 : decode cL_law 507 = .ok (.invokevirtual 193, 3) := by decide +kernel
theorem dL_law_510 : decode cL_law 510 = .ok (.if_icmp .eq 2794, 3) := by decide +kernel
theorem dL_law_513 : decode cL_law 513 = .ok (.iconst 0, 1) := by decide +kernel
theorem dL_law_514 : decode cL_law 514 = .ok (.ireturn, 1) := by decide +kernel
theorem dL_law_515 : decode cL_law 515 = .ok (.aload_n 1, 1) := by decide +kernel
theorem dL_law_516 : decode cL_law 516 = .ok (.invokevirtual 194, 3) := by decide +kernel
theorem dL_law_519 : decode cL_law 519 = .ok (.aload_n 2, 1) := by decide +kernel
theorem dL_law_520 : decode cL_law 520 = .ok (.invokevirtual 197, 3) := by decide +kernel
theorem dL_law_523 : decode cL_law 523 = .ok (.if_icmp .eq 2781, 3) := by decide +kernel
theorem dL_law_526 : decode cL_law 526 = .ok (.iconst 0, 1) := by decide +kernel
theorem dL_law_527 : decode cL_law 527 = .ok (.ireturn, 1) := by decide +kernel
theorem dL_law_528 : decode cL_law 528 = .ok (.aload_n 1, 1) := by decide +kernel
theorem dL_law_529 : decode cL_law 529 = .ok (.invokevirtual 198, 3) := by decide +kernel
theorem dL_law_532 : decode cL_law 532 = .ok (.aload_n 2, 1) := by decide +kernel
theorem dL_law_533 : decode cL_law 533 = .ok (.invokevirtual 201, 3) := by decide +kernel
theorem dL_law_536 : decode cL_law 536 = .ok (.if_icmp .eq 2768, 3) := by decide +kernel
theorem dL_law_539 : decode cL_law 539 = .ok (.iconst 0, 1) := by decide +kernel
theorem dL_law_540 : decode cL_law 540 = .ok (.ireturn, 1) := by decide +kernel
theorem dL_law_541 : decode cL_law 541 = .ok (.aload_n 1, 1) := by decide +kernel
theorem dL_law_542 : decode cL_law 542 = .ok (.invokevirtual 202, 3) := by decide +kernel
theorem dL_law_545 : decode cL_law 545 = .ok (.aload_n 2, 1) := by decide +kernel
theorem dL_law_546 : decode cL_law 546 = .ok (.invokevirtual 205, 3) := by decide +kernel
theorem dL_law_549 : decode cL_law 549 = .ok (.if_icmp .eq 2755, 3) := by decide +kernel
theorem dL_law_552 : decode cL_law 552 = .ok (.iconst 0, 1) := by decide +kernel
theorem dL_law_553 : decode cL_law 553 = .ok (.ireturn, 1) := by decide +kernel
theorem dL_law_554 : decode cL_law 554 = .ok (.aload_n 1, 1) := by decide +kernel
theorem dL_law_555 : decode cL_law 555 = .ok (.invokevirtual 206, 3) := by decide +kernel
theorem dL_law_558 : decode cL_law 558 = .ok (.aload_n 2, 1) := by decide +kernel
theorem dL_law_559 : decode cL_law 559 = .ok (.invokevirtual 209, 3) := by decide +kernel
theorem dL_law_562 : decode cL_law 562 = .ok (.if_icmp .eq 2742, 3) := by decide +kernel
theorem dL_law_565 : decode cL_law 565 = .ok (.iconst 0, 1) := by decide +kernel
theorem dL_law_566 : decode cL_law 566 = .ok (.ireturn, 1) := by decide +kernel
theorem dL_law_567 : decode cL_law 567 = .ok (.aload_n 1, 1) := by decide +kernel
theorem dL_law_568 : decode cL_law 568 = .ok (.aload_n 0, 1) := by decide +kernel
theorem dL_law_569 : decode cL_law 569 = .ok (.iload 5, 2) := by decide +kernel
theorem dL_law_571 : decode cL_law 571 = .ok (.iconst 1, 1) := by decide +kernel
theorem dL_law_572 : decode cL_law 572 = .ok (.iadd, 1) := by decide +kernel
theorem dL_law_573 : decode cL_law 573 = .ok (.iaload, 1) := by decide +kernel
theorem dL_law_574 : decode cL_law 574 = .ok (.aload_n 0, 1) := by decide +kernel
theorem dL_law_575 : decode cL_law 575 = .ok (.iload 5, 2) := by decide +kernel
theorem dL_law_577 : decode cL_law 577 = .ok (.iconst 2, 1) := by decide +kernel
theorem dL_law_578 : decode cL_law 578 = .ok (.iadd, 1) := by decide +kernel
theorem dL_law_579 : decode cL_law 579 = .ok (.iaload, 1) := by decide +kernel
theorem dL_law_580 : decode cL_law 580 = .ok (.aload_n 3, 1) := by decide +kernel
theorem dL_law_581 : decode cL_law 581 = .ok (.invokestatic 210, 3) := by decide +kernel
theorem dL_law_584 : decode cL_law 584 = .ok (.istore 6, 2) := by decide +kernel
theorem dL_law_586 : decode cL_law 586 = .ok (.aload_n 2, 1) := by decide +kernel
theorem dL_law_587 : decode cL_law 587 = .ok (.aload_n 0, 1) := by decide +kernel
theorem dL_law_588 : decode cL_law 588 = .ok (.iload 5, 2) := by decide +kernel
theorem dL_law_590 : decode cL_law 590 = .ok (.iconst 1, 1) := by decide +kernel
theorem dL_law_591 : decode cL_law 591 = .ok (.iadd, 1) := by decide +kernel
theorem dL_law_592 : decode cL_law 592 = .ok (.iaload, 1) := by decide +kernel
theorem dL_law_593 : decode cL_law 593 = .ok (.aload_n 0, 1) := by decide +kernel
theorem dL_law_594 : decode cL_law 594 = .ok (.iload 5, 2) := by decide +kernel
theorem dL_law_596 : decode cL_law 596 = .ok (.iconst 2, 1) := by decide +kernel
theorem dL_law_597 : decode cL_law 597 = .ok (.iadd, 1) := by decide +kernel
theorem dL_law_598 : decode cL_law 598 = .ok (.iaload, 1) := by decide +kernel
theorem dL_law_599 : decode cL_law 599 = .ok (.invokevirtual 213, 3) := by decide +kernel
theorem dL_law_602 : decode cL_law 602 = .ok (.istore 7, 2) := by decide +kernel
theorem dL_law_604 : decode cL_law 604 = .ok (.aload_n 2, 1) := by decide +kernel
theorem dL_law_605 : decode cL_law 605 = .ok (.invokevirtual 175, 3) := by decide +kernel
theorem dL_law_608 : decode cL_law 608 = .ok (.iload 6, 2) := by decide +kernel
theorem dL_law_610 : decode cL_law 610 = .ok (.if_icmp .eq 5, 3) := by decide +kernel
theorem dL_law_613 : decode cL_law 613 = .ok (.iconst 0, 1) := by decide +kernel
theorem dL_law_614 : decode cL_law 614 = .ok (.ireturn, 1) := by decide +kernel
theorem dL_law_615 : decode cL_law 615 = .ok (.iload 6, 2) := by decide +kernel
theorem dL_law_617 : decode cL_law 617 = .ok (.ifCond .ne 15, 3) := by decide +kernel
theorem dL_law_620 : decode cL_law 620 = .ok (.aload_n 3, 1) := by decide +kernel
theorem dL_law_621 : decode cL_law 621 = .ok (.iconst 0, 1) := by decide +kernel
theorem dL_law_622 : decode cL_law 622 = .ok (.laload, 1) := by decide +kernel
theorem dL_law_623 : decode cL_law 623 = .ok (.iload 7, 2) := by decide +kernel
theorem dL_law_625 : decode cL_law 625 = .ok (.i2l, 1) := by decide +kernel
theorem dL_law_626 : decode cL_law 626 = .ok (.lcmp, 1) := by decide +kernel
theorem dL_law_627 : decode cL_law 627 = .ok (.ifCond .eq 5, 3) := by decide +kernel
theorem dL_law_630 : decode cL_law 630 = .ok (.iconst 0, 1) := by decide +kernel
theorem dL_law_631 : decode cL_law 631 = .ok (.ireturn, 1) := by decide +kernel
theorem dL_law_632 : decode cL_law 632 = .ok (.goto 2672, 3) := by decide +kernel
theorem dL_law_635 : decode cL_law 635 = .ok (.aload_n 1, 1) := by decide +kernel
theorem dL_law_636 : decode cL_law 636 = .ok (.aload_n 0, 1) := by decide +kernel
theorem dL_law_637 : decode cL_law 637 = .ok (.iload 5, 2) := by decide +kernel
theorem dL_law_639 : decode cL_law 639 = .ok (.iconst 1, 1) := by decide +kernel
theorem dL_law_640 : decode cL_law 640 = .ok (.iadd, 1) := by decide +kernel
theorem dL_law_641 : decode cL_law 641 = .ok (.iaload, 1) := by decide +kernel
theorem dL_law_642 : decode cL_law 642 = .ok (.aload_n 0, 1) := by decide +kernel
theorem dL_law_643 : decode cL_law 643 = .ok (.iload 5, 2) := by decide +kernel
theorem dL_law_645 : decode cL_law 645 = .ok (.iconst 2, 1) := by decide +kernel
theorem dL_law_646 : decode cL_law 646 = .ok (.iadd, 1) := by decide +kernel
theorem dL_law_647 : decode cL_law 647 = .ok (.iaload, 1) := by decide +kernel
theorem dL_law_648 : decode cL_law 648 = .ok (.aload_n 0, 1) := by decide +kernel
theorem dL_law_649 : decode cL_law 649 = .ok (.iload 5, 2) := by decide +kernel
theorem dL_law_651 : decode cL_law 651 = .ok (.iconst 3, 1) := by decide +kernel
theorem dL_law_652 : decode cL_law 652 = .ok (.iadd, 1) := by decide +kernel
theorem dL_law_653 : decode cL_law 653 = .ok (.iaload, 1) := by decide +kernel
theorem dL_law_654 : decode cL_law 654 = .ok (.aload_n 3, 1) := by decide +kernel
theorem dL_law_655 : decode cL_law 655 = .ok (.invokestatic 214, 3) := by decide +kernel
theorem dL_law_658 : decode cL_law 658 = .ok (.istore 6, 2) := by decide +kernel
theorem dL_law_660 : decode cL_law 660 = .ok (.aload_n 2, 1) := by decide +kernel
theorem dL_law_661 : decode cL_law 661 = .ok (.aload_n 0, 1) := by decide +kernel
theorem dL_law_662 : decode cL_law 662 = .ok (.iload 5, 2) := by decide +kernel
theorem dL_law_664 : decode cL_law 664 = .ok (.iconst 1, 1) := by decide +kernel
theorem dL_law_665 : decode cL_law 665 = .ok (.iadd, 1) := by decide +kernel
theorem dL_law_666 : decode cL_law 666 = .ok (.iaload, 1) := by decide +kernel
theorem dL_law_667 : decode cL_law 667 = .ok (.aload_n 0, 1) := by decide +kernel
theorem dL_law_668 : decode cL_law 668 = .ok (.iload 5, 2) := by decide +kernel
theorem dL_law_670 : decode cL_law 670 = .ok (.iconst 2, 1) := by decide +kernel
theorem dL_law_671 : decode cL_law 671 = .ok (.iadd, 1) := by decide +kernel
theorem dL_law_672 : decode cL_law 672 = .ok (.iaload, 1) := by decide +kernel
theorem dL_law_673 : decode cL_law 673 = .ok (.aload_n 0, 1) := by decide +kernel
theorem dL_law_674 : decode cL_law 674 = .ok (.iload 5, 2) := by decide +kernel
theorem dL_law_676 : decode cL_law 676 = .ok (.iconst 3, 1) := by decide +kernel
theorem dL_law_677 : decode cL_law 677 = .ok (.iadd, 1) := by decide +kernel
theorem dL_law_678 : decode cL_law 678 = .ok (.iaload, 1) := by decide +kernel
theorem dL_law_679 : decode cL_law 679 = .ok (.invokevirtual 217, 3) := by decide +kernel
theorem dL_law_682 : decode cL_law 682 = .ok (.istore 7, 2) := by decide +kernel
theorem dL_law_684 : decode cL_law 684 = .ok (.aload_n 2, 1) := by decide +kernel
theorem dL_law_685 : decode cL_law 685 = .ok (.invokevirtual 175, 3) := by decide +kernel
theorem dL_law_688 : decode cL_law 688 = .ok (.iload 6, 2) := by decide +kernel
theorem dL_law_690 : decode cL_law 690 = .ok (.if_icmp .eq 5, 3) := by decide +kernel
theorem dL_law_693 : decode cL_law 693 = .ok (.iconst 0, 1) := by decide +kernel
theorem dL_law_694 : decode cL_law 694 = .ok (.ireturn, 1) := by decide +kernel
theorem dL_law_695 : decode cL_law 695 = .ok (.iload 6, 2) := by decide +kernel
theorem dL_law_697 : decode cL_law 697 = .ok (.ifCond .ne 15, 3) := by decide +kernel
theorem dL_law_700 : decode cL_law 700 = .ok (.aload_n 3, 1) := by decide +kernel
theorem dL_law_701 : decode cL_law 701 = .ok (.iconst 0, 1) := by decide +kernel
theorem dL_law_702 : decode cL_law 702 = .ok (.laload, 1) := by decide +kernel
theorem dL_law_703 : decode cL_law 703 = .ok (.iload 7, 2) := by decide +kernel
theorem dL_law_705 : decode cL_law 705 = .ok (.i2l, 1) := by decide +kernel
theorem dL_law_706 : decode cL_law 706 = .ok (.lcmp, 1) := by decide +kernel
theorem dL_law_707 : decode cL_law 707 = .ok (.ifCond .eq 5, 3) := by decide +kernel
theorem dL_law_710 : decode cL_law 710 = .ok (.iconst 0, 1) := by decide +kernel
theorem dL_law_711 : decode cL_law 711 = .ok (.ireturn, 1) := by decide +kernel
theorem dL_law_712 : decode cL_law 712 = .ok (.goto 2592, 3) := by decide +kernel
theorem dL_law_715 : decode cL_law 715 = .ok (.aload_n 1, 1) := by decide +kernel
theorem dL_law_716 : decode cL_law 716 = .ok (.aload_n 0, 1) := by decide +kernel
theorem dL_law_717 : decode cL_law 717 = .ok (.iload 5, 2) := by decide +kernel
theorem dL_law_719 : decode cL_law 719 = .ok (.iconst 1, 1) := by decide +kernel
theorem dL_law_720 : decode cL_law 720 = .ok (.iadd, 1) := by decide +kernel
theorem dL_law_721 : decode cL_law 721 = .ok (.iaload, 1) := by decide +kernel
theorem dL_law_722 : decode cL_law 722 = .ok (.aload_n 3, 1) := by decide +kernel
theorem dL_law_723 : decode cL_law 723 = .ok (.invokestatic 218, 3) := by decide +kernel
theorem dL_law_726 : decode cL_law 726 = .ok (.istore 6, 2) := by decide +kernel
theorem dL_law_728 : decode cL_law 728 = .ok (.aload_n 2, 1) := by decide +kernel
theorem dL_law_729 : decode cL_law 729 = .ok (.aload_n 0, 1) := by decide +kernel
theorem dL_law_730 : decode cL_law 730 = .ok (.iload 5, 2) := by decide +kernel
theorem dL_law_732 : decode cL_law 732 = .ok (.iconst 1, 1) := by decide +kernel
theorem dL_law_733 : decode cL_law 733 = .ok (.iadd, 1) := by decide +kernel
theorem dL_law_734 : decode cL_law 734 = .ok (.iaload, 1) := by decide +kernel
theorem dL_law_735 : decode cL_law 735 = .ok (.invokevirtual 220, 3) := by decide +kernel
theorem dL_law_738 : decode cL_law 738 = .ok (.istore 7, 2) := by decide +kernel
theorem dL_law_740 : decode cL_law 740 = .ok (.aload_n 2, 1) := by decide +kernel
theorem dL_law_741 : decode cL_law 741 = .ok (.invokevirtual 175, 3) := by decide +kernel
theorem dL_law_744 : decode cL_law 744 = .ok (.iload 6, 2) := by decide +kernel
theorem dL_law_746 : decode cL_law 746 = .ok (.if_icmp .eq 5, 3) := by decide +kernel
theorem dL_law_749 : decode cL_law 749 = .ok (.iconst 0, 1) := by decide +kernel
theorem dL_law_750 : decode cL_law 750 = .ok (.ireturn, 1) := by decide +kernel
theorem dL_law_751 : decode cL_law 751 = .ok (.iload 6, 2) := by decide +kernel
theorem dL_law_753 : decode cL_law 753 = .ok (.ifCond .ne 15, 3) := by decide +kernel
theorem dL_law_756 : decode cL_law 756 = .ok (.aload_n 3, 1) := by decide +kernel
theorem dL_law_757 : decode cL_law 757 = .ok (.iconst 0, 1) := by decide +kernel
theorem dL_law_758 : decode cL_law 758 = .ok (.laload, 1) := by decide +kernel
theorem dL_law_759 : decode cL_law 759 = .ok (.iload 7, 2) := by decide +kernel
theorem dL_law_761 : decode cL_law 761 = .ok (.i2l, 1) := by decide +kernel
theorem dL_law_762 : decode cL_law 762 = .ok (.lcmp, 1) := by decide +kernel
theorem dL_law_763 : decode cL_law 763 = .ok (.ifCond .eq 5, 3) := by decide +kernel
theorem dL_law_766 : decode cL_law 766 = .ok (.iconst 0, 1) := by decide +kernel
theorem dL_law_767 : decode cL_law 767 = .ok (.ireturn, 1) := by decide +kernel
theorem dL_law_768 : decode cL_law 768 = .ok (.goto 2536, 3) := by decide +kernel
theorem dL_law_771 : decode cL_law 771 = .ok (.aload_n 1, 1) := by decide +kernel
theorem dL_law_772 : decode cL_law 772 = .ok (.aload_n 0, 1) := by decide +kernel
theorem dL_law_773 : decode cL_law 773 = .ok (.iload 5, 2) := by decide +kernel
theorem dL_law_775 : decode cL_law 775 = .ok (.iconst 1, 1) := by decide +kernel
theorem dL_law_776 : decode cL_law 776 = .ok (.iadd, 1) := by decide +kernel
theorem dL_law_777 : decode cL_law 777 = .ok (.iaload, 1) := by decide +kernel
theorem dL_law_778 : decode cL_law 778 = .ok (.aload_n 3, 1) := by decide +kernel
theorem dL_law_779 : decode cL_law 779 = .ok (.invokestatic 221, 3) := by decide +kernel
theorem dL_law_782 : decode cL_law 782 = .ok (.istore 6, 2) := by decide +kernel
theorem dL_law_784 : decode cL_law 784 = .ok (.aload_n 2, 1) := by decide +kernel
theorem dL_law_785 : decode cL_law 785 = .ok (.aload_n 0, 1) := by decide +kernel
theorem dL_law_786 : decode cL_law 786 = .ok (.iload 5, 2) := by decide +kernel
theorem dL_law_788 : decode cL_law 788 = .ok (.iconst 1, 1) := by decide +kernel
theorem dL_law_789 : decode cL_law 789 = .ok (.iadd, 1) := by decide +kernel
theorem dL_law_790 : decode cL_law 790 = .ok (.iaload, 1) := by decide +kernel
theorem dL_law_791 : decode cL_law 791 = .ok (.invokevirtual 223, 3) := by decide +kernel
theorem dL_law_794 : decode cL_law 794 = .ok (.istore 7, 2) := by decide +kernel
theorem dL_law_796 : decode cL_law 796 = .ok (.aload_n 2, 1) := by decide +kernel
theorem dL_law_797 : decode cL_law 797 = .ok (.invokevirtual 175, 3) := by decide +kernel
theorem dL_law_800 : decode cL_law 800 = .ok (.iload 6, 2) := by decide +kernel
theorem dL_law_802 : decode cL_law 802 = .ok (.if_icmp .eq 5, 3) := by decide +kernel
theorem dL_law_805 : decode cL_law 805 = .ok (.iconst 0, 1) := by decide +kernel
theorem dL_law_806 : decode cL_law 806 = .ok (.ireturn, 1) := by decide +kernel
theorem dL_law_807 : decode cL_law 807 = .ok (.iload 6, 2) := by decide +kernel
theorem dL_law_809 : decode cL_law 809 = .ok (.ifCond .ne 15, 3) := by decide +kernel
theorem dL_law_812 : decode cL_law 812 = .ok (.aload_n 3, 1) := by decide +kernel
theorem dL_law_813 : decode cL_law 813 = .ok (.iconst 0, 1) := by decide +kernel
theorem dL_law_814 : decode cL_law 814 = .ok (.laload, 1) := by decide +kernel
theorem dL_law_815 : decode cL_law 815 = .ok (.iload 7, 2) := by decide +kernel
theorem dL_law_817 : decode cL_law 817 = .ok (.i2l, 1) := by decide +kernel
theorem dL_law_818 : decode cL_law 818 = .ok (.lcmp, 1) := by decide +kernel
theorem dL_law_819 : decode cL_law 819 = .ok (.ifCond .eq 5, 3) := by decide +kernel
theorem dL_law_822 : decode cL_law 822 = .ok (.iconst 0, 1) := by decide +kernel
theorem dL_law_823 : decode cL_law 823 = .ok (.ireturn, 1) := by decide +kernel
theorem dL_law_824 : decode cL_law 824 = .ok (.goto 2480, 3) := by decide +kernel
theorem dL_law_827 : decode cL_law 827 = .ok (.aload_n 1, 1) := by decide +kernel
theorem dL_law_828 : decode cL_law 828 = .ok (.aload_n 0, 1) := by decide +kernel
theorem dL_law_829 : decode cL_law 829 = .ok (.iload 5, 2) := by decide +kernel
theorem dL_law_831 : decode cL_law 831 = .ok (.iconst 1, 1) := by decide +kernel
theorem dL_law_832 : decode cL_law 832 = .ok (.iadd, 1) := by decide +kernel
theorem dL_law_833 : decode cL_law 833 = .ok (.iaload, 1) := by decide +kernel
theorem dL_law_834 : decode cL_law 834 = .ok (.aload_n 3, 1) := by decide +kernel
theorem dL_law_835 : decode cL_law 835 = .ok (.invokestatic 224, 3) := by decide +kernel
theorem dL_law_838 : decode cL_law 838 = .ok (.istore 6, 2) := by decide +kernel
theorem dL_law_840 : decode cL_law 840 = .ok (.aload_n 2, 1) := by decide +kernel
theorem dL_law_841 : decode cL_law 841 = .ok (.aload_n 0, 1) := by decide +kernel
theorem dL_law_842 : decode cL_law 842 = .ok (.iload 5, 2) := by decide +kernel
theorem dL_law_844 : decode cL_law 844 = .ok (.iconst 1, 1) := by decide +kernel
theorem dL_law_845 : decode cL_law 845 = .ok (.iadd, 1) := by decide +kernel
theorem dL_law_846 : decode cL_law 846 = .ok (.iaload, 1) := by decide +kernel
theorem dL_law_847 : decode cL_law 847 = .ok (.invokevirtual 226, 3) := by decide +kernel
theorem dL_law_850 : decode cL_law 850 = .ok (.istore 7, 2) := by decide +kernel
theorem dL_law_852 : decode cL_law 852 = .ok (.aload_n 2, 1) := by decide +kernel
theorem dL_law_853 : decode cL_law 853 = .ok (.invokevirtual 175, 3) := by decide +kernel
theorem dL_law_856 : decode cL_law 856 = .ok (.iload 6, 2) := by decide +kernel
theorem dL_law_858 : decode cL_law 858 = .ok (.if_icmp .eq 5, 3) := by decide +kernel
theorem dL_law_861 : decode cL_law 861 = .ok (.iconst 0, 1) := by decide +kernel
theorem dL_law_862 : decode cL_law 862 = .ok (.ireturn, 1) := by decide +kernel
theorem dL_law_863 : decode cL_law 863 = .ok (.iload 6, 2) := by decide +kernel
theorem dL_law_865 : decode cL_law 865 = .ok (.ifCond .ne 15, 3) := by decide +kernel
theorem dL_law_868 : decode cL_law 868 = .ok (.aload_n 3, 1) := by decide +kernel
theorem dL_law_869 : decode cL_law 869 = .ok (.iconst 0, 1) := by decide +kernel
theorem dL_law_870 : decode cL_law 870 = .ok (.laload, 1) := by decide +kernel
theorem dL_law_871 : decode cL_law 871 = .ok (.iload 7, 2) := by decide +kernel
theorem dL_law_873 : decode cL_law 873 = .ok (.i2l, 1) := by decide +kernel
theorem dL_law_874 : decode cL_law 874 = .ok (.lcmp, 1) := by decide +kernel
theorem dL_law_875 : decode cL_law 875 = .ok (.ifCond .eq 5, 3) := by decide +kernel
theorem dL_law_878 : decode cL_law 878 = .ok (.iconst 0, 1) := by decide +kernel
theorem dL_law_879 : decode cL_law 879 = .ok (.ireturn, 1) := by decide +kernel
theorem dL_law_880 : decode cL_law 880 = .ok (.goto 2424, 3) := by decide +kernel
theorem dL_law_883 : decode cL_law 883 = .ok (.aload_n 1, 1) := by decide +kernel
theorem dL_law_884 : decode cL_law 884 = .ok (.aload_n 3, 1) := by decide +kernel
theorem dL_law_885 : decode cL_law 885 = .ok (.invokestatic 227, 3) := by decide +kernel
theorem dL_law_888 : decode cL_law 888 = .ok (.istore 6, 2) := by decide +kernel
theorem dL_law_890 : decode cL_law 890 = .ok (.aload_n 2, 1) := by decide +kernel
theorem dL_law_891 : decode cL_law 891 = .ok (.invokevirtual 230, 3) := by decide +kernel
theorem dL_law_894 : decode cL_law 894 = .ok (.istore 7, 2) := by decide +kernel
theorem dL_law_896 : decode cL_law 896 = .ok (.aload_n 2, 1) := by decide +kernel
theorem dL_law_897 : decode cL_law 897 = .ok (.invokevirtual 175, 3) := by decide +kernel
theorem dL_law_900 : decode cL_law 900 = .ok (.iload 6, 2) := by decide +kernel
theorem dL_law_902 : decode cL_law 902 = .ok (.if_icmp .eq 5, 3) := by decide +kernel
theorem dL_law_905 : decode cL_law 905 = .ok (.iconst 0, 1) := by decide +kernel
theorem dL_law_906 : decode cL_law 906 = .ok (.ireturn, 1) := by decide +kernel
theorem dL_law_907 : decode cL_law 907 = .ok (.iload 6, 2) := by decide +kernel
theorem dL_law_909 : decode cL_law 909 = .ok (.ifCond .ne 15, 3) := by decide +kernel
theorem dL_law_912 : decode cL_law 912 = .ok (.aload_n 3, 1) := by decide +kernel
theorem dL_law_913 : decode cL_law 913 = .ok (.iconst 0, 1) := by decide +kernel
theorem dL_law_914 : decode cL_law 914 = .ok (.laload, 1) := by decide +kernel
theorem dL_law_915 : decode cL_law 915 = .ok (.iload 7, 2) := by decide +kernel
theorem dL_law_917 : decode cL_law 917 = .ok (.i2l, 1) := by decide +kernel
theorem dL_law_918 : decode cL_law 918 = .ok (.lcmp, 1) := by decide +kernel
theorem dL_law_919 : decode cL_law 919 = .ok (.ifCond .eq 5, 3) := by decide +kernel
theorem dL_law_922 : decode cL_law 922 = .ok (.iconst 0, 1) := by decide +kernel
theorem dL_law_923 : decode cL_law 923 = .ok (.ireturn, 1) := by decide +kernel
theorem dL_law_924 : decode cL_law 924 = .ok (.goto 2380, 3) := by decide +kernel
theorem dL_law_927 : decode cL_law 927 = .ok (.aload_n 1, 1) := by decide +kernel
theorem dL_law_928 : decode cL_law 928 = .ok (.aload_n 3, 1) := by decide +kernel
theorem dL_law_929 : decode cL_law 929 = .ok (.invokestatic 231, 3) := by decide +kernel
theorem dL_law_932 : decode cL_law 932 = .ok (.istore 6, 2) := by decide +kernel
theorem dL_law_934 : decode cL_law 934 = .ok (.aload_n 2, 1) := by decide +kernel
theorem dL_law_935 : decode cL_law 935 = .ok (.invokevirtual 233, 3) := by decide +kernel
theorem dL_law_938 : decode cL_law 938 = .ok (.istore 7, 2) := by decide +kernel
theorem dL_law_940 : decode cL_law 940 = .ok (.aload_n 2, 1) := by decide +kernel
theorem dL_law_941 : decode cL_law 941 = .ok (.invokevirtual 175, 3) := by decide +kernel
theorem dL_law_944 : decode cL_law 944 = .ok (.iload 6, 2) := by decide +kernel
theorem dL_law_946 : decode cL_law 946 = .ok (.if_icmp .eq 5, 3) := by decide +kernel
theorem dL_law_949 : decode cL_law 949 = .ok (.iconst 0, 1) := by decide +kernel
theorem dL_law_950 : decode cL_law 950 = .ok (.ireturn, 1) := by decide +kernel
theorem dL_law_951 : decode cL_law 951 = .ok (.iload 6, 2) := by decide +kernel
theorem dL_law_953 : decode cL_law 953 = .ok (.ifCond .ne 15, 3) := by decide +kernel
theorem dL_law_956 : decode cL_law 956 = .ok (.aload_n 3, 1) := by decide +kernel
theorem dL_law_957 : decode cL_law 957 = .ok (.iconst 0, 1) := by decide +kernel
theorem dL_law_958 : decode cL_law 958 = .ok (.laload, 1) := by decide +kernel
theorem dL_law_959 : decode cL_law 959 = .ok (.iload 7, 2) := by decide +kernel
theorem dL_law_961 : decode cL_law 961 = .ok (.i2l, 1) := by decide +kernel
theorem dL_law_962 : decode cL_law 962 = .ok (.lcmp, 1) := by decide +kernel
theorem dL_law_963 : decode cL_law 963 = .ok (.ifCond .eq 5, 3) := by decide +kernel
theorem dL_law_966 : decode cL_law 966 = .ok (.iconst 0, 1) := by decide +kernel
theorem dL_law_967 : decode cL_law 967 = .ok (.ireturn, 1) := by decide +kernel
theorem dL_law_968 : decode cL_law 968 = .ok (.goto 2336, 3) := by decide +kernel
theorem dL_law_971 : decode cL_law 971 = .ok (.aload_n 1, 1) := by decide +kernel
theorem dL_law_972 : decode cL_law 972 = .ok (.invokevirtual 234, 3) := by decide +kernel
theorem dL_law_975 : decode cL_law 975 = .ok (.aload_n 2, 1) := by decide +kernel
theorem dL_law_976 : decode cL_law 976 = .ok (.invokevirtual 237, 3) := by decide +kernel
theorem dL_law_979 : decode cL_law 979 = .ok (.if_icmp .eq 2325, 3) := by decide +kernel
theorem dL_law_982 : decode cL_law 982 = .ok (.iconst 0, 1) := by decide +kernel
theorem dL_law_983 : decode cL_law 983 = .ok (.ireturn, 1) := by decide +kernel
theorem dL_law_984 : decode cL_law 984 = .ok (.aload_n 1, 1) := by decide +kernel
theorem dL_law_985 : decode cL_law 985 = .ok (.aload_n 0, 1) := by decide +kernel
theorem dL_law_986 : decode cL_law 986 = .ok (.iload 5, 2) := by decide +kernel
theorem dL_law_988 : decode cL_law 988 = .ok (.iconst 1, 1) := by decide +kernel
theorem dL_law_989 : decode cL_law 989 = .ok (.iadd, 1) := by decide +kernel
theorem dL_law_990 : decode cL_law 990 = .ok (.iaload, 1) := by decide +kernel
theorem dL_law_991 : decode cL_law 991 = .ok (.aload_n 3, 1) := by decide +kernel
theorem dL_law_992 : decode cL_law 992 = .ok (.invokestatic 238, 3) := by decide +kernel
theorem dL_law_995 : decode cL_law 995 = .ok (.istore 6, 2) := by decide +kernel
theorem dL_law_997 : decode cL_law 997 = .ok (.aload_n 2, 1) := by decide +kernel
theorem dL_law_998 : decode cL_law 998 = .ok (.aload_n 0, 1) := by decide +kernel
theorem dL_law_999 : decode cL_law 999 = .ok (.iload 5, 2) := by decide +kernel
theorem dL_law_1001 : decode cL_law 1001 = .ok (.iconst 1, 1) := by decide +kernel
theorem dL_law_1002 : decode cL_law 1002 = .ok (.iadd, 1) := by decide +kernel
theorem dL_law_1003 : decode cL_law 1003 = .ok (.iaload, 1) := by decide +kernel
theorem dL_law_1004 : decode cL_law 1004 = .ok (.invokevirtual 240, 3) := by decide +kernel
theorem dL_law_1007 : decode cL_law 1007 = .ok (.istore 7, 2) := by decide +kernel
theorem dL_law_1009 : decode cL_law 1009 = .ok (.aload_n 2, 1) := by decide +kernel
theorem dL_law_1010 : decode cL_law 1010 = .ok (.invokevirtual 175, 3) := by decide +kernel
theorem dL_law_1013 : decode cL_law 1013 = .ok (.iload 6, 2) := by decide +kernel
theorem dL_law_1015 : decode cL_law 1015 = .ok (.if_icmp .eq 5, 3) := by decide +kernel
theorem dL_law_1018 : decode cL_law 1018 = .ok (.iconst 0, 1) := by decide +kernel
theorem dL_law_1019 : decode cL_law 1019 = .ok (.ireturn, 1) := by decide +kernel
theorem dL_law_1020 : decode cL_law 1020 = .ok (.iload 6, 2) := by decide +kernel
theorem dL_law_1022 : decode cL_law 1022 = .ok (.ifCond .ne 15, 3) := by decide +kernel
theorem dL_law_1025 : decode cL_law 1025 = .ok (.aload_n 3, 1) := by decide +kernel
theorem dL_law_1026 : decode cL_law 1026 = .ok (.iconst 0, 1) := by decide +kernel
theorem dL_law_1027 : decode cL_law 1027 = .ok (.laload, 1) := by decide +kernel
theorem dL_law_1028 : decode cL_law 1028 = .ok (.iload 7, 2) := by decide +kernel
theorem dL_law_1030 : decode cL_law 1030 = .ok (.i2l, 1) := by decide +kernel
theorem dL_law_1031 : decode cL_law 1031 = .ok (.lcmp, 1) := by decide +kernel
theorem dL_law_1032 : decode cL_law 1032 = .ok (.ifCond .eq 5, 3) := by decide +kernel
theorem dL_law_1035 : decode cL_law 1035 = .ok (.iconst 0, 1) := by decide +kernel
theorem dL_law_1036 : decode cL_law 1036 = .ok (.ireturn, 1) := by decide +kernel
theorem dL_law_1037 : decode cL_law 1037 = .ok (.goto 2267, 3) := by decide +kernel
theorem dL_law_1040 : decode cL_law 1040 = .ok (.aload_n 1, 1) := by decide +kernel
theorem dL_law_1041 : decode cL_law 1041 = .ok (.aload_n 0, 1) := by decide +kernel
theorem dL_law_1042 : decode cL_law 1042 = .ok (.iload 5, 2) := by decide +kernel
theorem dL_law_1044 : decode cL_law 1044 = .ok (.iconst 1, 1) := by decide +kernel
theorem dL_law_1045 : decode cL_law 1045 = .ok (.iadd, 1) := by decide +kernel
theorem dL_law_1046 : decode cL_law 1046 = .ok (.iaload, 1) := by decide +kernel
theorem dL_law_1047 : decode cL_law 1047 = .ok (.aload_n 0, 1) := by decide +kernel
theorem dL_law_1048 : decode cL_law 1048 = .ok (.iload 5, 2) := by decide +kernel
theorem dL_law_1050 : decode cL_law 1050 = .ok (.iconst 2, 1) := by decide +kernel
theorem dL_law_1051 : decode cL_law 1051 = .ok (.iadd, 1) := by decide +kernel
theorem dL_law_1052 : decode cL_law 1052 = .ok (.iaload, 1) := by decide +kernel
theorem dL_law_1053 : decode cL_law 1053 = .ok (.aload_n 3, 1) := by decide +kernel
theorem dL_law_1054 : decode cL_law 1054 = .ok (.invokestatic 241, 3) := by decide +kernel
theorem dL_law_1057 : decode cL_law 1057 = .ok (.istore 6, 2) := by decide +kernel
theorem dL_law_1059 : decode cL_law 1059 = .ok (.aload_n 2, 1) := by decide +kernel
theorem dL_law_1060 : decode cL_law 1060 = .ok (.aload_n 0, 1) := by decide +kernel
theorem dL_law_1061 : decode cL_law 1061 = .ok (.iload 5, 2) := by decide +kernel
theorem dL_law_1063 : decode cL_law 1063 = .ok (.iconst 1, 1) := by decide +kernel
theorem dL_law_1064 : decode cL_law 1064 = .ok (.iadd, 1) := by decide +kernel
theorem dL_law_1065 : decode cL_law 1065 = .ok (.iaload, 1) := by decide +kernel
theorem dL_law_1066 : decode cL_law 1066 = .ok (.aload_n 0, 1) := by decide +kernel
theorem dL_law_1067 : decode cL_law 1067 = .ok (.iload 5, 2) := by decide +kernel
theorem dL_law_1069 : decode cL_law 1069 = .ok (.iconst 2, 1) := by decide +kernel
theorem dL_law_1070 : decode cL_law 1070 = .ok (.iadd, 1) := by decide +kernel
theorem dL_law_1071 : decode cL_law 1071 = .ok (.iaload, 1) := by decide +kernel
theorem dL_law_1072 : decode cL_law 1072 = .ok (.invokevirtual 243, 3) := by decide +kernel
theorem dL_law_1075 : decode cL_law 1075 = .ok (.istore 7, 2) := by decide +kernel
theorem dL_law_1077 : decode cL_law 1077 = .ok (.aload_n 2, 1) := by decide +kernel
theorem dL_law_1078 : decode cL_law 1078 = .ok (.invokevirtual 175, 3) := by decide +kernel
theorem dL_law_1081 : decode cL_law 1081 = .ok (.iload 6, 2) := by decide +kernel
theorem dL_law_1083 : decode cL_law 1083 = .ok (.if_icmp .eq 5, 3) := by decide +kernel
theorem dL_law_1086 : decode cL_law 1086 = .ok (.iconst 0, 1) := by decide +kernel
theorem dL_law_1087 : decode cL_law 1087 = .ok (.ireturn, 1) := by decide +kernel
theorem dL_law_1088 : decode cL_law 1088 = .ok (.iload 6, 2) := by decide +kernel
theorem dL_law_1090 : decode cL_law 1090 = .ok (.ifCond .ne 15, 3) := by decide +kernel
theorem dL_law_1093 : decode cL_law 1093 = .ok (.aload_n 3, 1) := by decide +kernel
theorem dL_law_1094 : decode cL_law 1094 = .ok (.iconst 0, 1) := by decide +kernel
theorem dL_law_1095 : decode cL_law 1095 = .ok (.laload, 1) := by decide +kernel
theorem dL_law_1096 : decode cL_law 1096 = .ok (.iload 7, 2) := by decide +kernel
theorem dL_law_1098 : decode cL_law 1098 = .ok (.i2l, 1) := by decide +kernel
theorem dL_law_1099 : decode cL_law 1099 = .ok (.lcmp, 1) := by decide +kernel
theorem dL_law_1100 : decode cL_law 1100 = .ok (.ifCond .eq 5, 3) := by decide +kernel
theorem dL_law_1103 : decode cL_law 1103 = .ok (.iconst 0, 1) := by decide +kernel
theorem dL_law_1104 : decode cL_law 1104 = .ok (.ireturn, 1) := by decide +kernel
theorem dL_law_1105 : decode cL_law 1105 = .ok (.goto 2199, 3) := by decide +kernel
theorem dL_law_1108 : decode cL_law 1108 = .ok (.aload_n 1, 1) := by decide +kernel
theorem dL_law_1109 : decode cL_law 1109 = .ok (.invokevirtual 244, 3) := by decide +kernel
theorem dL_law_1112 : decode cL_law 1112 = .ok (.aload_n 2, 1) := by decide +kernel
theorem dL_law_1113 : decode cL_law 1113 = .ok (.invokevirtual 247, 3) := by decide +kernel
theorem dL_law_1116 : decode cL_law 1116 = .ok (.if_icmp .eq 2188, 3) := by decide +kernel
theorem dL_law_1119 : decode cL_law 1119 = .ok (.iconst 0, 1) := by decide +kernel
theorem dL_law_1120 : decode cL_law 1120 = .ok (.ireturn, 1) := by decide +kernel
theorem dL_law_1121 : decode cL_law 1121 = .ok (.aload_n 1, 1) := by decide +kernel
theorem dL_law_1122 : decode cL_law 1122 = .ok (.aload_n 0, 1) := by decide +kernel
theorem dL_law_1123 : decode cL_law 1123 = .ok (.iload 5, 2) := by decide +kernel
theorem dL_law_1125 : decode cL_law 1125 = .ok (.iconst 1, 1) := by decide +kernel
theorem dL_law_1126 : decode cL_law 1126 = .ok (.iadd, 1) := by decide +kernel
theorem dL_law_1127 : decode cL_law 1127 = .ok (.iaload, 1) := by decide +kernel
theorem dL_law_1128 : decode cL_law 1128 = .ok (.aload_n 3, 1) := by decide +kernel
theorem dL_law_1129 : decode cL_law 1129 = .ok (.invokestatic 248, 3) := by decide +kernel
theorem dL_law_1132 : decode cL_law 1132 = .ok (.istore 6, 2) := by decide +kernel
theorem dL_law_1134 : decode cL_law 1134 = .ok (.aload_n 2, 1) := by decide +kernel
theorem dL_law_1135 : decode cL_law 1135 = .ok (.aload_n 0, 1) := by decide +kernel
theorem dL_law_1136 : decode cL_law 1136 = .ok (.iload 5, 2) := by decide +kernel
theorem dL_law_1138 : decode cL_law 1138 = .ok (.iconst 1, 1) := by decide +kernel
theorem dL_law_1139 : decode cL_law 1139 = .ok (.iadd, 1) := by decide +kernel
theorem dL_law_1140 : decode cL_law 1140 = .ok (.iaload, 1) := by decide +kernel
theorem dL_law_1141 : decode cL_law 1141 = .ok (.invokevirtual 250, 3) := by decide +kernel
theorem dL_law_1144 : decode cL_law 1144 = .ok (.istore 7, 2) := by decide +kernel
theorem dL_law_1146 : decode cL_law 1146 = .ok (.aload_n 2, 1) := by decide +kernel
theorem dL_law_1147 : decode cL_law 1147 = .ok (.invokevirtual 175, 3) := by decide +kernel
theorem dL_law_1150 : decode cL_law 1150 = .ok (.iload 6, 2) := by decide +kernel
theorem dL_law_1152 : decode cL_law 1152 = .ok (.if_icmp .eq 5, 3) := by decide +kernel
theorem dL_law_1155 : decode cL_law 1155 = .ok (.iconst 0, 1) := by decide +kernel
theorem dL_law_1156 : decode cL_law 1156 = .ok (.ireturn, 1) := by decide +kernel
theorem dL_law_1157 : decode cL_law 1157 = .ok (.iload 6, 2) := by decide +kernel
theorem dL_law_1159 : decode cL_law 1159 = .ok (.ifCond .ne 15, 3) := by decide +kernel
theorem dL_law_1162 : decode cL_law 1162 = .ok (.aload_n 3, 1) := by decide +kernel
theorem dL_law_1163 : decode cL_law 1163 = .ok (.iconst 0, 1) := by decide +kernel
theorem dL_law_1164 : decode cL_law 1164 = .ok (.laload, 1) := by decide +kernel
theorem dL_law_1165 : decode cL_law 1165 = .ok (.iload 7, 2) := by decide +kernel
theorem dL_law_1167 : decode cL_law 1167 = .ok (.i2l, 1) := by decide +kernel
theorem dL_law_1168 : decode cL_law 1168 = .ok (.lcmp, 1) := by decide +kernel
theorem dL_law_1169 : decode cL_law 1169 = .ok (.ifCond .eq 5, 3) := by decide +kernel
theorem dL_law_1172 : decode cL_law 1172 = .ok (.iconst 0, 1) := by decide +kernel
theorem dL_law_1173 : decode cL_law 1173 = .ok (.ireturn, 1) := by decide +kernel
theorem dL_law_1174 : decode cL_law 1174 = .ok (.goto 2130, 3) := by decide +kernel
theorem dL_law_1177 : decode cL_law 1177 = .ok (.aload_n 1, 1) := by decide +kernel
theorem dL_law_1178 : decode cL_law 1178 = .ok (.aload_n 0, 1) := by decide +kernel
theorem dL_law_1179 : decode cL_law 1179 = .ok (.iload 5, 2) := by decide +kernel
theorem dL_law_1181 : decode cL_law 1181 = .ok (.iconst 1, 1) := by decide +kernel
theorem dL_law_1182 : decode cL_law 1182 = .ok (.iadd, 1) := by decide +kernel
theorem dL_law_1183 : decode cL_law 1183 = .ok (.iaload, 1) := by decide +kernel
theorem dL_law_1184 : decode cL_law 1184 = .ok (.aload_n 3, 1) := by decide +kernel
theorem dL_law_1185 : decode cL_law 1185 = .ok (.invokestatic 251, 3) := by decide +kernel
theorem dL_law_1188 : decode cL_law 1188 = .ok (.istore 6, 2) := by decide +kernel
theorem dL_law_1190 : decode cL_law 1190 = .ok (.aload_n 2, 1) := by decide +kernel
theorem dL_law_1191 : decode cL_law 1191 = .ok (.aload_n 0, 1) := by decide +kernel
theorem dL_law_1192 : decode cL_law 1192 = .ok (.iload 5, 2) := by decide +kernel
theorem dL_law_1194 : decode cL_law 1194 = .ok (.iconst 1, 1) := by decide +kernel
theorem dL_law_1195 : decode cL_law 1195 = .ok (.iadd, 1) := by decide +kernel
theorem dL_law_1196 : decode cL_law 1196 = .ok (.iaload, 1) := by decide +kernel
theorem dL_law_1197 : decode cL_law 1197 = .ok (.invokevirtual 253, 3) := by decide +kernel
theorem dL_law_1200 : decode cL_law 1200 = .ok (.istore 7, 2) := by decide +kernel
theorem dL_law_1202 : decode cL_law 1202 = .ok (.aload_n 2, 1) := by decide +kernel
theorem dL_law_1203 : decode cL_law 1203 = .ok (.invokevirtual 175, 3) := by decide +kernel
theorem dL_law_1206 : decode cL_law 1206 = .ok (.iload 6, 2) := by decide +kernel
theorem dL_law_1208 : decode cL_law 1208 = .ok (.if_icmp .eq 5, 3) := by decide +kernel
theorem dL_law_1211 : decode cL_law 1211 = .ok (.iconst 0, 1) := by decide +kernel
theorem dL_law_1212 : decode cL_law 1212 = .ok (.ireturn, 1) := by decide +kernel
theorem dL_law_1213 : decode cL_law 1213 = .ok (.iload 6, 2) := by decide +kernel
theorem dL_law_1215 : decode cL_law 1215 = .ok (.ifCond .ne 15, 3) := by decide +kernel
theorem dL_law_1218 : decode cL_law 1218 = .ok (.aload_n 3, 1) := by decide +kernel
theorem dL_law_1219 : decode cL_law 1219 = .ok (.iconst 0, 1) := by decide +kernel
theorem dL_law_1220 : decode cL_law 1220 = .ok (.laload, 1) := by decide +kernel
theorem dL_law_1221 : decode cL_law 1221 = .ok (.iload 7, 2) := by decide +kernel
theorem dL_law_1223 : decode cL_law 1223 = .ok (.i2l, 1) := by decide +kernel
theorem dL_law_1224 : decode cL_law 1224 = .ok (.lcmp, 1) := by decide +kernel
theorem dL_law_1225 : decode cL_law 1225 = .ok (.ifCond .eq 5, 3) := by decide +kernel
theorem dL_law_1228 : decode cL_law 1228 = .ok (.iconst 0, 1) := by decide +kernel
theorem dL_law_1229 : decode cL_law 1229 = .ok (.ireturn, 1) := by decide +kernel
theorem dL_law_1230 : decode cL_law 1230 = .ok (.goto 2074, 3) := by decide +kernel
theorem dL_law_1233 : decode cL_law 1233 = .ok (.aload_n 1, 1) := by decide +kernel
theorem dL_law_1234 : decode cL_law 1234 = .ok (.aload_n 0, 1) := by decide +kernel
theorem dL_law_1235 : decode cL_law 1235 = .ok (.iload 5, 2) := by decide +kernel
theorem dL_law_1237 : decode cL_law 1237 = .ok (.iconst 1, 1) := by decide +kernel
theorem dL_law_1238 : decode cL_law 1238 = .ok (.iadd, 1) := by decide +kernel
theorem dL_law_1239 : decode cL_law 1239 = .ok (.iaload, 1) := by decide +kernel
theorem dL_law_1240 : decode cL_law 1240 = .ok (.aload_n 0, 1) := by decide +kernel
theorem dL_law_1241 : decode cL_law 1241 = .ok (.iload 5, 2) := by decide +kernel
theorem dL_law_1243 : decode cL_law 1243 = .ok (.iconst 2, 1) := by decide +kernel
theorem dL_law_1244 : decode cL_law 1244 = .ok (.iadd, 1) := by decide +kernel
theorem dL_law_1245 : decode cL_law 1245 = .ok (.iaload, 1) := by decide +kernel
theorem dL_law_1246 : decode cL_law 1246 = .ok (.aload_n 3, 1) := by decide +kernel
theorem dL_law_1247 : decode cL_law 1247 = .ok (.invokestatic 254, 3) := by decide +kernel
theorem dL_law_1250 : decode cL_law 1250 = .ok (.istore 6, 2) := by decide +kernel
theorem dL_law_1252 : decode cL_law 1252 = .ok (.aload_n 2, 1) := by decide +kernel
theorem dL_law_1253 : decode cL_law 1253 = .ok (.aload_n 0, 1) := by decide +kernel
theorem dL_law_1254 : decode cL_law 1254 = .ok (.iload 5, 2) := by decide +kernel
theorem dL_law_1256 : decode cL_law 1256 = .ok (.iconst 1, 1) := by decide +kernel
theorem dL_law_1257 : decode cL_law 1257 = .ok (.iadd, 1) := by decide +kernel
theorem dL_law_1258 : decode cL_law 1258 = .ok (.iaload, 1) := by decide +kernel
theorem dL_law_1259 : decode cL_law 1259 = .ok (.aload_n 0, 1) := by decide +kernel
theorem dL_law_1260 : decode cL_law 1260 = .ok (.iload 5, 2) := by decide +kernel
theorem dL_law_1262 : decode cL_law 1262 = .ok (.iconst 2, 1) := by decide +kernel
theorem dL_law_1263 : decode cL_law 1263 = .ok (.iadd, 1) := by decide +kernel
theorem dL_law_1264 : decode cL_law 1264 = .ok (.iaload, 1) := by decide +kernel
theorem dL_law_1265 : decode cL_law 1265 = .ok (.invokevirtual 256, 3) := by decide +kernel
theorem dL_law_1268 : decode cL_law 1268 = .ok (.istore 7, 2) := by decide +kernel
theorem dL_law_1270 : decode cL_law 1270 = .ok (.aload_n 2, 1) := by decide +kernel
theorem dL_law_1271 : decode cL_law 1271 = .ok (.invokevirtual 175, 3) := by decide +kernel
theorem dL_law_1274 : decode cL_law 1274 = .ok (.iload 6, 2) := by decide +kernel
theorem dL_law_1276 : decode cL_law 1276 = .ok (.if_icmp .eq 5, 3) := by decide +kernel
theorem dL_law_1279 : decode cL_law 1279 = .ok (.iconst 0, 1) := by decide +kernel
theorem dL_law_1280 : decode cL_law 1280 = .ok (.ireturn, 1) := by decide +kernel
theorem dL_law_1281 : decode cL_law 1281 = .ok (.iload 6, 2) := by decide +kernel
theorem dL_law_1283 : decode cL_law 1283 = .ok (.ifCond .ne 15, 3) := by decide +kernel
theorem dL_law_1286 : decode cL_law 1286 = .ok (.aload_n 3, 1) := by decide +kernel
theorem dL_law_1287 : decode cL_law 1287 = .ok (.iconst 0, 1) := by decide +kernel
theorem dL_law_1288 : decode cL_law 1288 = .ok (.laload, 1) := by decide +kernel
theorem dL_law_1289 : decode cL_law 1289 = .ok (.iload 7, 2) := by decide +kernel
theorem dL_law_1291 : decode cL_law 1291 = .ok (.i2l, 1) := by decide +kernel
theorem dL_law_1292 : decode cL_law 1292 = .ok (.lcmp, 1) := by decide +kernel
theorem dL_law_1293 : decode cL_law 1293 = .ok (.ifCond .eq 5, 3) := by decide +kernel
theorem dL_law_1296 : decode cL_law 1296 = .ok (.iconst 0, 1) := by decide +kernel
theorem dL_law_1297 : decode cL_law 1297 = .ok (.ireturn, 1) := by decide +kernel
theorem dL_law_1298 : decode cL_law 1298 = .ok (.goto 2006, 3) := by decide +kernel
theorem dL_law_1301 : decode cL_law 1301 = .ok (.aload_n 1, 1) := by decide +kernel
theorem dL_law_1302 : decode cL_law 1302 = .ok (.aload_n 0, 1) := by decide +kernel
theorem dL_law_1303 : decode cL_law 1303 = .ok (.iload 5, 2) := by decide +kernel
theorem dL_law_1305 : decode cL_law 1305 = .ok (.iconst 1, 1) := by decide +kernel
theorem dL_law_1306 : decode cL_law 1306 = .ok (.iadd, 1) := by decide +kernel
theorem dL_law_1307 : decode cL_law 1307 = .ok (.iaload, 1) := by decide +kernel
theorem dL_law_1308 : decode cL_law 1308 = .ok (.aload_n 0, 1) := by decide +kernel
theorem dL_law_1309 : decode cL_law 1309 = .ok (.iload 5, 2) := by decide +kernel
theorem dL_law_1311 : decode cL_law 1311 = .ok (.iconst 2, 1) := by decide +kernel
theorem dL_law_1312 : decode cL_law 1312 = .ok (.iadd, 1) := by decide +kernel
theorem dL_law_1313 : decode cL_law 1313 = .ok (.iaload, 1) := by decide +kernel
theorem dL_law_1314 : decode cL_law 1314 = .ok (.aload 4, 2) := by decide +kernel
theorem dL_law_1316 : decode cL_law 1316 = .ok (.invokestatic 257, 3) := by decide +kernel
theorem dL_law_1319 : decode cL_law 1319 = .ok (.istore 6, 2) := by decide +kernel
theorem dL_law_1321 : decode cL_law 1321 = .ok (.aload_n 2, 1) := by decide +kernel
theorem dL_law_1322 : decode cL_law 1322 = .ok (.aload_n 0, 1) := by decide +kernel
theorem dL_law_1323 : decode cL_law 1323 = .ok (.iload 5, 2) := by decide +kernel
theorem dL_law_1325 : decode cL_law 1325 = .ok (.iconst 1, 1) := by decide +kernel
theorem dL_law_1326 : decode cL_law 1326 = .ok (.iadd, 1) := by decide +kernel
theorem dL_law_1327 : decode cL_law 1327 = .ok (.iaload, 1) := by decide +kernel
theorem dL_law_1328 : decode cL_law 1328 = .ok (.aload_n 0, 1) := by decide +kernel
theorem dL_law_1329 : decode cL_law 1329 = .ok (.iload 5, 2) := by decide +kernel
theorem dL_law_1331 : decode cL_law 1331 = .ok (.iconst 2, 1) := by decide +kernel
theorem dL_law_1332 : decode cL_law 1332 = .ok (.iadd, 1) := by decide +kernel
theorem dL_law_1333 : decode cL_law 1333 = .ok (.iaload, 1) := by decide +kernel
theorem dL_law_1334 : decode cL_law 1334 = .ok (.invokevirtual 260, 3) := by decide +kernel
theorem dL_law_1337 : decode cL_law 1337 = .ok (.fstore 7, 2) := by decide +kernel
theorem dL_law_1339 : decode cL_law 1339 = .ok (.aload_n 2, 1) := by decide +kernel
theorem dL_law_1340 : decode cL_law 1340 = .ok (.invokevirtual 175, 3) := by decide +kernel
theorem dL_law_1343 : decode cL_law 1343 = .ok (.iload 6, 2) := by decide +kernel
theorem dL_law_1345 : decode cL_law 1345 = .ok (.if_icmp .eq 5, 3) := by decide +kernel
theorem dL_law_1348 : decode cL_law 1348 = .ok (.iconst 0, 1) := by decide +kernel
theorem dL_law_1349 : decode cL_law 1349 = .ok (.ireturn, 1) := by decide +kernel
theorem dL_law_1350 : decode cL_law 1350 = .ok (.iload 6, 2) := by decide +kernel
theorem dL_law_1352 : decode cL_law 1352 = .ok (.ifCond .ne 36, 3) := by decide +kernel
theorem dL_law_1355 : decode cL_law 1355 = .ok (.aload 4, 2) := by decide +kernel
theorem dL_law_1357 : decode cL_law 1357 = .ok (.iconst 0, 1) := by decide +kernel
theorem dL_law_1358 : decode cL_law 1358 = .ok (.daload, 1) := by decide +kernel
theorem dL_law_1359 : decode cL_law 1359 = .ok (.fload 7, 2) := by decide +kernel
theorem dL_law_1361 : decode cL_law 1361 = .ok (.f2d, 1) := by decide +kernel
theorem dL_law_1362 : decode cL_law 1362 = .ok (.dcmp .l, 1) := by decide +kernel
theorem dL_law_1363 : decode cL_law 1363 = .ok (.ifCond .eq 25, 3) := by decide +kernel
theorem dL_law_1366 : decode cL_law 1366 = .ok (.aload 4, 2) := by decide +kernel
theorem dL_law_1368 : decode cL_law 1368 = .ok (.iconst 0, 1) := by decide +kernel
theorem dL_law_1369 : decode cL_law 1369 = .ok (.daload, 1) := by decide +kernel
theorem dL_law_1370 : decode cL_law 1370 = .ok (.aload 4, 2) := by decide +kernel
theorem dL_law_1372 : decode cL_law 1372 = .ok (.iconst 0, 1) := by decide +kernel
theorem dL_law_1373 : decode cL_law 1373 = .ok (.daload, 1) := by decide +kernel
theorem dL_law_1374 : decode cL_law 1374 = .ok (.dcmp .l, 1) := by decide +kernel
theorem dL_law_1375 : decode cL_law 1375 = .ok (.ifCond .eq 11, 3) := by decide +kernel
theorem dL_law_1378 : decode cL_law 1378 = .ok (.fload 7, 2) := by decide +kernel
theorem dL_law_1380 : decode cL_law 1380 = .ok (.fload 7, 2) := by decide +kernel
theorem dL_law_1382 : decode cL_law 1382 = .ok (.fcmp .l, 1) := by decide +kernel
theorem dL_law_1383 : decode cL_law 1383 = .ok (.ifCond .ne 5, 3) := by decide +kernel
theorem dL_law_1386 : decode cL_law 1386 = .ok (.iconst 0, 1) := by decide +kernel
theorem dL_law_1387 : decode cL_law 1387 = .ok (.ireturn, 1) := by decide +kernel
theorem dL_law_1388 : decode cL_law 1388 = .ok (.goto 1916, 3) := by decide +kernel
theorem dL_law_1391 : decode cL_law 1391 = .ok (.aload_n 1, 1) := by decide +kernel
theorem dL_law_1392 : decode cL_law 1392 = .ok (.aload_n 0, 1) := by decide +kernel
theorem dL_law_1393 : decode cL_law 1393 = .ok (.iload 5, 2) := by decide +kernel
theorem dL_law_1395 : decode cL_law 1395 = .ok (.iconst 1, 1) := by decide +kernel
theorem dL_law_1396 : decode cL_law 1396 = .ok (.iadd, 1) := by decide +kernel
theorem dL_law_1397 : decode cL_law 1397 = .ok (.iaload, 1) := by decide +kernel
theorem dL_law_1398 : decode cL_law 1398 = .ok (.aload_n 0, 1) := by decide +kernel
theorem dL_law_1399 : decode cL_law 1399 = .ok (.iload 5, 2) := by decide +kernel
theorem dL_law_1401 : decode cL_law 1401 = .ok (.iconst 2, 1) := by decide +kernel
theorem dL_law_1402 : decode cL_law 1402 = .ok (.iadd, 1) := by decide +kernel
theorem dL_law_1403 : decode cL_law 1403 = .ok (.iaload, 1) := by decide +kernel
theorem dL_law_1404 : decode cL_law 1404 = .ok (.aload_n 3, 1) := by decide +kernel
theorem dL_law_1405 : decode cL_law 1405 = .ok (.invokestatic 261, 3) := by decide +kernel
theorem dL_law_1408 : decode cL_law 1408 = .ok (.istore 6, 2) := by decide +kernel
theorem dL_law_1410 : decode cL_law 1410 = .ok (.aload_n 2, 1) := by decide +kernel
theorem dL_law_1411 : decode cL_law 1411 = .ok (.aload_n 0, 1) := by decide +kernel
theorem dL_law_1412 : decode cL_law 1412 = .ok (.iload 5, 2) := by decide +kernel
theorem dL_law_1414 : decode cL_law 1414 = .ok (.iconst 1, 1) := by decide +kernel
theorem dL_law_1415 : decode cL_law 1415 = .ok (.iadd, 1) := by decide +kernel
theorem dL_law_1416 : decode cL_law 1416 = .ok (.iaload, 1) := by decide +kernel
theorem dL_law_1417 : decode cL_law 1417 = .ok (.aload_n 0, 1) := by decide +kernel
theorem dL_law_1418 : decode cL_law 1418 = .ok (.iload 5, 2) := by decide +kernel
theorem dL_law_1420 : decode cL_law 1420 = .ok (.iconst 2, 1) := by decide +kernel
theorem dL_law_1421 : decode cL_law 1421 = .ok (.iadd, 1) := by decide +kernel
theorem dL_law_1422 : decode cL_law 1422 = .ok (.iaload, 1) := by decide +kernel
theorem dL_law_1423 : decode cL_law 1423 = .ok (.invokevirtual 263, 3) := by decide +kernel
theorem dL_law_1426 : decode cL_law 1426 = .ok (.istore 7, 2) := by decide +kernel
theorem dL_law_1428 : decode cL_law 1428 = .ok (.aload_n 2, 1) := by decide +kernel
theorem dL_law_1429 : decode cL_law 1429 = .ok (.invokevirtual 175, 3) := by decide +kernel
theorem dL_law_1432 : decode cL_law 1432 = .ok (.iload 6, 2) := by decide +kernel
theorem dL_law_1434 : decode cL_law 1434 = .ok (.if_icmp .eq 5, 3) := by decide +kernel
theorem dL_law_1437 : decode cL_law 1437 = .ok (.iconst 0, 1) := by decide +kernel
theorem dL_law_1438 : decode cL_law 1438 = .ok (.ireturn, 1) := by decide +kernel
theorem dL_law_1439 : decode cL_law 1439 = .ok (.iload 6, 2) := by decide +kernel
theorem dL_law_1441 : decode cL_law 1441 = .ok (.ifCond .ne 15, 3) := by decide +kernel
theorem dL_law_1444 : decode cL_law 1444 = .ok (.aload_n 3, 1) := by decide +kernel
theorem dL_law_1445 : decode cL_law 1445 = .ok (.iconst 0, 1) := by decide +kernel
theorem dL_law_1446 : decode cL_law 1446 = .ok (.laload, 1) := by decide +kernel
theorem dL_law_1447 : decode cL_law 1447 = .ok (.iload 7, 2) := by decide +kernel
theorem dL_law_1449 : decode cL_law 1449 = .ok (.i2l, 1) := by decide +kernel
theorem dL_law_1450 : decode cL_law 1450 = .ok (.lcmp, 1) := by decide +kernel
theorem dL_law_1451 : decode cL_law 1451 = .ok (.ifCond .eq 5, 3) := by decide +kernel
theorem dL_law_1454 : decode cL_law 1454 = .ok (.iconst 0, 1) := by decide +kernel
theorem dL_law_1455 : decode cL_law 1455 = .ok (.ireturn, 1) := by decide +kernel
theorem dL_law_1456 : decode cL_law 1456 = .ok (.goto 1848, 3) := by decide +kernel
theorem dL_law_1459 : decode cL_law 1459 = .ok (.aload_n 1, 1) := by decide +kernel
theorem dL_law_1460 : decode cL_law 1460 = .ok (.aload_n 0, 1) := by decide +kernel
theorem dL_law_1461 : decode cL_law 1461 = .ok (.iload 5, 2) := by decide +kernel
theorem dL_law_1463 : decode cL_law 1463 = .ok (.iconst 1, 1) := by decide +kernel
theorem dL_law_1464 : decode cL_law 1464 = .ok (.iadd, 1) := by decide +kernel
theorem dL_law_1465 : decode cL_law 1465 = .ok (.iaload, 1) := by decide +kernel
theorem dL_law_1466 : decode cL_law 1466 = .ok (.aload_n 0, 1) := by decide +kernel
theorem dL_law_1467 : decode cL_law 1467 = .ok (.iload 5, 2) := by decide +kernel
theorem dL_law_1469 : decode cL_law 1469 = .ok (.iconst 2, 1) := by decide +kernel
theorem dL_law_1470 : decode cL_law 1470 = .ok (.iadd, 1) := by decide +kernel
theorem dL_law_1471 : decode cL_law 1471 = .ok (.iaload, 1) := by decide +kernel
theorem dL_law_1472 : decode cL_law 1472 = .ok (.aload_n 3, 1) := by decide +kernel
theorem dL_law_1473 : decode cL_law 1473 = .ok (.invokestatic 264, 3) := by decide +kernel
theorem dL_law_1476 : decode cL_law 1476 = .ok (.istore 6, 2) := by decide +kernel
theorem dL_law_1478 : decode cL_law 1478 = .ok (.aload_n 2, 1) := by decide +kernel
theorem dL_law_1479 : decode cL_law 1479 = .ok (.aload_n 0, 1) := by decide +kernel
theorem dL_law_1480 : decode cL_law 1480 = .ok (.iload 5, 2) := by decide +kernel
theorem dL_law_1482 : decode cL_law 1482 = .ok (.iconst 1, 1) := by decide +kernel
theorem dL_law_1483 : decode cL_law 1483 = .ok (.iadd, 1) := by decide +kernel
theorem dL_law_1484 : decode cL_law 1484 = .ok (.iaload, 1) := by decide +kernel
theorem dL_law_1485 : decode cL_law 1485 = .ok (.aload_n 0, 1) := by decide +kernel
theorem dL_law_1486 : decode cL_law 1486 = .ok (.iload 5, 2) := by decide +kernel
theorem dL_law_1488 : decode cL_law 1488 = .ok (.iconst 2, 1) := by decide +kernel
theorem dL_law_1489 : decode cL_law 1489 = .ok (.iadd, 1) := by decide +kernel
theorem dL_law_1490 : decode cL_law 1490 = .ok (.iaload, 1) := by decide +kernel
theorem dL_law_1491 : decode cL_law 1491 = .ok (.invokevirtual 266, 3) := by decide +kernel
theorem dL_law_1494 : decode cL_law 1494 = .ok (.istore 7, 2) := by decide +kernel
theorem dL_law_1496 : decode cL_law 1496 = .ok (.aload_n 2, 1) := by decide +kernel
theorem dL_law_1497 : decode cL_law 1497 = .ok (.invokevirtual 175, 3) := by decide +kernel
theorem dL_law_1500 : decode cL_law 1500 = .ok (.iload 6, 2) := by decide +kernel
theorem dL_law_1502 : decode cL_law 1502 = .ok (.if_icmp .eq 5, 3) := by decide +kernel
theorem dL_law_1505 : decode cL_law 1505 = .ok (.iconst 0, 1) := by decide +kernel
theorem dL_law_1506 : decode cL_law 1506 = .ok (.ireturn, 1) := by decide +kernel
theorem dL_law_1507 : decode cL_law 1507 = .ok (.iload 6, 2) := by decide +kernel
theorem dL_law_1509 : decode cL_law 1509 = .ok (.ifCond .ne 15, 3) := by decide +kernel
theorem dL_law_1512 : decode cL_law 1512 = .ok (.aload_n 3, 1) := by decide +kernel
theorem dL_law_1513 : decode cL_law 1513 = .ok (.iconst 0, 1) := by decide +kernel
theorem dL_law_1514 : decode cL_law 1514 = .ok (.laload, 1) := by decide +kernel
theorem dL_law_1515 : decode cL_law 1515 = .ok (.iload 7, 2) := by decide +kernel
theorem dL_law_1517 : decode cL_law 1517 = .ok (.i2l, 1) := by decide +kernel
theorem dL_law_1518 : decode cL_law 1518 = .ok (.lcmp, 1) := by decide +kernel
theorem dL_law_1519 : decode cL_law 1519 = .ok (.ifCond .eq 5, 3) := by decide +kernel
theorem dL_law_1522 : decode cL_law 1522 = .ok (.iconst 0, 1) := by decide +kernel
theorem dL_law_1523 : decode cL_law 1523 = .ok (.ireturn, 1) := by decide +kernel
theorem dL_law_1524 : decode cL_law 1524 = .ok (.goto 1780, 3) := by decide +kernel
theorem dL_law_1527 : decode cL_law 1527 = .ok (.aload_n 1, 1) := by decide +kernel
theorem dL_law_1528 : decode cL_law 1528 = .ok (.aload_n 0, 1) := by decide +kernel
theorem dL_law_1529 : decode cL_law 1529 = .ok (.iload 5, 2) := by decide +kernel
theorem dL_law_1531 : decode cL_law 1531 = .ok (.iconst 1, 1) := by decide +kernel
theorem dL_law_1532 : decode cL_law 1532 = .ok (.iadd, 1) := by decide +kernel
theorem dL_law_1533 : decode cL_law 1533 = .ok (.iaload, 1) := by decide +kernel
theorem dL_law_1534 : decode cL_law 1534 = .ok (.aload_n 0, 1) := by decide +kernel
theorem dL_law_1535 : decode cL_law 1535 = .ok (.iload 5, 2) := by decide +kernel
theorem dL_law_1537 : decode cL_law 1537 = .ok (.iconst 2, 1) := by decide +kernel
theorem dL_law_1538 : decode cL_law 1538 = .ok (.iadd, 1) := by decide +kernel
theorem dL_law_1539 : decode cL_law 1539 = .ok (.iaload, 1) := by decide +kernel
theorem dL_law_1540 : decode cL_law 1540 = .ok (.aload_n 3, 1) := by decide +kernel
theorem dL_law_1541 : decode cL_law 1541 = .ok (.invokestatic 267, 3) := by decide +kernel
theorem dL_law_1544 : decode cL_law 1544 = .ok (.istore 6, 2) := by decide +kernel
theorem dL_law_1546 : decode cL_law 1546 = .ok (.aload_n 2, 1) := by decide +kernel
theorem dL_law_1547 : decode cL_law 1547 = .ok (.aload_n 0, 1) := by decide +kernel
theorem dL_law_1548 : decode cL_law 1548 = .ok (.iload 5, 2) := by decide +kernel
theorem dL_law_1550 : decode cL_law 1550 = .ok (.iconst 1, 1) := by decide +kernel
theorem dL_law_1551 : decode cL_law 1551 = .ok (.iadd, 1) := by decide +kernel
theorem dL_law_1552 : decode cL_law 1552 = .ok (.iaload, 1) := by decide +kernel
theorem dL_law_1553 : decode cL_law 1553 = .ok (.aload_n 0, 1) := by decide +kernel
theorem dL_law_1554 : decode cL_law 1554 = .ok (.iload 5, 2) := by decide +kernel
theorem dL_law_1556 : decode cL_law 1556 = .ok (.iconst 2, 1) := by decide +kernel
theorem dL_law_1557 : decode cL_law 1557 = .ok (.iadd, 1) := by decide +kernel
theorem dL_law_1558 : decode cL_law 1558 = .ok (.iaload, 1) := by decide +kernel
theorem dL_law_1559 : decode cL_law 1559 = .ok (.invokevirtual 269, 3) := by decide +kernel
theorem dL_law_1562 : decode cL_law 1562 = .ok (.istore 7, 2) := by decide +kernel
theorem dL_law_1564 : decode cL_law 1564 = .ok (.aload_n 2, 1) := by decide +kernel
theorem dL_law_1565 : decode cL_law 1565 = .ok (.invokevirtual 175, 3) := by decide +kernel
theorem dL_law_1568 : decode cL_law 1568 = .ok (.iload 6, 2) := by decide +kernel
theorem dL_law_1570 : decode cL_law 1570 = .ok (.if_icmp .eq 5, 3) := by decide +kernel
theorem dL_law_1573 : decode cL_law 1573 = .ok (.iconst 0, 1) := by decide +kernel
theorem dL_law_1574 : decode cL_law 1574 = .ok (.ireturn, 1) := by decide +kernel
theorem dL_law_1575 : decode cL_law 1575 = .ok (.iload 6, 2) := by decide +kernel
theorem dL_law_1577 : decode cL_law 1577 = .ok (.ifCond .ne 15, 3) := by decide +kernel
theorem dL_law_1580 : decode cL_law 1580 = .ok (.aload_n 3, 1) := by decide +kernel
theorem dL_law_1581 : decode cL_law 1581 = .ok (.iconst 0, 1) := by decide +kernel
theorem dL_law_1582 : decode cL_law 1582 = .ok (.laload, 1) := by decide +kernel
theorem dL_law_1583 : decode cL_law 1583 = .ok (.iload 7, 2) := by decide +kernel
theorem dL_law_1585 : decode cL_law 1585 = .ok (.i2l, 1) := by decide +kernel
theorem dL_law_1586 : decode cL_law 1586 = .ok (.lcmp, 1) := by decide +kernel
theorem dL_law_1587 : decode cL_law 1587 = .ok (.ifCond .eq 5, 3) := by decide +kernel
theorem dL_law_1590 : decode cL_law 1590 = .ok (.iconst 0, 1) := by decide +kernel
theorem dL_law_1591 : decode cL_law 1591 = .ok (.ireturn, 1) := by decide +kernel
theorem dL_law_1592 : decode cL_law 1592 = .ok (.goto 1712, 3) := by decide +kernel
theorem dL_law_1595 : decode cL_law 1595 = .ok (.aload_n 1, 1) := by decide +kernel
theorem dL_law_1596 : decode cL_law 1596 = .ok (.aload_n 0, 1) := by decide +kernel
theorem dL_law_1597 : decode cL_law 1597 = .ok (.iload 5, 2) := by decide +kernel
theorem dL_law_1599 : decode cL_law 1599 = .ok (.iconst 1, 1) := by decide +kernel
theorem dL_law_1600 : decode cL_law 1600 = .ok (.iadd, 1) := by decide +kernel
theorem dL_law_1601 : decode cL_law 1601 = .ok (.iaload, 1) := by decide +kernel
theorem dL_law_1602 : decode cL_law 1602 = .ok (.aload_n 3, 1) := by decide +kernel
theorem dL_law_1603 : decode cL_law 1603 = .ok (.invokestatic 270, 3) := by decide +kernel
theorem dL_law_1606 : decode cL_law 1606 = .ok (.istore 6, 2) := by decide +kernel
theorem dL_law_1608 : decode cL_law 1608 = .ok (.aload_n 2, 1) := by decide +kernel
theorem dL_law_1609 : decode cL_law 1609 = .ok (.aload_n 0, 1) := by decide +kernel
theorem dL_law_1610 : decode cL_law 1610 = .ok (.iload 5, 2) := by decide +kernel
theorem dL_law_1612 : decode cL_law 1612 = .ok (.iconst 1, 1) := by decide +kernel
theorem dL_law_1613 : decode cL_law 1613 = .ok (.iadd, 1) := by decide +kernel
theorem dL_law_1614 : decode cL_law 1614 = .ok (.iaload, 1) := by decide +kernel
theorem dL_law_1615 : decode cL_law 1615 = .ok (.invokevirtual 272, 3) := by decide +kernel
theorem dL_law_1618 : decode cL_law 1618 = .ok (.istore 7, 2) := by decide +kernel
theorem dL_law_1620 : decode cL_law 1620 = .ok (.aload_n 2, 1) := by decide +kernel
theorem dL_law_1621 : decode cL_law 1621 = .ok (.invokevirtual 175, 3) := by decide +kernel
theorem dL_law_1624 : decode cL_law 1624 = .ok (.iload 6, 2) := by decide +kernel
theorem dL_law_1626 : decode cL_law 1626 = .ok (.if_icmp .eq 5, 3) := by decide +kernel
theorem dL_law_1629 : decode cL_law 1629 = .ok (.iconst 0, 1) := by decide +kernel
theorem dL_law_1630 : decode cL_law 1630 = .ok (.ireturn, 1) := by decide +kernel
theorem dL_law_1631 : decode cL_law 1631 = .ok (.iload 6, 2) := by decide +kernel
theorem dL_law_1633 : decode cL_law 1633 = .ok (.ifCond .ne 15, 3) := by decide +kernel
theorem dL_law_1636 : decode cL_law 1636 = .ok (.aload_n 3, 1) := by decide +kernel
theorem dL_law_1637 : decode cL_law 1637 = .ok (.iconst 0, 1) := by decide +kernel
theorem dL_law_1638 : decode cL_law 1638 = .ok (.laload, 1) := by decide +kernel
theorem dL_law_1639 : decode cL_law 1639 = .ok (.iload 7, 2) := by decide +kernel
theorem dL_law_1641 : decode cL_law 1641 = .ok (.i2l, 1) := by decide +kernel
theorem dL_law_1642 : decode cL_law 1642 = .ok (.lcmp, 1) := by decide +kernel
theorem dL_law_1643 : decode cL_law 1643 = .ok (.ifCond .eq 5, 3) := by decide +kernel
theorem dL_law_1646 : decode cL_law 1646 = .ok (.iconst 0, 1) := by decide +kernel
theorem dL_law_1647 : decode cL_law 1647 = .ok (.ireturn, 1) := by decide +kernel
theorem dL_law_1648 : decode cL_law 1648 = .ok (.goto 1656, 3) := by decide +kernel
theorem dL_law_1651 : decode cL_law 1651 = .ok (.aload_n 1, 1) := by decide +kernel
theorem dL_law_1652 : decode cL_law 1652 = .ok (.aload_n 0, 1) := by decide +kernel
theorem dL_law_1653 : decode cL_law 1653 = .ok (.iload 5, 2) := by decide +kernel
theorem dL_law_1655 : decode cL_law 1655 = .ok (.iconst 1, 1) := by decide +kernel
theorem dL_law_1656 : decode cL_law 1656 = .ok (.iadd, 1) := by decide +kernel
theorem dL_law_1657 : decode cL_law 1657 = .ok (.iaload, 1) := by decide +kernel
theorem dL_law_1658 : decode cL_law 1658 = .ok (.aload_n 0, 1) := by decide +kernel
theorem dL_law_1659 : decode cL_law 1659 = .ok (.iload 5, 2) := by decide +kernel
theorem dL_law_1661 : decode cL_law 1661 = .ok (.iconst 2, 1) := by decide +kernel
theorem dL_law_1662 : decode cL_law 1662 = .ok (.iadd, 1) := by decide +kernel
theorem dL_law_1663 : decode cL_law 1663 = .ok (.iaload, 1) := by decide +kernel
theorem dL_law_1664 : decode cL_law 1664 = .ok (.aload_n 3, 1) := by decide +kernel
theorem dL_law_1665 : decode cL_law 1665 = .ok (.invokestatic 273, 3) := by decide +kernel
theorem dL_law_1668 : decode cL_law 1668 = .ok (.istore 6, 2) := by decide +kernel
theorem dL_law_1670 : decode cL_law 1670 = .ok (.aload_n 2, 1) := by decide +kernel
theorem dL_law_1671 : decode cL_law 1671 = .ok (.aload_n 0, 1) := by decide +kernel
theorem dL_law_1672 : decode cL_law 1672 = .ok (.iload 5, 2) := by decide +kernel
theorem dL_law_1674 : decode cL_law 1674 = .ok (.iconst 1, 1) := by decide +kernel
theorem dL_law_1675 : decode cL_law 1675 = .ok (.iadd, 1) := by decide +kernel
theorem dL_law_1676 : decode cL_law 1676 = .ok (.iaload, 1) := by decide +kernel
theorem dL_law_1677 : decode cL_law 1677 = .ok (.aload_n 0, 1) := by decide +kernel
theorem dL_law_1678 : decode cL_law 1678 = .ok (.iload 5, 2) := by decide +kernel
theorem dL_law_1680 : decode cL_law 1680 = .ok (.iconst 2, 1) := by decide +kernel
theorem dL_law_1681 : decode cL_law 1681 = .ok (.iadd, 1) := by decide +kernel
theorem dL_law_1682 : decode cL_law 1682 = .ok (.iaload, 1) := by decide +kernel
theorem dL_law_1683 : decode cL_law 1683 = .ok (.invokevirtual 275, 3) := by decide +kernel
theorem dL_law_1686 : decode cL_law 1686 = .ok (.istore 7, 2) := by decide +kernel
theorem dL_law_1688 : decode cL_law 1688 = .ok (.aload_n 2, 1) := by decide +kernel
theorem dL_law_1689 : decode cL_law 1689 = .ok (.invokevirtual 175, 3) := by decide +kernel
theorem dL_law_1692 : decode cL_law 1692 = .ok (.iload 6, 2) := by decide +kernel
theorem dL_law_1694 : decode cL_law 1694 = .ok (.if_icmp .eq 5, 3) := by decide +kernel
theorem dL_law_1697 : decode cL_law 1697 = .ok (.iconst 0, 1) := by decide +kernel
theorem dL_law_1698 : decode cL_law 1698 = .ok (.ireturn, 1) := by decide +kernel
theorem dL_law_1699 : decode cL_law 1699 = .ok (.iload 6, 2) := by decide +kernel
theorem dL_law_1701 : decode cL_law 1701 = .ok (.ifCond .ne 15, 3) := by decide +kernel
theorem dL_law_1704 : decode cL_law 1704 = .ok (.aload_n 3, 1) := by decide +kernel
theorem dL_law_1705 : decode cL_law 1705 = .ok (.iconst 0, 1) := by decide +kernel
theorem dL_law_1706 : decode cL_law 1706 = .ok (.laload, 1) := by decide +kernel
theorem dL_law_1707 : decode cL_law 1707 = .ok (.iload 7, 2) := by decide +kernel
theorem dL_law_1709 : decode cL_law 1709 = .ok (.i2l, 1) := by decide +kernel
theorem dL_law_1710 : decode cL_law 1710 = .ok (.lcmp, 1) := by decide +kernel
theorem dL_law_1711 : decode cL_law 1711 = .ok (.ifCond .eq 5, 3) := by decide +kernel
theorem dL_law_1714 : decode cL_law 1714 = .ok (.iconst 0, 1) := by decide +kernel
theorem dL_law_1715 : decode cL_law 1715 = .ok (.ireturn, 1) := by decide +kernel
theorem dL_law_1716 : decode cL_law 1716 = .ok (.goto 1588, 3) := by decide +kernel
theorem dL_law_1719 : decode cL_law 1719 = .ok (.aload_n 1, 1) := by decide +kernel
theorem dL_law_1720 : decode cL_law 1720 = .ok (.invokevirtual 276, 3) := by decide +kernel
theorem dL_law_1723 : decode cL_law 1723 = .ok (.aload_n 2, 1) := by decide +kernel
theorem dL_law_1724 : decode cL_law 1724 = .ok (.invokevirtual 279, 3) := by decide +kernel
theorem dL_law_1727 : decode cL_law 1727 = .ok (.if_icmp .eq 1577, 3) := by decide +kernel
theorem dL_law_1730 : decode cL_law 1730 = .ok (.iconst 0, 1) := by decide +kernel
theorem dL_law_1731 : decode cL_law 1731 = .ok (.ireturn, 1) := by decide +kernel
theorem dL_law_1732 : decode cL_law 1732 = .ok (.aload_n 1, 1) := by decide +kernel
theorem dL_law_1733 : decode cL_law 1733 = .ok (.aload_n 0, 1) := by decide +kernel
theorem dL_law_1734 : decode cL_law 1734 = .ok (.iload 5, 2) := by decide +kernel
theorem dL_law_1736 : decode cL_law 1736 = .ok (.iconst 1, 1) := by decide +kernel
theorem dL_law_1737 : decode cL_law 1737 = .ok (.iadd, 1) := by decide +kernel
theorem dL_law_1738 : decode cL_law 1738 = .ok (.iaload, 1) := by decide +kernel
theorem dL_law_1739 : decode cL_law 1739 = .ok (.aload_n 3, 1) := by decide +kernel
theorem dL_law_1740 : decode cL_law 1740 = .ok (.invokestatic 280, 3) := by decide +kernel
theorem dL_law_1743 : decode cL_law 1743 = .ok (.istore 6, 2) := by decide +kernel
theorem dL_law_1745 : decode cL_law 1745 = .ok (.aload_n 2, 1) := by decide +kernel
theorem dL_law_1746 : decode cL_law 1746 = .ok (.aload_n 0, 1) := by decide +kernel
theorem dL_law_1747 : decode cL_law 1747 = .ok (.iload 5, 2) := by decide +kernel
theorem dL_law_1749 : decode cL_law 1749 = .ok (.iconst 1, 1) := by decide +kernel
theorem dL_law_1750 : decode cL_law 1750 = .ok (.iadd, 1) := by decide +kernel
theorem dL_law_1751 : decode cL_law 1751 = .ok (.iaload, 1) := by decide +kernel
theorem dL_law_1752 : decode cL_law 1752 = .ok (.invokevirtual 282, 3) := by decide +kernel
theorem dL_law_1755 : decode cL_law 1755 = .ok (.istore 7, 2) := by decide +kernel
theorem dL_law_1757 : decode cL_law 1757 = .ok (.aload_n 2, 1) := by decide +kernel
theorem dL_law_1758 : decode cL_law 1758 = .ok (.invokevirtual 175, 3) := by decide +kernel
theorem dL_law_1761 : decode cL_law 1761 = .ok (.iload 6, 2) := by decide +kernel
theorem dL_law_1763 : decode cL_law 1763 = .ok (.if_icmp .eq 5, 3) := by decide +kernel
theorem dL_law_1766 : decode cL_law 1766 = .ok (.iconst 0, 1) := by decide +kernel
theorem dL_law_1767 : decode cL_law 1767 = .ok (.ireturn, 1) := by decide +kernel
theorem dL_law_1768 : decode cL_law 1768 = .ok (.iload 6, 2) := by decide +kernel
theorem dL_law_1770 : decode cL_law 1770 = .ok (.ifCond .ne 15, 3) := by decide +kernel
theorem dL_law_1773 : decode cL_law 1773 = .ok (.aload_n 3, 1) := by decide +kernel
theorem dL_law_1774 : decode cL_law 1774 = .ok (.iconst 0, 1) := by decide +kernel
theorem dL_law_1775 : decode cL_law 1775 = .ok (.laload, 1) := by decide +kernel
theorem dL_law_1776 : decode cL_law 1776 = .ok (.iload 7, 2) := by decide +kernel
theorem dL_law_1778 : decode cL_law 1778 = .ok (.i2l, 1) := by decide +kernel
theorem dL_law_1779 : decode cL_law 1779 = .ok (.lcmp, 1) := by decide +kernel
theorem dL_law_1780 : decode cL_law 1780 = .ok (.ifCond .eq 5, 3) := by decide +kernel
theorem dL_law_1783 : decode cL_law 1783 = .ok (.iconst 0, 1) := by decide +kernel
theorem dL_law_1784 : decode cL_law 1784 = .ok (.ireturn, 1) := by decide +kernel
theorem dL_law_1785 : decode cL_law 1785 = .ok (.goto 1519, 3) := by decide +kernel
theorem dL_law_1788 : decode cL_law 1788 = .ok (.aload_n 1, 1) := by decide +kernel
theorem dL_law_1789 : decode cL_law 1789 = .ok (.aload_n 0, 1) := by decide +kernel
theorem dL_law_1790 : decode cL_law 1790 = .ok (.iload 5, 2) := by decide +kernel
theorem dL_law_1792 : decode cL_law 1792 = .ok (.iconst 1, 1) := by decide +kernel
theorem dL_law_1793 : decode cL_law 1793 = .ok (.iadd, 1) := by decide +kernel
theorem dL_law_1794 : decode cL_law 1794 = .ok (.iaload, 1) := by decide +kernel
theorem dL_law_1795 : decode cL_law 1795 = .ok (.aload_n 3, 1) := by decide +kernel
theorem dL_law_1796 : decode cL_law 1796 = .ok (.invokestatic 283, 3) := by decide +kernel
theorem dL_law_1799 : decode cL_law 1799 = .ok (.istore 6, 2) := by decide +kernel
theorem dL_law_1801 : decode cL_law 1801 = .ok (.aload_n 2, 1) := by decide +kernel
theorem dL_law_1802 : decode cL_law 1802 = .ok (.aload_n 0, 1) := by decide +kernel
theorem dL_law_1803 : decode cL_law 1803 = .ok (.iload 5, 2) := by decide +kernel
theorem dL_law_1805 : decode cL_law 1805 = .ok (.iconst 1, 1) := by decide +kernel
theorem dL_law_1806 : decode cL_law 1806 = .ok (.iadd, 1) := by decide +kernel
theorem dL_law_1807 : decode cL_law 1807 = .ok (.iaload, 1) := by decide +kernel
theorem dL_law_1808 : decode cL_law 1808 = .ok (.invokevirtual 285, 3) := by decide +kernel
theorem dL_law_1811 : decode cL_law 1811 = .ok (.istore 7, 2) := by decide +kernel
theorem dL_law_1813 : decode cL_law 1813 = .ok (.aload_n 2, 1) := by decide +kernel
theorem dL_law_1814 : decode cL_law 1814 = .ok (.invokevirtual 175, 3) := by decide +kernel
theorem dL_law_1817 : decode cL_law 1817 = .ok (.iload 6, 2) := by decide +kernel
theorem dL_law_1819 : decode cL_law 1819 = .ok (.if_icmp .eq 5, 3) := by decide +kernel
theorem dL_law_1822 : decode cL_law 1822 = .ok (.iconst 0, 1) := by decide +kernel
theorem dL_law_1823 : decode cL_law 1823 = .ok (.ireturn, 1) := by decide +kernel
theorem dL_law_1824 : decode cL_law 1824 = .ok (.iload 6, 2) := by decide +kernel
theorem dL_law_1826 : decode cL_law 1826 = .ok (.ifCond .ne 15, 3) := by decide +kernel
theorem dL_law_1829 : decode cL_law 1829 = .ok (.aload_n 3, 1) := by decide +kernel
theorem dL_law_1830 : decode cL_law 1830 = .ok (.iconst 0, 1) := by decide +kernel
theorem dL_law_1831 : decode cL_law 1831 = .ok (.laload, 1) := by decide +kernel
theorem dL_law_1832 : decode cL_law 1832 = .ok (.iload 7, 2) := by decide +kernel
theorem dL_law_1834 : decode cL_law 1834 = .ok (.i2l, 1) := by decide +kernel
theorem dL_law_1835 : decode cL_law 1835 = .ok (.lcmp, 1) := by decide +kernel
theorem dL_law_1836 : decode cL_law 1836 = .ok (.ifCond .eq 5, 3) := by decide +kernel
theorem dL_law_1839 : decode cL_law 1839 = .ok (.iconst 0, 1) := by decide +kernel
theorem dL_law_1840 : decode cL_law 1840 = .ok (.ireturn, 1) := by decide +kernel
theorem dL_law_1841 : decode cL_law 1841 = .ok (.goto 1463, 3) := by decide +kernel
theorem dL_law_1844 : decode cL_law 1844 = .ok (.aload_n 1, 1) := by decide +kernel
theorem dL_law_1845 : decode cL_law 1845 = .ok (.aload_n 0, 1) := by decide +kernel
theorem dL_law_1846 : decode cL_law 1846 = .ok (.iload 5, 2) := by decide +kernel
theorem dL_law_1848 : decode cL_law 1848 = .ok (.iconst 1, 1) := by decide +kernel
theorem dL_law_1849 : decode cL_law 1849 = .ok (.iadd, 1) := by decide +kernel
theorem dL_law_1850 : decode cL_law 1850 = .ok (.iaload, 1) := by decide +kernel
theorem dL_law_1851 : decode cL_law 1851 = .ok (.aload_n 3, 1) := by decide +kernel
theorem dL_law_1852 : decode cL_law 1852 = .ok (.invokestatic 286, 3) := by decide +kernel
theorem dL_law_1855 : decode cL_law 1855 = .ok (.istore 6, 2) := by decide +kernel
theorem dL_law_1857 : decode cL_law 1857 = .ok (.aload_n 2, 1) := by decide +kernel
theorem dL_law_1858 : decode cL_law 1858 = .ok (.aload_n 0, 1) := by decide +kernel
theorem dL_law_1859 : decode cL_law 1859 = .ok (.iload 5, 2) := by decide +kernel
theorem dL_law_1861 : decode cL_law 1861 = .ok (.iconst 1, 1) := by decide +kernel
theorem dL_law_1862 : decode cL_law 1862 = .ok (.iadd, 1) := by decide +kernel
theorem dL_law_1863 : decode cL_law 1863 = .ok (.iaload, 1) := by decide +kernel
theorem dL_law_1864 : decode cL_law 1864 = .ok (.invokevirtual 288, 3) := by decide +kernel
theorem dL_law_1867 : decode cL_law 1867 = .ok (.istore 7, 2) := by decide +kernel
theorem dL_law_1869 : decode cL_law 1869 = .ok (.aload_n 2, 1) := by decide +kernel
theorem dL_law_1870 : decode cL_law 1870 = .ok (.invokevirtual 175, 3) := by decide +kernel
theorem dL_law_1873 : decode cL_law 1873 = .ok (.iload 6, 2) := by decide +kernel
theorem dL_law_1875 : decode cL_law 1875 = .ok (.if_icmp .eq 5, 3) := by decide +kernel
theorem dL_law_1878 : decode cL_law 1878 = .ok (.iconst 0, 1) := by decide +kernel
theorem dL_law_1879 : decode cL_law 1879 = .ok (.ireturn, 1) := by decide +kernel
theorem dL_law_1880 : decode cL_law 1880 = .ok (.iload 6, 2) := by decide +kernel
theorem dL_law_1882 : decode cL_law 1882 = .ok (.ifCond .ne 15, 3) := by decide +kernel
theorem dL_law_1885 : decode cL_law 1885 = .ok (.aload_n 3, 1) := by decide +kernel
theorem dL_law_1886 : decode cL_law 1886 = .ok (.iconst 0, 1) := by decide +kernel
theorem dL_law_1887 : decode cL_law 1887 = .ok (.laload, 1) := by decide +kernel
theorem dL_law_1888 : decode cL_law 1888 = .ok (.iload 7, 2) := by decide +kernel
theorem dL_law_1890 : decode cL_law 1890 = .ok (.i2l, 1) := by decide +kernel
theorem dL_law_1891 : decode cL_law 1891 = .ok (.lcmp, 1) := by decide +kernel
theorem dL_law_1892 : decode cL_law 1892 = .ok (.ifCond .eq 5, 3) := by decide +kernel
theorem dL_law_1895 : decode cL_law 1895 = .ok (.iconst 0, 1) := by decide +kernel
theorem dL_law_1896 : decode cL_law 1896 = .ok (.ireturn, 1) := by decide +kernel
theorem dL_law_1897 : decode cL_law 1897 = .ok (.goto 1407, 3) := by decide +kernel
theorem dL_law_1900 : decode cL_law 1900 = .ok (.aload_n 1, 1) := by decide +kernel
theorem dL_law_1901 : decode cL_law 1901 = .ok (.aload_n 0, 1) := by decide +kernel
theorem dL_law_1902 : decode cL_law 1902 = .ok (.iload 5, 2) := by decide +kernel
theorem dL_law_1904 : decode cL_law 1904 = .ok (.iconst 1, 1) := by decide +kernel
theorem dL_law_1905 : decode cL_law 1905 = .ok (.iadd, 1) := by decide +kernel
theorem dL_law_1906 : decode cL_law 1906 = .ok (.iaload, 1) := by decide +kernel
theorem dL_law_1907 : decode cL_law 1907 = .ok (.aload_n 3, 1) := by decide +kernel
theorem dL_law_1908 : decode cL_law 1908 = .ok (.invokestatic 289, 3) := by decide +kernel
theorem dL_law_1911 : decode cL_law 1911 = .ok (.istore 6, 2) := by decide +kernel
theorem dL_law_1913 : decode cL_law 1913 = .ok (.aload_n 2, 1) := by decide +kernel
theorem dL_law_1914 : decode cL_law 1914 = .ok (.aload_n 0, 1) := by decide +kernel
theorem dL_law_1915 : decode cL_law 1915 = .ok (.iload 5, 2) := by decide +kernel
theorem dL_law_1917 : decode cL_law 1917 = .ok (.iconst 1, 1) := by decide +kernel
theorem dL_law_1918 : decode cL_law 1918 = .ok (.iadd, 1) := by decide +kernel
theorem dL_law_1919 : decode cL_law 1919 = .ok (.iaload, 1) := by decide +kernel
theorem dL_law_1920 : decode cL_law 1920 = .ok (.invokevirtual 291, 3) := by decide +kernel
theorem dL_law_1923 : decode cL_law 1923 = .ok (.istore 7, 2) := by decide +kernel
theorem dL_law_1925 : decode cL_law 1925 = .ok (.aload_n 2, 1) := by decide +kernel
theorem dL_law_1926 : decode cL_law 1926 = .ok (.invokevirtual 175, 3) := by decide +kernel
theorem dL_law_1929 : decode cL_law 1929 = .ok (.iload 6, 2) := by decide +kernel
theorem dL_law_1931 : decode cL_law 1931 = .ok (.if_icmp .eq 5, 3) := by decide +kernel
theorem dL_law_1934 : decode cL_law 1934 = .ok (.iconst 0, 1) := by decide +kernel
theorem dL_law_1935 : decode cL_law 1935 = .ok (.ireturn, 1) := by decide +kernel
theorem dL_law_1936 : decode cL_law 1936 = .ok (.iload 6, 2) := by decide +kernel
theorem dL_law_1938 : decode cL_law 1938 = .ok (.ifCond .ne 15, 3) := by decide +kernel
theorem dL_law_1941 : decode cL_law 1941 = .ok (.aload_n 3, 1) := by decide +kernel
theorem dL_law_1942 : decode cL_law 1942 = .ok (.iconst 0, 1) := by decide +kernel
theorem dL_law_1943 : decode cL_law 1943 = .ok (.laload, 1) := by decide +kernel
theorem dL_law_1944 : decode cL_law 1944 = .ok (.iload 7, 2) := by decide +kernel
theorem dL_law_1946 : decode cL_law 1946 = .ok (.i2l, 1) := by decide +kernel
theorem dL_law_1947 : decode cL_law 1947 = .ok (.lcmp, 1) := by decide +kernel
theorem dL_law_1948 : decode cL_law 1948 = .ok (.ifCond .eq 5, 3) := by decide +kernel
theorem dL_law_1951 : decode cL_law 1951 = .ok (.iconst 0, 1) := by decide +kernel
theorem dL_law_1952 : decode cL_law 1952 = .ok (.ireturn, 1) := by decide +kernel
theorem dL_law_1953 : decode cL_law 1953 = .ok (.goto 1351, 3) := by decide +kernel
theorem dL_law_1956 : decode cL_law 1956 = .ok (.aload_n 1, 1) := by decide +kernel
theorem dL_law_1957 : decode cL_law 1957 = .ok (.aload_n 0, 1) := by decide +kernel
theorem dL_law_1958 : decode cL_law 1958 = .ok (.iload 5, 2) := by decide +kernel
theorem dL_law_1960 : decode cL_law 1960 = .ok (.iconst 1, 1) := by decide +kernel
theorem dL_law_1961 : decode cL_law 1961 = .ok (.iadd, 1) := by decide +kernel
theorem dL_law_1962 : decode cL_law 1962 = .ok (.iaload, 1) := by decide +kernel
theorem dL_law_1963 : decode cL_law 1963 = .ok (.aload_n 3, 1) := by decide +kernel
theorem dL_law_1964 : decode cL_law 1964 = .ok (.invokestatic 292, 3) := by decide +kernel
theorem dL_law_1967 : decode cL_law 1967 = .ok (.istore 6, 2) := by decide +kernel
theorem dL_law_1969 : decode cL_law 1969 = .ok (.aload_n 2, 1) := by decide +kernel
theorem dL_law_1970 : decode cL_law 1970 = .ok (.aload_n 0, 1) := by decide +kernel
theorem dL_law_1971 : decode cL_law 1971 = .ok (.iload 5, 2) := by decide +kernel
theorem dL_law_1973 : decode cL_law 1973 = .ok (.iconst 1, 1) := by decide +kernel
theorem dL_law_1974 : decode cL_law 1974 = .ok (.iadd, 1) := by decide +kernel
theorem dL_law_1975 : decode cL_law 1975 = .ok (.iaload, 1) := by decide +kernel
theorem dL_law_1976 : decode cL_law 1976 = .ok (.invokevirtual 294, 3) := by decide +kernel
theorem dL_law_1979 : decode cL_law 1979 = .ok (.istore 7, 2) := by decide +kernel
theorem dL_law_1981 : decode cL_law 1981 = .ok (.aload_n 2, 1) := by decide +kernel
theorem dL_law_1982 : decode cL_law 1982 = .ok (.invokevirtual 175, 3) := by decide +kernel
theorem dL_law_1985 : decode cL_law 1985 = .ok (.iload 6, 2) := by decide +kernel
theorem dL_law_1987 : decode cL_law 1987 = .ok (.if_icmp .eq 5, 3) := by decide +kernel
theorem dL_law_1990 : decode cL_law 1990 = .ok (.iconst 0, 1) := by decide +kernel
theorem dL_law_1991 : decode cL_law 1991 = .ok (.ireturn, 1) := by decide +kernel
theorem dL_law_1992 : decode cL_law 1992 = .ok (.iload 6, 2) := by decide +kernel
theorem dL_law_1994 : decode cL_law 1994 = .ok (.ifCond .ne 15, 3) := by decide +kernel
theorem dL_law_1997 : decode cL_law 1997 = .ok (.aload_n 3, 1) := by decide +kernel
theorem dL_law_1998 : decode cL_law 1998 = .ok (.iconst 0, 1) := by decide +kernel
theorem dL_law_1999 : decode cL_law 1999 = .ok (.laload, 1) := by decide +kernel
theorem dL_law_2000 : decode cL_law 2000 = .ok (.iload 7, 2) := by decide +kernel
theorem dL_law_2002 : decode cL_law 2002 = .ok (.i2l, 1) := by decide +kernel
theorem dL_law_2003 : decode cL_law 2003 = .ok (.lcmp, 1) := by decide +kernel
theorem dL_law_2004 : decode cL_law 2004 = .ok (.ifCond .eq 5, 3) := by decide +kernel
theorem dL_law_2007 : decode cL_law 2007 = .ok (.iconst 0, 1) := by decide +kernel
theorem dL_law_2008 : decode cL_law 2008 = .ok (.ireturn, 1) := by decide +kernel
theorem dL_law_2009 : decode cL_law 2009 = .ok (.goto 1295, 3) := by decide +kernel
theorem dL_law_2012 : decode cL_law 2012 = .ok (.aload_n 1, 1) := by decide +kernel
theorem dL_law_2013 : decode cL_law 2013 = .ok (.aload_n 0, 1) := by decide +kernel
theorem dL_law_2014 : decode cL_law 2014 = .ok (.iload 5, 2) := by decide +kernel
theorem dL_law_2016 : decode cL_law 2016 = .ok (.iconst 1, 1) := by decide +kernel
theorem dL_law_2017 : decode cL_law 2017 = .ok (.iadd, 1) := by decide +kernel
theorem dL_law_2018 : decode cL_law 2018 = .ok (.iaload, 1) := by decide +kernel
theorem dL_law_2019 : decode cL_law 2019 = .ok (.aload_n 3, 1) := by decide +kernel
theorem dL_law_2020 : decode cL_law 2020 = .ok (.invokestatic 295, 3) := by decide +kernel
theorem dL_law_2023 : decode cL_law 2023 = .ok (.istore 6, 2) := by decide +kernel
theorem dL_law_2025 : decode cL_law 2025 = .ok (.aload_n 2, 1) := by decide +kernel
theorem dL_law_2026 : decode cL_law 2026 = .ok (.aload_n 0, 1) := by decide +kernel
theorem dL_law_2027 : decode cL_law 2027 = .ok (.iload 5, 2) := by decide +kernel
theorem dL_law_2029 : decode cL_law 2029 = .ok (.iconst 1, 1) := by decide +kernel
theorem dL_law_2030 : decode cL_law 2030 = .ok (.iadd, 1) := by decide +kernel
theorem dL_law_2031 : decode cL_law 2031 = .ok (.iaload, 1) := by decide +kernel
theorem dL_law_2032 : decode cL_law 2032 = .ok (.invokevirtual 297, 3) := by decide +kernel
theorem dL_law_2035 : decode cL_law 2035 = .ok (.istore 7, 2) := by decide +kernel
theorem dL_law_2037 : decode cL_law 2037 = .ok (.aload_n 2, 1) := by decide +kernel
theorem dL_law_2038 : decode cL_law 2038 = .ok (.invokevirtual 175, 3) := by decide +kernel
theorem dL_law_2041 : decode cL_law 2041 = .ok (.iload 6, 2) := by decide +kernel
theorem dL_law_2043 : decode cL_law 2043 = .ok (.if_icmp .eq 5, 3) := by decide +kernel
theorem dL_law_2046 : decode cL_law 2046 = .ok (.iconst 0, 1) := by decide +kernel
theorem dL_law_2047 : decode cL_law 2047 = .ok (.ireturn, 1) := by decide +kernel
theorem dL_law_2048 : decode cL_law 2048 = .ok (.iload 6, 2) := by decide +kernel
theorem dL_law_2050 : decode cL_law 2050 = .ok (.ifCond .ne 15, 3) := by decide +kernel
theorem dL_law_2053 : decode cL_law 2053 = .ok (.aload_n 3, 1) := by decide +kernel
theorem dL_law_2054 : decode cL_law 2054 = .ok (.iconst 0, 1) := by decide +kernel
theorem dL_law_2055 : decode cL_law 2055 = .ok (.laload, 1) := by decide +kernel
theorem dL_law_2056 : decode cL_law 2056 = .ok (.iload 7, 2) := by decide +kernel
theorem dL_law_2058 : decode cL_law 2058 = .ok (.i2l, 1) := by decide +kernel
theorem dL_law_2059 : decode cL_law 2059 = .ok (.lcmp, 1) := by decide +kernel
theorem dL_law_2060 : decode cL_law 2060 = .ok (.ifCond .eq 5, 3) := by decide +kernel
theorem dL_law_2063 : decode cL_law 2063 = .ok (.iconst 0, 1) := by decide +kernel
theorem dL_law_2064 : decode cL_law 2064 = .ok (.ireturn, 1) := by decide +kernel
theorem dL_law_2065 : decode cL_law 2065 = .ok (.goto 1239, 3) := by decide +kernel
theorem dL_law_2068 : decode cL_law 2068 = .ok (.aload_n 1, 1) := by decide +kernel
theorem dL_law_2069 : decode cL_law 2069 = .ok (.invokevirtual 298, 3) := by decide +kernel
theorem dL_law_2072 : decode cL_law 2072 = .ok (.aload_n 2, 1) := by decide +kernel
theorem dL_law_2073 : decode cL_law 2073 = .ok (.invokevirtual 301, 3) := by decide +kernel
theorem dL_law_2076 : decode cL_law 2076 = .ok (.if_icmp .eq 1228, 3) := by decide +kernel
theorem dL_law_2079 : decode cL_law 2079 = .ok (.iconst 0, 1) := by decide +kernel
theorem dL_law_2080 : decode cL_law 2080 = .ok (.ireturn, 1) := by decide +kernel
theorem dL_law_2081 : decode cL_law 2081 = .ok (.aload_n 1, 1) := by decide +kernel
theorem dL_law_2082 : decode cL_law 2082 = .ok (.invokevirtual 302, 3) := by decide +kernel
theorem dL_law_2085 : decode cL_law 2085 = .ok (.aload_n 2, 1) := by decide +kernel
theorem dL_law_2086 : decode cL_law 2086 = .ok (.invokevirtual 305, 3) := by decide +kernel
theorem dL_law_2089 : decode cL_law 2089 = .ok (.if_icmp .eq 1215, 3) := by decide +kernel
theorem dL_law_2092 : decode cL_law 2092 = .ok (.iconst 0, 1) := by decide +kernel
theorem dL_law_2093 : decode cL_law 2093 = .ok (.ireturn, 1) := by decide +kernel
theorem dL_law_2094 : decode cL_law 2094 = .ok (.aload_n 1, 1) := by decide +kernel
theorem dL_law_2095 : decode cL_law 2095 = .ok (.invokevirtual 306, 3) := by decide +kernel
theorem dL_law_2098 : decode cL_law 2098 = .ok (.aload_n 2, 1) := by decide +kernel
theorem dL_law_2099 : decode cL_law 2099 = .ok (.invokevirtual 309, 3) := by decide +kernel
theorem dL_law_2102 : decode cL_law 2102 = .ok (.if_icmp .eq 1202, 3) := by decide +kernel
theorem dL_law_2105 : decode cL_law 2105 = .ok (.iconst 0, 1) := by decide +kernel
theorem dL_law_2106 : decode cL_law 2106 = .ok (.ireturn, 1) := by decide +kernel
theorem dL_law_2107 : decode cL_law 2107 = .ok (.aload_n 1, 1) := by decide +kernel
theorem dL_law_2108 : decode cL_law 2108 = .ok (.invokevirtual 310, 3) := by decide +kernel
theorem dL_law_2111 : decode cL_law 2111 = .ok (.aload_n 2, 1) := by decide +kernel
theorem dL_law_2112 : decode cL_law 2112 = .ok (.invokevirtual 313, 3) := by decide +kernel
theorem dL_law_2115 : decode cL_law 2115 = .ok (.if_icmp .eq 1189, 3) := by decide +kernel
theorem dL_law_2118 : decode cL_law 2118 = .ok (.iconst 0, 1) := by decide +kernel
theorem dL_law_2119 : decode cL_law 2119 = .ok (.ireturn, 1) := by decide +kernel
theorem dL_law_2120 : decode cL_law 2120 = .ok (.aload_n 1, 1) := by decide +kernel
theorem dL_law_2121 : decode cL_law 2121 = .ok (.aload_n 0, 1) := by decide +kernel
theorem dL_law_2122 : decode cL_law 2122 = .ok (.iload 5, 2) := by decide +kernel
theorem dL_law_2124 : decode cL_law 2124 = .ok (.iconst 1, 1) := by decide +kernel
theorem dL_law_2125 : decode cL_law 2125 = .ok (.iadd, 1) := by decide +kernel
theorem dL_law_2126 : decode cL_law 2126 = .ok (.iaload, 1) := by decide +kernel
theorem dL_law_2127 : decode cL_law 2127 = .ok (.aload_n 3, 1) := by decide +kernel
theorem dL_law_2128 : decode cL_law 2128 = .ok (.invokestatic 314, 3) := by decide +kernel
theorem dL_law_2131 : decode cL_law 2131 = .ok (.istore 6, 2) := by decide +kernel
theorem dL_law_2133 : decode cL_law 2133 = .ok (.aload_n 2, 1) := by decide +kernel
theorem dL_law_2134 : decode cL_law 2134 = .ok (.aload_n 0, 1) := by decide +kernel
theorem dL_law_2135 : decode cL_law 2135 = .ok (.iload 5, 2) := by decide +kernel
theorem dL_law_2137 : decode cL_law 2137 = .ok (.iconst 1, 1) := by decide +kernel
theorem dL_law_2138 : decode cL_law 2138 = .ok (.iadd, 1) := by decide +kernel
theorem dL_law_2139 : decode cL_law 2139 = .ok (.iaload, 1) := by decide +kernel
theorem dL_law_2140 : decode cL_law 2140 = .ok (.invokevirtual 316, 3) := by decide +kernel
theorem dL_law_2143 : decode cL_law 2143 = .ok (.istore 7, 2) := by decide +kernel
theorem dL_law_2145 : decode cL_law 2145 = .ok (.aload_n 2, 1) := by decide +kernel
theorem dL_law_2146 : decode cL_law 2146 = .ok (.invokevirtual 175, 3) := by decide +kernel
theorem dL_law_2149 : decode cL_law 2149 = .ok (.iload 6, 2) := by decide +kernel
theorem dL_law_2151 : decode cL_law 2151 = .ok (.if_icmp .eq 5, 3) := by decide +kernel
theorem dL_law_2154 : decode cL_law 2154 = .ok (.iconst 0, 1) := by decide +kernel
theorem dL_law_2155 : decode cL_law 2155 = .ok (.ireturn, 1) := by decide +kernel
theorem dL_law_2156 : decode cL_law 2156 = .ok (.iload 6, 2) := by decide +kernel
theorem dL_law_2158 : decode cL_law 2158 = .ok (.ifCond .ne 15, 3) := by decide +kernel
theorem dL_law_2161 : decode cL_law 2161 = .ok (.aload_n 3, 1) := by decide +kernel
theorem dL_law_2162 : decode cL_law 2162 = .ok (.iconst 0, 1) := by decide +kernel
theorem dL_law_2163 : decode cL_law 2163 = .ok (.laload, 1) := by decide +kernel
theorem dL_law_2164 : decode cL_law 2164 = .ok (.iload 7, 2) := by decide +kernel
theorem dL_law_2166 : decode cL_law 2166 = .ok (.i2l, 1) := by decide +kernel
theorem dL_law_2167 : decode cL_law 2167 = .ok (.lcmp, 1) := by decide +kernel
theorem dL_law_2168 : decode cL_law 2168 = .ok (.ifCond .eq 5, 3) := by decide +kernel
theorem dL_law_2171 : decode cL_law 2171 = .ok (.iconst 0, 1) := by decide +kernel
theorem dL_law_2172 : decode cL_law 2172 = .ok (.ireturn, 1) := by decide +kernel
theorem dL_law_2173 : decode cL_law 2173 = .ok (.goto 1131, 3) := by decide +kernel
theorem dL_law_2176 : decode cL_law 2176 = .ok (.aload_n 1, 1) := by decide +kernel
theorem dL_law_2177 : decode cL_law 2177 = .ok (.aload_n 0, 1) := by decide +kernel
theorem dL_law_2178 : decode cL_law 2178 = .ok (.iload 5, 2) := by decide +kernel
theorem dL_law_2180 : decode cL_law 2180 = .ok (.iconst 1, 1) := by decide +kernel
theorem dL_law_2181 : decode cL_law 2181 = .ok (.iadd, 1) := by decide +kernel
theorem dL_law_2182 : decode cL_law 2182 = .ok (.iaload, 1) := by decide +kernel
theorem dL_law_2183 : decode cL_law 2183 = .ok (.aload_n 3, 1) := by decide +kernel
theorem dL_law_2184 : decode cL_law 2184 = .ok (.invokestatic 317, 3) := by decide +kernel
theorem dL_law_2187 : decode cL_law 2187 = .ok (.istore 6, 2) := by decide +kernel
theorem dL_law_2189 : decode cL_law 2189 = .ok (.aload_n 2, 1) := by decide +kernel
theorem dL_law_2190 : decode cL_law 2190 = .ok (.aload_n 0, 1) := by decide +kernel
theorem dL_law_2191 : decode cL_law 2191 = .ok (.iload 5, 2) := by decide +kernel
theorem dL_law_2193 : decode cL_law 2193 = .ok (.iconst 1, 1) := by decide +kernel
theorem dL_law_2194 : decode cL_law 2194 = .ok (.iadd, 1) := by decide +kernel
theorem dL_law_2195 : decode cL_law 2195 = .ok (.iaload, 1) := by decide +kernel
theorem dL_law_2196 : decode cL_law 2196 = .ok (.invokevirtual 319, 3) := by decide +kernel
theorem dL_law_2199 : decode cL_law 2199 = .ok (.istore 7, 2) := by decide +kernel
theorem dL_law_2201 : decode cL_law 2201 = .ok (.aload_n 2, 1) := by decide +kernel
theorem dL_law_2202 : decode cL_law 2202 = .ok (.invokevirtual 175, 3) := by decide +kernel
theorem dL_law_2205 : decode cL_law 2205 = .ok (.iload 6, 2) := by decide +kernel
theorem dL_law_2207 : decode cL_law 2207 = .ok (.if_icmp .eq 5, 3) := by decide +kernel
theorem dL_law_2210 : decode cL_law 2210 = .ok (.iconst 0, 1) := by decide +kernel
theorem dL_law_2211 : decode cL_law 2211 = .ok (.ireturn, 1) := by decide +kernel
theorem dL_law_2212 : decode cL_law 2212 = .ok (.iload 6, 2) := by decide +kernel
theorem dL_law_2214 : decode cL_law 2214 = .ok (.ifCond .ne 15, 3) := by decide +kernel
theorem dL_law_2217 : decode cL_law 2217 = .ok (.aload_n 3, 1) := by decide +kernel
theorem dL_law_2218 : decode cL_law 2218 = .ok (.iconst 0, 1) := by decide +kernel
theorem dL_law_2219 : decode cL_law 2219 = .ok (.laload, 1) := by decide +kernel
theorem dL_law_2220 : decode cL_law 2220 = .ok (.iload 7, 2) := by decide +kernel
theorem dL_law_2222 : decode cL_law 2222 = .ok (.i2l, 1) := by decide +kernel
theorem dL_law_2223 : decode cL_law 2223 = .ok (.lcmp, 1) := by decide +kernel
theorem dL_law_2224 : decode cL_law 2224 = .ok (.ifCond .eq 5, 3) := by decide +kernel
theorem dL_law_2227 : decode cL_law 2227 = .ok (.iconst 0, 1) := by decide +kernel
theorem dL_law_2228 : decode cL_law 2228 = .ok (.ireturn, 1) := by decide +kernel
theorem dL_law_2229 : decode cL_law 2229 = .ok (.goto 1075, 3) := by decide +kernel
theorem dL_law_2232 : decode cL_law 2232 = .ok (.aload_n 1, 1) := by decide +kernel
theorem dL_law_2233 : decode cL_law 2233 = .ok (.invokevirtual 320, 3) := by decide +kernel
theorem dL_law_2236 : decode cL_law 2236 = .ok (.aload_n 2, 1) := by decide +kernel
theorem dL_law_2237 : decode cL_law 2237 = .ok (.invokevirtual 323, 3) := by decide +kernel
theorem dL_law_2240 : decode cL_law 2240 = .ok (.if_icmp .eq 1064, 3) := by decide +kernel
theorem dL_law_2243 : decode cL_law 2243 = .ok (.iconst 0, 1) := by decide +kernel
theorem dL_law_2244 : decode cL_law 2244 = .ok (.ireturn, 1) := by decide +kernel
theorem dL_law_2245 : decode cL_law 2245 = .ok (.aload_n 1, 1) := by decide +kernel
theorem dL_law_2246 : decode cL_law 2246 = .ok (.invokevirtual 324, 3) := by decide +kernel
theorem dL_law_2249 : decode cL_law 2249 = .ok (.aload_n 2, 1) := by decide +kernel
theorem dL_law_2250 : decode cL_law 2250 = .ok (.invokevirtual 327, 3) := by decide +kernel
theorem dL_law_2253 : decode cL_law 2253 = .ok (.if_icmp .eq 1051, 3) := by decide +kernel
theorem dL_law_2256 : decode cL_law 2256 = .ok (.iconst 0, 1) := by decide +kernel
theorem dL_law_2257 : decode cL_law 2257 = .ok (.ireturn, 1) := by decide +kernel
theorem dL_law_2258 : decode cL_law 2258 = .ok (.aload_n 1, 1) := by decide +kernel
theorem dL_law_2259 : decode cL_law 2259 = .ok (.aload_n 0, 1) := by decide +kernel
theorem dL_law_2260 : decode cL_law 2260 = .ok (.iload 5, 2) := by decide +kernel
theorem dL_law_2262 : decode cL_law 2262 = .ok (.iconst 1, 1) := by decide +kernel
theorem dL_law_2263 : decode cL_law 2263 = .ok (.iadd, 1) := by decide +kernel
theorem dL_law_2264 : decode cL_law 2264 = .ok (.iaload, 1) := by decide +kernel
theorem dL_law_2265 : decode cL_law 2265 = .ok (.aload_n 3, 1) := by decide +kernel
theorem dL_law_2266 : decode cL_law 2266 = .ok (.invokestatic 328, 3) := by decide +kernel
theorem dL_law_2269 : decode cL_law 2269 = .ok (.istore 6, 2) := by decide +kernel
theorem dL_law_2271 : decode cL_law 2271 = .ok (.aload_n 2, 1) := by decide +kernel
theorem dL_law_2272 : decode cL_law 2272 = .ok (.aload_n 0, 1) := by decide +kernel
theorem dL_law_2273 : decode cL_law 2273 = .ok (.iload 5, 2) := by decide +kernel
theorem dL_law_2275 : decode cL_law 2275 = .ok (.iconst 1, 1) := by decide +kernel
theorem dL_law_2276 : decode cL_law 2276 = .ok (.iadd, 1) := by decide +kernel
theorem dL_law_2277 : decode cL_law 2277 = .ok (.iaload, 1) := by decide +kernel
theorem dL_law_2278 : decode cL_law 2278 = .ok (.invokevirtual 330, 3) := by decide +kernel
theorem dL_law_2281 : decode cL_law 2281 = .ok (.istore 7, 2) := by decide +kernel
theorem dL_law_2283 : decode cL_law 2283 = .ok (.aload_n 2, 1) := by decide +kernel
theorem dL_law_2284 : decode cL_law 2284 = .ok (.invokevirtual 175, 3) := by decide +kernel
theorem dL_law_2287 : decode cL_law 2287 = .ok (.iload 6, 2) := by decide +kernel
theorem dL_law_2289 : decode cL_law 2289 = .ok (.if_icmp .eq 5, 3) := by decide +kernel
theorem dL_law_2292 : decode cL_law 2292 = .ok (.iconst 0, 1) := by decide +kernel
theorem dL_law_2293 : decode cL_law 2293 = .ok (.ireturn, 1) := by decide +kernel
theorem dL_law_2294 : decode cL_law 2294 = .ok (.iload 6, 2) := by decide +kernel
theorem dL_law_2296 : decode cL_law 2296 = .ok (.ifCond .ne 15, 3) := by decide +kernel
theorem dL_law_2299 : decode cL_law 2299 = .ok (.aload_n 3, 1) := by decide +kernel
theorem dL_law_2300 : decode cL_law 2300 = .ok (.iconst 0, 1) := by decide +kernel
theorem dL_law_2301 : decode cL_law 2301 = .ok (.laload, 1) := by decide +kernel
theorem dL_law_2302 : decode cL_law 2302 = .ok (.iload 7, 2) := by decide +kernel
theorem dL_law_2304 : decode cL_law 2304 = .ok (.i2l, 1) := by decide +kernel
theorem dL_law_2305 : decode cL_law 2305 = .ok (.lcmp, 1) := by decide +kernel
theorem dL_law_2306 : decode cL_law 2306 = .ok (.ifCond .eq 5, 3) := by decide +kernel
theorem dL_law_2309 : decode cL_law 2309 = .ok (.iconst 0, 1) := by decide +kernel
theorem dL_law_2310 : decode cL_law 2310 = .ok (.ireturn, 1) := by decide +kernel
theorem dL_law_2311 : decode cL_law 2311 = .ok (.goto 993, 3) := by decide +kernel
theorem dL_law_2314 : decode cL_law 2314 = .ok (.aload_n 1, 1) := by decide +kernel
theorem dL_law_2315 : decode cL_law 2315 = .ok (.aload_n 0, 1) := by decide +kernel
theorem dL_law_2316 : decode cL_law 2316 = .ok (.iload 5, 2) := by decide +kernel
theorem dL_law_2318 : decode cL_law 2318 = .ok (.iconst 1, 1) := by decide +kernel
theorem dL_law_2319 : decode cL_law 2319 = .ok (.iadd, 1) := by decide +kernel
theorem dL_law_2320 : decode cL_law 2320 = .ok (.iaload, 1) := by decide +kernel
theorem dL_law_2321 : decode cL_law 2321 = .ok (.aload_n 3, 1) := by decide +kernel
theorem dL_law_2322 : decode cL_law 2322 = .ok (.invokestatic 331, 3) := by decide +kernel
theorem dL_law_2325 : decode cL_law 2325 = .ok (.istore 6, 2) := by decide +kernel
theorem dL_law_2327 : decode cL_law 2327 = .ok (.aload_n 2, 1) := by decide +kernel
theorem dL_law_2328 : decode cL_law 2328 = .ok (.aload_n 0, 1) := by decide +kernel
theorem dL_law_2329 : decode cL_law 2329 = .ok (.iload 5, 2) := by decide +kernel
theorem dL_law_2331 : decode cL_law 2331 = .ok (.iconst 1, 1) := by decide +kernel
theorem dL_law_2332 : decode cL_law 2332 = .ok (.iadd, 1) := by decide +kernel
theorem dL_law_2333 : decode cL_law 2333 = .ok (.iaload, 1) := by decide +kernel
theorem dL_law_2334 : decode cL_law 2334 = .ok (.invokevirtual 333, 3) := by decide +kernel
theorem dL_law_2337 : decode cL_law 2337 = .ok (.istore 7, 2) := by decide +kernel
theorem dL_law_2339 : decode cL_law 2339 = .ok (.aload_n 2, 1) := by decide +kernel
theorem dL_law_2340 : decode cL_law 2340 = .ok (.invokevirtual 175, 3) := by decide +kernel
theorem dL_law_2343 : decode cL_law 2343 = .ok (.iload 6, 2) := by decide +kernel
theorem dL_law_2345 : decode cL_law 2345 = .ok (.if_icmp .eq 5, 3) := by decide +kernel
theorem dL_law_2348 : decode cL_law 2348 = .ok (.iconst 0, 1) := by decide +kernel
theorem dL_law_2349 : decode cL_law 2349 = .ok (.ireturn, 1) := by decide +kernel
theorem dL_law_2350 : decode cL_law 2350 = .ok (.iload 6, 2) := by decide +kernel
theorem dL_law_2352 : decode cL_law 2352 = .ok (.ifCond .ne 15, 3) := by decide +kernel
theorem dL_law_2355 : decode cL_law 2355 = .ok (.aload_n 3, 1) := by decide +kernel
theorem dL_law_2356 : decode cL_law 2356 = .ok (.iconst 0, 1) := by decide +kernel
theorem dL_law_2357 : decode cL_law 2357 = .ok (.laload, 1) := by decide +kernel
theorem dL_law_2358 : decode cL_law 2358 = .ok (.iload 7, 2) := by decide +kernel
theorem dL_law_2360 : decode cL_law 2360 = .ok (.i2l, 1) := by decide +kernel
theorem dL_law_2361 : decode cL_law 2361 = .ok (.lcmp, 1) := by decide +kernel
theorem dL_law_2362 : decode cL_law 2362 = .ok (.ifCond .eq 5, 3) := by decide +kernel
theorem dL_law_2365 : decode cL_law 2365 = .ok (.iconst 0, 1) := by decide +kernel
theorem dL_law_2366 : decode cL_law 2366 = .ok (.ireturn, 1) := by decide +kernel
theorem dL_law_2367 : decode cL_law 2367 = .ok (.goto 937, 3) := by decide +kernel
theorem dL_law_2370 : decode cL_law 2370 = .ok (.aload_n 1, 1) := by decide +kernel
theorem dL_law_2371 : decode cL_law 2371 = .ok (.aload_n 0, 1) := by decide +kernel
theorem dL_law_2372 : decode cL_law 2372 = .ok (.iload 5, 2) := by decide +kernel
theorem dL_law_2374 : decode cL_law 2374 = .ok (.iconst 1, 1) := by decide +kernel
theorem dL_law_2375 : decode cL_law 2375 = .ok (.iadd, 1) := by decide +kernel
theorem dL_law_2376 : decode cL_law 2376 = .ok (.iaload, 1) := by decide +kernel
theorem dL_law_2377 : decode cL_law 2377 = .ok (.aload_n 0, 1) := by decide +kernel
theorem dL_law_2378 : decode cL_law 2378 = .ok (.iload 5, 2) := by decide +kernel
theorem dL_law_2380 : decode cL_law 2380 = .ok (.iconst 2, 1) := by decide +kernel
theorem dL_law_2381 : decode cL_law 2381 = .ok (.iadd, 1) := by decide +kernel
theorem dL_law_2382 : decode cL_law 2382 = .ok (.iaload, 1) := by decide +kernel
theorem dL_law_2383 : decode cL_law 2383 = .ok (.aload_n 3, 1) := by decide +kernel
theorem dL_law_2384 : decode cL_law 2384 = .ok (.invokestatic 334, 3) := by decide +kernel
theorem dL_law_2387 : decode cL_law 2387 = .ok (.istore 6, 2) := by decide +kernel
theorem dL_law_2389 : decode cL_law 2389 = .ok (.aload_n 2, 1) := by decide +kernel
theorem dL_law_2390 : decode cL_law 2390 = .ok (.aload_n 0, 1) := by decide +kernel
theorem dL_law_2391 : decode cL_law 2391 = .ok (.iload 5, 2) := by decide +kernel
theorem dL_law_2393 : decode cL_law 2393 = .ok (.iconst 1, 1) := by decide +kernel
theorem dL_law_2394 : decode cL_law 2394 = .ok (.iadd, 1) := by decide +kernel
theorem dL_law_2395 : decode cL_law 2395 = .ok (.iaload, 1) := by decide +kernel
theorem dL_law_2396 : decode cL_law 2396 = .ok (.aload_n 0, 1) := by decide +kernel
theorem dL_law_2397 : decode cL_law 2397 = .ok (.iload 5, 2) := by decide +kernel
theorem dL_law_2399 : decode cL_law 2399 = .ok (.iconst 2, 1) := by decide +kernel
theorem dL_law_2400 : decode cL_law 2400 = .ok (.iadd, 1) := by decide +kernel
theorem dL_law_2401 : decode cL_law 2401 = .ok (.iaload, 1) := by decide +kernel
theorem dL_law_2402 : decode cL_law 2402 = .ok (.invokevirtual 336, 3) := by decide +kernel
theorem dL_law_2405 : decode cL_law 2405 = .ok (.istore 7, 2) := by decide +kernel
theorem dL_law_2407 : decode cL_law 2407 = .ok (.aload_n 2, 1) := by decide +kernel
theorem dL_law_2408 : decode cL_law 2408 = .ok (.invokevirtual 175, 3) := by decide +kernel
theorem dL_law_2411 : decode cL_law 2411 = .ok (.iload 6, 2) := by decide +kernel
theorem dL_law_2413 : decode cL_law 2413 = .ok (.if_icmp .eq 5, 3) := by decide +kernel
theorem dL_law_2416 : decode cL_law 2416 = .ok (.iconst 0, 1) := by decide +kernel
theorem dL_law_2417 : decode cL_law 2417 = .ok (.ireturn, 1) := by decide +kernel
theorem dL_law_2418 : decode cL_law 2418 = .ok (.iload 6, 2) := by decide +kernel
theorem dL_law_2420 : decode cL_law 2420 = .ok (.ifCond .ne 15, 3) := by decide +kernel
theorem dL_law_2423 : decode cL_law 2423 = .ok (.aload_n 3, 1) := by decide +kernel
theorem dL_law_2424 : decode cL_law 2424 = .ok (.iconst 0, 1) := by decide +kernel
theorem dL_law_2425 : decode cL_law 2425 = .ok (.laload, 1) := by decide +kernel
theorem dL_law_2426 : decode cL_law 2426 = .ok (.iload 7, 2) := by decide +kernel
theorem dL_law_2428 : decode cL_law 2428 = .ok (.i2l, 1) := by decide +kernel
theorem dL_law_2429 : decode cL_law 2429 = .ok (.lcmp, 1) := by decide +kernel
theorem dL_law_2430 : decode cL_law 2430 = .ok (.ifCond .eq 5, 3) := by decide +kernel
theorem dL_law_2433 : decode cL_law 2433 = .ok (.iconst 0, 1) := by decide +kernel
theorem dL_law_2434 : decode cL_law 2434 = .ok (.ireturn, 1) := by decide +kernel
theorem dL_law_2435 : decode cL_law 2435 = .ok (.goto 869, 3) := by decide +kernel
theorem dL_law_2438 : decode cL_law 2438 = .ok (.aload_n 1, 1) := by decide +kernel
theorem dL_law_2439 : decode cL_law 2439 = .ok (.aload_n 0, 1) := by decide +kernel
theorem dL_law_2440 : decode cL_law 2440 = .ok (.iload 5, 2) := by decide +kernel
theorem dL_law_2442 : decode cL_law 2442 = .ok (.iconst 1, 1) := by decide +kernel
theorem dL_law_2443 : decode cL_law 2443 = .ok (.iadd, 1) := by decide +kernel
theorem dL_law_2444 : decode cL_law 2444 = .ok (.iaload, 1) := by decide +kernel
theorem dL_law_2445 : decode cL_law 2445 = .ok (.aload_n 0, 1) := by decide +kernel
theorem dL_law_2446 : decode cL_law 2446 = .ok (.iload 5, 2) := by decide +kernel
theorem dL_law_2448 : decode cL_law 2448 = .ok (.iconst 2, 1) := by decide +kernel
theorem dL_law_2449 : decode cL_law 2449 = .ok (.iadd, 1) := by decide +kernel
theorem dL_law_2450 : decode cL_law 2450 = .ok (.iaload, 1) := by decide +kernel
theorem dL_law_2451 : decode cL_law 2451 = .ok (.aload_n 3, 1) := by decide +kernel
theorem dL_law_2452 : decode cL_law 2452 = .ok (.invokestatic 337, 3) := by decide +kernel
theorem dL_law_2455 : decode cL_law 2455 = .ok (.istore 6, 2) := by decide +kernel
theorem dL_law_2457 : decode cL_law 2457 = .ok (.aload_n 2, 1) := by decide +kernel
theorem dL_law_2458 : decode cL_law 2458 = .ok (.aload_n 0, 1) := by decide +kernel
theorem dL_law_2459 : decode cL_law 2459 = .ok (.iload 5, 2) := by decide +kernel
theorem dL_law_2461 : decode cL_law 2461 = .ok (.iconst 1, 1) := by decide +kernel
theorem dL_law_2462 : decode cL_law 2462 = .ok (.iadd, 1) := by decide +kernel
theorem dL_law_2463 : decode cL_law 2463 = .ok (.iaload, 1) := by decide +kernel
theorem dL_law_2464 : decode cL_law 2464 = .ok (.aload_n 0, 1) := by decide +kernel
theorem dL_law_2465 : decode cL_law 2465 = .ok (.iload 5, 2) := by decide +kernel
theorem dL_law_2467 : decode cL_law 2467 = .ok (.iconst 2, 1) := by decide +kernel
theorem dL_law_2468 : decode cL_law 2468 = .ok (.iadd, 1) := by decide +kernel
theorem dL_law_2469 : decode cL_law 2469 = .ok (.iaload, 1) := by decide +kernel
theorem dL_law_2470 : decode cL_law 2470 = .ok (.invokevirtual 339, 3) := by decide +kernel
theorem dL_law_2473 : decode cL_law 2473 = .ok (.istore 7, 2) := by decide +kernel
theorem dL_law_2475 : decode cL_law 2475 = .ok (.aload_n 2, 1) := by decide +kernel
theorem dL_law_2476 : decode cL_law 2476 = .ok (.invokevirtual 175, 3) := by decide +kernel
theorem dL_law_2479 : decode cL_law 2479 = .ok (.iload 6, 2) := by decide +kernel
theorem dL_law_2481 : decode cL_law 2481 = .ok (.if_icmp .eq 5, 3) := by decide +kernel
theorem dL_law_2484 : decode cL_law 2484 = .ok (.iconst 0, 1) := by decide +kernel
theorem dL_law_2485 : decode cL_law 2485 = .ok (.ireturn, 1) := by decide +kernel
theorem dL_law_2486 : decode cL_law 2486 = .ok (.iload 6, 2) := by decide +kernel
theorem dL_law_2488 : decode cL_law 2488 = .ok (.ifCond .ne 15, 3) := by decide +kernel
theorem dL_law_2491 : decode cL_law 2491 = .ok (.aload_n 3, 1) := by decide +kernel
theorem dL_law_2492 : decode cL_law 2492 = .ok (.iconst 0, 1) := by decide +kernel
theorem dL_law_2493 : decode cL_law 2493 = .ok (.laload, 1) := by decide +kernel
theorem dL_law_2494 : decode cL_law 2494 = .ok (.iload 7, 2) := by decide +kernel
theorem dL_law_2496 : decode cL_law 2496 = .ok (.i2l, 1) := by decide +kernel
theorem dL_law_2497 : decode cL_law 2497 = .ok (.lcmp, 1) := by decide +kernel
theorem dL_law_2498 : decode cL_law 2498 = .ok (.ifCond .eq 5, 3) := by decide +kernel
theorem dL_law_2501 : decode cL_law 2501 = .ok (.iconst 0, 1) := by decide +kernel
theorem dL_law_2502 : decode cL_law 2502 = .ok (.ireturn, 1) := by decide +kernel
theorem dL_law_2503 : decode cL_law 2503 = .ok (.goto 801, 3) := by decide +kernel
theorem dL_law_2506 : decode cL_law 2506 = .ok (.aload_n 1, 1) := by decide +kernel
theorem dL_law_2507 : decode cL_law 2507 = .ok (.aload_n 0, 1) := by decide +kernel
theorem dL_law_2508 : decode cL_law 2508 = .ok (.iload 5, 2) := by decide +kernel
theorem dL_law_2510 : decode cL_law 2510 = .ok (.iconst 1, 1) := by decide +kernel
theorem dL_law_2511 : decode cL_law 2511 = .ok (.iadd, 1) := by decide +kernel
theorem dL_law_2512 : decode cL_law 2512 = .ok (.iaload, 1) := by decide +kernel
theorem dL_law_2513 : decode cL_law 2513 = .ok (.aload_n 3, 1) := by decide +kernel
theorem dL_law_2514 : decode cL_law 2514 = .ok (.invokestatic 340, 3) := by decide +kernel
theorem dL_law_2517 : decode cL_law 2517 = .ok (.istore 6, 2) := by decide +kernel
theorem dL_law_2519 : decode cL_law 2519 = .ok (.aload_n 2, 1) := by decide +kernel
theorem dL_law_2520 : decode cL_law 2520 = .ok (.aload_n 0, 1) := by decide +kernel
theorem dL_law_2521 : decode cL_law 2521 = .ok (.iload 5, 2) := by decide +kernel
theorem dL_law_2523 : decode cL_law 2523 = .ok (.iconst 1, 1) := by decide +kernel
theorem dL_law_2524 : decode cL_law 2524 = .ok (.iadd, 1) := by decide +kernel
theorem dL_law_2525 : decode cL_law 2525 = .ok (.iaload, 1) := by decide +kernel
theorem dL_law_2526 : decode cL_law 2526 = .ok (.invokevirtual 342, 3) := by decide +kernel
theorem dL_law_2529 : decode cL_law 2529 = .ok (.istore 7, 2) := by decide +kernel
theorem dL_law_2531 : decode cL_law 2531 = .ok (.aload_n 2, 1) := by decide +kernel
theorem dL_law_2532 : decode cL_law 2532 = .ok (.invokevirtual 175, 3) := by decide +kernel
theorem dL_law_2535 : decode cL_law 2535 = .ok (.iload 6, 2) := by decide +kernel
theorem dL_law_2537 : decode cL_law 2537 = .ok (.if_icmp .eq 5, 3) := by decide +kernel
theorem dL_law_2540 : decode cL_law 2540 = .ok (.iconst 0, 1) := by decide +kernel
theorem dL_law_2541 : decode cL_law 2541 = .ok (.ireturn, 1) := by decide +kernel
theorem dL_law_2542 : decode cL_law 2542 = .ok (.iload 6, 2) := by decide +kernel
theorem dL_law_2544 : decode cL_law 2544 = .ok (.ifCond .ne 15, 3) := by decide +kernel
theorem dL_law_2547 : decode cL_law 2547 = .ok (.aload_n 3, 1) := by decide +kernel
theorem dL_law_2548 : decode cL_law 2548 = .ok (.iconst 0, 1) := by decide +kernel
theorem dL_law_2549 : decode cL_law 2549 = .ok (.laload, 1) := by decide +kernel
theorem dL_law_2550 : decode cL_law 2550 = .ok (.iload 7, 2) := by decide +kernel
theorem dL_law_2552 : decode cL_law 2552 = .ok (.i2l, 1) := by decide +kernel
theorem dL_law_2553 : decode cL_law 2553 = .ok (.lcmp, 1) := by decide +kernel
theorem dL_law_2554 : decode cL_law 2554 = .ok (.ifCond .eq 5, 3) := by decide +kernel
theorem dL_law_2557 : decode cL_law 2557 = .ok (.iconst 0, 1) := by decide +kernel
theorem dL_law_2558 : decode cL_law 2558 = .ok (.ireturn, 1) := by decide +kernel
theorem dL_law_2559 : decode cL_law 2559 = .ok (.goto 745, 3) := by decide +kernel
theorem dL_law_2562 : decode cL_law 2562 = .ok (.aload_n 1, 1) := by decide +kernel
theorem dL_law_2563 : decode cL_law 2563 = .ok (.aload_n 0, 1) := by decide +kernel
theorem dL_law_2564 : decode cL_law 2564 = .ok (.iload 5, 2) := by decide +kernel
theorem dL_law_2566 : decode cL_law 2566 = .ok (.iconst 1, 1) := by decide +kernel
theorem dL_law_2567 : decode cL_law 2567 = .ok (.iadd, 1) := by decide +kernel
theorem dL_law_2568 : decode cL_law 2568 = .ok (.iaload, 1) := by decide +kernel
theorem dL_law_2569 : decode cL_law 2569 = .ok (.aload_n 3, 1) := by decide +kernel
theorem dL_law_2570 : decode cL_law 2570 = .ok (.invokestatic 343, 3) := by decide +kernel
theorem dL_law_2573 : decode cL_law 2573 = .ok (.istore 6, 2) := by decide +kernel
theorem dL_law_2575 : decode cL_law 2575 = .ok (.aload_n 2, 1) := by decide +kernel
theorem dL_law_2576 : decode cL_law 2576 = .ok (.aload_n 0, 1) := by decide +kernel
theorem dL_law_2577 : decode cL_law 2577 = .ok (.iload 5, 2) := by decide +kernel
theorem dL_law_2579 : decode cL_law 2579 = .ok (.iconst 1, 1) := by decide +kernel
theorem dL_law_2580 : decode cL_law 2580 = .ok (.iadd, 1) := by decide +kernel
theorem dL_law_2581 : decode cL_law 2581 = .ok (.iaload, 1) := by decide +kernel
theorem dL_law_2582 : decode cL_law 2582 = .ok (.invokevirtual 345, 3) := by decide +kernel
theorem dL_law_2585 : decode cL_law 2585 = .ok (.istore 7, 2) := by decide +kernel
theorem dL_law_2587 : decode cL_law 2587 = .ok (.aload_n 2, 1) := by decide +kernel
theorem dL_law_2588 : decode cL_law 2588 = .ok (.invokevirtual 175, 3) := by decide +kernel
theorem dL_law_2591 : decode cL_law 2591 = .ok (.iload 6, 2) := by decide +kernel
theorem dL_law_2593 : decode cL_law 2593 = .ok (.if_icmp .eq 5, 3) := by decide +kernel
theorem dL_law_2596 : decode cL_law 2596 = .ok (.iconst 0, 1) := by decide +kernel
theorem dL_law_2597 : decode cL_law 2597 = .ok (.ireturn, 1) := by decide +kernel
theorem dL_law_2598 : decode cL_law 2598 = .ok (.iload 6, 2) := by decide +kernel
theorem dL_law_2600 : decode cL_law 2600 = .ok (.ifCond .ne 15, 3) := by decide +kernel
theorem dL_law_2603 : decode cL_law 2603 = .ok (.aload_n 3, 1) := by decide +kernel
theorem dL_law_2604 : decode cL_law 2604 = .ok (.iconst 0, 1) := by decide +kernel
theorem dL_law_2605 : decode cL_law 2605 = .ok (.laload, 1) := by decide +kernel
theorem dL_law_2606 : decode cL_law 2606 = .ok (.iload 7, 2) := by decide +kernel
theorem dL_law_2608 : decode cL_law 2608 = .ok (.i2l, 1) := by decide +kernel
theorem dL_law_2609 : decode cL_law 2609 = .ok (.lcmp, 1) := by decide +kernel
theorem dL_law_2610 : decode cL_law 2610 = .ok (.ifCond .eq 5, 3) := by decide +kernel
theorem dL_law_2613 : decode cL_law 2613 = .ok (.iconst 0, 1) := by decide +kernel
theorem dL_law_2614 : decode cL_law 2614 = .ok (.ireturn, 1) := by decide +kernel
theorem dL_law_2615 : decode cL_law 2615 = .ok (.goto 689, 3) := by decide +kernel
theorem dL_law_2618 : decode cL_law 2618 = .ok (.aload_n 1, 1) := by decide +kernel
theorem dL_law_2619 : decode cL_law 2619 = .ok (.aload_n 0, 1) := by decide +kernel
theorem dL_law_2620 : decode cL_law 2620 = .ok (.iload 5, 2) := by decide +kernel
theorem dL_law_2622 : decode cL_law 2622 = .ok (.iconst 1, 1) := by decide +kernel
theorem dL_law_2623 : decode cL_law 2623 = .ok (.iadd, 1) := by decide +kernel
theorem dL_law_2624 : decode cL_law 2624 = .ok (.iaload, 1) := by decide +kernel
theorem dL_law_2625 : decode cL_law 2625 = .ok (.aload_n 3, 1) := by decide +kernel
theorem dL_law_2626 : decode cL_law 2626 = .ok (.invokestatic 346, 3) := by decide +kernel
theorem dL_law_2629 : decode cL_law 2629 = .ok (.istore 6, 2) := by decide +kernel
theorem dL_law_2631 : decode cL_law 2631 = .ok (.aload_n 2, 1) := by decide +kernel
theorem dL_law_2632 : decode cL_law 2632 = .ok (.aload_n 0, 1) := by decide +kernel
theorem dL_law_2633 : decode cL_law 2633 = .ok (.iload 5, 2) := by decide +kernel
theorem dL_law_2635 : decode cL_law 2635 = .ok (.iconst 1, 1) := by decide +kernel
theorem dL_law_2636 : decode cL_law 2636 = .ok (.iadd, 1) := by decide +kernel
theorem dL_law_2637 : decode cL_law 2637 = .ok (.iaload, 1) := by decide +kernel
theorem dL_law_2638 : decode cL_law 2638 = .ok (.invokevirtual 348, 3) := by decide +kernel
theorem dL_law_2641 : decode cL_law 2641 = .ok (.istore 7, 2) := by decide +kernel
theorem dL_law_2643 : decode cL_law 2643 = .ok (.aload_n 2, 1) := by decide +kernel
theorem dL_law_2644 : decode cL_law 2644 = .ok (.invokevirtual 175, 3) := by decide +kernel
theorem dL_law_2647 : decode cL_law 2647 = .ok (.iload 6, 2) := by decide +kernel
theorem dL_law_2649 : decode cL_law 2649 = .ok (.if_icmp .eq 5, 3) := by decide +kernel
theorem dL_law_2652 : decode cL_law 2652 = .ok (.iconst 0, 1) := by decide +kernel
theorem dL_law_2653 : decode cL_law 2653 = .ok (.ireturn, 1) := by decide +kernel
theorem dL_law_2654 : decode cL_law 2654 = .ok (.iload 6, 2) := by decide +kernel
theorem dL_law_2656 : decode cL_law 2656 = .ok (.ifCond .ne 15, 3) := by decide +kernel
theorem dL_law_2659 : decode cL_law 2659 = .ok (.aload_n 3, 1) := by decide +kernel
theorem dL_law_2660 : decode cL_law 2660 = .ok (.iconst 0, 1) := by decide +kernel
theorem dL_law_2661 : decode cL_law 2661 = .ok (.laload, 1) := by decide +kernel
theorem dL_law_2662 : decode cL_law 2662 = .ok (.iload 7, 2) := by decide +kernel
theorem dL_law_2664 : decode cL_law 2664 = .ok (.i2l, 1) := by decide +kernel
theorem dL_law_2665 : decode cL_law 2665 = .ok (.lcmp, 1) := by decide +kernel
theorem dL_law_2666 : decode cL_law 2666 = .ok (.ifCond .eq 5, 3) := by decide +kernel
theorem dL_law_2669 : decode cL_law 2669 = .ok (.iconst 0, 1) := by decide +kernel
theorem dL_law_2670 : decode cL_law 2670 = .ok (.ireturn, 1) := by decide +kernel
theorem dL_law_2671 : decode cL_law 2671 = .ok (.goto 633, 3) := by decide +kernel
theorem dL_law_2674 : decode cL_law 2674 = .ok (.aload_n 1, 1) := by decide +kernel
theorem dL_law_2675 : decode cL_law 2675 = .ok (.aload_n 0, 1) := by decide +kernel
theorem dL_law_2676 : decode cL_law 2676 = .ok (.iload 5, 2) := by decide +kernel
theorem dL_law_2678 : decode cL_law 2678 = .ok (.iconst 1, 1) := by decide +kernel
theorem dL_law_2679 : decode cL_law 2679 = .ok (.iadd, 1) := by decide +kernel
theorem dL_law_2680 : decode cL_law 2680 = .ok (.iaload, 1) := by decide +kernel
theorem dL_law_2681 : decode cL_law 2681 = .ok (.aload_n 3, 1) := by decide +kernel
theorem dL_law_2682 : decode cL_law 2682 = .ok (.invokestatic 349, 3) := by decide +kernel
theorem dL_law_2685 : decode cL_law 2685 = .ok (.istore 6, 2) := by decide +kernel
theorem dL_law_2687 : decode cL_law 2687 = .ok (.aload_n 2, 1) := by decide +kernel
theorem dL_law_2688 : decode cL_law 2688 = .ok (.aload_n 0, 1) := by decide +kernel
theorem dL_law_2689 : decode cL_law 2689 = .ok (.iload 5, 2) := by decide +kernel
theorem dL_law_2691 : decode cL_law 2691 = .ok (.iconst 1, 1) := by decide +kernel
theorem dL_law_2692 : decode cL_law 2692 = .ok (.iadd, 1) := by decide +kernel
theorem dL_law_2693 : decode cL_law 2693 = .ok (.iaload, 1) := by decide +kernel
