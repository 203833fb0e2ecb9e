theorem dL_cell_0 : decode cL_cell 0 = .ok (.iload_n 1, 1) := by decide +kernel
theorem dL_cell_1 : decode cL_cell 1 = .ok (.aload_n 0, 1) := by decide +kernel
theorem dL_cell_2 : decode cL_cell 2 = .ok (.arraylength, 1) := by decide +kernel
theorem dL_cell_3 : decode cL_cell 3 = .ok (.if_icmp .ge 9, 3) := by decide +kernel
theorem dL_cell_6 : decode cL_cell 6 = .ok (.aload_n 0, 1) := by decide +kernel
theorem dL_cell_7 : decode cL_cell 7 = .ok (.iload_n 1, 1) := by decide +kernel
theorem dL_cell_8 : decode cL_cell 8 = .ok (.iaload, 1) := by decide +kernel
theorem dL_cell_9 : decode cL_cell 9 = .ok (.goto 9, 3) := by decide +kernel
theorem dL_cell_12 : decode cL_cell 12 = .ok (.ldc 7, 2) := by decide +kernel
theorem dL_cell_14 : decode cL_cell 14 = .ok (.iload_n 1, 1) := by decide +kernel
theorem dL_cell_15 : decode cL_cell 15 = .ok (.iconst 3, 1) := by decide +kernel
theorem dL_cell_16 : decode cL_cell 16 = .ok (.iadd, 1) := by decide +kernel
theorem dL_cell_17 : decode cL_cell 17 = .ok (.imul, 1) := by decide +kernel
theorem dL_cell_18 : decode cL_cell 18 = .ok (.ireturn, 1) := by decide +kernel
theorem dL_low_0 : decode cL_low 0 = .ok (.iload_n 0, 1) := by decide +kernel
theorem dL_low_1 : decode cL_low 1 = .ok (.ldc 8, 2) := by decide +kernel
theorem dL_low_3 : decode cL_low 3 = .ok (.iand, 1) := by decide +kernel
theorem dL_low_4 : decode cL_low 4 = .ok (.iload_n 1, 1) := by decide +kernel
theorem dL_low_5 : decode cL_low 5 = .ok (.irem, 1) := by decide +kernel
theorem dL_low_6 : decode cL_low 6 = .ok (.ireturn, 1) := by decide +kernel
theorem dL_sets_0 : decode cL_sets 0 = .ok (.aload_n 0, 1) := by decide +kernel
theorem dL_sets_1 : decode cL_sets 1 = .ok (.iload_n 1, 1) := by decide +kernel
theorem dL_sets_2 : decode cL_sets 2 = .ok (.iload_n 2, 1) := by decide +kernel
theorem dL_sets_3 : decode cL_sets 3 = .ok (.invokevirtual 9, 3) := by decide +kernel
theorem dL_sets_6 : decode cL_sets 6 = .ok (.ireturn, 1) := by decide +kernel
theorem dL_sets_7 : decode cL_sets 7 = .ok (.astore_n 3, 1) := by decide +kernel
theorem dL_sets_8 : decode cL_sets 8 = .ok (.ldc 17, 2) := by decide +kernel
theorem dL_sets_10 : decode cL_sets 10 = .ok (.ireturn, 1) := by decide +kernel
theorem dL_sets_11 : decode cL_sets 11 = .ok (.astore_n 3, 1) := by decide +kernel
theorem dL_sets_12 : decode cL_sets 12 = .ok (.ldc 20, 2) := by decide +kernel
theorem dL_sets_14 : decode cL_sets 14 = .ok (.ireturn, 1) := by decide +kernel
theorem dL_strides_0 : decode cL_strides 0 = .ok (.aload_n 0, 1) := by decide +kernel
theorem dL_strides_1 : decode cL_strides 1 = .ok (.iload_n 1, 1) := by decide +kernel
theorem dL_strides_2 : decode cL_strides 2 = .ok (.iload_n 2, 1) := by decide +kernel
theorem dL_strides_3 : decode cL_strides 3 = .ok (.invokevirtual 21, 3) := by decide +kernel
theorem dL_strides_6 : decode cL_strides 6 = .ok (.ireturn, 1) := by decide +kernel
theorem dL_strides_7 : decode cL_strides 7 = .ok (.astore_n 3, 1) := by decide +kernel
theorem dL_strides_8 : decode cL_strides 8 = .ok (.ldc 20, 2) := by decide +kernel
theorem dL_strides_10 : decode cL_strides 10 = .ok (.ireturn, 1) := by decide +kernel
theorem dL_policies_0 : decode cL_policies 0 = .ok (.aload_n 0, 1) := by decide +kernel
theorem dL_policies_1 : decode cL_policies 1 = .ok (.iload_n 1, 1) := by decide +kernel
theorem dL_policies_2 : decode cL_policies 2 = .ok (.iload_n 2, 1) := by decide +kernel
theorem dL_policies_3 : decode cL_policies 3 = .ok (.invokevirtual 24, 3) := by decide +kernel
theorem dL_policies_6 : decode cL_policies 6 = .ok (.ireturn, 1) := by decide +kernel
theorem dL_policies_7 : decode cL_policies 7 = .ok (.astore_n 3, 1) := by decide +kernel
theorem dL_policies_8 : decode cL_policies 8 = .ok (.ldc 20, 2) := by decide +kernel
theorem dL_policies_10 : decode cL_policies 10 = .ok (.ireturn, 1) := by decide +kernel
theorem dL_sends_0 : decode cL_sends 0 = .ok (.aload_n 0, 1) := by decide +kernel
theorem dL_sends_1 : decode cL_sends 1 = .ok (.invokevirtual 27, 3) := by decide +kernel
theorem dL_sends_4 : decode cL_sends 4 = .ok (.ireturn, 1) := by decide +kernel
theorem dL_sends_5 : decode cL_sends 5 = .ok (.astore_n 1, 1) := by decide +kernel
theorem dL_sends_6 : decode cL_sends 6 = .ok (.ldc 33, 2) := by decide +kernel
theorem dL_sends_8 : decode cL_sends 8 = .ok (.ireturn, 1) := by decide +kernel
theorem dL_streams_0 : decode cL_streams 0 = .ok (.aload_n 0, 1) := by decide +kernel
theorem dL_streams_1 : decode cL_streams 1 = .ok (.iload_n 1, 1) := by decide +kernel
theorem dL_streams_2 : decode cL_streams 2 = .ok (.invokevirtual 34, 3) := by decide +kernel
theorem dL_streams_5 : decode cL_streams 5 = .ok (.ireturn, 1) := by decide +kernel
theorem dL_streams_6 : decode cL_streams 6 = .ok (.astore_n 2, 1) := by decide +kernel
theorem dL_streams_7 : decode cL_streams 7 = .ok (.ldc 20, 2) := by decide +kernel
theorem dL_streams_9 : decode cL_streams 9 = .ok (.ireturn, 1) := by decide +kernel
theorem dL_streams_10 : decode cL_streams 10 = .ok (.astore_n 2, 1) := by decide +kernel
theorem dL_streams_11 : decode cL_streams 11 = .ok (.ldc 33, 2) := by decide +kernel
theorem dL_streams_13 : decode cL_streams 13 = .ok (.ireturn, 1) := by decide +kernel
theorem dL_fieldOf_0 : decode cL_fieldOf 0 = .ok (.aload_n 0, 1) := by decide +kernel
theorem dL_fieldOf_1 : decode cL_fieldOf 1 = .ok (.iload_n 1, 1) := by decide +kernel
theorem dL_fieldOf_2 : decode cL_fieldOf 2 = .ok (.invokevirtual 38, 3) := by decide +kernel
theorem dL_fieldOf_5 : decode cL_fieldOf 5 = .ok (.ireturn, 1) := by decide +kernel
theorem dL_fieldOf_6 : decode cL_fieldOf 6 = .ok (.astore_n 2, 1) := by decide +kernel
theorem dL_fieldOf_7 : decode cL_fieldOf 7 = .ok (.ldc 17, 2) := by decide +kernel
theorem dL_fieldOf_9 : decode cL_fieldOf 9 = .ok (.ireturn, 1) := by decide +kernel
theorem dL_sizeBy_0 : decode cL_sizeBy 0 = .ok (.aload_n 0, 1) := by decide +kernel
theorem dL_sizeBy_1 : decode cL_sizeBy 1 = .ok (.iload_n 1, 1) := by decide +kernel
theorem dL_sizeBy_2 : decode cL_sizeBy 2 = .ok (.iload_n 2, 1) := by decide +kernel
theorem dL_sizeBy_3 : decode cL_sizeBy 3 = .ok (.invokevirtual 41, 3) := by decide +kernel
theorem dL_sizeBy_6 : decode cL_sizeBy 6 = .ok (.ireturn, 1) := by decide +kernel
theorem dL_sizeBy_7 : decode cL_sizeBy 7 = .ok (.astore_n 3, 1) := by decide +kernel
theorem dL_sizeBy_8 : decode cL_sizeBy 8 = .ok (.ldc 20, 2) := by decide +kernel
theorem dL_sizeBy_10 : decode cL_sizeBy 10 = .ok (.ireturn, 1) := by decide +kernel
theorem dL_sentOf_0 : decode cL_sentOf 0 = .ok (.aload_n 0, 1) := by decide +kernel
theorem dL_sentOf_1 : decode cL_sentOf 1 = .ok (.iload_n 1, 1) := by decide +kernel
theorem dL_sentOf_2 : decode cL_sentOf 2 = .ok (.iload_n 2, 1) := by decide +kernel
theorem dL_sentOf_3 : decode cL_sentOf 3 = .ok (.invokevirtual 44, 3) := by decide +kernel
theorem dL_sentOf_6 : decode cL_sentOf 6 = .ok (.ireturn, 1) := by decide +kernel
theorem dL_sentOf_7 : decode cL_sentOf 7 = .ok (.astore_n 3, 1) := by decide +kernel
theorem dL_sentOf_8 : decode cL_sentOf 8 = .ok (.ldc 17, 2) := by decide +kernel
theorem dL_sentOf_10 : decode cL_sentOf 10 = .ok (.ireturn, 1) := by decide +kernel
theorem dL_sentOf_11 : decode cL_sentOf 11 = .ok (.astore_n 3, 1) := by decide +kernel
theorem dL_sentOf_12 : decode cL_sentOf 12 = .ok (.ldc 20, 2) := by decide +kernel
theorem dL_sentOf_14 : decode cL_sentOf 14 = .ok (.ireturn, 1) := by decide +kernel
theorem dL_delivers_0 : decode cL_delivers 0 = .ok (.aload_n 0, 1) := by decide +kernel
theorem dL_delivers_1 : decode cL_delivers 1 = .ok (.iload_n 1, 1) := by decide +kernel
theorem dL_delivers_2 : decode cL_delivers 2 = .ok (.invokevirtual 47, 3) := by decide +kernel
theorem dL_delivers_5 : decode cL_delivers 5 = .ok (.ireturn, 1) := by decide +kernel
theorem dL_delivers_6 : decode cL_delivers 6 = .ok (.astore_n 2, 1) := by decide +kernel
theorem dL_delivers_7 : decode cL_delivers 7 = .ok (.ldc 17, 2) := by decide +kernel
theorem dL_delivers_9 : decode cL_delivers 9 = .ok (.ireturn, 1) := by decide +kernel
theorem dL_loses_0 : decode cL_loses 0 = .ok (.aload_n 0, 1) := by decide +kernel
theorem dL_loses_1 : decode cL_loses 1 = .ok (.iload_n 1, 1) := by decide +kernel
theorem dL_loses_2 : decode cL_loses 2 = .ok (.invokevirtual 50, 3) := by decide +kernel
theorem dL_loses_5 : decode cL_loses 5 = .ok (.ireturn, 1) := by decide +kernel
theorem dL_loses_6 : decode cL_loses 6 = .ok (.astore_n 2, 1) := by decide +kernel
theorem dL_loses_7 : decode cL_loses 7 = .ok (.ldc 17, 2) := by decide +kernel
theorem dL_loses_9 : decode cL_loses 9 = .ok (.ireturn, 1) := by decide +kernel
theorem dL_copies_0 : decode cL_copies 0 = .ok (.aload_n 0, 1) := by decide +kernel
theorem dL_copies_1 : decode cL_copies 1 = .ok (.iload_n 1, 1) := by decide +kernel
theorem dL_copies_2 : decode cL_copies 2 = .ok (.invokevirtual 53, 3) := by decide +kernel
theorem dL_copies_5 : decode cL_copies 5 = .ok (.ireturn, 1) := by decide +kernel
theorem dL_copies_6 : decode cL_copies 6 = .ok (.astore_n 2, 1) := by decide +kernel
theorem dL_copies_7 : decode cL_copies 7 = .ok (.ldc 17, 2) := by decide +kernel
theorem dL_copies_9 : decode cL_copies 9 = .ok (.ireturn, 1) := by decide +kernel
theorem dL_copies_10 : decode cL_copies 10 = .ok (.astore_n 2, 1) := by decide +kernel
theorem dL_copies_11 : decode cL_copies 11 = .ok (.ldc 33, 2) := by decide +kernel
theorem dL_copies_13 : decode cL_copies 13 = .ok (.ireturn, 1) := by decide +kernel
theorem dL_returns_0 : decode cL_returns 0 = .ok (.aload_n 0, 1) := by decide +kernel
theorem dL_returns_1 : decode cL_returns 1 = .ok (.iload_n 1, 1) := by decide +kernel
theorem dL_returns_2 : decode cL_returns 2 = .ok (.invokevirtual 56, 3) := by decide +kernel
theorem dL_returns_5 : decode cL_returns 5 = .ok (.ireturn, 1) := by decide +kernel
theorem dL_returns_6 : decode cL_returns 6 = .ok (.astore_n 2, 1) := by decide +kernel
theorem dL_returns_7 : decode cL_returns 7 = .ok (.ldc 17, 2) := by decide +kernel
theorem dL_returns_9 : decode cL_returns 9 = .ok (.ireturn, 1) := by decide +kernel
theorem dL_losesBack_0 : decode cL_losesBack 0 = .ok (.aload_n 0, 1) := by decide +kernel
theorem dL_losesBack_1 : decode cL_losesBack 1 = .ok (.iload_n 1, 1) := by decide +kernel
theorem dL_losesBack_2 : decode cL_losesBack 2 = .ok (.invokevirtual 59, 3) := by decide +kernel
theorem dL_losesBack_5 : decode cL_losesBack 5 = .ok (.ireturn, 1) := by decide +kernel
theorem dL_losesBack_6 : decode cL_losesBack 6 = .ok (.astore_n 2, 1) := by decide +kernel
theorem dL_losesBack_7 : decode cL_losesBack 7 = .ok (.ldc 17, 2) := by decide +kernel
theorem dL_losesBack_9 : decode cL_losesBack 9 = .ok (.ireturn, 1) := by decide +kernel
theorem dL_waits_0 : decode cL_waits 0 = .ok (.aload_n 0, 1) := by decide +kernel
theorem dL_waits_1 : decode cL_waits 1 = .ok (.iload_n 1, 1) := by decide +kernel
theorem dL_waits_2 : decode cL_waits 2 = .ok (.iload_n 2, 1) := by decide +kernel
theorem dL_waits_3 : decode cL_waits 3 = .ok (.invokevirtual 62, 3) := by decide +kernel
theorem dL_waits_6 : decode cL_waits 6 = .ok (.ireturn, 1) := by decide +kernel
theorem dL_waits_7 : decode cL_waits 7 = .ok (.astore_n 3, 1) := by decide +kernel
theorem dL_waits_8 : decode cL_waits 8 = .ok (.ldc 17, 2) := by decide +kernel
theorem dL_waits_10 : decode cL_waits 10 = .ok (.ireturn, 1) := by decide +kernel
theorem dL_receivers_0 : decode cL_receivers 0 = .ok (.aload_n 0, 1) := by decide +kernel
theorem dL_receivers_1 : decode cL_receivers 1 = .ok (.iload_n 1, 1) := by decide +kernel
theorem dL_receivers_2 : decode cL_receivers 2 = .ok (.iload_n 2, 1) := by decide +kernel
theorem dL_receivers_3 : decode cL_receivers 3 = .ok (.iload_n 3, 1) := by decide +kernel
theorem dL_receivers_4 : decode cL_receivers 4 = .ok (.invokevirtual 66, 3) := by decide +kernel
theorem dL_receivers_7 : decode cL_receivers 7 = .ok (.ireturn, 1) := by decide +kernel
theorem dL_receivers_8 : decode cL_receivers 8 = .ok (.astore 4, 2) := by decide +kernel
theorem dL_receivers_10 : decode cL_receivers 10 = .ok (.ldc 20, 2) := by decide +kernel
theorem dL_receivers_12 : decode cL_receivers 12 = .ok (.ireturn, 1) := by decide +kernel
theorem dL_recordOf_0 : decode cL_recordOf 0 = .ok (.aload_n 0, 1) := by decide +kernel
theorem dL_recordOf_1 : decode cL_recordOf 1 = .ok (.iload_n 1, 1) := by decide +kernel
theorem dL_recordOf_2 : decode cL_recordOf 2 = .ok (.iload_n 2, 1) := by decide +kernel
theorem dL_recordOf_3 : decode cL_recordOf 3 = .ok (.invokevirtual 70, 3) := by decide +kernel
theorem dL_recordOf_6 : decode cL_recordOf 6 = .ok (.ireturn, 1) := by decide +kernel
theorem dL_recordOf_7 : decode cL_recordOf 7 = .ok (.astore_n 3, 1) := by decide +kernel
theorem dL_recordOf_8 : decode cL_recordOf 8 = .ok (.ldc 20, 2) := by decide +kernel
theorem dL_recordOf_10 : decode cL_recordOf 10 = .ok (.ireturn, 1) := by decide +kernel
theorem dL_numberOf_0 : decode cL_numberOf 0 = .ok (.aload_n 0, 1) := by decide +kernel
theorem dL_numberOf_1 : decode cL_numberOf 1 = .ok (.iload_n 1, 1) := by decide +kernel
theorem dL_numberOf_2 : decode cL_numberOf 2 = .ok (.invokevirtual 73, 3) := by decide +kernel
theorem dL_numberOf_5 : decode cL_numberOf 5 = .ok (.ireturn, 1) := by decide +kernel
theorem dL_numberOf_6 : decode cL_numberOf 6 = .ok (.astore_n 2, 1) := by decide +kernel
theorem dL_numberOf_7 : decode cL_numberOf 7 = .ok (.ldc 20, 2) := by decide +kernel
theorem dL_numberOf_9 : decode cL_numberOf 9 = .ok (.ireturn, 1) := by decide +kernel
theorem dL_countOf_0 : decode cL_countOf 0 = .ok (.aload_n 0, 1) := by decide +kernel
theorem dL_countOf_1 : decode cL_countOf 1 = .ok (.iload_n 1, 1) := by decide +kernel
theorem dL_countOf_2 : decode cL_countOf 2 = .ok (.invokevirtual 76, 3) := by decide +kernel
theorem dL_countOf_5 : decode cL_countOf 5 = .ok (.ireturn, 1) := by decide +kernel
theorem dL_countOf_6 : decode cL_countOf 6 = .ok (.astore_n 2, 1) := by decide +kernel
theorem dL_countOf_7 : decode cL_countOf 7 = .ok (.ldc 20, 2) := by decide +kernel
theorem dL_countOf_9 : decode cL_countOf 9 = .ok (.ireturn, 1) := by decide +kernel
theorem dL_header_0 : decode cL_header 0 = .ok (.iload_n 0, 1) := by decide +kernel
theorem dL_header_1 : decode cL_header 1 = .ok (.i2l, 1) := by decide +kernel
theorem dL_header_2 : decode cL_header 2 = .ok (.ldc2_w 79, 3) := by decide +kernel
theorem dL_header_5 : decode cL_header 5 = .ok (.lmul, 1) := by decide +kernel
theorem dL_header_6 : decode cL_header 6 = .ok (.iload_n 1, 1) := by decide +kernel
theorem dL_header_7 : decode cL_header 7 = .ok (.ldc 81, 2) := by decide +kernel
theorem dL_header_9 : decode cL_header 9 = .ok (.iand, 1) := by decide +kernel
theorem dL_header_10 : decode cL_header 10 = .ok (.i2l, 1) := by decide +kernel
theorem dL_header_11 : decode cL_header 11 = .ok (.ladd, 1) := by decide +kernel
theorem dL_header_12 : decode cL_header 12 = .ok (.ldc2_w 79, 3) := by decide +kernel
theorem dL_header_15 : decode cL_header 15 = .ok (.lmul, 1) := by decide +kernel
theorem dL_header_16 : decode cL_header 16 = .ok (.iload_n 2, 1) := by decide +kernel
theorem dL_header_17 : decode cL_header 17 = .ok (.ldc 81, 2) := by decide +kernel
theorem dL_header_19 : decode cL_header 19 = .ok (.iand, 1) := by decide +kernel
theorem dL_header_20 : decode cL_header 20 = .ok (.i2l, 1) := by decide +kernel
theorem dL_header_21 : decode cL_header 21 = .ok (.ladd, 1) := by decide +kernel
theorem dL_header_22 : decode cL_header 22 = .ok (.ldc2_w 82, 3) := by decide +kernel
theorem dL_header_25 : decode cL_header 25 = .ok (.lmul, 1) := by decide +kernel
theorem dL_header_26 : decode cL_header 26 = .ok (.iload_n 3, 1) := by decide +kernel
theorem dL_header_27 : decode cL_header 27 = .ok (.i2l, 1) := by decide +kernel
theorem dL_header_28 : decode cL_header 28 = .ok (.ladd, 1) := by decide +kernel
theorem dL_header_29 : decode cL_header 29 = .ok (.lreturn, 1) := by decide +kernel
theorem dL_part_0 : decode cL_part 0 = .ok (.iload_n 2, 1) := by decide +kernel
theorem dL_part_1 : decode cL_part 1 = .ok (.ifCond .ne 11, 3) := by decide +kernel
theorem dL_part_4 : decode cL_part 4 = .ok (.lload_n 0, 1) := by decide +kernel
theorem dL_part_5 : decode cL_part 5 = .ok (.bipush 36, 2) := by decide +kernel
theorem dL_part_7 : decode cL_part 7 = .ok (.lshr, 1) := by decide +kernel
theorem dL_part_8 : decode cL_part 8 = .ok (.l2i, 1) := by decide +kernel
theorem dL_part_9 : decode cL_part 9 = .ok (.goto 42, 3) := by decide +kernel
theorem dL_part_12 : decode cL_part 12 = .ok (.iload_n 2, 1) := by decide +kernel
theorem dL_part_13 : decode cL_part 13 = .ok (.iconst 1, 1) := by decide +kernel
theorem dL_part_14 : decode cL_part 14 = .ok (.if_icmp .ne 15, 3) := by decide +kernel
theorem dL_part_17 : decode cL_part 17 = .ok (.lload_n 0, 1) := by decide +kernel
theorem dL_part_18 : decode cL_part 18 = .ok (.bipush 20, 2) := by decide +kernel
theorem dL_part_20 : decode cL_part 20 = .ok (.lshr, 1) := by decide +kernel
theorem dL_part_21 : decode cL_part 21 = .ok (.ldc2_w 84, 3) := by decide +kernel
theorem dL_part_24 : decode cL_part 24 = .ok (.land, 1) := by decide +kernel
theorem dL_part_25 : decode cL_part 25 = .ok (.l2i, 1) := by decide +kernel
theorem dL_part_26 : decode cL_part 26 = .ok (.goto 25, 3) := by decide +kernel
theorem dL_part_29 : decode cL_part 29 = .ok (.iload_n 2, 1) := by decide +kernel
theorem dL_part_30 : decode cL_part 30 = .ok (.iconst 2, 1) := by decide +kernel
theorem dL_part_31 : decode cL_part 31 = .ok (.if_icmp .ne 14, 3) := by decide +kernel
theorem dL_part_34 : decode cL_part 34 = .ok (.lload_n 0, 1) := by decide +kernel
theorem dL_part_35 : decode cL_part 35 = .ok (.iconst 4, 1) := by decide +kernel
theorem dL_part_36 : decode cL_part 36 = .ok (.lshr, 1) := by decide +kernel
theorem dL_part_37 : decode cL_part 37 = .ok (.ldc2_w 84, 3) := by decide +kernel
theorem dL_part_40 : decode cL_part 40 = .ok (.land, 1) := by decide +kernel
theorem dL_part_41 : decode cL_part 41 = .ok (.l2i, 1) := by decide +kernel
theorem dL_part_42 : decode cL_part 42 = .ok (.goto 9, 3) := by decide +kernel
theorem dL_part_45 : decode cL_part 45 = .ok (.lload_n 0, 1) := by decide +kernel
theorem dL_part_46 : decode cL_part 46 = .ok (.ldc2_w 86, 3) := by decide +kernel
theorem dL_part_49 : decode cL_part 49 = .ok (.land, 1) := by decide +kernel
theorem dL_part_50 : decode cL_part 50 = .ok (.l2i, 1) := by decide +kernel
theorem dL_part_51 : decode cL_part 51 = .ok (.ireturn, 1) := by decide +kernel
theorem dL_moved_0 : decode cL_moved 0 = .ok (.lload_n 0, 1) := by decide +kernel
theorem dL_moved_1 : decode cL_moved 1 = .ok (.iconst 0, 1) := by decide +kernel
theorem dL_moved_2 : decode cL_moved 2 = .ok (.invokestatic 88, 3) := by decide +kernel
theorem dL_moved_5 : decode cL_moved 5 = .ok (.lload_n 0, 1) := by decide +kernel
theorem dL_moved_6 : decode cL_moved 6 = .ok (.iconst 1, 1) := by decide +kernel
theorem dL_moved_7 : decode cL_moved 7 = .ok (.invokestatic 88, 3) := by decide +kernel
theorem dL_moved_10 : decode cL_moved 10 = .ok (.iload_n 3, 1) := by decide +kernel
theorem dL_moved_11 : decode cL_moved 11 = .ok (.iload_n 2, 1) := by decide +kernel
theorem dL_moved_12 : decode cL_moved 12 = .ok (.sipush 4096, 3) := by decide +kernel
theorem dL_moved_15 : decode cL_moved 15 = .ok (.idiv, 1) := by decide +kernel
theorem dL_moved_16 : decode cL_moved 16 = .ok (.imul, 1) := by decide +kernel
theorem dL_moved_17 : decode cL_moved 17 = .ok (.iadd, 1) := by decide +kernel
theorem dL_moved_18 : decode cL_moved 18 = .ok (.lload_n 0, 1) := by decide +kernel
theorem dL_moved_19 : decode cL_moved 19 = .ok (.iconst 2, 1) := by decide +kernel
theorem dL_moved_20 : decode cL_moved 20 = .ok (.invokestatic 88, 3) := by decide +kernel
theorem dL_moved_23 : decode cL_moved 23 = .ok (.iload_n 3, 1) := by decide +kernel
theorem dL_moved_24 : decode cL_moved 24 = .ok (.iload_n 2, 1) := by decide +kernel
theorem dL_moved_25 : decode cL_moved 25 = .ok (.sipush 4096, 3) := by decide +kernel
theorem dL_moved_28 : decode cL_moved 28 = .ok (.irem, 1) := by decide +kernel
theorem dL_moved_29 : decode cL_moved 29 = .ok (.imul, 1) := by decide +kernel
theorem dL_moved_30 : decode cL_moved 30 = .ok (.iadd, 1) := by decide +kernel
theorem dL_moved_31 : decode cL_moved 31 = .ok (.lload_n 0, 1) := by decide +kernel
theorem dL_moved_32 : decode cL_moved 32 = .ok (.iconst 3, 1) := by decide +kernel
theorem dL_moved_33 : decode cL_moved 33 = .ok (.invokestatic 88, 3) := by decide +kernel
theorem dL_moved_36 : decode cL_moved 36 = .ok (.invokestatic 94, 3) := by decide +kernel
theorem dL_moved_39 : decode cL_moved 39 = .ok (.lreturn, 1) := by decide +kernel
theorem dL_apart_0 : decode cL_apart 0 = .ok (.iload_n 0, 1) := by decide +kernel
theorem dL_apart_1 : decode cL_apart 1 = .ok (.iload_n 1, 1) := by decide +kernel
theorem dL_apart_2 : decode cL_apart 2 = .ok (.isub, 1) := by decide +kernel
theorem dL_apart_3 : decode cL_apart 3 = .ok (.i2s, 1) := by decide +kernel
theorem dL_apart_4 : decode cL_apart 4 = .ok (.ireturn, 1) := by decide +kernel
theorem dL_trusted_0 : decode cL_trusted 0 = .ok (.iconst (-1), 1) := by decide +kernel
theorem dL_trusted_1 : decode cL_trusted 1 = .ok (.istore_n 3, 1) := by decide +kernel
theorem dL_trusted_2 : decode cL_trusted 2 = .ok (.iconst 0, 1) := by decide +kernel
theorem dL_trusted_3 : decode cL_trusted 3 = .ok (.istore 4, 2) := by decide +kernel
theorem dL_trusted_5 : decode cL_trusted 5 = .ok (.iload 4, 2) := by decide +kernel
theorem dL_trusted_7 : decode cL_trusted 7 = .ok (.aload_n 0, 1) := by decide +kernel
theorem dL_trusted_8 : decode cL_trusted 8 = .ok (.iconst 0, 1) := by decide +kernel
theorem dL_trusted_9 : decode cL_trusted 9 = .ok (.iaload, 1) := by decide +kernel
theorem dL_trusted_10 : decode cL_trusted 10 = .ok (.if_icmp .ge 45, 3) := by decide +kernel
theorem dL_trusted_13 : decode cL_trusted 13 = .ok (.aload_n 1, 1) := by decide +kernel
theorem dL_trusted_14 : decode cL_trusted 14 = .ok (.iload 4, 2) := by decide +kernel
theorem dL_trusted_16 : decode cL_trusted 16 = .ok (.iaload, 1) := by decide +kernel
theorem dL_trusted_17 : decode cL_trusted 17 = .ok (.sipush 1000, 3) := by decide +kernel
theorem dL_trusted_20 : decode cL_trusted 20 = .ok (.idiv, 1) := by decide +kernel
theorem dL_trusted_21 : decode cL_trusted 21 = .ok (.bipush 10, 2) := by decide +kernel
theorem dL_trusted_23 : decode cL_trusted 23 = .ok (.irem, 1) := by decide +kernel
theorem dL_trusted_24 : decode cL_trusted 24 = .ok (.iconst 1, 1) := by decide +kernel
theorem dL_trusted_25 : decode cL_trusted 25 = .ok (.if_icmp .eq 17, 3) := by decide +kernel
theorem dL_trusted_28 : decode cL_trusted 28 = .ok (.iload_n 2, 1) := by decide +kernel
theorem dL_trusted_29 : decode cL_trusted 29 = .ok (.ifCond .le 18, 3) := by decide +kernel
theorem dL_trusted_32 : decode cL_trusted 32 = .ok (.aload_n 0, 1) := by decide +kernel
theorem dL_trusted_33 : decode cL_trusted 33 = .ok (.iconst 0, 1) := by decide +kernel
theorem dL_trusted_34 : decode cL_trusted 34 = .ok (.iaload, 1) := by decide +kernel
theorem dL_trusted_35 : decode cL_trusted 35 = .ok (.iload 4, 2) := by decide +kernel
theorem dL_trusted_37 : decode cL_trusted 37 = .ok (.isub, 1) := by decide +kernel
theorem dL_trusted_38 : decode cL_trusted 38 = .ok (.iload_n 2, 1) := by decide +kernel
theorem dL_trusted_39 : decode cL_trusted 39 = .ok (.if_icmp .lt 8, 3) := by decide +kernel
theorem dL_trusted_42 : decode cL_trusted 42 = .ok (.iload 4, 2) := by decide +kernel
theorem dL_trusted_44 : decode cL_trusted 44 = .ok (.goto 4, 3) := by decide +kernel
theorem dL_trusted_47 : decode cL_trusted 47 = .ok (.iload_n 3, 1) := by decide +kernel
theorem dL_trusted_48 : decode cL_trusted 48 = .ok (.istore_n 3, 1) := by decide +kernel
theorem dL_trusted_49 : decode cL_trusted 49 = .ok (.iinc 4 1, 3) := by decide +kernel
theorem dL_trusted_52 : decode cL_trusted 52 = .ok (.goto (-47), 3) := by decide +kernel
theorem dL_trusted_55 : decode cL_trusted 55 = .ok (.iload_n 3, 1) := by decide +kernel
theorem dL_trusted_56 : decode cL_trusted 56 = .ok (.ifCond .lt 17, 3) := by decide +kernel
theorem dL_trusted_59 : decode cL_trusted 59 = .ok (.aload_n 0, 1) := by decide +kernel
theorem dL_trusted_60 : decode cL_trusted 60 = .ok (.iconst 0, 1) := by decide +kernel
theorem dL_trusted_61 : decode cL_trusted 61 = .ok (.iaload, 1) := by decide +kernel
theorem dL_trusted_62 : decode cL_trusted 62 = .ok (.iload_n 3, 1) := by decide +kernel
theorem dL_trusted_63 : decode cL_trusted 63 = .ok (.isub, 1) := by decide +kernel
theorem dL_trusted_64 : decode cL_trusted 64 = .ok (.bipush 15, 2) := by decide +kernel
theorem dL_trusted_66 : decode cL_trusted 66 = .ok (.if_icmp .gt 7, 3) := by decide +kernel
theorem dL_trusted_69 : decode cL_trusted 69 = .ok (.iload_n 3, 1) := by decide +kernel
theorem dL_trusted_70 : decode cL_trusted 70 = .ok (.goto 4, 3) := by decide +kernel
theorem dL_trusted_73 : decode cL_trusted 73 = .ok (.iconst (-1), 1) := by decide +kernel
theorem dL_trusted_74 : decode cL_trusted 74 = .ok (.ireturn, 1) := by decide +kernel
theorem dL_size_0 : decode cL_size 0 = .ok (.lload_n 0, 1) := by decide +kernel
theorem dL_size_1 : decode cL_size 1 = .ok (.iconst 1, 1) := by decide +kernel
theorem dL_size_2 : decode cL_size 2 = .ok (.invokestatic 88, 3) := by decide +kernel
theorem dL_size_5 : decode cL_size 5 = .ok (.lload_n 2, 1) := by decide +kernel
theorem dL_size_6 : decode cL_size 6 = .ok (.iconst 1, 1) := by decide +kernel
theorem dL_size_7 : decode cL_size 7 = .ok (.invokestatic 88, 3) := by decide +kernel
theorem dL_size_10 : decode cL_size 10 = .ok (.invokestatic 98, 3) := by decide +kernel
theorem dL_size_13 : decode cL_size 13 = .ok (.istore 4, 2) := by decide +kernel
theorem dL_size_15 : decode cL_size 15 = .ok (.lload_n 0, 1) := by decide +kernel
theorem dL_size_16 : decode cL_size 16 = .ok (.iconst 2, 1) := by decide +kernel
theorem dL_size_17 : decode cL_size 17 = .ok (.invokestatic 88, 3) := by decide +kernel
theorem dL_size_20 : decode cL_size 20 = .ok (.lload_n 2, 1) := by decide +kernel
theorem dL_size_21 : decode cL_size 21 = .ok (.iconst 2, 1) := by decide +kernel
theorem dL_size_22 : decode cL_size 22 = .ok (.invokestatic 88, 3) := by decide +kernel
theorem dL_size_25 : decode cL_size 25 = .ok (.invokestatic 98, 3) := by decide +kernel
theorem dL_size_28 : decode cL_size 28 = .ok (.istore 5, 2) := by decide +kernel
theorem dL_size_30 : decode cL_size 30 = .ok (.iconst 3, 1) := by decide +kernel
theorem dL_size_31 : decode cL_size 31 = .ok (.lload_n 0, 1) := by decide +kernel
theorem dL_size_32 : decode cL_size 32 = .ok (.iconst 0, 1) := by decide +kernel
theorem dL_size_33 : decode cL_size 33 = .ok (.invokestatic 88, 3) := by decide +kernel
theorem dL_size_36 : decode cL_size 36 = .ok (.lload_n 2, 1) := by decide +kernel
theorem dL_size_37 : decode cL_size 37 = .ok (.iconst 0, 1) := by decide +kernel
theorem dL_size_38 : decode cL_size 38 = .ok (.invokestatic 88, 3) := by decide +kernel
theorem dL_size_41 : decode cL_size 41 = .ok (.if_icmp .ne 7, 3) := by decide +kernel
theorem dL_size_44 : decode cL_size 44 = .ok (.iconst 0, 1) := by decide +kernel
theorem dL_size_45 : decode cL_size 45 = .ok (.goto 4, 3) := by decide +kernel
theorem dL_size_48 : decode cL_size 48 = .ok (.iconst 1, 1) := by decide +kernel
theorem dL_size_49 : decode cL_size 49 = .ok (.iadd, 1) := by decide +kernel
theorem dL_size_50 : decode cL_size 50 = .ok (.lload_n 0, 1) := by decide +kernel
theorem dL_size_51 : decode cL_size 51 = .ok (.iconst 3, 1) := by decide +kernel
theorem dL_size_52 : decode cL_size 52 = .ok (.invokestatic 88, 3) := by decide +kernel
theorem dL_size_55 : decode cL_size 55 = .ok (.lload_n 2, 1) := by decide +kernel
theorem dL_size_56 : decode cL_size 56 = .ok (.iconst 3, 1) := by decide +kernel
theorem dL_size_57 : decode cL_size 57 = .ok (.invokestatic 88, 3) := by decide +kernel
theorem dL_size_60 : decode cL_size 60 = .ok (.if_icmp .ne 7, 3) := by decide +kernel
theorem dL_size_63 : decode cL_size 63 = .ok (.iconst 0, 1) := by decide +kernel
theorem dL_size_64 : decode cL_size 64 = .ok (.goto 4, 3) := by decide +kernel
theorem dL_size_67 : decode cL_size 67 = .ok (.iconst 1, 1) := by decide +kernel
theorem dL_size_68 : decode cL_size 68 = .ok (.iadd, 1) := by decide +kernel
theorem dL_size_69 : decode cL_size 69 = .ok (.istore 6, 2) := by decide +kernel
theorem dL_size_71 : decode cL_size 71 = .ok (.iload 6, 2) := by decide +kernel
theorem dL_size_73 : decode cL_size 73 = .ok (.iload 4, 2) := by decide +kernel
theorem dL_size_75 : decode cL_size 75 = .ok (.ifCond .ne 7, 3) := by decide +kernel
theorem dL_size_78 : decode cL_size 78 = .ok (.iconst 0, 1) := by decide +kernel
theorem dL_size_79 : decode cL_size 79 = .ok (.goto 24, 3) := by decide +kernel
theorem dL_size_82 : decode cL_size 82 = .ok (.iload 4, 2) := by decide +kernel
theorem dL_size_84 : decode cL_size 84 = .ok (.sipush (-129), 3) := by decide +kernel
theorem dL_size_87 : decode cL_size 87 = .ok (.if_icmp .le 15, 3) := by decide +kernel
theorem dL_size_90 : decode cL_size 90 = .ok (.iload 4, 2) := by decide +kernel
theorem dL_size_92 : decode cL_size 92 = .ok (.sipush 128, 3) := by decide +kernel
theorem dL_size_95 : decode cL_size 95 = .ok (.if_icmp .ge 7, 3) := by decide +kernel
theorem dL_size_98 : decode cL_size 98 = .ok (.iconst 1, 1) := by decide +kernel
theorem dL_size_99 : decode cL_size 99 = .ok (.goto 4, 3) := by decide +kernel
theorem dL_size_102 : decode cL_size 102 = .ok (.iconst 2, 1) := by decide +kernel
theorem dL_size_103 : decode cL_size 103 = .ok (.iadd, 1) := by decide +kernel
theorem dL_size_104 : decode cL_size 104 = .ok (.istore 6, 2) := by decide +kernel
theorem dL_size_106 : decode cL_size 106 = .ok (.iload 6, 2) := by decide +kernel
theorem dL_size_108 : decode cL_size 108 = .ok (.iload 5, 2) := by decide +kernel
theorem dL_size_110 : decode cL_size 110 = .ok (.ifCond .ne 7, 3) := by decide +kernel
theorem dL_size_113 : decode cL_size 113 = .ok (.iconst 0, 1) := by decide +kernel
theorem dL_size_114 : decode cL_size 114 = .ok (.goto 24, 3) := by decide +kernel
theorem dL_size_117 : decode cL_size 117 = .ok (.iload 5, 2) := by decide +kernel
theorem dL_size_119 : decode cL_size 119 = .ok (.sipush (-129), 3) := by decide +kernel
theorem dL_size_122 : decode cL_size 122 = .ok (.if_icmp .le 15, 3) := by decide +kernel
theorem dL_size_125 : decode cL_size 125 = .ok (.iload 5, 2) := by decide +kernel
theorem dL_size_127 : decode cL_size 127 = .ok (.sipush 128, 3) := by decide +kernel
theorem dL_size_130 : decode cL_size 130 = .ok (.if_icmp .ge 7, 3) := by decide +kernel
theorem dL_size_133 : decode cL_size 133 = .ok (.iconst 1, 1) := by decide +kernel
theorem dL_size_134 : decode cL_size 134 = .ok (.goto 4, 3) := by decide +kernel
theorem dL_size_137 : decode cL_size 137 = .ok (.iconst 2, 1) := by decide +kernel
theorem dL_size_138 : decode cL_size 138 = .ok (.iadd, 1) := by decide +kernel
theorem dL_size_139 : decode cL_size 139 = .ok (.ireturn, 1) := by decide +kernel
theorem dL_base_0 : decode cL_base 0 = .ok (.iload_n 2, 1) := by decide +kernel
theorem dL_base_1 : decode cL_base 1 = .ok (.iconst 2, 1) := by decide +kernel
theorem dL_base_2 : decode cL_base 2 = .ok (.if_icmp .ne 17, 3) := by decide +kernel
theorem dL_base_5 : decode cL_base 5 = .ok (.aload_n 0, 1) := by decide +kernel
theorem dL_base_6 : decode cL_base 6 = .ok (.iload_n 3, 1) := by decide +kernel
theorem dL_base_7 : decode cL_base 7 = .ok (.laload, 1) := by decide +kernel
theorem dL_base_8 : decode cL_base 8 = .ok (.aload_n 1, 1) := by decide +kernel
theorem dL_base_9 : decode cL_base 9 = .ok (.iload_n 3, 1) := by decide +kernel
theorem dL_base_10 : decode cL_base 10 = .ok (.iaload, 1) := by decide +kernel
theorem dL_base_11 : decode cL_base 11 = .ok (.iload 4, 2) := by decide +kernel
theorem dL_base_13 : decode cL_base 13 = .ok (.invokestatic 101, 3) := by decide +kernel
theorem dL_base_16 : decode cL_base 16 = .ok (.goto 6, 3) := by decide +kernel
theorem dL_base_19 : decode cL_base 19 = .ok (.aload_n 0, 1) := by decide +kernel
theorem dL_base_20 : decode cL_base 20 = .ok (.iload_n 3, 1) := by decide +kernel
theorem dL_base_21 : decode cL_base 21 = .ok (.laload, 1) := by decide +kernel
theorem dL_base_22 : decode cL_base 22 = .ok (.lreturn, 1) := by decide +kernel
theorem dL_next_0 : decode cL_next 0 = .ok (.aload_n 0, 1) := by decide +kernel
theorem dL_next_1 : decode cL_next 1 = .ok (.aload_n 3, 1) := by decide +kernel
theorem dL_next_2 : decode cL_next 2 = .ok (.iload 7, 2) := by decide +kernel
theorem dL_next_4 : decode cL_next 4 = .ok (.invokestatic 105, 3) := by decide +kernel
theorem dL_next_7 : decode cL_next 7 = .ok (.istore 8, 2) := by decide +kernel
theorem dL_next_9 : decode cL_next 9 = .ok (.iload 6, 2) := by decide +kernel
theorem dL_next_11 : decode cL_next 11 = .ok (.ifCond .eq 15, 3) := by decide +kernel
theorem dL_next_14 : decode cL_next 14 = .ok (.iload 8, 2) := by decide +kernel
theorem dL_next_16 : decode cL_next 16 = .ok (.ifCond .lt 10, 3) := by decide +kernel
theorem dL_next_19 : decode cL_next 19 = .ok (.aload_n 0, 1) := by decide +kernel
theorem dL_next_20 : decode cL_next 20 = .ok (.iconst 1, 1) := by decide +kernel
theorem dL_next_21 : decode cL_next 21 = .ok (.iaload, 1) := by decide +kernel
theorem dL_next_22 : decode cL_next 22 = .ok (.iconst 1, 1) := by decide +kernel
theorem dL_next_23 : decode cL_next 23 = .ok (.if_icmp .ne 6, 3) := by decide +kernel
theorem dL_next_26 : decode cL_next 26 = .ok (.bipush 120, 2) := by decide +kernel
theorem dL_next_28 : decode cL_next 28 = .ok (.ireturn, 1) := by decide +kernel
theorem dL_next_29 : decode cL_next 29 = .ok (.bipush 10, 2) := by decide +kernel
theorem dL_next_31 : decode cL_next 31 = .ok (.lload 4, 2) := by decide +kernel
theorem dL_next_33 : decode cL_next 33 = .ok (.aload_n 1, 1) := by decide +kernel
theorem dL_next_34 : decode cL_next 34 = .ok (.aload_n 2, 1) := by decide +kernel
theorem dL_next_35 : decode cL_next 35 = .ok (.iload 6, 2) := by decide +kernel
theorem dL_next_37 : decode cL_next 37 = .ok (.iload 8, 2) := by decide +kernel
theorem dL_next_39 : decode cL_next 39 = .ok (.aload_n 0, 1) := by decide +kernel
theorem dL_next_40 : decode cL_next 40 = .ok (.iconst 0, 1) := by decide +kernel
theorem dL_next_41 : decode cL_next 41 = .ok (.iaload, 1) := by decide +kernel
theorem dL_next_42 : decode cL_next 42 = .ok (.iload 8, 2) := by decide +kernel
theorem dL_next_44 : decode cL_next 44 = .ok (.isub, 1) := by decide +kernel
theorem dL_next_45 : decode cL_next 45 = .ok (.invokestatic 109, 3) := by decide +kernel
theorem dL_next_48 : decode cL_next 48 = .ok (.invokestatic 113, 3) := by decide +kernel
theorem dL_next_51 : decode cL_next 51 = .ok (.imul, 1) := by decide +kernel
theorem dL_next_52 : decode cL_next 52 = .ok (.iload 6, 2) := by decide +kernel
theorem dL_next_54 : decode cL_next 54 = .ok (.iadd, 1) := by decide +kernel
theorem dL_next_55 : decode cL_next 55 = .ok (.ireturn, 1) := by decide +kernel
theorem dL_send_0 : decode cL_send 0 = .ok (.aload_n 0, 1) := by decide +kernel
theorem dL_send_1 : decode cL_send 1 = .ok (.aload_n 1, 1) := by decide +kernel
theorem dL_send_2 : decode cL_send 2 = .ok (.aload_n 2, 1) := by decide +kernel
theorem dL_send_3 : decode cL_send 3 = .ok (.aload_n 3, 1) := by decide +kernel
theorem dL_send_4 : decode cL_send 4 = .ok (.lload 4, 2) := by decide +kernel
theorem dL_send_6 : decode cL_send 6 = .ok (.aload_n 0, 1) := by decide +kernel
theorem dL_send_7 : decode cL_send 7 = .ok (.iconst 2, 1) := by decide +kernel
theorem dL_send_8 : decode cL_send 8 = .ok (.iaload, 1) := by decide +kernel
theorem dL_send_9 : decode cL_send 9 = .ok (.aload_n 0, 1) := by decide +kernel
theorem dL_send_10 : decode cL_send 10 = .ok (.iconst 3, 1) := by decide +kernel
theorem dL_send_11 : decode cL_send 11 = .ok (.iaload, 1) := by decide +kernel
theorem dL_send_12 : decode cL_send 12 = .ok (.invokestatic 117, 3) := by decide +kernel
theorem dL_send_15 : decode cL_send 15 = .ok (.istore 7, 2) := by decide +kernel
theorem dL_send_17 : decode cL_send 17 = .ok (.aload_n 0, 1) := by decide +kernel
theorem dL_send_18 : decode cL_send 18 = .ok (.aload_n 3, 1) := by decide +kernel
theorem dL_send_19 : decode cL_send 19 = .ok (.aload_n 0, 1) := by decide +kernel
theorem dL_send_20 : decode cL_send 20 = .ok (.iconst 3, 1) := by decide +kernel
theorem dL_send_21 : decode cL_send 21 = .ok (.iaload, 1) := by decide +kernel
theorem dL_send_22 : decode cL_send 22 = .ok (.invokestatic 105, 3) := by decide +kernel
theorem dL_send_25 : decode cL_send 25 = .ok (.istore 8, 2) := by decide +kernel
theorem dL_send_27 : decode cL_send 27 = .ok (.aload_n 0, 1) := by decide +kernel
theorem dL_send_28 : decode cL_send 28 = .ok (.iconst 0, 1) := by decide +kernel
theorem dL_send_29 : decode cL_send 29 = .ok (.iaload, 1) := by decide +kernel
theorem dL_send_30 : decode cL_send 30 = .ok (.istore 9, 2) := by decide +kernel
theorem dL_send_32 : decode cL_send 32 = .ok (.aload_n 1, 1) := by decide +kernel
theorem dL_send_33 : decode cL_send 33 = .ok (.iload 9, 2) := by decide +kernel
theorem dL_send_35 : decode cL_send 35 = .ok (.lload 4, 2) := by decide +kernel
theorem dL_send_37 : decode cL_send 37 = .ok (.lastore, 1) := by decide +kernel
theorem dL_send_38 : decode cL_send 38 = .ok (.aload_n 2, 1) := by decide +kernel
theorem dL_send_39 : decode cL_send 39 = .ok (.iload 9, 2) := by decide +kernel
theorem dL_send_41 : decode cL_send 41 = .ok (.iload 7, 2) := by decide +kernel
theorem dL_send_43 : decode cL_send 43 = .ok (.bipush 120, 2) := by decide +kernel
theorem dL_send_45 : decode cL_send 45 = .ok (.if_icmp .ne 9, 3) := by decide +kernel
theorem dL_send_48 : decode cL_send 48 = .ok (.aload_n 0, 1) := by decide +kernel
theorem dL_send_49 : decode cL_send 49 = .ok (.iconst 4, 1) := by decide +kernel
theorem dL_send_50 : decode cL_send 50 = .ok (.iaload, 1) := by decide +kernel
theorem dL_send_51 : decode cL_send 51 = .ok (.goto 7, 3) := by decide +kernel
theorem dL_send_54 : decode cL_send 54 = .ok (.aload_n 2, 1) := by decide +kernel
theorem dL_send_55 : decode cL_send 55 = .ok (.iload 8, 2) := by decide +kernel
theorem dL_send_57 : decode cL_send 57 = .ok (.iaload, 1) := by decide +kernel
theorem dL_send_58 : decode cL_send 58 = .ok (.iastore, 1) := by decide +kernel
theorem dL_send_59 : decode cL_send 59 = .ok (.aload_n 3, 1) := by decide +kernel
theorem dL_send_60 : decode cL_send 60 = .ok (.iload 9, 2) := by decide +kernel
theorem dL_send_62 : decode cL_send 62 = .ok (.iload 7, 2) := by decide +kernel
theorem dL_send_64 : decode cL_send 64 = .ok (.bipush 10, 2) := by decide +kernel
theorem dL_send_66 : decode cL_send 66 = .ok (.irem, 1) := by decide +kernel
theorem dL_send_67 : decode cL_send 67 = .ok (.iconst 4, 1) := by decide +kernel
theorem dL_send_68 : decode cL_send 68 = .ok (.iload 7, 2) := by decide +kernel
theorem dL_send_70 : decode cL_send 70 = .ok (.bipush 10, 2) := by decide +kernel
theorem dL_send_72 : decode cL_send 72 = .ok (.irem, 1) := by decide +kernel
theorem dL_send_73 : decode cL_send 73 = .ok (.ifCond .ne 7, 3) := by decide +kernel
theorem dL_send_76 : decode cL_send 76 = .ok (.iconst 0, 1) := by decide +kernel
theorem dL_send_77 : decode cL_send 77 = .ok (.goto 7, 3) := by decide +kernel
theorem dL_send_80 : decode cL_send 80 = .ok (.iload 8, 2) := by decide +kernel
theorem dL_send_82 : decode cL_send 82 = .ok (.iconst 1, 1) := by decide +kernel
theorem dL_send_83 : decode cL_send 83 = .ok (.iadd, 1) := by decide +kernel
theorem dL_send_84 : decode cL_send 84 = .ok (.imul, 1) := by decide +kernel
theorem dL_send_85 : decode cL_send 85 = .ok (.iadd, 1) := by decide +kernel
theorem dL_send_86 : decode cL_send 86 = .ok (.sipush 10000, 3) := by decide +kernel
theorem dL_send_89 : decode cL_send 89 = .ok (.iload 7, 2) := by decide +kernel
theorem dL_send_91 : decode cL_send 91 = .ok (.bipush 10, 2) := by decide +kernel
theorem dL_send_93 : decode cL_send 93 = .ok (.idiv, 1) := by decide +kernel
theorem dL_send_94 : decode cL_send 94 = .ok (.imul, 1) := by decide +kernel
theorem dL_send_95 : decode cL_send 95 = .ok (.iadd, 1) := by decide +kernel
theorem dL_send_96 : decode cL_send 96 = .ok (.iastore, 1) := by decide +kernel
theorem dL_send_97 : decode cL_send 97 = .ok (.aload_n 0, 1) := by decide +kernel
theorem dL_send_98 : decode cL_send 98 = .ok (.iconst 1, 1) := by decide +kernel
theorem dL_send_99 : decode cL_send 99 = .ok (.iconst 0, 1) := by decide +kernel
theorem dL_send_100 : decode cL_send 100 = .ok (.iastore, 1) := by decide +kernel
theorem dL_send_101 : decode cL_send 101 = .ok (.aload_n 0, 1) := by decide +kernel
theorem dL_send_102 : decode cL_send 102 = .ok (.bipush 18, 2) := by decide +kernel
theorem dL_send_104 : decode cL_send 104 = .ok (.dup2, 1) := by decide +kernel
theorem dL_send_105 : decode cL_send 105 = .ok (.iaload, 1) := by decide +kernel
theorem dL_send_106 : decode cL_send 106 = .ok (.iload 7, 2) := by decide +kernel
theorem dL_send_108 : decode cL_send 108 = .ok (.bipush 10, 2) := by decide +kernel
theorem dL_send_110 : decode cL_send 110 = .ok (.irem, 1) := by decide +kernel
theorem dL_send_111 : decode cL_send 111 = .ok (.ifCond .ne 7, 3) := by decide +kernel
theorem dL_send_114 : decode cL_send 114 = .ok (.iconst 1, 1) := by decide +kernel
theorem dL_send_115 : decode cL_send 115 = .ok (.goto 4, 3) := by decide +kernel
theorem dL_send_118 : decode cL_send 118 = .ok (.iconst 0, 1) := by decide +kernel
theorem dL_send_119 : decode cL_send 119 = .ok (.iadd, 1) := by decide +kernel
theorem dL_send_120 : decode cL_send 120 = .ok (.iastore, 1) := by decide +kernel
theorem dL_send_121 : decode cL_send 121 = .ok (.aload_n 0, 1) := by decide +kernel
theorem dL_send_122 : decode cL_send 122 = .ok (.bipush 19, 2) := by decide +kernel
theorem dL_send_124 : decode cL_send 124 = .ok (.dup2, 1) := by decide +kernel
theorem dL_send_125 : decode cL_send 125 = .ok (.iaload, 1) := by decide +kernel
theorem dL_send_126 : decode cL_send 126 = .ok (.iload 7, 2) := by decide +kernel
theorem dL_send_128 : decode cL_send 128 = .ok (.bipush 10, 2) := by decide +kernel
theorem dL_send_130 : decode cL_send 130 = .ok (.idiv, 1) := by decide +kernel
theorem dL_send_131 : decode cL_send 131 = .ok (.iadd, 1) := by decide +kernel
theorem dL_send_132 : decode cL_send 132 = .ok (.iastore, 1) := by decide +kernel
theorem dL_send_133 : decode cL_send 133 = .ok (.aload 6, 2) := by decide +kernel
theorem dL_send_135 : decode cL_send 135 = .ok (.iconst 0, 1) := by decide +kernel
theorem dL_send_136 : decode cL_send 136 = .ok (.dup2, 1) := by decide +kernel
theorem dL_send_137 : decode cL_send 137 = .ok (.iaload, 1) := by decide +kernel
theorem dL_send_138 : decode cL_send 138 = .ok (.iconst 1, 1) := by decide +kernel
theorem dL_send_139 : decode cL_send 139 = .ok (.iadd, 1) := by decide +kernel
theorem dL_send_140 : decode cL_send 140 = .ok (.iastore, 1) := by decide +kernel
theorem dL_send_141 : decode cL_send 141 = .ok (.aload 6, 2) := by decide +kernel
theorem dL_send_143 : decode cL_send 143 = .ok (.aload 6, 2) := by decide +kernel
theorem dL_send_145 : decode cL_send 145 = .ok (.iconst 0, 1) := by decide +kernel
theorem dL_send_146 : decode cL_send 146 = .ok (.iaload, 1) := by decide +kernel
theorem dL_send_147 : decode cL_send 147 = .ok (.iload 9, 2) := by decide +kernel
theorem dL_send_149 : decode cL_send 149 = .ok (.iastore, 1) := by decide +kernel
theorem dL_send_150 : decode cL_send 150 = .ok (.aload_n 0, 1) := by decide +kernel
theorem dL_send_151 : decode cL_send 151 = .ok (.iconst 0, 1) := by decide +kernel
theorem dL_send_152 : decode cL_send 152 = .ok (.dup2, 1) := by decide +kernel
theorem dL_send_153 : decode cL_send 153 = .ok (.iaload, 1) := by decide +kernel
theorem dL_send_154 : decode cL_send 154 = .ok (.iconst 1, 1) := by decide +kernel
theorem dL_send_155 : decode cL_send 155 = .ok (.iadd, 1) := by decide +kernel
theorem dL_send_156 : decode cL_send 156 = .ok (.iastore, 1) := by decide +kernel
theorem dL_send_157 : decode cL_send 157 = .ok (.return_, 1) := by decide +kernel
theorem dL_take_0 : decode cL_take 0 = .ok (.aload_n 0, 1) := by decide +kernel
theorem dL_take_1 : decode cL_take 1 = .ok (.iconst 1, 1) := by decide +kernel
theorem dL_take_2 : decode cL_take 2 = .ok (.iload_n 1, 1) := by decide +kernel
theorem dL_take_3 : decode cL_take 3 = .ok (.iadd, 1) := by decide +kernel
theorem dL_take_4 : decode cL_take 4 = .ok (.iaload, 1) := by decide +kernel
theorem dL_take_5 : decode cL_take 5 = .ok (.istore_n 2, 1) := by decide +kernel
theorem dL_take_6 : decode cL_take 6 = .ok (.iload_n 1, 1) := by decide +kernel
theorem dL_take_7 : decode cL_take 7 = .ok (.iconst 1, 1) := by decide +kernel
theorem dL_take_8 : decode cL_take 8 = .ok (.iadd, 1) := by decide +kernel
theorem dL_take_9 : decode cL_take 9 = .ok (.istore_n 3, 1) := by decide +kernel
theorem dL_take_10 : decode cL_take 10 = .ok (.iload_n 3, 1) := by decide +kernel
theorem dL_take_11 : decode cL_take 11 = .ok (.aload_n 0, 1) := by decide +kernel
theorem dL_take_12 : decode cL_take 12 = .ok (.iconst 0, 1) := by decide +kernel
theorem dL_take_13 : decode cL_take 13 = .ok (.iaload, 1) := by decide +kernel
theorem dL_take_14 : decode cL_take 14 = .ok (.if_icmp .ge 17, 3) := by decide +kernel
theorem dL_take_17 : decode cL_take 17 = .ok (.aload_n 0, 1) := by decide +kernel
theorem dL_take_18 : decode cL_take 18 = .ok (.iload_n 3, 1) := by decide +kernel
theorem dL_take_19 : decode cL_take 19 = .ok (.aload_n 0, 1) := by decide +kernel
theorem dL_take_20 : decode cL_take 20 = .ok (.iload_n 3, 1) := by decide +kernel
theorem dL_take_21 : decode cL_take 21 = .ok (.iconst 1, 1) := by decide +kernel
theorem dL_take_22 : decode cL_take 22 = .ok (.iadd, 1) := by decide +kernel
theorem dL_take_23 : decode cL_take 23 = .ok (.iaload, 1) := by decide +kernel
theorem dL_take_24 : decode cL_take 24 = .ok (.iastore, 1) := by decide +kernel
theorem dL_take_25 : decode cL_take 25 = .ok (.iinc 3 1, 3) := by decide +kernel
theorem dL_take_28 : decode cL_take 28 = .ok (.goto (-18), 3) := by decide +kernel
theorem dL_take_31 : decode cL_take 31 = .ok (.aload_n 0, 1) := by decide +kernel
theorem dL_take_32 : decode cL_take 32 = .ok (.iconst 0, 1) := by decide +kernel
theorem dL_take_33 : decode cL_take 33 = .ok (.dup2, 1) := by decide +kernel
theorem dL_take_34 : decode cL_take 34 = .ok (.iaload, 1) := by decide +kernel
theorem dL_take_35 : decode cL_take 35 = .ok (.iconst 1, 1) := by decide +kernel
theorem dL_take_36 : decode cL_take 36 = .ok (.isub, 1) := by decide +kernel
theorem dL_take_37 : decode cL_take 37 = .ok (.iastore, 1) := by decide +kernel
theorem dL_take_38 : decode cL_take 38 = .ok (.iload_n 2, 1) := by decide +kernel
theorem dL_take_39 : decode cL_take 39 = .ok (.ireturn, 1) := by decide +kernel
theorem dL_message_0 : decode cL_message 0 = .ok (.aload_n 0, 1) := by decide +kernel
theorem dL_message_1 : decode cL_message 1 = .ok (.iconst 0, 1) := by decide +kernel
theorem dL_message_2 : decode cL_message 2 = .ok (.iaload, 1) := by decide +kernel
theorem dL_message_3 : decode cL_message 3 = .ok (.bipush 20, 2) := by decide +kernel
theorem dL_message_5 : decode cL_message 5 = .ok (.if_icmp .ge 16, 3) := by decide +kernel
theorem dL_message_8 : decode cL_message 8 = .ok (.aload_n 0, 1) := by decide +kernel
theorem dL_message_9 : decode cL_message 9 = .ok (.iconst 0, 1) := by decide +kernel
theorem dL_message_10 : decode cL_message 10 = .ok (.dup2, 1) := by decide +kernel
theorem dL_message_11 : decode cL_message 11 = .ok (.iaload, 1) := by decide +kernel
theorem dL_message_12 : decode cL_message 12 = .ok (.iconst 1, 1) := by decide +kernel
theorem dL_message_13 : decode cL_message 13 = .ok (.iadd, 1) := by decide +kernel
theorem dL_message_14 : decode cL_message 14 = .ok (.iastore, 1) := by decide +kernel
theorem dL_message_15 : decode cL_message 15 = .ok (.aload_n 0, 1) := by decide +kernel
theorem dL_message_16 : decode cL_message 16 = .ok (.aload_n 0, 1) := by decide +kernel
theorem dL_message_17 : decode cL_message 17 = .ok (.iconst 0, 1) := by decide +kernel
theorem dL_message_18 : decode cL_message 18 = .ok (.iaload, 1) := by decide +kernel
theorem dL_message_19 : decode cL_message 19 = .ok (.iload_n 1, 1) := by decide +kernel
theorem dL_message_20 : decode cL_message 20 = .ok (.iastore, 1) := by decide +kernel
theorem dL_message_21 : decode cL_message 21 = .ok (.return_, 1) := by decide +kernel
theorem dL_numberFor_0 : decode cL_numberFor 0 = .ok (.aload_n 0, 1) := by decide +kernel
theorem dL_numberFor_1 : decode cL_numberFor 1 = .ok (.bipush 10, 2) := by decide +kernel
theorem dL_numberFor_3 : decode cL_numberFor 3 = .ok (.iaload, 1) := by decide +kernel
theorem dL_numberFor_4 : decode cL_numberFor 4 = .ok (.aload_n 0, 1) := by decide +kernel
theorem dL_numberFor_5 : decode cL_numberFor 5 = .ok (.bipush 7, 2) := by decide +kernel
theorem dL_numberFor_7 : decode cL_numberFor 7 = .ok (.iaload, 1) := by decide +kernel
theorem dL_numberFor_8 : decode cL_numberFor 8 = .ok (.isub, 1) := by decide +kernel
theorem dL_numberFor_9 : decode cL_numberFor 9 = .ok (.iconst 1, 1) := by decide +kernel
theorem dL_numberFor_10 : decode cL_numberFor 10 = .ok (.iadd, 1) := by decide +kernel
theorem dL_numberFor_11 : decode cL_numberFor 11 = .ok (.istore_n 2, 1) := by decide +kernel
theorem dL_numberFor_12 : decode cL_numberFor 12 = .ok (.iload_n 2, 1) := by decide +kernel
theorem dL_numberFor_13 : decode cL_numberFor 13 = .ok (.iload_n 1, 1) := by decide +kernel
theorem dL_numberFor_14 : decode cL_numberFor 14 = .ok (.isub, 1) := by decide +kernel
theorem dL_numberFor_15 : decode cL_numberFor 15 = .ok (.bipush 64, 2) := by decide +kernel
theorem dL_numberFor_17 : decode cL_numberFor 17 = .ok (.irem, 1) := by decide +kernel
theorem dL_numberFor_18 : decode cL_numberFor 18 = .ok (.ifCond .eq 9, 3) := by decide +kernel
theorem dL_numberFor_21 : decode cL_numberFor 21 = .ok (.iinc 2 1, 3) := by decide +kernel
theorem dL_numberFor_24 : decode cL_numberFor 24 = .ok (.goto (-12), 3) := by decide +kernel
theorem dL_numberFor_27 : decode cL_numberFor 27 = .ok (.iload_n 2, 1) := by decide +kernel
theorem dL_numberFor_28 : decode cL_numberFor 28 = .ok (.ireturn, 1) := by decide +kernel
theorem dL_receive_0 : decode cL_receive 0 = .ok (.aload_n 0, 1) := by decide +kernel
theorem dL_receive_1 : decode cL_receive 1 = .ok (.bipush 20, 2) := by decide +kernel
theorem dL_receive_3 : decode cL_receive 3 = .ok (.aload_n 0, 1) := by decide +kernel
theorem dL_receive_4 : decode cL_receive 4 = .ok (.bipush 10, 2) := by decide +kernel
theorem dL_receive_6 : decode cL_receive 6 = .ok (.iaload, 1) := by decide +kernel
theorem dL_receive_7 : decode cL_receive 7 = .ok (.iload 8, 2) := by decide +kernel
theorem dL_receive_9 : decode cL_receive 9 = .ok (.isub, 1) := by decide +kernel
theorem dL_receive_10 : decode cL_receive 10 = .ok (.aload_n 0, 1) := by decide +kernel
theorem dL_receive_11 : decode cL_receive 11 = .ok (.bipush 20, 2) := by decide +kernel
theorem dL_receive_13 : decode cL_receive 13 = .ok (.iaload, 1) := by decide +kernel
theorem dL_receive_14 : decode cL_receive 14 = .ok (.if_icmp .le 13, 3) := by decide +kernel
theorem dL_receive_17 : decode cL_receive 17 = .ok (.aload_n 0, 1) := by decide +kernel
theorem dL_receive_18 : decode cL_receive 18 = .ok (.bipush 10, 2) := by decide +kernel
theorem dL_receive_20 : decode cL_receive 20 = .ok (.iaload, 1) := by decide +kernel
theorem dL_receive_21 : decode cL_receive 21 = .ok (.iload 8, 2) := by decide +kernel
theorem dL_receive_23 : decode cL_receive 23 = .ok (.isub, 1) := by decide +kernel
theorem dL_receive_24 : decode cL_receive 24 = .ok (.goto 7, 3) := by decide +kernel
theorem dL_receive_27 : decode cL_receive 27 = .ok (.aload_n 0, 1) := by decide +kernel
theorem dL_receive_28 : decode cL_receive 28 = .ok (.bipush 20, 2) := by decide +kernel
theorem dL_receive_30 : decode cL_receive 30 = .ok (.iaload, 1) := by decide +kernel
theorem dL_receive_31 : decode cL_receive 31 = .ok (.iastore, 1) := by decide +kernel
theorem dL_receive_32 : decode cL_receive 32 = .ok (.aload_n 3, 1) := by decide +kernel
theorem dL_receive_33 : decode cL_receive 33 = .ok (.iload 8, 2) := by decide +kernel
theorem dL_receive_35 : decode cL_receive 35 = .ok (.iaload, 1) := by decide +kernel
theorem dL_receive_36 : decode cL_receive 36 = .ok (.iconst 4, 1) := by decide +kernel
theorem dL_receive_37 : decode cL_receive 37 = .ok (.irem, 1) := by decide +kernel
theorem dL_receive_38 : decode cL_receive 38 = .ok (.istore 9, 2) := by decide +kernel
theorem dL_receive_40 : decode cL_receive 40 = .ok (.iload 9, 2) := by decide +kernel
theorem dL_receive_42 : decode cL_receive 42 = .ok (.ifCond .ne 8, 3) := by decide +kernel
theorem dL_receive_45 : decode cL_receive 45 = .ok (.iload 8, 2) := by decide +kernel
theorem dL_receive_47 : decode cL_receive 47 = .ok (.goto 12, 3) := by decide +kernel
theorem dL_receive_50 : decode cL_receive 50 = .ok (.aload_n 0, 1) := by decide +kernel
theorem dL_receive_51 : decode cL_receive 51 = .ok (.iload 8, 2) := by decide +kernel
theorem dL_receive_53 : decode cL_receive 53 = .ok (.bipush 64, 2) := by decide +kernel
theorem dL_receive_55 : decode cL_receive 55 = .ok (.irem, 1) := by decide +kernel
theorem dL_receive_56 : decode cL_receive 56 = .ok (.invokestatic 121, 3) := by decide +kernel
theorem dL_receive_59 : decode cL_receive 59 = .ok (.istore 10, 2) := by decide +kernel
theorem dL_receive_61 : decode cL_receive 61 = .ok (.iload 10, 2) := by decide +kernel
theorem dL_receive_63 : decode cL_receive 63 = .ok (.ifCond .lt 26, 3) := by decide +kernel
theorem dL_receive_66 : decode cL_receive 66 = .ok (.aload 4, 2) := by decide +kernel
theorem dL_receive_68 : decode cL_receive 68 = .ok (.iload 10, 2) := by decide +kernel
theorem dL_receive_70 : decode cL_receive 70 = .ok (.bipush 64, 2) := by decide +kernel
theorem dL_receive_72 : decode cL_receive 72 = .ok (.irem, 1) := by decide +kernel
theorem dL_receive_73 : decode cL_receive 73 = .ok (.iaload, 1) := by decide +kernel
theorem dL_receive_74 : decode cL_receive 74 = .ok (.iload 10, 2) := by decide +kernel
theorem dL_receive_76 : decode cL_receive 76 = .ok (.if_icmp .ne 13, 3) := by decide +kernel
theorem dL_receive_79 : decode cL_receive 79 = .ok (.aload_n 0, 1) := by decide +kernel
theorem dL_receive_80 : decode cL_receive 80 = .ok (.bipush 16, 2) := by decide +kernel
theorem dL_receive_82 : decode cL_receive 82 = .ok (.dup2, 1) := by decide +kernel
theorem dL_receive_83 : decode cL_receive 83 = .ok (.iaload, 1) := by decide +kernel
theorem dL_receive_84 : decode cL_receive 84 = .ok (.iconst 1, 1) := by decide +kernel
theorem dL_receive_85 : decode cL_receive 85 = .ok (.iadd, 1) := by decide +kernel
theorem dL_receive_86 : decode cL_receive 86 = .ok (.iastore, 1) := by decide +kernel
theorem dL_receive_87 : decode cL_receive 87 = .ok (.iconst 3, 1) := by decide +kernel
theorem dL_receive_88 : decode cL_receive 88 = .ok (.ireturn, 1) := by decide +kernel
theorem dL_receive_89 : decode cL_receive 89 = .ok (.aload_n 1, 1) := by decide +kernel
theorem dL_receive_90 : decode cL_receive 90 = .ok (.iload 8, 2) := by decide +kernel
theorem dL_receive_92 : decode cL_receive 92 = .ok (.laload, 1) := by decide +kernel
theorem dL_receive_93 : decode cL_receive 93 = .ok (.lstore 11, 2) := by decide +kernel
theorem dL_receive_95 : decode cL_receive 95 = .ok (.aload_n 2, 1) := by decide +kernel
theorem dL_receive_96 : decode cL_receive 96 = .ok (.iload 8, 2) := by decide +kernel
theorem dL_receive_98 : decode cL_receive 98 = .ok (.iaload, 1) := by decide +kernel
theorem dL_receive_99 : decode cL_receive 99 = .ok (.istore 13, 2) := by decide +kernel
theorem dL_receive_101 : decode cL_receive 101 = .ok (.iload 9, 2) := by decide +kernel
theorem dL_receive_103 : decode cL_receive 103 = .ok (.ifCond .le 245, 3) := by decide +kernel
theorem dL_receive_106 : decode cL_receive 106 = .ok (.aload_n 3, 1) := by decide +kernel
theorem dL_receive_107 : decode cL_receive 107 = .ok (.iload 8, 2) := by decide +kernel
theorem dL_receive_109 : decode cL_receive 109 = .ok (.iaload, 1) := by decide +kernel
theorem dL_receive_110 : decode cL_receive 110 = .ok (.sipush 1000, 3) := by decide +kernel
theorem dL_receive_113 : decode cL_receive 113 = .ok (.irem, 1) := by decide +kernel
theorem dL_receive_114 : decode cL_receive 114 = .ok (.iconst 4, 1) := by decide +kernel
theorem dL_receive_115 : decode cL_receive 115 = .ok (.idiv, 1) := by decide +kernel
theorem dL_receive_116 : decode cL_receive 116 = .ok (.iconst 1, 1) := by decide +kernel
theorem dL_receive_117 : decode cL_receive 117 = .ok (.isub, 1) := by decide +kernel
theorem dL_receive_118 : decode cL_receive 118 = .ok (.istore 14, 2) := by decide +kernel
theorem dL_receive_120 : decode cL_receive 120 = .ok (.iload 10, 2) := by decide +kernel
theorem dL_receive_122 : decode cL_receive 122 = .ok (.iload 8, 2) := by decide +kernel
theorem dL_receive_124 : decode cL_receive 124 = .ok (.isub, 1) := by decide +kernel
theorem dL_receive_125 : decode cL_receive 125 = .ok (.iload 14, 2) := by decide +kernel
theorem dL_receive_127 : decode cL_receive 127 = .ok (.iadd, 1) := by decide +kernel
theorem dL_receive_128 : decode cL_receive 128 = .ok (.istore 15, 2) := by decide +kernel
theorem dL_receive_130 : decode cL_receive 130 = .ok (.iload 15, 2) := by decide +kernel
theorem dL_receive_132 : decode cL_receive 132 = .ok (.ifCond .lt 16, 3) := by decide +kernel
theorem dL_receive_135 : decode cL_receive 135 = .ok (.aload 4, 2) := by decide +kernel
theorem dL_receive_137 : decode cL_receive 137 = .ok (.iload 15, 2) := by decide +kernel
theorem dL_receive_139 : decode cL_receive 139 = .ok (.bipush 64, 2) := by decide +kernel
theorem dL_receive_141 : decode cL_receive 141 = .ok (.irem, 1) := by decide +kernel
theorem dL_receive_142 : decode cL_receive 142 = .ok (.iaload, 1) := by decide +kernel
theorem dL_receive_143 : decode cL_receive 143 = .ok (.iload 15, 2) := by decide +kernel
theorem dL_receive_145 : decode cL_receive 145 = .ok (.if_icmp .eq 51, 3) := by decide +kernel
theorem dL_receive_148 : decode cL_receive 148 = .ok (.aload_n 0, 1) := by decide +kernel
theorem dL_receive_149 : decode cL_receive 149 = .ok (.bipush 15, 2) := by decide +kernel
theorem dL_receive_151 : decode cL_receive 151 = .ok (.dup2, 1) := by decide +kernel
theorem dL_receive_152 : decode cL_receive 152 = .ok (.iaload, 1) := by decide +kernel
theorem dL_receive_153 : decode cL_receive 153 = .ok (.iconst 1, 1) := by decide +kernel
theorem dL_receive_154 : decode cL_receive 154 = .ok (.iadd, 1) := by decide +kernel
theorem dL_receive_155 : decode cL_receive 155 = .ok (.iastore, 1) := by decide +kernel
theorem dL_receive_156 : decode cL_receive 156 = .ok (.aload_n 0, 1) := by decide +kernel
theorem dL_receive_157 : decode cL_receive 157 = .ok (.bipush 11, 2) := by decide +kernel
theorem dL_receive_159 : decode cL_receive 159 = .ok (.dup2, 1) := by decide +kernel
theorem dL_receive_160 : decode cL_receive 160 = .ok (.iaload, 1) := by decide +kernel
theorem dL_receive_161 : decode cL_receive 161 = .ok (.iconst 1, 1) := by decide +kernel
theorem dL_receive_162 : decode cL_receive 162 = .ok (.iadd, 1) := by decide +kernel
theorem dL_receive_163 : decode cL_receive 163 = .ok (.iastore, 1) := by decide +kernel
theorem dL_receive_164 : decode cL_receive 164 = .ok (.aload_n 0, 1) := by decide +kernel
theorem dL_receive_165 : decode cL_receive 165 = .ok (.bipush 11, 2) := by decide +kernel
theorem dL_receive_167 : decode cL_receive 167 = .ok (.iaload, 1) := by decide +kernel
theorem dL_receive_168 : decode cL_receive 168 = .ok (.aload_n 0, 1) := by decide +kernel
theorem dL_receive_169 : decode cL_receive 169 = .ok (.bipush 9, 2) := by decide +kernel
theorem dL_receive_171 : decode cL_receive 171 = .ok (.iaload, 1) := by decide +kernel
theorem dL_receive_172 : decode cL_receive 172 = .ok (.if_icmp .lt 22, 3) := by decide +kernel
theorem dL_receive_175 : decode cL_receive 175 = .ok (.aload_n 0, 1) := by decide +kernel
theorem dL_receive_176 : decode cL_receive 176 = .ok (.bipush 11, 2) := by decide +kernel
theorem dL_receive_178 : decode cL_receive 178 = .ok (.iconst 0, 1) := by decide +kernel
theorem dL_receive_179 : decode cL_receive 179 = .ok (.iastore, 1) := by decide +kernel
theorem dL_receive_180 : decode cL_receive 180 = .ok (.aload_n 0, 1) := by decide +kernel
theorem dL_receive_181 : decode cL_receive 181 = .ok (.bipush 17, 2) := by decide +kernel
theorem dL_receive_183 : decode cL_receive 183 = .ok (.dup2, 1) := by decide +kernel
theorem dL_receive_184 : decode cL_receive 184 = .ok (.iaload, 1) := by decide +kernel
theorem dL_receive_185 : decode cL_receive 185 = .ok (.iconst 1, 1) := by decide +kernel
theorem dL_receive_186 : decode cL_receive 186 = .ok (.iadd, 1) := by decide +kernel
theorem dL_receive_187 : decode cL_receive 187 = .ok (.iastore, 1) := by decide +kernel
theorem dL_receive_188 : decode cL_receive 188 = .ok (.aload 7, 2) := by decide +kernel
theorem dL_receive_190 : decode cL_receive 190 = .ok (.iconst (-1), 1) := by decide +kernel
theorem dL_receive_191 : decode cL_receive 191 = .ok (.invokestatic 124, 3) := by decide +kernel
theorem dL_receive_194 : decode cL_receive 194 = .ok (.iconst 2, 1) := by decide +kernel
theorem dL_receive_195 : decode cL_receive 195 = .ok (.ireturn, 1) := by decide +kernel
theorem dL_receive_196 : decode cL_receive 196 = .ok (.aload_n 1, 1) := by decide +kernel
theorem dL_receive_197 : decode cL_receive 197 = .ok (.aload_n 2, 1) := by decide +kernel
theorem dL_receive_198 : decode cL_receive 198 = .ok (.iload 9, 2) := by decide +kernel
theorem dL_receive_200 : decode cL_receive 200 = .ok (.iload 14, 2) := by decide +kernel
theorem dL_receive_202 : decode cL_receive 202 = .ok (.iload 8, 2) := by decide +kernel
theorem dL_receive_204 : decode cL_receive 204 = .ok (.iload 14, 2) := by decide +kernel
theorem dL_receive_206 : decode cL_receive 206 = .ok (.isub, 1) := by decide +kernel
theorem dL_receive_207 : decode cL_receive 207 = .ok (.invokestatic 109, 3) := by decide +kernel
theorem dL_receive_210 : decode cL_receive 210 = .ok (.lstore 16, 2) := by decide +kernel
theorem dL_receive_212 : decode cL_receive 212 = .ok (.aload 5, 2) := by decide +kernel
theorem dL_receive_214 : decode cL_receive 214 = .ok (.aload 6, 2) := by decide +kernel
theorem dL_receive_216 : decode cL_receive 216 = .ok (.iload 9, 2) := by decide +kernel
theorem dL_receive_218 : decode cL_receive 218 = .ok (.iload 15, 2) := by decide +kernel
theorem dL_receive_220 : decode cL_receive 220 = .ok (.bipush 64, 2) := by decide +kernel
theorem dL_receive_222 : decode cL_receive 222 = .ok (.irem, 1) := by decide +kernel
theorem dL_receive_223 : decode cL_receive 223 = .ok (.iload 8, 2) := by decide +kernel
theorem dL_receive_225 : decode cL_receive 225 = .ok (.iload 14, 2) := by decide +kernel
theorem dL_receive_227 : decode cL_receive 227 = .ok (.isub, 1) := by decide +kernel
theorem dL_receive_228 : decode cL_receive 228 = .ok (.invokestatic 109, 3) := by decide +kernel
theorem dL_receive_231 : decode cL_receive 231 = .ok (.lstore 18, 2) := by decide +kernel
theorem dL_receive_233 : decode cL_receive 233 = .ok (.lload 11, 2) := by decide +kernel
theorem dL_receive_235 : decode cL_receive 235 = .ok (.iconst 0, 1) := by decide +kernel
theorem dL_receive_236 : decode cL_receive 236 = .ok (.invokestatic 88, 3) := by decide +kernel
theorem dL_receive_239 : decode cL_receive 239 = .ok (.lload 16, 2) := by decide +kernel
theorem dL_receive_241 : decode cL_receive 241 = .ok (.iconst 0, 1) := by decide +kernel
theorem dL_receive_242 : decode cL_receive 242 = .ok (.invokestatic 88, 3) := by decide +kernel
theorem dL_receive_245 : decode cL_receive 245 = .ok (.if_icmp .ne 12, 3) := by decide +kernel
theorem dL_receive_248 : decode cL_receive 248 = .ok (.lload 18, 2) := by decide +kernel
theorem dL_receive_250 : decode cL_receive 250 = .ok (.iconst 0, 1) := by decide +kernel
theorem dL_receive_251 : decode cL_receive 251 = .ok (.invokestatic 88, 3) := by decide +kernel
theorem dL_receive_254 : decode cL_receive 254 = .ok (.goto 9, 3) := by decide +kernel
theorem dL_receive_257 : decode cL_receive 257 = .ok (.lload 11, 2) := by decide +kernel
theorem dL_receive_259 : decode cL_receive 259 = .ok (.iconst 0, 1) := by decide +kernel
theorem dL_receive_260 : decode cL_receive 260 = .ok (.invokestatic 88, 3) := by decide +kernel
theorem dL_receive_263 : decode cL_receive 263 = .ok (.lload 18, 2) := by decide +kernel
theorem dL_receive_265 : decode cL_receive 265 = .ok (.iconst 1, 1) := by decide +kernel
theorem dL_receive_266 : decode cL_receive 266 = .ok (.invokestatic 88, 3) := by decide +kernel
theorem dL_receive_269 : decode cL_receive 269 = .ok (.lload 11, 2) := by decide +kernel
theorem dL_receive_271 : decode cL_receive 271 = .ok (.iconst 1, 1) := by decide +kernel
theorem dL_receive_272 : decode cL_receive 272 = .ok (.invokestatic 88, 3) := by decide +kernel
theorem dL_receive_275 : decode cL_receive 275 = .ok (.iadd, 1) := by decide +kernel
theorem dL_receive_276 : decode cL_receive 276 = .ok (.lload 16, 2) := by decide +kernel
theorem dL_receive_278 : decode cL_receive 278 = .ok (.iconst 1, 1) := by decide +kernel
theorem dL_receive_279 : decode cL_receive 279 = .ok (.invokestatic 88, 3) := by decide +kernel
theorem dL_receive_282 : decode cL_receive 282 = .ok (.isub, 1) := by decide +kernel
theorem dL_receive_283 : decode cL_receive 283 = .ok (.lload 18, 2) := by decide +kernel
theorem dL_receive_285 : decode cL_receive 285 = .ok (.iconst 2, 1) := by decide +kernel
theorem dL_receive_286 : decode cL_receive 286 = .ok (.invokestatic 88, 3) := by decide +kernel
theorem dL_receive_289 : decode cL_receive 289 = .ok (.lload 11, 2) := by decide +kernel
theorem dL_receive_291 : decode cL_receive 291 = .ok (.iconst 2, 1) := by decide +kernel
theorem dL_receive_292 : decode cL_receive 292 = .ok (.invokestatic 88, 3) := by decide +kernel
theorem dL_receive_295 : decode cL_receive 295 = .ok (.iadd, 1) := by decide +kernel
theorem dL_receive_296 : decode cL_receive 296 = .ok (.lload 16, 2) := by decide +kernel
theorem dL_receive_298 : decode cL_receive 298 = .ok (.iconst 2, 1) := by decide +kernel
theorem dL_receive_299 : decode cL_receive 299 = .ok (.invokestatic 88, 3) := by decide +kernel
theorem dL_receive_302 : decode cL_receive 302 = .ok (.isub, 1) := by decide +kernel
theorem dL_receive_303 : decode cL_receive 303 = .ok (.lload 11, 2) := by decide +kernel
theorem dL_receive_305 : decode cL_receive 305 = .ok (.iconst 3, 1) := by decide +kernel
theorem dL_receive_306 : decode cL_receive 306 = .ok (.invokestatic 88, 3) := by decide +kernel
theorem dL_receive_309 : decode cL_receive 309 = .ok (.lload 16, 2) := by decide +kernel
theorem dL_receive_311 : decode cL_receive 311 = .ok (.iconst 3, 1) := by decide +kernel
theorem dL_receive_312 : decode cL_receive 312 = .ok (.invokestatic 88, 3) := by decide +kernel
theorem dL_receive_315 : decode cL_receive 315 = .ok (.if_icmp .ne 12, 3) := by decide +kernel
theorem dL_receive_318 : decode cL_receive 318 = .ok (.lload 18, 2) := by decide +kernel
theorem dL_receive_320 : decode cL_receive 320 = .ok (.iconst 3, 1) := by decide +kernel
theorem dL_receive_321 : decode cL_receive 321 = .ok (.invokestatic 88, 3) := by decide +kernel
theorem dL_receive_324 : decode cL_receive 324 = .ok (.goto 9, 3) := by decide +kernel
theorem dL_receive_327 : decode cL_receive 327 = .ok (.lload 11, 2) := by decide +kernel
theorem dL_receive_329 : decode cL_receive 329 = .ok (.iconst 3, 1) := by decide +kernel
theorem dL_receive_330 : decode cL_receive 330 = .ok (.invokestatic 88, 3) := by decide +kernel
theorem dL_receive_333 : decode cL_receive 333 = .ok (.invokestatic 94, 3) := by decide +kernel
theorem dL_receive_336 : decode cL_receive 336 = .ok (.lstore 11, 2) := by decide +kernel
theorem dL_receive_338 : decode cL_receive 338 = .ok (.aload 6, 2) := by decide +kernel
theorem dL_receive_340 : decode cL_receive 340 = .ok (.iload 15, 2) := by decide +kernel
theorem dL_receive_342 : decode cL_receive 342 = .ok (.bipush 64, 2) := by decide +kernel
theorem dL_receive_344 : decode cL_receive 344 = .ok (.irem, 1) := by decide +kernel
theorem dL_receive_345 : decode cL_receive 345 = .ok (.iaload, 1) := by decide +kernel
theorem dL_receive_346 : decode cL_receive 346 = .ok (.istore 13, 2) := by decide +kernel
theorem dL_receive_348 : decode cL_receive 348 = .ok (.aload_n 0, 1) := by decide +kernel
theorem dL_receive_349 : decode cL_receive 349 = .ok (.bipush 10, 2) := by decide +kernel
theorem dL_receive_351 : decode cL_receive 351 = .ok (.iload 10, 2) := by decide +kernel
theorem dL_receive_353 : decode cL_receive 353 = .ok (.aload_n 0, 1) := by decide +kernel
theorem dL_receive_354 : decode cL_receive 354 = .ok (.bipush 10, 2) := by decide +kernel
theorem dL_receive_356 : decode cL_receive 356 = .ok (.iaload, 1) := by decide +kernel
theorem dL_receive_357 : decode cL_receive 357 = .ok (.if_icmp .le 8, 3) := by decide +kernel
theorem dL_receive_360 : decode cL_receive 360 = .ok (.iload 10, 2) := by decide +kernel
theorem dL_receive_362 : decode cL_receive 362 = .ok (.goto 7, 3) := by decide +kernel
theorem dL_receive_365 : decode cL_receive 365 = .ok (.aload_n 0, 1) := by decide +kernel
theorem dL_receive_366 : decode cL_receive 366 = .ok (.bipush 10, 2) := by decide +kernel
theorem dL_receive_368 : decode cL_receive 368 = .ok (.iaload, 1) := by decide +kernel
theorem dL_receive_369 : decode cL_receive 369 = .ok (.iastore, 1) := by decide +kernel
theorem dL_receive_370 : decode cL_receive 370 = .ok (.iconst 0, 1) := by decide +kernel
theorem dL_receive_371 : decode cL_receive 371 = .ok (.istore 14, 2) := by decide +kernel
theorem dL_receive_373 : decode cL_receive 373 = .ok (.iload 14, 2) := by decide +kernel
theorem dL_receive_375 : decode cL_receive 375 = .ok (.bipush 64, 2) := by decide +kernel
theorem dL_receive_377 : decode cL_receive 377 = .ok (.if_icmp .ge 38, 3) := by decide +kernel
theorem dL_receive_380 : decode cL_receive 380 = .ok (.aload 4, 2) := by decide +kernel
theorem dL_receive_382 : decode cL_receive 382 = .ok (.iload 14, 2) := by decide +kernel
theorem dL_receive_384 : decode cL_receive 384 = .ok (.aload 4, 2) := by decide +kernel
theorem dL_receive_386 : decode cL_receive 386 = .ok (.iload 14, 2) := by decide +kernel
theorem dL_receive_388 : decode cL_receive 388 = .ok (.iaload, 1) := by decide +kernel
theorem dL_receive_389 : decode cL_receive 389 = .ok (.aload_n 0, 1) := by decide +kernel
theorem dL_receive_390 : decode cL_receive 390 = .ok (.bipush 10, 2) := by decide +kernel
theorem dL_receive_392 : decode cL_receive 392 = .ok (.iaload, 1) := by decide +kernel
theorem dL_receive_393 : decode cL_receive 393 = .ok (.bipush 64, 2) := by decide +kernel
theorem dL_receive_395 : decode cL_receive 395 = .ok (.isub, 1) := by decide +kernel
theorem dL_receive_396 : decode cL_receive 396 = .ok (.if_icmp .gt 7, 3) := by decide +kernel
theorem dL_receive_399 : decode cL_receive 399 = .ok (.iconst (-1), 1) := by decide +kernel
theorem dL_receive_400 : decode cL_receive 400 = .ok (.goto 8, 3) := by decide +kernel
theorem dL_receive_403 : decode cL_receive 403 = .ok (.aload 4, 2) := by decide +kernel
theorem dL_receive_405 : decode cL_receive 405 = .ok (.iload 14, 2) := by decide +kernel
theorem dL_receive_407 : decode cL_receive 407 = .ok (.iaload, 1) := by decide +kernel
theorem dL_receive_408 : decode cL_receive 408 = .ok (.iastore, 1) := by decide +kernel
theorem dL_receive_409 : decode cL_receive 409 = .ok (.iinc 14 1, 3) := by decide +kernel
theorem dL_receive_412 : decode cL_receive 412 = .ok (.goto (-39), 3) := by decide +kernel
theorem dL_receive_415 : decode cL_receive 415 = .ok (.iload 10, 2) := by decide +kernel
theorem dL_receive_417 : decode cL_receive 417 = .ok (.aload_n 0, 1) := by decide +kernel
theorem dL_receive_418 : decode cL_receive 418 = .ok (.bipush 10, 2) := by decide +kernel
theorem dL_receive_420 : decode cL_receive 420 = .ok (.iaload, 1) := by decide +kernel
theorem dL_receive_421 : decode cL_receive 421 = .ok (.bipush 64, 2) := by decide +kernel
theorem dL_receive_423 : decode cL_receive 423 = .ok (.isub, 1) := by decide +kernel
theorem dL_receive_424 : decode cL_receive 424 = .ok (.if_icmp .le 33, 3) := by decide +kernel
theorem dL_receive_427 : decode cL_receive 427 = .ok (.aload 4, 2) := by decide +kernel
theorem dL_receive_429 : decode cL_receive 429 = .ok (.iload 10, 2) := by decide +kernel
theorem dL_receive_431 : decode cL_receive 431 = .ok (.bipush 64, 2) := by decide +kernel
theorem dL_receive_433 : decode cL_receive 433 = .ok (.irem, 1) := by decide +kernel
theorem dL_receive_434 : decode cL_receive 434 = .ok (.iload 10, 2) := by decide +kernel
theorem dL_receive_436 : decode cL_receive 436 = .ok (.iastore, 1) := by decide +kernel
theorem dL_receive_437 : decode cL_receive 437 = .ok (.aload 5, 2) := by decide +kernel
theorem dL_receive_439 : decode cL_receive 439 = .ok (.iload 10, 2) := by decide +kernel
theorem dL_receive_441 : decode cL_receive 441 = .ok (.bipush 64, 2) := by decide +kernel
theorem dL_receive_443 : decode cL_receive 443 = .ok (.irem, 1) := by decide +kernel
theorem dL_receive_444 : decode cL_receive 444 = .ok (.lload 11, 2) := by decide +kernel
theorem dL_receive_446 : decode cL_receive 446 = .ok (.lastore, 1) := by decide +kernel
theorem dL_receive_447 : decode cL_receive 447 = .ok (.aload 6, 2) := by decide +kernel
theorem dL_receive_449 : decode cL_receive 449 = .ok (.iload 10, 2) := by decide +kernel
theorem dL_receive_451 : decode cL_receive 451 = .ok (.bipush 64, 2) := by decide +kernel
theorem dL_receive_453 : decode cL_receive 453 = .ok (.irem, 1) := by decide +kernel
theorem dL_receive_454 : decode cL_receive 454 = .ok (.iload 13, 2) := by decide +kernel
theorem dL_receive_456 : decode cL_receive 456 = .ok (.iastore, 1) := by decide +kernel
theorem dL_receive_457 : decode cL_receive 457 = .ok (.aload_n 0, 1) := by decide +kernel
theorem dL_receive_458 : decode cL_receive 458 = .ok (.bipush 12, 2) := by decide +kernel
theorem dL_receive_460 : decode cL_receive 460 = .ok (.dup2, 1) := by decide +kernel
theorem dL_receive_461 : decode cL_receive 461 = .ok (.iaload, 1) := by decide +kernel
theorem dL_receive_462 : decode cL_receive 462 = .ok (.iconst 1, 1) := by decide +kernel
theorem dL_receive_463 : decode cL_receive 463 = .ok (.iadd, 1) := by decide +kernel
theorem dL_receive_464 : decode cL_receive 464 = .ok (.iastore, 1) := by decide +kernel
theorem dL_receive_465 : decode cL_receive 465 = .ok (.aload_n 0, 1) := by decide +kernel
theorem dL_receive_466 : decode cL_receive 466 = .ok (.bipush 11, 2) := by decide +kernel
theorem dL_receive_468 : decode cL_receive 468 = .ok (.iconst 0, 1) := by decide +kernel
theorem dL_receive_469 : decode cL_receive 469 = .ok (.iastore, 1) := by decide +kernel
theorem dL_receive_470 : decode cL_receive 470 = .ok (.aload_n 0, 1) := by decide +kernel
theorem dL_receive_471 : decode cL_receive 471 = .ok (.bipush 12, 2) := by decide +kernel
theorem dL_receive_473 : decode cL_receive 473 = .ok (.iaload, 1) := by decide +kernel
theorem dL_receive_474 : decode cL_receive 474 = .ok (.aload_n 0, 1) := by decide +kernel
theorem dL_receive_475 : decode cL_receive 475 = .ok (.bipush 8, 2) := by decide +kernel
theorem dL_receive_477 : decode cL_receive 477 = .ok (.iaload, 1) := by decide +kernel
theorem dL_receive_478 : decode cL_receive 478 = .ok (.irem, 1) := by decide +kernel
theorem dL_receive_479 : decode cL_receive 479 = .ok (.ifCond .ne 10, 3) := by decide +kernel
theorem dL_receive_482 : decode cL_receive 482 = .ok (.aload 7, 2) := by decide +kernel
theorem dL_receive_484 : decode cL_receive 484 = .ok (.iload 10, 2) := by decide +kernel
theorem dL_receive_486 : decode cL_receive 486 = .ok (.invokestatic 124, 3) := by decide +kernel
theorem dL_receive_489 : decode cL_receive 489 = .ok (.iload 10, 2) := by decide +kernel
theorem dL_receive_491 : decode cL_receive 491 = .ok (.iload 8, 2) := by decide +kernel
theorem dL_receive_493 : decode cL_receive 493 = .ok (.if_icmp .ne 17, 3) := by decide +kernel
theorem dL_receive_496 : decode cL_receive 496 = .ok (.lload 11, 2) := by decide +kernel
theorem dL_receive_498 : decode cL_receive 498 = .ok (.aload_n 1, 1) := by decide +kernel
theorem dL_receive_499 : decode cL_receive 499 = .ok (.iload 8, 2) := by decide +kernel
theorem dL_receive_501 : decode cL_receive 501 = .ok (.laload, 1) := by decide +kernel
theorem dL_receive_502 : decode cL_receive 502 = .ok (.lcmp, 1) := by decide +kernel
theorem dL_receive_503 : decode cL_receive 503 = .ok (.ifCond .ne 7, 3) := by decide +kernel
theorem dL_receive_506 : decode cL_receive 506 = .ok (.iconst 1, 1) := by decide +kernel
theorem dL_receive_507 : decode cL_receive 507 = .ok (.goto 4, 3) := by decide +kernel
theorem dL_receive_510 : decode cL_receive 510 = .ok (.iconst 0, 1) := by decide +kernel
theorem dL_receive_511 : decode cL_receive 511 = .ok (.istore 14, 2) := by decide +kernel
theorem dL_receive_513 : decode cL_receive 513 = .ok (.aload_n 0, 1) := by decide +kernel
theorem dL_receive_514 : decode cL_receive 514 = .ok (.iload 14, 2) := by decide +kernel
theorem dL_receive_516 : decode cL_receive 516 = .ok (.ifCond .eq 8, 3) := by decide +kernel
theorem dL_receive_519 : decode cL_receive 519 = .ok (.bipush 13, 2) := by decide +kernel
theorem dL_receive_521 : decode cL_receive 521 = .ok (.goto 5, 3) := by decide +kernel
theorem dL_receive_524 : decode cL_receive 524 = .ok (.bipush 14, 2) := by decide +kernel
theorem dL_receive_526 : decode cL_receive 526 = .ok (.dup2, 1) := by decide +kernel
theorem dL_receive_527 : decode cL_receive 527 = .ok (.iaload, 1) := by decide +kernel
theorem dL_receive_528 : decode cL_receive 528 = .ok (.iconst 1, 1) := by decide +kernel
theorem dL_receive_529 : decode cL_receive 529 = .ok (.iadd, 1) := by decide +kernel
theorem dL_receive_530 : decode cL_receive 530 = .ok (.iastore, 1) := by decide +kernel
theorem dL_receive_531 : decode cL_receive 531 = .ok (.iload 14, 2) := by decide +kernel
theorem dL_receive_533 : decode cL_receive 533 = .ok (.ifCond .eq 7, 3) := by decide +kernel
theorem dL_receive_536 : decode cL_receive 536 = .ok (.iconst 0, 1) := by decide +kernel
theorem dL_receive_537 : decode cL_receive 537 = .ok (.goto 4, 3) := by decide +kernel
theorem dL_receive_540 : decode cL_receive 540 = .ok (.iconst 1, 1) := by decide +kernel
theorem dL_receive_541 : decode cL_receive 541 = .ok (.ireturn, 1) := by decide +kernel
theorem dL_isSo_0 : decode cL_isSo 0 = .ok (.aload_n 0, 1) := by decide +kernel
theorem dL_isSo_1 : decode cL_isSo 1 = .ok (.invokevirtual 128, 3) := by decide +kernel
theorem dL_isSo_4 : decode cL_isSo 4 = .ok (.aload_n 1, 1) := by decide +kernel
theorem dL_isSo_5 : decode cL_isSo 5 = .ok (.bipush 10, 2) := by decide +kernel
theorem dL_isSo_7 : decode cL_isSo 7 = .ok (.iaload, 1) := by decide +kernel
theorem dL_isSo_8 : decode cL_isSo 8 = .ok (.if_icmp .ne 112, 3) := by decide +kernel
theorem dL_isSo_11 : decode cL_isSo 11 = .ok (.aload_n 0, 1) := by decide +kernel
theorem dL_isSo_12 : decode cL_isSo 12 = .ok (.invokevirtual 131, 3) := by decide +kernel
theorem dL_isSo_15 : decode cL_isSo 15 = .ok (.aload_n 1, 1) := by decide +kernel
theorem dL_isSo_16 : decode cL_isSo 16 = .ok (.bipush 20, 2) := by decide +kernel
theorem dL_isSo_18 : decode cL_isSo 18 = .ok (.iaload, 1) := by decide +kernel
theorem dL_isSo_19 : decode cL_isSo 19 = .ok (.if_icmp .ne 101, 3) := by decide +kernel
theorem dL_isSo_22 : decode cL_isSo 22 = .ok (.aload_n 0, 1) := by decide +kernel
theorem dL_isSo_23 : decode cL_isSo 23 = .ok (.invokevirtual 134, 3) := by decide +kernel
theorem dL_isSo_26 : decode cL_isSo 26 = .ok (.bipush 6, 2) := by decide +kernel
theorem dL_isSo_28 : decode cL_isSo 28 = .ok (.aload_n 1, 1) := by decide +kernel
theorem dL_isSo_29 : decode cL_isSo 29 = .ok (.iconst 0, 1) := by decide +kernel
theorem dL_isSo_30 : decode cL_isSo 30 = .ok (.iaload, 1) := by decide +kernel
theorem dL_isSo_31 : decode cL_isSo 31 = .ok (.imul, 1) := by decide +kernel
theorem dL_isSo_32 : decode cL_isSo 32 = .ok (.aload_n 1, 1) := by decide +kernel
theorem dL_isSo_33 : decode cL_isSo 33 = .ok (.bipush 19, 2) := by decide +kernel
theorem dL_isSo_35 : decode cL_isSo 35 = .ok (.iaload, 1) := by decide +kernel
theorem dL_isSo_36 : decode cL_isSo 36 = .ok (.isub, 1) := by decide +kernel
theorem dL_isSo_37 : decode cL_isSo 37 = .ok (.if_icmp .ne 83, 3) := by decide +kernel
theorem dL_isSo_40 : decode cL_isSo 40 = .ok (.aload_n 0, 1) := by decide +kernel
theorem dL_isSo_41 : decode cL_isSo 41 = .ok (.iconst 0, 1) := by decide +kernel
theorem dL_isSo_42 : decode cL_isSo 42 = .ok (.invokevirtual 137, 3) := by decide +kernel
theorem dL_isSo_45 : decode cL_isSo 45 = .ok (.aload 6, 2) := by decide +kernel
theorem dL_isSo_47 : decode cL_isSo 47 = .ok (.iconst 0, 1) := by decide +kernel
theorem dL_isSo_48 : decode cL_isSo 48 = .ok (.iaload, 1) := by decide +kernel
theorem dL_isSo_49 : decode cL_isSo 49 = .ok (.if_icmp .ne 71, 3) := by decide +kernel
theorem dL_isSo_52 : decode cL_isSo 52 = .ok (.aload_n 0, 1) := by decide +kernel
theorem dL_isSo_53 : decode cL_isSo 53 = .ok (.iconst 1, 1) := by decide +kernel
theorem dL_isSo_54 : decode cL_isSo 54 = .ok (.invokevirtual 137, 3) := by decide +kernel
theorem dL_isSo_57 : decode cL_isSo 57 = .ok (.aload 7, 2) := by decide +kernel
theorem dL_isSo_59 : decode cL_isSo 59 = .ok (.iconst 0, 1) := by decide +kernel
theorem dL_isSo_60 : decode cL_isSo 60 = .ok (.iaload, 1) := by decide +kernel
theorem dL_isSo_61 : decode cL_isSo 61 = .ok (.if_icmp .ne 59, 3) := by decide +kernel
theorem dL_isSo_64 : decode cL_isSo 64 = .ok (.aload_n 0, 1) := by decide +kernel
theorem dL_isSo_65 : decode cL_isSo 65 = .ok (.iconst 0, 1) := by decide +kernel
theorem dL_isSo_66 : decode cL_isSo 66 = .ok (.invokestatic 141, 3) := by decide +kernel
theorem dL_isSo_69 : decode cL_isSo 69 = .ok (.aload_n 1, 1) := by decide +kernel
theorem dL_isSo_70 : decode cL_isSo 70 = .ok (.iconst 0, 1) := by decide +kernel
theorem dL_isSo_71 : decode cL_isSo 71 = .ok (.iaload, 1) := by decide +kernel
theorem dL_isSo_72 : decode cL_isSo 72 = .ok (.if_icmp .ne 48, 3) := by decide +kernel
theorem dL_isSo_75 : decode cL_isSo 75 = .ok (.aload_n 0, 1) := by decide +kernel
theorem dL_isSo_76 : decode cL_isSo 76 = .ok (.bipush 7, 2) := by decide +kernel
theorem dL_isSo_78 : decode cL_isSo 78 = .ok (.invokestatic 141, 3) := by decide +kernel
theorem dL_isSo_81 : decode cL_isSo 81 = .ok (.aload_n 1, 1) := by decide +kernel
theorem dL_isSo_82 : decode cL_isSo 82 = .ok (.bipush 18, 2) := by decide +kernel
theorem dL_isSo_84 : decode cL_isSo 84 = .ok (.iaload, 1) := by decide +kernel
theorem dL_isSo_85 : decode cL_isSo 85 = .ok (.if_icmp .ne 35, 3) := by decide +kernel
theorem dL_isSo_88 : decode cL_isSo 88 = .ok (.aload_n 0, 1) := by decide +kernel
theorem dL_isSo_89 : decode cL_isSo 89 = .ok (.invokevirtual 145, 3) := by decide +kernel
theorem dL_isSo_92 : decode cL_isSo 92 = .ok (.aload_n 1, 1) := by decide +kernel
theorem dL_isSo_93 : decode cL_isSo 93 = .ok (.iconst 0, 1) := by decide +kernel
theorem dL_isSo_94 : decode cL_isSo 94 = .ok (.iaload, 1) := by decide +kernel
theorem dL_isSo_95 : decode cL_isSo 95 = .ok (.ifCond .ne 7, 3) := by decide +kernel
theorem dL_isSo_98 : decode cL_isSo 98 = .ok (.dconst 0, 1) := by decide +kernel
theorem dL_isSo_99 : decode cL_isSo 99 = .ok (.goto 13, 3) := by decide +kernel
theorem dL_isSo_102 : decode cL_isSo 102 = .ok (.aload_n 1, 1) := by decide +kernel
theorem dL_isSo_103 : decode cL_isSo 103 = .ok (.bipush 19, 2) := by decide +kernel
theorem dL_isSo_105 : decode cL_isSo 105 = .ok (.iaload, 1) := by decide +kernel
theorem dL_isSo_106 : decode cL_isSo 106 = .ok (.i2d, 1) := by decide +kernel
theorem dL_isSo_107 : decode cL_isSo 107 = .ok (.aload_n 1, 1) := by decide +kernel
theorem dL_isSo_108 : decode cL_isSo 108 = .ok (.iconst 0, 1) := by decide +kernel
theorem dL_isSo_109 : decode cL_isSo 109 = .ok (.iaload, 1) := by decide +kernel
theorem dL_isSo_110 : decode cL_isSo 110 = .ok (.i2d, 1) := by decide +kernel
theorem dL_isSo_111 : decode cL_isSo 111 = .ok (.ddiv, 1) := by decide +kernel
theorem dL_isSo_112 : decode cL_isSo 112 = .ok (.dcmp .l, 1) := by decide +kernel
theorem dL_isSo_113 : decode cL_isSo 113 = .ok (.ifCond .ne 7, 3) := by decide +kernel
theorem dL_isSo_116 : decode cL_isSo 116 = .ok (.iconst 1, 1) := by decide +kernel
theorem dL_isSo_117 : decode cL_isSo 117 = .ok (.goto 4, 3) := by decide +kernel
theorem dL_isSo_120 : decode cL_isSo 120 = .ok (.iconst 0, 1) := by decide +kernel
theorem dL_isSo_121 : decode cL_isSo 121 = .ok (.istore 12, 2) := by decide +kernel
theorem dL_isSo_123 : decode cL_isSo 123 = .ok (.iconst 1, 1) := by decide +kernel
theorem dL_isSo_124 : decode cL_isSo 124 = .ok (.istore 13, 2) := by decide +kernel
theorem dL_isSo_126 : decode cL_isSo 126 = .ok (.iload 13, 2) := by decide +kernel
theorem dL_isSo_128 : decode cL_isSo 128 = .ok (.bipush 7, 2) := by decide +kernel
theorem dL_isSo_130 : decode cL_isSo 130 = .ok (.if_icmp .ge 37, 3) := by decide +kernel
theorem dL_isSo_133 : decode cL_isSo 133 = .ok (.iload 12, 2) := by decide +kernel
theorem dL_isSo_135 : decode cL_isSo 135 = .ok (.ifCond .eq 23, 3) := by decide +kernel
theorem dL_isSo_138 : decode cL_isSo 138 = .ok (.aload_n 0, 1) := by decide +kernel
theorem dL_isSo_139 : decode cL_isSo 139 = .ok (.iload 13, 2) := by decide +kernel
theorem dL_isSo_141 : decode cL_isSo 141 = .ok (.invokestatic 141, 3) := by decide +kernel
theorem dL_isSo_144 : decode cL_isSo 144 = .ok (.aload_n 1, 1) := by decide +kernel
theorem dL_isSo_145 : decode cL_isSo 145 = .ok (.bipush 11, 2) := by decide +kernel
theorem dL_isSo_147 : decode cL_isSo 147 = .ok (.iload 13, 2) := by decide +kernel
theorem dL_isSo_149 : decode cL_isSo 149 = .ok (.iadd, 1) := by decide +kernel
theorem dL_isSo_150 : decode cL_isSo 150 = .ok (.iaload, 1) := by decide +kernel
theorem dL_isSo_151 : decode cL_isSo 151 = .ok (.if_icmp .ne 7, 3) := by decide +kernel
theorem dL_isSo_154 : decode cL_isSo 154 = .ok (.iconst 1, 1) := by decide +kernel
theorem dL_isSo_155 : decode cL_isSo 155 = .ok (.goto 4, 3) := by decide +kernel
theorem dL_isSo_158 : decode cL_isSo 158 = .ok (.iconst 0, 1) := by decide +kernel
theorem dL_isSo_159 : decode cL_isSo 159 = .ok (.istore 12, 2) := by decide +kernel
theorem dL_isSo_161 : decode cL_isSo 161 = .ok (.iinc 13 1, 3) := by decide +kernel
theorem dL_isSo_164 : decode cL_isSo 164 = .ok (.goto (-38), 3) := by decide +kernel
theorem dL_isSo_167 : decode cL_isSo 167 = .ok (.iconst 0, 1) := by decide +kernel
theorem dL_isSo_168 : decode cL_isSo 168 = .ok (.istore 13, 2) := by decide +kernel
theorem dL_isSo_170 : decode cL_isSo 170 = .ok (.iload 13, 2) := by decide +kernel
theorem dL_isSo_172 : decode cL_isSo 172 = .ok (.aload 6, 2) := by decide +kernel
theorem dL_isSo_174 : decode cL_isSo 174 = .ok (.iconst 0, 1) := by decide +kernel
theorem dL_isSo_175 : decode cL_isSo 175 = .ok (.iaload, 1) := by decide +kernel
theorem dL_isSo_176 : decode cL_isSo 176 = .ok (.if_icmp .ge 38, 3) := by decide +kernel
theorem dL_isSo_179 : decode cL_isSo 179 = .ok (.iload 12, 2) := by decide +kernel
theorem dL_isSo_181 : decode cL_isSo 181 = .ok (.ifCond .eq 24, 3) := by decide +kernel
theorem dL_isSo_184 : decode cL_isSo 184 = .ok (.aload_n 0, 1) := by decide +kernel
theorem dL_isSo_185 : decode cL_isSo 185 = .ok (.iconst 0, 1) := by decide +kernel
theorem dL_isSo_186 : decode cL_isSo 186 = .ok (.iload 13, 2) := by decide +kernel
theorem dL_isSo_188 : decode cL_isSo 188 = .ok (.invokestatic 149, 3) := by decide +kernel
theorem dL_isSo_191 : decode cL_isSo 191 = .ok (.aload 6, 2) := by decide +kernel
theorem dL_isSo_193 : decode cL_isSo 193 = .ok (.iconst 1, 1) := by decide +kernel
theorem dL_isSo_194 : decode cL_isSo 194 = .ok (.iload 13, 2) := by decide +kernel
theorem dL_isSo_196 : decode cL_isSo 196 = .ok (.iadd, 1) := by decide +kernel
theorem dL_isSo_197 : decode cL_isSo 197 = .ok (.iaload, 1) := by decide +kernel
theorem dL_isSo_198 : decode cL_isSo 198 = .ok (.if_icmp .ne 7, 3) := by decide +kernel
theorem dL_isSo_201 : decode cL_isSo 201 = .ok (.iconst 1, 1) := by decide +kernel
theorem dL_isSo_202 : decode cL_isSo 202 = .ok (.goto 4, 3) := by decide +kernel
theorem dL_isSo_205 : decode cL_isSo 205 = .ok (.iconst 0, 1) := by decide +kernel
theorem dL_isSo_206 : decode cL_isSo 206 = .ok (.istore 12, 2) := by decide +kernel
theorem dL_isSo_208 : decode cL_isSo 208 = .ok (.iinc 13 1, 3) := by decide +kernel
theorem dL_isSo_211 : decode cL_isSo 211 = .ok (.goto (-41), 3) := by decide +kernel
theorem dL_isSo_214 : decode cL_isSo 214 = .ok (.iconst 0, 1) := by decide +kernel
theorem dL_isSo_215 : decode cL_isSo 215 = .ok (.istore 13, 2) := by decide +kernel
theorem dL_isSo_217 : decode cL_isSo 217 = .ok (.iload 13, 2) := by decide +kernel
theorem dL_isSo_219 : decode cL_isSo 219 = .ok (.aload 7, 2) := by decide +kernel
theorem dL_isSo_221 : decode cL_isSo 221 = .ok (.iconst 0, 1) := by decide +kernel
theorem dL_isSo_222 : decode cL_isSo 222 = .ok (.iaload, 1) := by decide +kernel
theorem dL_isSo_223 : decode cL_isSo 223 = .ok (.if_icmp .ge 38, 3) := by decide +kernel
theorem dL_isSo_226 : decode cL_isSo 226 = .ok (.iload 12, 2) := by decide +kernel
theorem dL_isSo_228 : decode cL_isSo 228 = .ok (.ifCond .eq 24, 3) := by decide +kernel
theorem dL_isSo_231 : decode cL_isSo 231 = .ok (.aload_n 0, 1) := by decide +kernel
theorem dL_isSo_232 : decode cL_isSo 232 = .ok (.iconst 1, 1) := by decide +kernel
theorem dL_isSo_233 : decode cL_isSo 233 = .ok (.iload 13, 2) := by decide +kernel
theorem dL_isSo_235 : decode cL_isSo 235 = .ok (.invokestatic 149, 3) := by decide +kernel
theorem dL_isSo_238 : decode cL_isSo 238 = .ok (.aload 7, 2) := by decide +kernel
theorem dL_isSo_240 : decode cL_isSo 240 = .ok (.iconst 1, 1) := by decide +kernel
theorem dL_isSo_241 : decode cL_isSo 241 = .ok (.iload 13, 2) := by decide +kernel
theorem dL_isSo_243 : decode cL_isSo 243 = .ok (.iadd, 1) := by decide +kernel
theorem dL_isSo_244 : decode cL_isSo 244 = .ok (.iaload, 1) := by decide +kernel
theorem dL_isSo_245 : decode cL_isSo 245 = .ok (.if_icmp .ne 7, 3) := by decide +kernel
theorem dL_isSo_248 : decode cL_isSo 248 = .ok (.iconst 1, 1) := by decide +kernel
theorem dL_isSo_249 : decode cL_isSo 249 = .ok (.goto 4, 3) := by decide +kernel
theorem dL_isSo_252 : decode cL_isSo 252 = .ok (.iconst 0, 1) := by decide +kernel
theorem dL_isSo_253 : decode cL_isSo 253 = .ok (.istore 12, 2) := by decide +kernel
theorem dL_isSo_255 : decode cL_isSo 255 = .ok (.iinc 13 1, 3) := by decide +kernel
theorem dL_isSo_258 : decode cL_isSo 258 = .ok (.goto (-41), 3) := by decide +kernel
theorem dL_isSo_261 : decode cL_isSo 261 = .ok (.iconst 0, 1) := by decide +kernel
theorem dL_isSo_262 : decode cL_isSo 262 = .ok (.istore 13, 2) := by decide +kernel
theorem dL_isSo_264 : decode cL_isSo 264 = .ok (.iconst 0, 1) := by decide +kernel
theorem dL_isSo_265 : decode cL_isSo 265 = .ok (.istore 14, 2) := by decide +kernel
theorem dL_isSo_267 : decode cL_isSo 267 = .ok (.iload 14, 2) := by decide +kernel
theorem dL_isSo_269 : decode cL_isSo 269 = .ok (.bipush 64, 2) := by decide +kernel
theorem dL_isSo_271 : decode cL_isSo 271 = .ok (.if_icmp .ge 202, 3) := by decide +kernel
theorem dL_isSo_274 : decode cL_isSo 274 = .ok (.iload 12, 2) := by decide +kernel
theorem dL_isSo_276 : decode cL_isSo 276 = .ok (.ifCond .eq 197, 3) := by decide +kernel
theorem dL_isSo_279 : decode cL_isSo 279 = .ok (.iload 13, 2) := by decide +kernel
theorem dL_isSo_281 : decode cL_isSo 281 = .ok (.aload 8, 2) := by decide +kernel
theorem dL_isSo_283 : decode cL_isSo 283 = .ok (.iload 14, 2) := by decide +kernel
theorem dL_isSo_285 : decode cL_isSo 285 = .ok (.iaload, 1) := by decide +kernel
theorem dL_isSo_286 : decode cL_isSo 286 = .ok (.ifCond .ge 7, 3) := by decide +kernel
theorem dL_isSo_289 : decode cL_isSo 289 = .ok (.iconst 0, 1) := by decide +kernel
theorem dL_isSo_290 : decode cL_isSo 290 = .ok (.goto 4, 3) := by decide +kernel
theorem dL_isSo_293 : decode cL_isSo 293 = .ok (.iconst 1, 1) := by decide +kernel
theorem dL_isSo_294 : decode cL_isSo 294 = .ok (.iadd, 1) := by decide +kernel
theorem dL_isSo_295 : decode cL_isSo 295 = .ok (.istore 13, 2) := by decide +kernel
theorem dL_isSo_297 : decode cL_isSo 297 = .ok (.aload 8, 2) := by decide +kernel
theorem dL_isSo_299 : decode cL_isSo 299 = .ok (.iload 14, 2) := by decide +kernel
theorem dL_isSo_301 : decode cL_isSo 301 = .ok (.iaload, 1) := by decide +kernel
theorem dL_isSo_302 : decode cL_isSo 302 = .ok (.ifCond .ge 26, 3) := by decide +kernel
theorem dL_isSo_305 : decode cL_isSo 305 = .ok (.aload_n 1, 1) := by decide +kernel
theorem dL_isSo_306 : decode cL_isSo 306 = .ok (.bipush 10, 2) := by decide +kernel
theorem dL_isSo_308 : decode cL_isSo 308 = .ok (.iaload, 1) := by decide +kernel
theorem dL_isSo_309 : decode cL_isSo 309 = .ok (.bipush 64, 2) := by decide +kernel
theorem dL_isSo_311 : decode cL_isSo 311 = .ok (.if_icmp .ge 12, 3) := by decide +kernel
theorem dL_isSo_314 : decode cL_isSo 314 = .ok (.sipush 900, 3) := by decide +kernel
theorem dL_isSo_317 : decode cL_isSo 317 = .ok (.iload 14, 2) := by decide +kernel
theorem dL_isSo_319 : decode cL_isSo 319 = .ok (.iadd, 1) := by decide +kernel
theorem dL_isSo_320 : decode cL_isSo 320 = .ok (.goto 13, 3) := by decide +kernel
theorem dL_isSo_323 : decode cL_isSo 323 = .ok (.iload 14, 2) := by decide +kernel
theorem dL_isSo_325 : decode cL_isSo 325 = .ok (.goto 8, 3) := by decide +kernel
theorem dL_isSo_328 : decode cL_isSo 328 = .ok (.aload 8, 2) := by decide +kernel
theorem dL_isSo_330 : decode cL_isSo 330 = .ok (.iload 14, 2) := by decide +kernel
theorem dL_isSo_332 : decode cL_isSo 332 = .ok (.iaload, 1) := by decide +kernel
theorem dL_isSo_333 : decode cL_isSo 333 = .ok (.istore 15, 2) := by decide +kernel
theorem dL_isSo_335 : decode cL_isSo 335 = .ok (.iconst 0, 1) := by decide +kernel
theorem dL_isSo_336 : decode cL_isSo 336 = .ok (.istore 16, 2) := by decide +kernel
theorem dL_isSo_338 : decode cL_isSo 338 = .ok (.iload 16, 2) := by decide +kernel
theorem dL_isSo_340 : decode cL_isSo 340 = .ok (.bipush 6, 2) := by decide +kernel
theorem dL_isSo_342 : decode cL_isSo 342 = .ok (.if_icmp .ge 94, 3) := by decide +kernel
theorem dL_isSo_345 : decode cL_isSo 345 = .ok (.aload 8, 2) := by decide +kernel
theorem dL_isSo_347 : decode cL_isSo 347 = .ok (.iload 14, 2) := by decide +kernel
theorem dL_isSo_349 : decode cL_isSo 349 = .ok (.iaload, 1) := by decide +kernel
theorem dL_isSo_350 : decode cL_isSo 350 = .ok (.ifCond .lt 86, 3) := by decide +kernel
theorem dL_isSo_353 : decode cL_isSo 353 = .ok (.iload 15, 2) := by decide +kernel
theorem dL_isSo_355 : decode cL_isSo 355 = .ok (.sipush 1000, 3) := by decide +kernel
theorem dL_isSo_358 : decode cL_isSo 358 = .ok (.if_icmp .ge 78, 3) := by decide +kernel
theorem dL_isSo_361 : decode cL_isSo 361 = .ok (.iload 12, 2) := by decide +kernel
theorem dL_isSo_363 : decode cL_isSo 363 = .ok (.ifCond .eq 64, 3) := by decide +kernel
theorem dL_isSo_366 : decode cL_isSo 366 = .ok (.aload_n 0, 1) := by decide +kernel
theorem dL_isSo_367 : decode cL_isSo 367 = .ok (.iload 15, 2) := by decide +kernel
theorem dL_isSo_369 : decode cL_isSo 369 = .ok (.iload 16, 2) := by decide +kernel
theorem dL_isSo_371 : decode cL_isSo 371 = .ok (.invokestatic 153, 3) := by decide +kernel
theorem dL_isSo_374 : decode cL_isSo 374 = .ok (.iload 16, 2) := by decide +kernel
theorem dL_isSo_376 : decode cL_isSo 376 = .ok (.iconst 4, 1) := by decide +kernel
theorem dL_isSo_377 : decode cL_isSo 377 = .ok (.if_icmp .ge 16, 3) := by decide +kernel
theorem dL_isSo_380 : decode cL_isSo 380 = .ok (.aload 9, 2) := by decide +kernel
theorem dL_isSo_382 : decode cL_isSo 382 = .ok (.iload 14, 2) := by decide +kernel
theorem dL_isSo_384 : decode cL_isSo 384 = .ok (.laload, 1) := by decide +kernel
theorem dL_isSo_385 : decode cL_isSo 385 = .ok (.iload 16, 2) := by decide +kernel
theorem dL_isSo_387 : decode cL_isSo 387 = .ok (.invokestatic 88, 3) := by decide +kernel
theorem dL_isSo_390 : decode cL_isSo 390 = .ok (.goto 30, 3) := by decide +kernel
theorem dL_isSo_393 : decode cL_isSo 393 = .ok (.iload 16, 2) := by decide +kernel
theorem dL_isSo_395 : decode cL_isSo 395 = .ok (.iconst 4, 1) := by decide +kernel
theorem dL_isSo_396 : decode cL_isSo 396 = .ok (.if_icmp .ne 15, 3) := by decide +kernel
theorem dL_isSo_399 : decode cL_isSo 399 = .ok (.aload 10, 2) := by decide +kernel
theorem dL_isSo_401 : decode cL_isSo 401 = .ok (.iload 14, 2) := by decide +kernel
theorem dL_isSo_403 : decode cL_isSo 403 = .ok (.iaload, 1) := by decide +kernel
theorem dL_isSo_404 : decode cL_isSo 404 = .ok (.sipush 4096, 3) := by decide +kernel
theorem dL_isSo_407 : decode cL_isSo 407 = .ok (.idiv, 1) := by decide +kernel
theorem dL_isSo_408 : decode cL_isSo 408 = .ok (.goto 12, 3) := by decide +kernel
theorem dL_isSo_411 : decode cL_isSo 411 = .ok (.aload 10, 2) := by decide +kernel
theorem dL_isSo_413 : decode cL_isSo 413 = .ok (.iload 14, 2) := by decide +kernel
theorem dL_isSo_415 : decode cL_isSo 415 = .ok (.iaload, 1) := by decide +kernel
theorem dL_isSo_416 : decode cL_isSo 416 = .ok (.sipush 4096, 3) := by decide +kernel
theorem dL_isSo_419 : decode cL_isSo 419 = .ok (.irem, 1) := by decide +kernel
theorem dL_isSo_420 : decode cL_isSo 420 = .ok (.if_icmp .ne 7, 3) := by decide +kernel
theorem dL_isSo_423 : decode cL_isSo 423 = .ok (.iconst 1, 1) := by decide +kernel
theorem dL_isSo_424 : decode cL_isSo 424 = .ok (.goto 4, 3) := by decide +kernel
theorem dL_isSo_427 : decode cL_isSo 427 = .ok (.iconst 0, 1) := by decide +kernel
theorem dL_isSo_428 : decode cL_isSo 428 = .ok (.istore 12, 2) := by decide +kernel
theorem dL_isSo_430 : decode cL_isSo 430 = .ok (.iinc 16 1, 3) := by decide +kernel
theorem dL_isSo_433 : decode cL_isSo 433 = .ok (.goto (-95), 3) := by decide +kernel
theorem dL_isSo_436 : decode cL_isSo 436 = .ok (.iload 12, 2) := by decide +kernel
theorem dL_isSo_438 : decode cL_isSo 438 = .ok (.ifCond .eq 26, 3) := by decide +kernel
theorem dL_isSo_441 : decode cL_isSo 441 = .ok (.aload 8, 2) := by decide +kernel
theorem dL_isSo_443 : decode cL_isSo 443 = .ok (.iload 14, 2) := by decide +kernel
theorem dL_isSo_445 : decode cL_isSo 445 = .ok (.iaload, 1) := by decide +kernel
theorem dL_isSo_446 : decode cL_isSo 446 = .ok (.ifCond .ge 14, 3) := by decide +kernel
theorem dL_isSo_449 : decode cL_isSo 449 = .ok (.aload_n 0, 1) := by decide +kernel
theorem dL_isSo_450 : decode cL_isSo 450 = .ok (.iload 15, 2) := by decide +kernel
theorem dL_isSo_452 : decode cL_isSo 452 = .ok (.iconst 0, 1) := by decide +kernel
theorem dL_isSo_453 : decode cL_isSo 453 = .ok (.invokestatic 153, 3) := by decide +kernel
theorem dL_isSo_456 : decode cL_isSo 456 = .ok (.iconst (-1), 1) := by decide +kernel
theorem dL_isSo_457 : decode cL_isSo 457 = .ok (.if_icmp .ne 7, 3) := by decide +kernel
theorem dL_isSo_460 : decode cL_isSo 460 = .ok (.iconst 1, 1) := by decide +kernel
theorem dL_isSo_461 : decode cL_isSo 461 = .ok (.goto 4, 3) := by decide +kernel
theorem dL_isSo_464 : decode cL_isSo 464 = .ok (.iconst 0, 1) := by decide +kernel
theorem dL_isSo_465 : decode cL_isSo 465 = .ok (.istore 12, 2) := by decide +kernel
theorem dL_isSo_467 : decode cL_isSo 467 = .ok (.iinc 14 1, 3) := by decide +kernel
theorem dL_isSo_470 : decode cL_isSo 470 = .ok (.goto (-203), 3) := by decide +kernel
theorem dL_isSo_473 : decode cL_isSo 473 = .ok (.aload_n 1, 1) := by decide +kernel
theorem dL_isSo_474 : decode cL_isSo 474 = .ok (.iconst 0, 1) := by decide +kernel
theorem dL_isSo_475 : decode cL_isSo 475 = .ok (.iaload, 1) := by decide +kernel
theorem dL_isSo_476 : decode cL_isSo 476 = .ok (.ifCond .ne 7, 3) := by decide +kernel
theorem dL_isSo_479 : decode cL_isSo 479 = .ok (.iconst 0, 1) := by decide +kernel
theorem dL_isSo_480 : decode cL_isSo 480 = .ok (.goto 11, 3) := by decide +kernel
theorem dL_isSo_483 : decode cL_isSo 483 = .ok (.iload 11, 2) := by decide +kernel
theorem dL_isSo_485 : decode cL_isSo 485 = .ok (.aload_n 1, 1) := by decide +kernel
theorem dL_isSo_486 : decode cL_isSo 486 = .ok (.iconst 0, 1) := by decide +kernel
theorem dL_isSo_487 : decode cL_isSo 487 = .ok (.iaload, 1) := by decide +kernel
theorem dL_isSo_488 : decode cL_isSo 488 = .ok (.invokestatic 157, 3) := by decide +kernel
theorem dL_isSo_491 : decode cL_isSo 491 = .ok (.istore 14, 2) := by decide +kernel
theorem dL_isSo_493 : decode cL_isSo 493 = .ok (.iconst 0, 1) := by decide +kernel
theorem dL_isSo_494 : decode cL_isSo 494 = .ok (.istore 15, 2) := by decide +kernel
theorem dL_isSo_496 : decode cL_isSo 496 = .ok (.iload 15, 2) := by decide +kernel
theorem dL_isSo_498 : decode cL_isSo 498 = .ok (.bipush 8, 2) := by decide +kernel
theorem dL_isSo_500 : decode cL_isSo 500 = .ok (.if_icmp .ge 121, 3) := by decide +kernel
theorem dL_isSo_503 : decode cL_isSo 503 = .ok (.aload_n 1, 1) := by decide +kernel
theorem dL_isSo_504 : decode cL_isSo 504 = .ok (.iconst 0, 1) := by decide +kernel
theorem dL_isSo_505 : decode cL_isSo 505 = .ok (.iaload, 1) := by decide +kernel
theorem dL_isSo_506 : decode cL_isSo 506 = .ok (.ifCond .le 115, 3) := by decide +kernel
theorem dL_isSo_509 : decode cL_isSo 509 = .ok (.iload 12, 2) := by decide +kernel
theorem dL_isSo_511 : decode cL_isSo 511 = .ok (.ifCond .eq 101, 3) := by decide +kernel
theorem dL_isSo_514 : decode cL_isSo 514 = .ok (.aload_n 0, 1) := by decide +kernel
theorem dL_isSo_515 : decode cL_isSo 515 = .ok (.iload 14, 2) := by decide +kernel
theorem dL_isSo_517 : decode cL_isSo 517 = .ok (.iload 15, 2) := by decide +kernel
theorem dL_isSo_519 : decode cL_isSo 519 = .ok (.invokestatic 160, 3) := by decide +kernel
theorem dL_isSo_522 : decode cL_isSo 522 = .ok (.iload 15, 2) := by decide +kernel
theorem dL_isSo_524 : decode cL_isSo 524 = .ok (.iconst 4, 1) := by decide +kernel
theorem dL_isSo_525 : decode cL_isSo 525 = .ok (.if_icmp .ge 15, 3) := by decide +kernel
theorem dL_isSo_528 : decode cL_isSo 528 = .ok (.aload_n 2, 1) := by decide +kernel
theorem dL_isSo_529 : decode cL_isSo 529 = .ok (.iload 14, 2) := by decide +kernel
theorem dL_isSo_531 : decode cL_isSo 531 = .ok (.laload, 1) := by decide +kernel
theorem dL_isSo_532 : decode cL_isSo 532 = .ok (.iload 15, 2) := by decide +kernel
theorem dL_isSo_534 : decode cL_isSo 534 = .ok (.invokestatic 88, 3) := by decide +kernel
theorem dL_isSo_537 : decode cL_isSo 537 = .ok (.goto 68, 3) := by decide +kernel
theorem dL_isSo_540 : decode cL_isSo 540 = .ok (.iload 15, 2) := by decide +kernel
theorem dL_isSo_542 : decode cL_isSo 542 = .ok (.iconst 4, 1) := by decide +kernel
theorem dL_isSo_543 : decode cL_isSo 543 = .ok (.if_icmp .ne 14, 3) := by decide +kernel
theorem dL_isSo_546 : decode cL_isSo 546 = .ok (.aload_n 3, 1) := by decide +kernel
theorem dL_isSo_547 : decode cL_isSo 547 = .ok (.iload 14, 2) := by decide +kernel
theorem dL_isSo_549 : decode cL_isSo 549 = .ok (.iaload, 1) := by decide +kernel
theorem dL_isSo_550 : decode cL_isSo 550 = .ok (.sipush 10000, 3) := by decide +kernel
theorem dL_isSo_553 : decode cL_isSo 553 = .ok (.idiv, 1) := by decide +kernel
theorem dL_isSo_554 : decode cL_isSo 554 = .ok (.goto 51, 3) := by decide +kernel
theorem dL_isSo_557 : decode cL_isSo 557 = .ok (.iload 15, 2) := by decide +kernel
theorem dL_isSo_559 : decode cL_isSo 559 = .ok (.iconst 5, 1) := by decide +kernel
theorem dL_isSo_560 : decode cL_isSo 560 = .ok (.if_icmp .ne 12, 3) := by decide +kernel
theorem dL_isSo_563 : decode cL_isSo 563 = .ok (.aload_n 3, 1) := by decide +kernel
theorem dL_isSo_564 : decode cL_isSo 564 = .ok (.iload 14, 2) := by decide +kernel
theorem dL_isSo_566 : decode cL_isSo 566 = .ok (.iaload, 1) := by decide +kernel
theorem dL_isSo_567 : decode cL_isSo 567 = .ok (.iconst 4, 1) := by decide +kernel
theorem dL_isSo_568 : decode cL_isSo 568 = .ok (.irem, 1) := by decide +kernel
theorem dL_isSo_569 : decode cL_isSo 569 = .ok (.goto 36, 3) := by decide +kernel
theorem dL_isSo_572 : decode cL_isSo 572 = .ok (.iload 15, 2) := by decide +kernel
theorem dL_isSo_574 : decode cL_isSo 574 = .ok (.bipush 6, 2) := by decide +kernel
theorem dL_isSo_576 : decode cL_isSo 576 = .ok (.if_icmp .ne 18, 3) := by decide +kernel
theorem dL_isSo_579 : decode cL_isSo 579 = .ok (.aload_n 3, 1) := by decide +kernel
theorem dL_isSo_580 : decode cL_isSo 580 = .ok (.iload 14, 2) := by decide +kernel
theorem dL_isSo_582 : decode cL_isSo 582 = .ok (.iaload, 1) := by decide +kernel
theorem dL_isSo_583 : decode cL_isSo 583 = .ok (.sipush 1000, 3) := by decide +kernel
theorem dL_isSo_586 : decode cL_isSo 586 = .ok (.irem, 1) := by decide +kernel
theorem dL_isSo_587 : decode cL_isSo 587 = .ok (.iconst 4, 1) := by decide +kernel
theorem dL_isSo_588 : decode cL_isSo 588 = .ok (.idiv, 1) := by decide +kernel
theorem dL_isSo_589 : decode cL_isSo 589 = .ok (.iconst 1, 1) := by decide +kernel
theorem dL_isSo_590 : decode cL_isSo 590 = .ok (.isub, 1) := by decide +kernel
theorem dL_isSo_591 : decode cL_isSo 591 = .ok (.goto 14, 3) := by decide +kernel
theorem dL_isSo_594 : decode cL_isSo 594 = .ok (.aload_n 3, 1) := by decide +kernel
theorem dL_isSo_595 : decode cL_isSo 595 = .ok (.iload 14, 2) := by decide +kernel
theorem dL_isSo_597 : decode cL_isSo 597 = .ok (.iaload, 1) := by decide +kernel
theorem dL_isSo_598 : decode cL_isSo 598 = .ok (.sipush 1000, 3) := by decide +kernel
theorem dL_isSo_601 : decode cL_isSo 601 = .ok (.idiv, 1) := by decide +kernel
theorem dL_isSo_602 : decode cL_isSo 602 = .ok (.bipush 10, 2) := by decide +kernel
theorem dL_isSo_604 : decode cL_isSo 604 = .ok (.irem, 1) := by decide +kernel
theorem dL_isSo_605 : decode cL_isSo 605 = .ok (.if_icmp .ne 7, 3) := by decide +kernel
theorem dL_isSo_608 : decode cL_isSo 608 = .ok (.iconst 1, 1) := by decide +kernel
theorem dL_isSo_609 : decode cL_isSo 609 = .ok (.goto 4, 3) := by decide +kernel
theorem dL_isSo_612 : decode cL_isSo 612 = .ok (.iconst 0, 1) := by decide +kernel
theorem dL_isSo_613 : decode cL_isSo 613 = .ok (.istore 12, 2) := by decide +kernel
theorem dL_isSo_615 : decode cL_isSo 615 = .ok (.iinc 15 1, 3) := by decide +kernel
theorem dL_isSo_618 : decode cL_isSo 618 = .ok (.goto (-122), 3) := by decide +kernel
theorem dL_isSo_621 : decode cL_isSo 621 = .ok (.iconst 0, 1) := by decide +kernel
theorem dL_isSo_622 : decode cL_isSo 622 = .ok (.istore 15, 2) := by decide +kernel
theorem dL_isSo_624 : decode cL_isSo 624 = .ok (.iload 15, 2) := by decide +kernel
theorem dL_isSo_626 : decode cL_isSo 626 = .ok (.iconst 4, 1) := by decide +kernel
theorem dL_isSo_627 : decode cL_isSo 627 = .ok (.if_icmp .ge 37, 3) := by decide +kernel
theorem dL_isSo_630 : decode cL_isSo 630 = .ok (.iload 12, 2) := by decide +kernel
theorem dL_isSo_632 : decode cL_isSo 632 = .ok (.ifCond .eq 23, 3) := by decide +kernel
theorem dL_isSo_635 : decode cL_isSo 635 = .ok (.aload_n 0, 1) := by decide +kernel
theorem dL_isSo_636 : decode cL_isSo 636 = .ok (.iload 15, 2) := by decide +kernel
theorem dL_isSo_638 : decode cL_isSo 638 = .ok (.invokestatic 163, 3) := by decide +kernel
theorem dL_isSo_641 : decode cL_isSo 641 = .ok (.lload 4, 2) := by decide +kernel
theorem dL_isSo_643 : decode cL_isSo 643 = .ok (.iload 15, 2) := by decide +kernel
theorem dL_isSo_645 : decode cL_isSo 645 = .ok (.invokestatic 88, 3) := by decide +kernel
theorem dL_isSo_648 : decode cL_isSo 648 = .ok (.if_icmp .ne 7, 3) := by decide +kernel
theorem dL_isSo_651 : decode cL_isSo 651 = .ok (.iconst 1, 1) := by decide +kernel
theorem dL_isSo_652 : decode cL_isSo 652 = .ok (.goto 4, 3) := by decide +kernel
theorem dL_isSo_655 : decode cL_isSo 655 = .ok (.iconst 0, 1) := by decide +kernel
theorem dL_isSo_656 : decode cL_isSo 656 = .ok (.istore 12, 2) := by decide +kernel
theorem dL_isSo_658 : decode cL_isSo 658 = .ok (.iinc 15 1, 3) := by decide +kernel
theorem dL_isSo_661 : decode cL_isSo 661 = .ok (.goto (-37), 3) := by decide +kernel
theorem dL_isSo_664 : decode cL_isSo 664 = .ok (.iload 12, 2) := by decide +kernel
theorem dL_isSo_666 : decode cL_isSo 666 = .ok (.ifCond .eq 66, 3) := by decide +kernel
theorem dL_isSo_669 : decode cL_isSo 669 = .ok (.aload_n 0, 1) := by decide +kernel
theorem dL_isSo_670 : decode cL_isSo 670 = .ok (.invokevirtual 166, 3) := by decide +kernel
theorem dL_isSo_673 : decode cL_isSo 673 = .ok (.iload 13, 2) := by decide +kernel
theorem dL_isSo_675 : decode cL_isSo 675 = .ok (.if_icmp .ne 57, 3) := by decide +kernel
theorem dL_isSo_678 : decode cL_isSo 678 = .ok (.aload_n 0, 1) := by decide +kernel
theorem dL_isSo_679 : decode cL_isSo 679 = .ok (.iload 11, 2) := by decide +kernel
theorem dL_isSo_681 : decode cL_isSo 681 = .ok (.bipush 64, 2) := by decide +kernel
theorem dL_isSo_683 : decode cL_isSo 683 = .ok (.invokestatic 157, 3) := by decide +kernel
theorem dL_isSo_686 : decode cL_isSo 686 = .ok (.invokestatic 169, 3) := by decide +kernel
theorem dL_isSo_689 : decode cL_isSo 689 = .ok (.aload_n 1, 1) := by decide +kernel
theorem dL_isSo_690 : decode cL_isSo 690 = .ok (.iload 11, 2) := by decide +kernel
theorem dL_isSo_692 : decode cL_isSo 692 = .ok (.bipush 64, 2) := by decide +kernel
theorem dL_isSo_694 : decode cL_isSo 694 = .ok (.invokestatic 157, 3) := by decide +kernel
theorem dL_isSo_697 : decode cL_isSo 697 = .ok (.invokestatic 121, 3) := by decide +kernel
theorem dL_isSo_700 : decode cL_isSo 700 = .ok (.if_icmp .ne 32, 3) := by decide +kernel
theorem dL_isSo_703 : decode cL_isSo 703 = .ok (.aload_n 0, 1) := by decide +kernel
theorem dL_isSo_704 : decode cL_isSo 704 = .ok (.iconst 0, 1) := by decide +kernel
theorem dL_isSo_705 : decode cL_isSo 705 = .ok (.aload 6, 2) := by decide +kernel
theorem dL_isSo_707 : decode cL_isSo 707 = .ok (.iconst 0, 1) := by decide +kernel
theorem dL_isSo_708 : decode cL_isSo 708 = .ok (.iaload, 1) := by decide +kernel
theorem dL_isSo_709 : decode cL_isSo 709 = .ok (.invokestatic 149, 3) := by decide +kernel
theorem dL_isSo_712 : decode cL_isSo 712 = .ok (.ldc 17, 2) := by decide +kernel
theorem dL_isSo_714 : decode cL_isSo 714 = .ok (.if_icmp .ne 18, 3) := by decide +kernel
theorem dL_isSo_717 : decode cL_isSo 717 = .ok (.aload_n 0, 1) := by decide +kernel
theorem dL_isSo_718 : decode cL_isSo 718 = .ok (.iconst 1, 1) := by decide +kernel
theorem dL_isSo_719 : decode cL_isSo 719 = .ok (.iconst (-1), 1) := by decide +kernel
theorem dL_isSo_720 : decode cL_isSo 720 = .ok (.invokestatic 149, 3) := by decide +kernel
theorem dL_isSo_723 : decode cL_isSo 723 = .ok (.ldc 17, 2) := by decide +kernel
theorem dL_isSo_725 : decode cL_isSo 725 = .ok (.if_icmp .ne 7, 3) := by decide +kernel
theorem dL_isSo_728 : decode cL_isSo 728 = .ok (.iconst 1, 1) := by decide +kernel
theorem dL_isSo_729 : decode cL_isSo 729 = .ok (.goto 4, 3) := by decide +kernel
theorem dL_isSo_732 : decode cL_isSo 732 = .ok (.iconst 0, 1) := by decide +kernel
theorem dL_isSo_733 : decode cL_isSo 733 = .ok (.ireturn, 1) := by decide +kernel
