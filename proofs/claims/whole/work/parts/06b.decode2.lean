theorem dX10_thrown_0 : decode cX10_thrown 0 = .ok (.aload_n 0, 1) := by decide +kernel
theorem dX10_thrown_1 : decode cX10_thrown 1 = .ok (.getfield 1, 3) := by decide +kernel
theorem dX10_thrown_4 : decode cX10_thrown 4 = .ok (.ireturn, 1) := by decide +kernel
theorem dX10_throwsIf_0 : decode cX10_throwsIf 0 = .ok (.aload_n 0, 1) := by decide +kernel
theorem dX10_throwsIf_1 : decode cX10_throwsIf 1 = .ok (.iload_n 1, 1) := by decide +kernel
theorem dX10_throwsIf_2 : decode cX10_throwsIf 2 = .ok (.ifCond .eq 7, 3) := by decide +kernel
theorem dX10_throwsIf_5 : decode cX10_throwsIf 5 = .ok (.iconst 1, 1) := by decide +kernel
theorem dX10_throwsIf_6 : decode cX10_throwsIf 6 = .ok (.goto 4, 3) := by decide +kernel
theorem dX10_throwsIf_9 : decode cX10_throwsIf 9 = .ok (.iconst 0, 1) := by decide +kernel
theorem dX10_throwsIf_10 : decode cX10_throwsIf 10 = .ok (.putfield 1, 3) := by decide +kernel
theorem dX10_throwsIf_13 : decode cX10_throwsIf 13 = .ok (.iload_n 1, 1) := by decide +kernel
theorem dX10_throwsIf_14 : decode cX10_throwsIf 14 = .ok (.ireturn, 1) := by decide +kernel
theorem dX10_feed_0 : decode cX10_feed 0 = .ok (.aload_n 0, 1) := by decide +kernel
theorem dX10_feed_1 : decode cX10_feed 1 = .ok (.iconst 0, 1) := by decide +kernel
theorem dX10_feed_2 : decode cX10_feed 2 = .ok (.putfield 1, 3) := by decide +kernel
theorem dX10_feed_5 : decode cX10_feed 5 = .ok (.aload_n 0, 1) := by decide +kernel
theorem dX10_feed_6 : decode cX10_feed 6 = .ok (.getfield 7, 3) := by decide +kernel
theorem dX10_feed_9 : decode cX10_feed 9 = .ok (.bipush 20, 2) := by decide +kernel
theorem dX10_feed_11 : decode cX10_feed 11 = .ok (.iadd, 1) := by decide +kernel
theorem dX10_feed_12 : decode cX10_feed 12 = .ok (.sipush 940, 3) := by decide +kernel
theorem dX10_feed_15 : decode cX10_feed 15 = .ok (.if_icmp .le 5, 3) := by decide +kernel
theorem dX10_feed_18 : decode cX10_feed 18 = .ok (.iconst (-1), 1) := by decide +kernel
theorem dX10_feed_19 : decode cX10_feed 19 = .ok (.ireturn, 1) := by decide +kernel
theorem dX10_feed_20 : decode cX10_feed 20 = .ok (.aload_n 0, 1) := by decide +kernel
theorem dX10_feed_21 : decode cX10_feed 21 = .ok (.iload_n 1, 1) := by decide +kernel
theorem dX10_feed_22 : decode cX10_feed 22 = .ok (.invokevirtual 10, 3) := by decide +kernel
theorem dX10_feed_25 : decode cX10_feed 25 = .ok (.aload_n 0, 1) := by decide +kernel
theorem dX10_feed_26 : decode cX10_feed 26 = .ok (.iload_n 2, 1) := by decide +kernel
theorem dX10_feed_27 : decode cX10_feed 27 = .ok (.invokevirtual 10, 3) := by decide +kernel
theorem dX10_feed_30 : decode cX10_feed 30 = .ok (.aload_n 0, 1) := by decide +kernel
theorem dX10_feed_31 : decode cX10_feed 31 = .ok (.iload_n 3, 1) := by decide +kernel
theorem dX10_feed_32 : decode cX10_feed 32 = .ok (.invokevirtual 10, 3) := by decide +kernel
theorem dX10_feed_35 : decode cX10_feed 35 = .ok (.aload_n 0, 1) := by decide +kernel
theorem dX10_feed_36 : decode cX10_feed 36 = .ok (.iload 4, 2) := by decide +kernel
theorem dX10_feed_38 : decode cX10_feed 38 = .ok (.invokevirtual 10, 3) := by decide +kernel
theorem dX10_feed_41 : decode cX10_feed 41 = .ok (.aload_n 0, 1) := by decide +kernel
theorem dX10_feed_42 : decode cX10_feed 42 = .ok (.iload 5, 2) := by decide +kernel
theorem dX10_feed_44 : decode cX10_feed 44 = .ok (.invokevirtual 10, 3) := by decide +kernel
theorem dX10_feed_47 : decode cX10_feed 47 = .ok (.aload_n 0, 1) := by decide +kernel
theorem dX10_feed_48 : decode cX10_feed 48 = .ok (.getfield 7, 3) := by decide +kernel
theorem dX10_feed_51 : decode cX10_feed 51 = .ok (.ireturn, 1) := by decide +kernel
theorem dX10_four_0 : decode cX10_four 0 = .ok (.bipush 24, 2) := by decide +kernel
theorem dX10_four_2 : decode cX10_four 2 = .ok (.istore_n 2, 1) := by decide +kernel
theorem dX10_four_3 : decode cX10_four 3 = .ok (.iload_n 2, 1) := by decide +kernel
theorem dX10_four_4 : decode cX10_four 4 = .ok (.ifCond .lt 32, 3) := by decide +kernel
theorem dX10_four_7 : decode cX10_four 7 = .ok (.aload_n 0, 1) := by decide +kernel
theorem dX10_four_8 : decode cX10_four 8 = .ok (.getfield 14, 3) := by decide +kernel
theorem dX10_four_11 : decode cX10_four 11 = .ok (.aload_n 0, 1) := by decide +kernel
theorem dX10_four_12 : decode cX10_four 12 = .ok (.getfield 7, 3) := by decide +kernel
theorem dX10_four_15 : decode cX10_four 15 = .ok (.iload_n 1, 1) := by decide +kernel
theorem dX10_four_16 : decode cX10_four 16 = .ok (.iload_n 2, 1) := by decide +kernel
theorem dX10_four_17 : decode cX10_four 17 = .ok (.ishr, 1) := by decide +kernel
theorem dX10_four_18 : decode cX10_four 18 = .ok (.i2b, 1) := by decide +kernel
theorem dX10_four_19 : decode cX10_four 19 = .ok (.bastore, 1) := by decide +kernel
theorem dX10_four_20 : decode cX10_four 20 = .ok (.aload_n 0, 1) := by decide +kernel
theorem dX10_four_21 : decode cX10_four 21 = .ok (.dup, 1) := by decide +kernel
theorem dX10_four_22 : decode cX10_four 22 = .ok (.getfield 7, 3) := by decide +kernel
theorem dX10_four_25 : decode cX10_four 25 = .ok (.iconst 1, 1) := by decide +kernel
theorem dX10_four_26 : decode cX10_four 26 = .ok (.iadd, 1) := by decide +kernel
theorem dX10_four_27 : decode cX10_four 27 = .ok (.putfield 7, 3) := by decide +kernel
theorem dX10_four_30 : decode cX10_four 30 = .ok (.iinc 2 (-8), 3) := by decide +kernel
theorem dX10_four_33 : decode cX10_four 33 = .ok (.goto (-30), 3) := by decide +kernel
theorem dX10_four_36 : decode cX10_four 36 = .ok (.return_, 1) := by decide +kernel
theorem dX10_end_0 : decode cX10_end 0 = .ok (.aload_n 0, 1) := by decide +kernel
theorem dX10_end_1 : decode cX10_end 1 = .ok (.iconst 0, 1) := by decide +kernel
theorem dX10_end_2 : decode cX10_end 2 = .ok (.putfield 1, 3) := by decide +kernel
theorem dX10_end_5 : decode cX10_end 5 = .ok (.iload_n 1, 1) := by decide +kernel
theorem dX10_end_6 : decode cX10_end 6 = .ok (.ifCond .lt 11, 3) := by decide +kernel
theorem dX10_end_9 : decode cX10_end 9 = .ok (.iload_n 1, 1) := by decide +kernel
theorem dX10_end_10 : decode cX10_end 10 = .ok (.aload_n 0, 1) := by decide +kernel
theorem dX10_end_11 : decode cX10_end 11 = .ok (.getfield 7, 3) := by decide +kernel
theorem dX10_end_14 : decode cX10_end 14 = .ok (.if_icmp .le 5, 3) := by decide +kernel
theorem dX10_end_17 : decode cX10_end 17 = .ok (.iconst 0, 1) := by decide +kernel
theorem dX10_end_18 : decode cX10_end 18 = .ok (.ireturn, 1) := by decide +kernel
theorem dX10_end_19 : decode cX10_end 19 = .ok (.aload_n 0, 1) := by decide +kernel
theorem dX10_end_20 : decode cX10_end 20 = .ok (.iload_n 1, 1) := by decide +kernel
theorem dX10_end_21 : decode cX10_end 21 = .ok (.putfield 7, 3) := by decide +kernel
theorem dX10_end_24 : decode cX10_end 24 = .ok (.iconst 1, 1) := by decide +kernel
theorem dX10_end_25 : decode cX10_end 25 = .ok (.ireturn, 1) := by decide +kernel
theorem dX10_taken_0 : decode cX10_taken 0 = .ok (.aload_n 0, 1) := by decide +kernel
theorem dX10_taken_1 : decode cX10_taken 1 = .ok (.aload_n 0, 1) := by decide +kernel
theorem dX10_taken_2 : decode cX10_taken 2 = .ok (.getfield 7, 3) := by decide +kernel
theorem dX10_taken_5 : decode cX10_taken 5 = .ok (.putfield 18, 3) := by decide +kernel
theorem dX10_taken_8 : decode cX10_taken 8 = .ok (.aload_n 0, 1) := by decide +kernel
theorem dX10_taken_9 : decode cX10_taken 9 = .ok (.iconst 0, 1) := by decide +kernel
theorem dX10_taken_10 : decode cX10_taken 10 = .ok (.putfield 7, 3) := by decide +kernel
theorem dX10_taken_13 : decode cX10_taken 13 = .ok (.aload_n 0, 1) := by decide +kernel
theorem dX10_taken_14 : decode cX10_taken 14 = .ok (.iconst 0, 1) := by decide +kernel
theorem dX10_taken_15 : decode cX10_taken 15 = .ok (.putfield 21, 3) := by decide +kernel
theorem dX10_taken_18 : decode cX10_taken 18 = .ok (.aload_n 0, 1) := by decide +kernel
theorem dX10_taken_19 : decode cX10_taken 19 = .ok (.iload_n 1, 1) := by decide +kernel
theorem dX10_taken_20 : decode cX10_taken 20 = .ok (.putfield 24, 3) := by decide +kernel
theorem dX10_taken_23 : decode cX10_taken 23 = .ok (.return_, 1) := by decide +kernel
theorem dX10_isIn_0 : decode cX10_isIn 0 = .ok (.iload_n 0, 1) := by decide +kernel
theorem dX10_isIn_1 : decode cX10_isIn 1 = .ok (.iload_n 1, 1) := by decide +kernel
theorem dX10_isIn_2 : decode cX10_isIn 2 = .ok (.if_icmp .lt 12, 3) := by decide +kernel
theorem dX10_isIn_5 : decode cX10_isIn 5 = .ok (.iload_n 0, 1) := by decide +kernel
theorem dX10_isIn_6 : decode cX10_isIn 6 = .ok (.iload_n 2, 1) := by decide +kernel
theorem dX10_isIn_7 : decode cX10_isIn 7 = .ok (.if_icmp .gt 7, 3) := by decide +kernel
theorem dX10_isIn_10 : decode cX10_isIn 10 = .ok (.iconst 1, 1) := by decide +kernel
theorem dX10_isIn_11 : decode cX10_isIn 11 = .ok (.goto 4, 3) := by decide +kernel
theorem dX10_isIn_14 : decode cX10_isIn 14 = .ok (.iconst 0, 1) := by decide +kernel
theorem dX10_isIn_15 : decode cX10_isIn 15 = .ok (.ireturn, 1) := by decide +kernel
theorem dX10_has_0 : decode cX10_has 0 = .ok (.iload_n 0, 1) := by decide +kernel
theorem dX10_has_1 : decode cX10_has 1 = .ok (.iload_n 1, 1) := by decide +kernel
theorem dX10_has_2 : decode cX10_has 2 = .ok (.ishr, 1) := by decide +kernel
theorem dX10_has_3 : decode cX10_has 3 = .ok (.iconst 1, 1) := by decide +kernel
theorem dX10_has_4 : decode cX10_has 4 = .ok (.iand, 1) := by decide +kernel
theorem dX10_has_5 : decode cX10_has 5 = .ok (.iconst 1, 1) := by decide +kernel
theorem dX10_has_6 : decode cX10_has 6 = .ok (.if_icmp .ne 7, 3) := by decide +kernel
theorem dX10_has_9 : decode cX10_has 9 = .ok (.iconst 1, 1) := by decide +kernel
theorem dX10_has_10 : decode cX10_has 10 = .ok (.goto 4, 3) := by decide +kernel
theorem dX10_has_13 : decode cX10_has 13 = .ok (.iconst 0, 1) := by decide +kernel
theorem dX10_has_14 : decode cX10_has 14 = .ok (.ireturn, 1) := by decide +kernel
theorem dX10_bits_0 : decode cX10_bits 0 = .ok (.lload_n 0, 1) := by decide +kernel
theorem dX10_bits_1 : decode cX10_bits 1 = .ok (.lload_n 0, 1) := by decide +kernel
theorem dX10_bits_2 : decode cX10_bits 2 = .ok (.iconst 1, 1) := by decide +kernel
theorem dX10_bits_3 : decode cX10_bits 3 = .ok (.lushr, 1) := by decide +kernel
theorem dX10_bits_4 : decode cX10_bits 4 = .ok (.ldc2_w 27, 3) := by decide +kernel
theorem dX10_bits_7 : decode cX10_bits 7 = .ok (.land, 1) := by decide +kernel
theorem dX10_bits_8 : decode cX10_bits 8 = .ok (.lsub, 1) := by decide +kernel
theorem dX10_bits_9 : decode cX10_bits 9 = .ok (.lstore_n 2, 1) := by decide +kernel
theorem dX10_bits_10 : decode cX10_bits 10 = .ok (.lload_n 2, 1) := by decide +kernel
theorem dX10_bits_11 : decode cX10_bits 11 = .ok (.ldc2_w 29, 3) := by decide +kernel
theorem dX10_bits_14 : decode cX10_bits 14 = .ok (.land, 1) := by decide +kernel
theorem dX10_bits_15 : decode cX10_bits 15 = .ok (.lload_n 2, 1) := by decide +kernel
theorem dX10_bits_16 : decode cX10_bits 16 = .ok (.iconst 2, 1) := by decide +kernel
theorem dX10_bits_17 : decode cX10_bits 17 = .ok (.lushr, 1) := by decide +kernel
theorem dX10_bits_18 : decode cX10_bits 18 = .ok (.ldc2_w 29, 3) := by decide +kernel
theorem dX10_bits_21 : decode cX10_bits 21 = .ok (.land, 1) := by decide +kernel
theorem dX10_bits_22 : decode cX10_bits 22 = .ok (.ladd, 1) := by decide +kernel
theorem dX10_bits_23 : decode cX10_bits 23 = .ok (.lstore_n 2, 1) := by decide +kernel
theorem dX10_bits_24 : decode cX10_bits 24 = .ok (.lload_n 2, 1) := by decide +kernel
theorem dX10_bits_25 : decode cX10_bits 25 = .ok (.lload_n 2, 1) := by decide +kernel
theorem dX10_bits_26 : decode cX10_bits 26 = .ok (.iconst 4, 1) := by decide +kernel
theorem dX10_bits_27 : decode cX10_bits 27 = .ok (.lushr, 1) := by decide +kernel
theorem dX10_bits_28 : decode cX10_bits 28 = .ok (.ladd, 1) := by decide +kernel
theorem dX10_bits_29 : decode cX10_bits 29 = .ok (.ldc2_w 31, 3) := by decide +kernel
theorem dX10_bits_32 : decode cX10_bits 32 = .ok (.land, 1) := by decide +kernel
theorem dX10_bits_33 : decode cX10_bits 33 = .ok (.lstore_n 2, 1) := by decide +kernel
theorem dX10_bits_34 : decode cX10_bits 34 = .ok (.lload_n 2, 1) := by decide +kernel
theorem dX10_bits_35 : decode cX10_bits 35 = .ok (.ldc2_w 33, 3) := by decide +kernel
theorem dX10_bits_38 : decode cX10_bits 38 = .ok (.lmul, 1) := by decide +kernel
theorem dX10_bits_39 : decode cX10_bits 39 = .ok (.bipush 56, 2) := by decide +kernel
theorem dX10_bits_41 : decode cX10_bits 41 = .ok (.lushr, 1) := by decide +kernel
theorem dX10_bits_42 : decode cX10_bits 42 = .ok (.l2i, 1) := by decide +kernel
theorem dX10_bits_43 : decode cX10_bits 43 = .ok (.ireturn, 1) := by decide +kernel
theorem dX10_octet_0 : decode cX10_octet 0 = .ok (.aload_n 0, 1) := by decide +kernel
theorem dX10_octet_1 : decode cX10_octet 1 = .ok (.getfield 14, 3) := by decide +kernel
theorem dX10_octet_4 : decode cX10_octet 4 = .ok (.iload_n 1, 1) := by decide +kernel
theorem dX10_octet_5 : decode cX10_octet 5 = .ok (.baload, 1) := by decide +kernel
theorem dX10_octet_6 : decode cX10_octet 6 = .ok (.sipush 255, 3) := by decide +kernel
theorem dX10_octet_9 : decode cX10_octet 9 = .ok (.iand, 1) := by decide +kernel
theorem dX10_octet_10 : decode cX10_octet 10 = .ok (.ireturn, 1) := by decide +kernel
theorem dX10_peek_0 : decode cX10_peek 0 = .ok (.aload_n 0, 1) := by decide +kernel
theorem dX10_peek_1 : decode cX10_peek 1 = .ok (.getfield 21, 3) := by decide +kernel
theorem dX10_peek_4 : decode cX10_peek 4 = .ok (.aload_n 0, 1) := by decide +kernel
theorem dX10_peek_5 : decode cX10_peek 5 = .ok (.getfield 18, 3) := by decide +kernel
theorem dX10_peek_8 : decode cX10_peek 8 = .ok (.if_icmp .ge 19, 3) := by decide +kernel
theorem dX10_peek_11 : decode cX10_peek 11 = .ok (.aload_n 0, 1) := by decide +kernel
theorem dX10_peek_12 : decode cX10_peek 12 = .ok (.getfield 14, 3) := by decide +kernel
theorem dX10_peek_15 : decode cX10_peek 15 = .ok (.aload_n 0, 1) := by decide +kernel
theorem dX10_peek_16 : decode cX10_peek 16 = .ok (.getfield 21, 3) := by decide +kernel
theorem dX10_peek_19 : decode cX10_peek 19 = .ok (.baload, 1) := by decide +kernel
theorem dX10_peek_20 : decode cX10_peek 20 = .ok (.sipush 255, 3) := by decide +kernel
theorem dX10_peek_23 : decode cX10_peek 23 = .ok (.iand, 1) := by decide +kernel
theorem dX10_peek_24 : decode cX10_peek 24 = .ok (.goto 4, 3) := by decide +kernel
theorem dX10_peek_27 : decode cX10_peek 27 = .ok (.iconst (-1), 1) := by decide +kernel
theorem dX10_peek_28 : decode cX10_peek 28 = .ok (.ireturn, 1) := by decide +kernel
theorem dX10_isSmall_0 : decode cX10_isSmall 0 = .ok (.iload_n 0, 1) := by decide +kernel
theorem dX10_isSmall_1 : decode cX10_isSmall 1 = .ok (.bipush 97, 2) := by decide +kernel
theorem dX10_isSmall_3 : decode cX10_isSmall 3 = .ok (.if_icmp .lt 13, 3) := by decide +kernel
theorem dX10_isSmall_6 : decode cX10_isSmall 6 = .ok (.iload_n 0, 1) := by decide +kernel
theorem dX10_isSmall_7 : decode cX10_isSmall 7 = .ok (.bipush 122, 2) := by decide +kernel
theorem dX10_isSmall_9 : decode cX10_isSmall 9 = .ok (.if_icmp .gt 7, 3) := by decide +kernel
theorem dX10_isSmall_12 : decode cX10_isSmall 12 = .ok (.iconst 1, 1) := by decide +kernel
theorem dX10_isSmall_13 : decode cX10_isSmall 13 = .ok (.goto 4, 3) := by decide +kernel
theorem dX10_isSmall_16 : decode cX10_isSmall 16 = .ok (.iconst 0, 1) := by decide +kernel
theorem dX10_isSmall_17 : decode cX10_isSmall 17 = .ok (.ireturn, 1) := by decide +kernel
theorem dX10_isDigit_0 : decode cX10_isDigit 0 = .ok (.iload_n 0, 1) := by decide +kernel
theorem dX10_isDigit_1 : decode cX10_isDigit 1 = .ok (.bipush 48, 2) := by decide +kernel
theorem dX10_isDigit_3 : decode cX10_isDigit 3 = .ok (.if_icmp .lt 13, 3) := by decide +kernel
theorem dX10_isDigit_6 : decode cX10_isDigit 6 = .ok (.iload_n 0, 1) := by decide +kernel
theorem dX10_isDigit_7 : decode cX10_isDigit 7 = .ok (.bipush 57, 2) := by decide +kernel
theorem dX10_isDigit_9 : decode cX10_isDigit 9 = .ok (.if_icmp .gt 7, 3) := by decide +kernel
theorem dX10_isDigit_12 : decode cX10_isDigit 12 = .ok (.iconst 1, 1) := by decide +kernel
theorem dX10_isDigit_13 : decode cX10_isDigit 13 = .ok (.goto 4, 3) := by decide +kernel
theorem dX10_isDigit_16 : decode cX10_isDigit 16 = .ok (.iconst 0, 1) := by decide +kernel
theorem dX10_isDigit_17 : decode cX10_isDigit 17 = .ok (.ireturn, 1) := by decide +kernel
theorem dX10_skip_0 : decode cX10_skip 0 = .ok (.aload_n 0, 1) := by decide +kernel
theorem dX10_skip_1 : decode cX10_skip 1 = .ok (.invokevirtual 130, 3) := by decide +kernel
theorem dX10_skip_4 : decode cX10_skip 4 = .ok (.bipush 32, 2) := by decide +kernel
theorem dX10_skip_6 : decode cX10_skip 6 = .ok (.if_icmp .eq 12, 3) := by decide +kernel
theorem dX10_skip_9 : decode cX10_skip 9 = .ok (.aload_n 0, 1) := by decide +kernel
theorem dX10_skip_10 : decode cX10_skip 10 = .ok (.invokevirtual 130, 3) := by decide +kernel
theorem dX10_skip_13 : decode cX10_skip 13 = .ok (.bipush 10, 2) := by decide +kernel
theorem dX10_skip_15 : decode cX10_skip 15 = .ok (.if_icmp .ne 16, 3) := by decide +kernel
theorem dX10_skip_18 : decode cX10_skip 18 = .ok (.aload_n 0, 1) := by decide +kernel
theorem dX10_skip_19 : decode cX10_skip 19 = .ok (.dup, 1) := by decide +kernel
theorem dX10_skip_20 : decode cX10_skip 20 = .ok (.getfield 21, 3) := by decide +kernel
theorem dX10_skip_23 : decode cX10_skip 23 = .ok (.iconst 1, 1) := by decide +kernel
theorem dX10_skip_24 : decode cX10_skip 24 = .ok (.iadd, 1) := by decide +kernel
theorem dX10_skip_25 : decode cX10_skip 25 = .ok (.putfield 21, 3) := by decide +kernel
theorem dX10_skip_28 : decode cX10_skip 28 = .ok (.goto (-28), 3) := by decide +kernel
theorem dX10_skip_31 : decode cX10_skip 31 = .ok (.aload_n 0, 1) := by decide +kernel
theorem dX10_skip_32 : decode cX10_skip 32 = .ok (.aload_n 0, 1) := by decide +kernel
theorem dX10_skip_33 : decode cX10_skip 33 = .ok (.getfield 21, 3) := by decide +kernel
theorem dX10_skip_36 : decode cX10_skip 36 = .ok (.putfield 134, 3) := by decide +kernel
theorem dX10_skip_39 : decode cX10_skip 39 = .ok (.aload_n 0, 1) := by decide +kernel
theorem dX10_skip_40 : decode cX10_skip 40 = .ok (.iconst 0, 1) := by decide +kernel
theorem dX10_skip_41 : decode cX10_skip 41 = .ok (.putfield 137, 3) := by decide +kernel
theorem dX10_skip_44 : decode cX10_skip 44 = .ok (.aload_n 0, 1) := by decide +kernel
theorem dX10_skip_45 : decode cX10_skip 45 = .ok (.getfield 18, 3) := by decide +kernel
theorem dX10_skip_48 : decode cX10_skip 48 = .ok (.aload_n 0, 1) := by decide +kernel
theorem dX10_skip_49 : decode cX10_skip 49 = .ok (.getfield 24, 3) := by decide +kernel
theorem dX10_skip_52 : decode cX10_skip 52 = .ok (.if_icmp .le 28, 3) := by decide +kernel
theorem dX10_skip_55 : decode cX10_skip 55 = .ok (.aload_n 0, 1) := by decide +kernel
theorem dX10_skip_56 : decode cX10_skip 56 = .ok (.getfield 21, 3) := by decide +kernel
theorem dX10_skip_59 : decode cX10_skip 59 = .ok (.aload_n 0, 1) := by decide +kernel
theorem dX10_skip_60 : decode cX10_skip 60 = .ok (.getfield 24, 3) := by decide +kernel
theorem dX10_skip_63 : decode cX10_skip 63 = .ok (.if_icmp .lt 17, 3) := by decide +kernel
theorem dX10_skip_66 : decode cX10_skip 66 = .ok (.aload_n 0, 1) := by decide +kernel
theorem dX10_skip_67 : decode cX10_skip 67 = .ok (.aload_n 0, 1) := by decide +kernel
theorem dX10_skip_68 : decode cX10_skip 68 = .ok (.getfield 24, 3) := by decide +kernel
theorem dX10_skip_71 : decode cX10_skip 71 = .ok (.putfield 134, 3) := by decide +kernel
theorem dX10_skip_74 : decode cX10_skip 74 = .ok (.aload_n 0, 1) := by decide +kernel
theorem dX10_skip_75 : decode cX10_skip 75 = .ok (.iconst 4, 1) := by decide +kernel
theorem dX10_skip_76 : decode cX10_skip 76 = .ok (.putfield 140, 3) := by decide +kernel
theorem dX10_skip_79 : decode cX10_skip 79 = .ok (.return_, 1) := by decide +kernel
theorem dX10_skip_80 : decode cX10_skip 80 = .ok (.aload_n 0, 1) := by decide +kernel
theorem dX10_skip_81 : decode cX10_skip 81 = .ok (.invokevirtual 130, 3) := by decide +kernel
theorem dX10_skip_84 : decode cX10_skip 84 = .ok (.istore_n 1, 1) := by decide +kernel
theorem dX10_skip_85 : decode cX10_skip 85 = .ok (.iload_n 1, 1) := by decide +kernel
theorem dX10_skip_86 : decode cX10_skip 86 = .ok (.ifCond .ge 9, 3) := by decide +kernel
theorem dX10_skip_89 : decode cX10_skip 89 = .ok (.aload_n 0, 1) := by decide +kernel
theorem dX10_skip_90 : decode cX10_skip 90 = .ok (.iconst 0, 1) := by decide +kernel
theorem dX10_skip_91 : decode cX10_skip 91 = .ok (.putfield 140, 3) := by decide +kernel
theorem dX10_skip_94 : decode cX10_skip 94 = .ok (.return_, 1) := by decide +kernel
theorem dX10_skip_95 : decode cX10_skip 95 = .ok (.iload_n 1, 1) := by decide +kernel
theorem dX10_skip_96 : decode cX10_skip 96 = .ok (.invokestatic 143, 3) := by decide +kernel
theorem dX10_skip_99 : decode cX10_skip 99 = .ok (.ifCond .ne 41, 3) := by decide +kernel
theorem dX10_skip_102 : decode cX10_skip 102 = .ok (.iload_n 1, 1) := by decide +kernel
theorem dX10_skip_103 : decode cX10_skip 103 = .ok (.invokestatic 147, 3) := by decide +kernel
theorem dX10_skip_106 : decode cX10_skip 106 = .ok (.ifCond .ne 34, 3) := by decide +kernel
theorem dX10_skip_109 : decode cX10_skip 109 = .ok (.aload_n 0, 1) := by decide +kernel
theorem dX10_skip_110 : decode cX10_skip 110 = .ok (.iload_n 1, 1) := by decide +kernel
theorem dX10_skip_111 : decode cX10_skip 111 = .ok (.bipush 59, 2) := by decide +kernel
theorem dX10_skip_113 : decode cX10_skip 113 = .ok (.if_icmp .ne 7, 3) := by decide +kernel
theorem dX10_skip_116 : decode cX10_skip 116 = .ok (.iconst 3, 1) := by decide +kernel
theorem dX10_skip_117 : decode cX10_skip 117 = .ok (.goto 4, 3) := by decide +kernel
theorem dX10_skip_120 : decode cX10_skip 120 = .ok (.iconst 4, 1) := by decide +kernel
theorem dX10_skip_121 : decode cX10_skip 121 = .ok (.putfield 140, 3) := by decide +kernel
theorem dX10_skip_124 : decode cX10_skip 124 = .ok (.aload_n 0, 1) := by decide +kernel
theorem dX10_skip_125 : decode cX10_skip 125 = .ok (.iload_n 1, 1) := by decide +kernel
theorem dX10_skip_126 : decode cX10_skip 126 = .ok (.putfield 150, 3) := by decide +kernel
theorem dX10_skip_129 : decode cX10_skip 129 = .ok (.aload_n 0, 1) := by decide +kernel
theorem dX10_skip_130 : decode cX10_skip 130 = .ok (.dup, 1) := by decide +kernel
theorem dX10_skip_131 : decode cX10_skip 131 = .ok (.getfield 21, 3) := by decide +kernel
theorem dX10_skip_134 : decode cX10_skip 134 = .ok (.iconst 1, 1) := by decide +kernel
theorem dX10_skip_135 : decode cX10_skip 135 = .ok (.iadd, 1) := by decide +kernel
theorem dX10_skip_136 : decode cX10_skip 136 = .ok (.putfield 21, 3) := by decide +kernel
theorem dX10_skip_139 : decode cX10_skip 139 = .ok (.return_, 1) := by decide +kernel
theorem dX10_skip_140 : decode cX10_skip 140 = .ok (.iload_n 1, 1) := by decide +kernel
theorem dX10_skip_141 : decode cX10_skip 141 = .ok (.invokestatic 143, 3) := by decide +kernel
theorem dX10_skip_144 : decode cX10_skip 144 = .ok (.istore_n 2, 1) := by decide +kernel
theorem dX10_skip_145 : decode cX10_skip 145 = .ok (.iconst 1, 1) := by decide +kernel
theorem dX10_skip_146 : decode cX10_skip 146 = .ok (.istore_n 3, 1) := by decide +kernel
theorem dX10_skip_147 : decode cX10_skip 147 = .ok (.aload_n 0, 1) := by decide +kernel
theorem dX10_skip_148 : decode cX10_skip 148 = .ok (.lconst 0, 1) := by decide +kernel
theorem dX10_skip_149 : decode cX10_skip 149 = .ok (.putfield 153, 3) := by decide +kernel
theorem dX10_skip_152 : decode cX10_skip 152 = .ok (.aload_n 0, 1) := by decide +kernel
theorem dX10_skip_153 : decode cX10_skip 153 = .ok (.iconst 0, 1) := by decide +kernel
theorem dX10_skip_154 : decode cX10_skip 154 = .ok (.putfield 150, 3) := by decide +kernel
theorem dX10_skip_157 : decode cX10_skip 157 = .ok (.aload_n 0, 1) := by decide +kernel
theorem dX10_skip_158 : decode cX10_skip 158 = .ok (.invokevirtual 130, 3) := by decide +kernel
theorem dX10_skip_161 : decode cX10_skip 161 = .ok (.invokestatic 143, 3) := by decide +kernel
theorem dX10_skip_164 : decode cX10_skip 164 = .ok (.ifCond .ne 13, 3) := by decide +kernel
theorem dX10_skip_167 : decode cX10_skip 167 = .ok (.aload_n 0, 1) := by decide +kernel
theorem dX10_skip_168 : decode cX10_skip 168 = .ok (.invokevirtual 130, 3) := by decide +kernel
theorem dX10_skip_171 : decode cX10_skip 171 = .ok (.invokestatic 147, 3) := by decide +kernel
theorem dX10_skip_174 : decode cX10_skip 174 = .ok (.ifCond .eq 100, 3) := by decide +kernel
theorem dX10_skip_177 : decode cX10_skip 177 = .ok (.iload_n 3, 1) := by decide +kernel
theorem dX10_skip_178 : decode cX10_skip 178 = .ok (.ifCond .eq 18, 3) := by decide +kernel
theorem dX10_skip_181 : decode cX10_skip 181 = .ok (.aload_n 0, 1) := by decide +kernel
theorem dX10_skip_182 : decode cX10_skip 182 = .ok (.invokevirtual 130, 3) := by decide +kernel
theorem dX10_skip_185 : decode cX10_skip 185 = .ok (.invokestatic 143, 3) := by decide +kernel
theorem dX10_skip_188 : decode cX10_skip 188 = .ok (.iload_n 2, 1) := by decide +kernel
theorem dX10_skip_189 : decode cX10_skip 189 = .ok (.if_icmp .ne 7, 3) := by decide +kernel
theorem dX10_skip_192 : decode cX10_skip 192 = .ok (.iconst 1, 1) := by decide +kernel
theorem dX10_skip_193 : decode cX10_skip 193 = .ok (.goto 4, 3) := by decide +kernel
theorem dX10_skip_196 : decode cX10_skip 196 = .ok (.iconst 0, 1) := by decide +kernel
theorem dX10_skip_197 : decode cX10_skip 197 = .ok (.istore_n 3, 1) := by decide +kernel
theorem dX10_skip_198 : decode cX10_skip 198 = .ok (.aload_n 0, 1) := by decide +kernel
theorem dX10_skip_199 : decode cX10_skip 199 = .ok (.getfield 137, 3) := by decide +kernel
theorem dX10_skip_202 : decode cX10_skip 202 = .ok (.bipush 6, 2) := by decide +kernel
theorem dX10_skip_204 : decode cX10_skip 204 = .ok (.if_icmp .ge 20, 3) := by decide +kernel
theorem dX10_skip_207 : decode cX10_skip 207 = .ok (.aload_n 0, 1) := by decide +kernel
theorem dX10_skip_208 : decode cX10_skip 208 = .ok (.aload_n 0, 1) := by decide +kernel
theorem dX10_skip_209 : decode cX10_skip 209 = .ok (.getfield 153, 3) := by decide +kernel
theorem dX10_skip_212 : decode cX10_skip 212 = .ok (.bipush 8, 2) := by decide +kernel
theorem dX10_skip_214 : decode cX10_skip 214 = .ok (.lshl, 1) := by decide +kernel
theorem dX10_skip_215 : decode cX10_skip 215 = .ok (.aload_n 0, 1) := by decide +kernel
theorem dX10_skip_216 : decode cX10_skip 216 = .ok (.invokevirtual 130, 3) := by decide +kernel
theorem dX10_skip_219 : decode cX10_skip 219 = .ok (.i2l, 1) := by decide +kernel
theorem dX10_skip_220 : decode cX10_skip 220 = .ok (.lor, 1) := by decide +kernel
theorem dX10_skip_221 : decode cX10_skip 221 = .ok (.putfield 153, 3) := by decide +kernel
theorem dX10_skip_224 : decode cX10_skip 224 = .ok (.aload_n 0, 1) := by decide +kernel
theorem dX10_skip_225 : decode cX10_skip 225 = .ok (.getfield 137, 3) := by decide +kernel
theorem dX10_skip_228 : decode cX10_skip 228 = .ok (.iconst 2, 1) := by decide +kernel
theorem dX10_skip_229 : decode cX10_skip 229 = .ok (.if_icmp .ge 22, 3) := by decide +kernel
theorem dX10_skip_232 : decode cX10_skip 232 = .ok (.aload_n 0, 1) := by decide +kernel
theorem dX10_skip_233 : decode cX10_skip 233 = .ok (.bipush 10, 2) := by decide +kernel
theorem dX10_skip_235 : decode cX10_skip 235 = .ok (.aload_n 0, 1) := by decide +kernel
theorem dX10_skip_236 : decode cX10_skip 236 = .ok (.getfield 150, 3) := by decide +kernel
theorem dX10_skip_239 : decode cX10_skip 239 = .ok (.imul, 1) := by decide +kernel
theorem dX10_skip_240 : decode cX10_skip 240 = .ok (.aload_n 0, 1) := by decide +kernel
theorem dX10_skip_241 : decode cX10_skip 241 = .ok (.invokevirtual 130, 3) := by decide +kernel
theorem dX10_skip_244 : decode cX10_skip 244 = .ok (.iadd, 1) := by decide +kernel
theorem dX10_skip_245 : decode cX10_skip 245 = .ok (.bipush 48, 2) := by decide +kernel
theorem dX10_skip_247 : decode cX10_skip 247 = .ok (.isub, 1) := by decide +kernel
theorem dX10_skip_248 : decode cX10_skip 248 = .ok (.putfield 150, 3) := by decide +kernel
theorem dX10_skip_251 : decode cX10_skip 251 = .ok (.aload_n 0, 1) := by decide +kernel
theorem dX10_skip_252 : decode cX10_skip 252 = .ok (.dup, 1) := by decide +kernel
theorem dX10_skip_253 : decode cX10_skip 253 = .ok (.getfield 137, 3) := by decide +kernel
theorem dX10_skip_256 : decode cX10_skip 256 = .ok (.iconst 1, 1) := by decide +kernel
theorem dX10_skip_257 : decode cX10_skip 257 = .ok (.iadd, 1) := by decide +kernel
theorem dX10_skip_258 : decode cX10_skip 258 = .ok (.putfield 137, 3) := by decide +kernel
theorem dX10_skip_261 : decode cX10_skip 261 = .ok (.aload_n 0, 1) := by decide +kernel
theorem dX10_skip_262 : decode cX10_skip 262 = .ok (.dup, 1) := by decide +kernel
theorem dX10_skip_263 : decode cX10_skip 263 = .ok (.getfield 21, 3) := by decide +kernel
theorem dX10_skip_266 : decode cX10_skip 266 = .ok (.iconst 1, 1) := by decide +kernel
theorem dX10_skip_267 : decode cX10_skip 267 = .ok (.iadd, 1) := by decide +kernel
theorem dX10_skip_268 : decode cX10_skip 268 = .ok (.putfield 21, 3) := by decide +kernel
theorem dX10_skip_271 : decode cX10_skip 271 = .ok (.goto (-114), 3) := by decide +kernel
theorem dX10_skip_274 : decode cX10_skip 274 = .ok (.aload_n 0, 1) := by decide +kernel
theorem dX10_skip_275 : decode cX10_skip 275 = .ok (.iload_n 3, 1) := by decide +kernel
theorem dX10_skip_276 : decode cX10_skip 276 = .ok (.ifCond .eq 20, 3) := by decide +kernel
theorem dX10_skip_279 : decode cX10_skip 279 = .ok (.aload_n 0, 1) := by decide +kernel
theorem dX10_skip_280 : decode cX10_skip 280 = .ok (.getfield 137, 3) := by decide +kernel
theorem dX10_skip_283 : decode cX10_skip 283 = .ok (.iload_n 2, 1) := by decide +kernel
theorem dX10_skip_284 : decode cX10_skip 284 = .ok (.ifCond .eq 8, 3) := by decide +kernel
theorem dX10_skip_287 : decode cX10_skip 287 = .ok (.bipush 6, 2) := by decide +kernel
theorem dX10_skip_289 : decode cX10_skip 289 = .ok (.goto 4, 3) := by decide +kernel
theorem dX10_skip_292 : decode cX10_skip 292 = .ok (.iconst 2, 1) := by decide +kernel
theorem dX10_skip_293 : decode cX10_skip 293 = .ok (.if_icmp .le 7, 3) := by decide +kernel
theorem dX10_skip_296 : decode cX10_skip 296 = .ok (.iconst 4, 1) := by decide +kernel
theorem dX10_skip_297 : decode cX10_skip 297 = .ok (.goto 12, 3) := by decide +kernel
theorem dX10_skip_300 : decode cX10_skip 300 = .ok (.iload_n 2, 1) := by decide +kernel
theorem dX10_skip_301 : decode cX10_skip 301 = .ok (.ifCond .eq 7, 3) := by decide +kernel
theorem dX10_skip_304 : decode cX10_skip 304 = .ok (.iconst 1, 1) := by decide +kernel
theorem dX10_skip_305 : decode cX10_skip 305 = .ok (.goto 4, 3) := by decide +kernel
theorem dX10_skip_308 : decode cX10_skip 308 = .ok (.iconst 2, 1) := by decide +kernel
theorem dX10_skip_309 : decode cX10_skip 309 = .ok (.putfield 140, 3) := by decide +kernel
theorem dX10_skip_312 : decode cX10_skip 312 = .ok (.return_, 1) := by decide +kernel
theorem dX10_bad_0 : decode cX10_bad 0 = .ok (.aload_n 0, 1) := by decide +kernel
theorem dX10_bad_1 : decode cX10_bad 1 = .ok (.iload_n 1, 1) := by decide +kernel
theorem dX10_bad_2 : decode cX10_bad 2 = .ok (.putfield 157, 3) := by decide +kernel
theorem dX10_bad_5 : decode cX10_bad 5 = .ok (.aload_n 0, 1) := by decide +kernel
theorem dX10_bad_6 : decode cX10_bad 6 = .ok (.aload_n 0, 1) := by decide +kernel
theorem dX10_bad_7 : decode cX10_bad 7 = .ok (.getfield 134, 3) := by decide +kernel
theorem dX10_bad_10 : decode cX10_bad 10 = .ok (.putfield 160, 3) := by decide +kernel
theorem dX10_bad_13 : decode cX10_bad 13 = .ok (.iconst 0, 1) := by decide +kernel
theorem dX10_bad_14 : decode cX10_bad 14 = .ok (.ireturn, 1) := by decide +kernel
theorem dX10_isWord_0 : decode cX10_isWord 0 = .ok (.aload_n 0, 1) := by decide +kernel
theorem dX10_isWord_1 : decode cX10_isWord 1 = .ok (.getfield 140, 3) := by decide +kernel
theorem dX10_isWord_4 : decode cX10_isWord 4 = .ok (.iconst 1, 1) := by decide +kernel
theorem dX10_isWord_5 : decode cX10_isWord 5 = .ok (.if_icmp .ne 16, 3) := by decide +kernel
theorem dX10_isWord_8 : decode cX10_isWord 8 = .ok (.aload_n 0, 1) := by decide +kernel
theorem dX10_isWord_9 : decode cX10_isWord 9 = .ok (.getfield 153, 3) := by decide +kernel
theorem dX10_isWord_12 : decode cX10_isWord 12 = .ok (.lload_n 1, 1) := by decide +kernel
theorem dX10_isWord_13 : decode cX10_isWord 13 = .ok (.lcmp, 1) := by decide +kernel
theorem dX10_isWord_14 : decode cX10_isWord 14 = .ok (.ifCond .ne 7, 3) := by decide +kernel
theorem dX10_isWord_17 : decode cX10_isWord 17 = .ok (.iconst 1, 1) := by decide +kernel
theorem dX10_isWord_18 : decode cX10_isWord 18 = .ok (.goto 4, 3) := by decide +kernel
theorem dX10_isWord_21 : decode cX10_isWord 21 = .ok (.iconst 0, 1) := by decide +kernel
theorem dX10_isWord_22 : decode cX10_isWord 22 = .ok (.ireturn, 1) := by decide +kernel
theorem dX10_isSign_0 : decode cX10_isSign 0 = .ok (.aload_n 0, 1) := by decide +kernel
theorem dX10_isSign_1 : decode cX10_isSign 1 = .ok (.getfield 140, 3) := by decide +kernel
theorem dX10_isSign_4 : decode cX10_isSign 4 = .ok (.iconst 3, 1) := by decide +kernel
theorem dX10_isSign_5 : decode cX10_isSign 5 = .ok (.if_icmp .ne 15, 3) := by decide +kernel
theorem dX10_isSign_8 : decode cX10_isSign 8 = .ok (.aload_n 0, 1) := by decide +kernel
theorem dX10_isSign_9 : decode cX10_isSign 9 = .ok (.getfield 150, 3) := by decide +kernel
theorem dX10_isSign_12 : decode cX10_isSign 12 = .ok (.iload_n 1, 1) := by decide +kernel
theorem dX10_isSign_13 : decode cX10_isSign 13 = .ok (.if_icmp .ne 7, 3) := by decide +kernel
theorem dX10_isSign_16 : decode cX10_isSign 16 = .ok (.iconst 1, 1) := by decide +kernel
theorem dX10_isSign_17 : decode cX10_isSign 17 = .ok (.goto 4, 3) := by decide +kernel
theorem dX10_isSign_20 : decode cX10_isSign 20 = .ok (.iconst 0, 1) := by decide +kernel
theorem dX10_isSign_21 : decode cX10_isSign 21 = .ok (.ireturn, 1) := by decide +kernel
theorem dX10_sign_0 : decode cX10_sign 0 = .ok (.aload_n 0, 1) := by decide +kernel
theorem dX10_sign_1 : decode cX10_sign 1 = .ok (.iload_n 1, 1) := by decide +kernel
theorem dX10_sign_2 : decode cX10_sign 2 = .ok (.invokevirtual 163, 3) := by decide +kernel
theorem dX10_sign_5 : decode cX10_sign 5 = .ok (.ifCond .ne 9, 3) := by decide +kernel
theorem dX10_sign_8 : decode cX10_sign 8 = .ok (.aload_n 0, 1) := by decide +kernel
theorem dX10_sign_9 : decode cX10_sign 9 = .ok (.iconst 1, 1) := by decide +kernel
theorem dX10_sign_10 : decode cX10_sign 10 = .ok (.invokevirtual 166, 3) := by decide +kernel
theorem dX10_sign_13 : decode cX10_sign 13 = .ok (.ireturn, 1) := by decide +kernel
theorem dX10_sign_14 : decode cX10_sign 14 = .ok (.aload_n 0, 1) := by decide +kernel
theorem dX10_sign_15 : decode cX10_sign 15 = .ok (.invokevirtual 169, 3) := by decide +kernel
theorem dX10_sign_18 : decode cX10_sign 18 = .ok (.iconst 1, 1) := by decide +kernel
theorem dX10_sign_19 : decode cX10_sign 19 = .ok (.ireturn, 1) := by decide +kernel
theorem dX10_isName_0 : decode cX10_isName 0 = .ok (.aload_n 0, 1) := by decide +kernel
theorem dX10_isName_1 : decode cX10_isName 1 = .ok (.getfield 140, 3) := by decide +kernel
theorem dX10_isName_4 : decode cX10_isName 4 = .ok (.iconst 1, 1) := by decide +kernel
theorem dX10_isName_5 : decode cX10_isName 5 = .ok (.if_icmp .ne 7, 3) := by decide +kernel
theorem dX10_isName_8 : decode cX10_isName 8 = .ok (.iconst 1, 1) := by decide +kernel
theorem dX10_isName_9 : decode cX10_isName 9 = .ok (.goto 4, 3) := by decide +kernel
theorem dX10_isName_12 : decode cX10_isName 12 = .ok (.iconst 0, 1) := by decide +kernel
theorem dX10_isName_13 : decode cX10_isName 13 = .ok (.istore_n 1, 1) := by decide +kernel
theorem dX10_isName_14 : decode cX10_isName 14 = .ok (.iconst 0, 1) := by decide +kernel
theorem dX10_isName_15 : decode cX10_isName 15 = .ok (.istore_n 2, 1) := by decide +kernel
theorem dX10_isName_16 : decode cX10_isName 16 = .ok (.iload_n 2, 1) := by decide +kernel
theorem dX10_isName_17 : decode cX10_isName 17 = .ok (.bipush 10, 2) := by decide +kernel
theorem dX10_isName_19 : decode cX10_isName 19 = .ok (.if_icmp .ge 33, 3) := by decide +kernel
theorem dX10_isName_22 : decode cX10_isName 22 = .ok (.iload_n 1, 1) := by decide +kernel
theorem dX10_isName_23 : decode cX10_isName 23 = .ok (.ifCond .eq 21, 3) := by decide +kernel
theorem dX10_isName_26 : decode cX10_isName 26 = .ok (.aload_n 0, 1) := by decide +kernel
theorem dX10_isName_27 : decode cX10_isName 27 = .ok (.getfield 153, 3) := by decide +kernel
theorem dX10_isName_30 : decode cX10_isName 30 = .ok (.aload_n 0, 1) := by decide +kernel
theorem dX10_isName_31 : decode cX10_isName 31 = .ok (.getfield 58, 3) := by decide +kernel
theorem dX10_isName_34 : decode cX10_isName 34 = .ok (.iload_n 2, 1) := by decide +kernel
theorem dX10_isName_35 : decode cX10_isName 35 = .ok (.laload, 1) := by decide +kernel
theorem dX10_isName_36 : decode cX10_isName 36 = .ok (.lcmp, 1) := by decide +kernel
theorem dX10_isName_37 : decode cX10_isName 37 = .ok (.ifCond .eq 7, 3) := by decide +kernel
theorem dX10_isName_40 : decode cX10_isName 40 = .ok (.iconst 1, 1) := by decide +kernel
theorem dX10_isName_41 : decode cX10_isName 41 = .ok (.goto 4, 3) := by decide +kernel
theorem dX10_isName_44 : decode cX10_isName 44 = .ok (.iconst 0, 1) := by decide +kernel
theorem dX10_isName_45 : decode cX10_isName 45 = .ok (.istore_n 1, 1) := by decide +kernel
theorem dX10_isName_46 : decode cX10_isName 46 = .ok (.iinc 2 1, 3) := by decide +kernel
theorem dX10_isName_49 : decode cX10_isName 49 = .ok (.goto (-33), 3) := by decide +kernel
theorem dX10_isName_52 : decode cX10_isName 52 = .ok (.iload_n 1, 1) := by decide +kernel
theorem dX10_isName_53 : decode cX10_isName 53 = .ok (.ireturn, 1) := by decide +kernel
theorem dX10_takes_0 : decode cX10_takes 0 = .ok (.aload_n 0, 1) := by decide +kernel
theorem dX10_takes_1 : decode cX10_takes 1 = .ok (.getfield 140, 3) := by decide +kernel
theorem dX10_takes_4 : decode cX10_takes 4 = .ok (.iconst 2, 1) := by decide +kernel
theorem dX10_takes_5 : decode cX10_takes 5 = .ok (.if_icmp .eq 9, 3) := by decide +kernel
theorem dX10_takes_8 : decode cX10_takes 8 = .ok (.aload_n 0, 1) := by decide +kernel
theorem dX10_takes_9 : decode cX10_takes 9 = .ok (.iconst 1, 1) := by decide +kernel
theorem dX10_takes_10 : decode cX10_takes 10 = .ok (.invokevirtual 166, 3) := by decide +kernel
theorem dX10_takes_13 : decode cX10_takes 13 = .ok (.ireturn, 1) := by decide +kernel
theorem dX10_takes_14 : decode cX10_takes 14 = .ok (.aload_n 0, 1) := by decide +kernel
theorem dX10_takes_15 : decode cX10_takes 15 = .ok (.getfield 150, 3) := by decide +kernel
theorem dX10_takes_18 : decode cX10_takes 18 = .ok (.iload_n 1, 1) := by decide +kernel
theorem dX10_takes_19 : decode cX10_takes 19 = .ok (.iload_n 2, 1) := by decide +kernel
theorem dX10_takes_20 : decode cX10_takes 20 = .ok (.invokestatic 172, 3) := by decide +kernel
theorem dX10_takes_23 : decode cX10_takes 23 = .ok (.ifCond .ne 9, 3) := by decide +kernel
theorem dX10_takes_26 : decode cX10_takes 26 = .ok (.aload_n 0, 1) := by decide +kernel
theorem dX10_takes_27 : decode cX10_takes 27 = .ok (.iconst 2, 1) := by decide +kernel
theorem dX10_takes_28 : decode cX10_takes 28 = .ok (.invokevirtual 166, 3) := by decide +kernel
theorem dX10_takes_31 : decode cX10_takes 31 = .ok (.ireturn, 1) := by decide +kernel
theorem dX10_takes_32 : decode cX10_takes 32 = .ok (.aload_n 0, 1) := by decide +kernel
theorem dX10_takes_33 : decode cX10_takes 33 = .ok (.aload_n 0, 1) := by decide +kernel
theorem dX10_takes_34 : decode cX10_takes 34 = .ok (.getfield 150, 3) := by decide +kernel
theorem dX10_takes_37 : decode cX10_takes 37 = .ok (.putfield 176, 3) := by decide +kernel
theorem dX10_takes_40 : decode cX10_takes 40 = .ok (.aload_n 0, 1) := by decide +kernel
theorem dX10_takes_41 : decode cX10_takes 41 = .ok (.invokevirtual 169, 3) := by decide +kernel
theorem dX10_takes_44 : decode cX10_takes 44 = .ok (.iconst 1, 1) := by decide +kernel
theorem dX10_takes_45 : decode cX10_takes 45 = .ok (.ireturn, 1) := by decide +kernel
theorem dX10_find_0 : decode cX10_find 0 = .ok (.iconst 0, 1) := by decide +kernel
theorem dX10_find_1 : decode cX10_find 1 = .ok (.istore_n 3, 1) := by decide +kernel
theorem dX10_find_2 : decode cX10_find 2 = .ok (.iload_n 3, 1) := by decide +kernel
theorem dX10_find_3 : decode cX10_find 3 = .ok (.iload_n 2, 1) := by decide +kernel
theorem dX10_find_4 : decode cX10_find 4 = .ok (.if_icmp .ge 27, 3) := by decide +kernel
theorem dX10_find_7 : decode cX10_find 7 = .ok (.aload_n 0, 1) := by decide +kernel
theorem dX10_find_8 : decode cX10_find 8 = .ok (.getfield 54, 3) := by decide +kernel
theorem dX10_find_11 : decode cX10_find 11 = .ok (.iload_n 1, 1) := by decide +kernel
theorem dX10_find_12 : decode cX10_find 12 = .ok (.iload_n 3, 1) := by decide +kernel
theorem dX10_find_13 : decode cX10_find 13 = .ok (.iadd, 1) := by decide +kernel
theorem dX10_find_14 : decode cX10_find 14 = .ok (.laload, 1) := by decide +kernel
theorem dX10_find_15 : decode cX10_find 15 = .ok (.aload_n 0, 1) := by decide +kernel
theorem dX10_find_16 : decode cX10_find 16 = .ok (.getfield 153, 3) := by decide +kernel
theorem dX10_find_19 : decode cX10_find 19 = .ok (.lcmp, 1) := by decide +kernel
theorem dX10_find_20 : decode cX10_find 20 = .ok (.ifCond .ne 5, 3) := by decide +kernel
theorem dX10_find_23 : decode cX10_find 23 = .ok (.iload_n 3, 1) := by decide +kernel
theorem dX10_find_24 : decode cX10_find 24 = .ok (.ireturn, 1) := by decide +kernel
theorem dX10_find_25 : decode cX10_find 25 = .ok (.iinc 3 1, 3) := by decide +kernel
theorem dX10_find_28 : decode cX10_find 28 = .ok (.goto (-26), 3) := by decide +kernel
theorem dX10_find_31 : decode cX10_find 31 = .ok (.iconst (-1), 1) := by decide +kernel
theorem dX10_find_32 : decode cX10_find 32 = .ok (.ireturn, 1) := by decide +kernel
theorem dX10_takesName_0 : decode cX10_takesName 0 = .ok (.aload_n 0, 1) := by decide +kernel
theorem dX10_takesName_1 : decode cX10_takesName 1 = .ok (.invokevirtual 179, 3) := by decide +kernel
theorem dX10_takesName_4 : decode cX10_takesName 4 = .ok (.ifCond .ne 9, 3) := by decide +kernel
theorem dX10_takesName_7 : decode cX10_takesName 7 = .ok (.aload_n 0, 1) := by decide +kernel
theorem dX10_takesName_8 : decode cX10_takesName 8 = .ok (.iconst 1, 1) := by decide +kernel
theorem dX10_takesName_9 : decode cX10_takesName 9 = .ok (.invokevirtual 166, 3) := by decide +kernel
theorem dX10_takesName_12 : decode cX10_takesName 12 = .ok (.ireturn, 1) := by decide +kernel
theorem dX10_takesName_13 : decode cX10_takesName 13 = .ok (.aload_n 0, 1) := by decide +kernel
theorem dX10_takesName_14 : decode cX10_takesName 14 = .ok (.aload_n 0, 1) := by decide +kernel
theorem dX10_takesName_15 : decode cX10_takesName 15 = .ok (.iload_n 1, 1) := by decide +kernel
theorem dX10_takesName_16 : decode cX10_takesName 16 = .ok (.iload_n 2, 1) := by decide +kernel
theorem dX10_takesName_17 : decode cX10_takesName 17 = .ok (.invokevirtual 183, 3) := by decide +kernel
theorem dX10_takesName_20 : decode cX10_takesName 20 = .ok (.putfield 176, 3) := by decide +kernel
theorem dX10_takesName_23 : decode cX10_takesName 23 = .ok (.aload_n 0, 1) := by decide +kernel
theorem dX10_takesName_24 : decode cX10_takesName 24 = .ok (.getfield 176, 3) := by decide +kernel
theorem dX10_takesName_27 : decode cX10_takesName 27 = .ok (.ifCond .ge 9, 3) := by decide +kernel
theorem dX10_takesName_30 : decode cX10_takesName 30 = .ok (.aload_n 0, 1) := by decide +kernel
theorem dX10_takesName_31 : decode cX10_takesName 31 = .ok (.iconst 3, 1) := by decide +kernel
theorem dX10_takesName_32 : decode cX10_takesName 32 = .ok (.invokevirtual 166, 3) := by decide +kernel
theorem dX10_takesName_35 : decode cX10_takesName 35 = .ok (.ireturn, 1) := by decide +kernel
theorem dX10_takesName_36 : decode cX10_takesName 36 = .ok (.aload_n 0, 1) := by decide +kernel
theorem dX10_takesName_37 : decode cX10_takesName 37 = .ok (.invokevirtual 169, 3) := by decide +kernel
theorem dX10_takesName_40 : decode cX10_takesName 40 = .ok (.iconst 1, 1) := by decide +kernel
theorem dX10_takesName_41 : decode cX10_takesName 41 = .ok (.ireturn, 1) := by decide +kernel
theorem dX10_fresh_0 : decode cX10_fresh 0 = .ok (.aload_n 0, 1) := by decide +kernel
theorem dX10_fresh_1 : decode cX10_fresh 1 = .ok (.invokevirtual 179, 3) := by decide +kernel
theorem dX10_fresh_4 : decode cX10_fresh 4 = .ok (.ifCond .ne 9, 3) := by decide +kernel
theorem dX10_fresh_7 : decode cX10_fresh 7 = .ok (.aload_n 0, 1) := by decide +kernel
theorem dX10_fresh_8 : decode cX10_fresh 8 = .ok (.iconst 1, 1) := by decide +kernel
theorem dX10_fresh_9 : decode cX10_fresh 9 = .ok (.invokevirtual 166, 3) := by decide +kernel
theorem dX10_fresh_12 : decode cX10_fresh 12 = .ok (.ireturn, 1) := by decide +kernel
theorem dX10_fresh_13 : decode cX10_fresh 13 = .ok (.aload_n 0, 1) := by decide +kernel
theorem dX10_fresh_14 : decode cX10_fresh 14 = .ok (.bipush 7, 2) := by decide +kernel
theorem dX10_fresh_16 : decode cX10_fresh 16 = .ok (.aload_n 0, 1) := by decide +kernel
theorem dX10_fresh_17 : decode cX10_fresh 17 = .ok (.getfield 45, 3) := by decide +kernel
theorem dX10_fresh_20 : decode cX10_fresh 20 = .ok (.iconst 0, 1) := by decide +kernel
theorem dX10_fresh_21 : decode cX10_fresh 21 = .ok (.iaload, 1) := by decide +kernel
theorem dX10_fresh_22 : decode cX10_fresh 22 = .ok (.invokevirtual 183, 3) := by decide +kernel
theorem dX10_fresh_25 : decode cX10_fresh 25 = .ok (.ifCond .ge 18, 3) := by decide +kernel
theorem dX10_fresh_28 : decode cX10_fresh 28 = .ok (.aload_n 0, 1) := by decide +kernel
theorem dX10_fresh_29 : decode cX10_fresh 29 = .ok (.bipush 10, 2) := by decide +kernel
theorem dX10_fresh_31 : decode cX10_fresh 31 = .ok (.aload_n 0, 1) := by decide +kernel
theorem dX10_fresh_32 : decode cX10_fresh 32 = .ok (.getfield 45, 3) := by decide +kernel
theorem dX10_fresh_35 : decode cX10_fresh 35 = .ok (.iconst 1, 1) := by decide +kernel
theorem dX10_fresh_36 : decode cX10_fresh 36 = .ok (.iaload, 1) := by decide +kernel
theorem dX10_fresh_37 : decode cX10_fresh 37 = .ok (.invokevirtual 183, 3) := by decide +kernel
theorem dX10_fresh_40 : decode cX10_fresh 40 = .ok (.ifCond .lt 9, 3) := by decide +kernel
theorem dX10_fresh_43 : decode cX10_fresh 43 = .ok (.aload_n 0, 1) := by decide +kernel
theorem dX10_fresh_44 : decode cX10_fresh 44 = .ok (.iconst 3, 1) := by decide +kernel
theorem dX10_fresh_45 : decode cX10_fresh 45 = .ok (.invokevirtual 166, 3) := by decide +kernel
theorem dX10_fresh_48 : decode cX10_fresh 48 = .ok (.ireturn, 1) := by decide +kernel
theorem dX10_fresh_49 : decode cX10_fresh 49 = .ok (.aload_n 0, 1) := by decide +kernel
theorem dX10_fresh_50 : decode cX10_fresh 50 = .ok (.getfield 54, 3) := by decide +kernel
theorem dX10_fresh_53 : decode cX10_fresh 53 = .ok (.iload_n 1, 1) := by decide +kernel
theorem dX10_fresh_54 : decode cX10_fresh 54 = .ok (.aload_n 0, 1) := by decide +kernel
theorem dX10_fresh_55 : decode cX10_fresh 55 = .ok (.getfield 153, 3) := by decide +kernel
theorem dX10_fresh_58 : decode cX10_fresh 58 = .ok (.lastore, 1) := by decide +kernel
theorem dX10_fresh_59 : decode cX10_fresh 59 = .ok (.aload_n 0, 1) := by decide +kernel
theorem dX10_fresh_60 : decode cX10_fresh 60 = .ok (.invokevirtual 169, 3) := by decide +kernel
theorem dX10_fresh_63 : decode cX10_fresh 63 = .ok (.iconst 1, 1) := by decide +kernel
theorem dX10_fresh_64 : decode cX10_fresh 64 = .ok (.ireturn, 1) := by decide +kernel
theorem dX10_line_0 : decode cX10_line 0 = .ok (.aload_n 0, 1) := by decide +kernel
theorem dX10_line_1 : decode cX10_line 1 = .ok (.ldc2_w 110, 3) := by decide +kernel
theorem dX10_line_4 : decode cX10_line 4 = .ok (.invokevirtual 187, 3) := by decide +kernel
theorem dX10_line_7 : decode cX10_line 7 = .ok (.ifCond .eq 8, 3) := by decide +kernel
theorem dX10_line_10 : decode cX10_line 10 = .ok (.aload_n 0, 1) := by decide +kernel
theorem dX10_line_11 : decode cX10_line 11 = .ok (.invokevirtual 191, 3) := by decide +kernel
theorem dX10_line_14 : decode cX10_line 14 = .ok (.ireturn, 1) := by decide +kernel
theorem dX10_line_15 : decode cX10_line 15 = .ok (.aload_n 0, 1) := by decide +kernel
theorem dX10_line_16 : decode cX10_line 16 = .ok (.ldc2_w 114, 3) := by decide +kernel
theorem dX10_line_19 : decode cX10_line 19 = .ok (.invokevirtual 187, 3) := by decide +kernel
theorem dX10_line_22 : decode cX10_line 22 = .ok (.ifCond .eq 8, 3) := by decide +kernel
theorem dX10_line_25 : decode cX10_line 25 = .ok (.aload_n 0, 1) := by decide +kernel
theorem dX10_line_26 : decode cX10_line 26 = .ok (.invokevirtual 194, 3) := by decide +kernel
theorem dX10_line_29 : decode cX10_line 29 = .ok (.ireturn, 1) := by decide +kernel
theorem dX10_line_30 : decode cX10_line 30 = .ok (.aload_n 0, 1) := by decide +kernel
theorem dX10_line_31 : decode cX10_line 31 = .ok (.ldc2_w 124, 3) := by decide +kernel
theorem dX10_line_34 : decode cX10_line 34 = .ok (.invokevirtual 187, 3) := by decide +kernel
theorem dX10_line_37 : decode cX10_line 37 = .ok (.ifCond .eq 8, 3) := by decide +kernel
theorem dX10_line_40 : decode cX10_line 40 = .ok (.aload_n 0, 1) := by decide +kernel
theorem dX10_line_41 : decode cX10_line 41 = .ok (.invokevirtual 197, 3) := by decide +kernel
theorem dX10_line_44 : decode cX10_line 44 = .ok (.ireturn, 1) := by decide +kernel
theorem dX10_line_45 : decode cX10_line 45 = .ok (.aload_n 0, 1) := by decide +kernel
theorem dX10_line_46 : decode cX10_line 46 = .ok (.ldc2_w 126, 3) := by decide +kernel
theorem dX10_line_49 : decode cX10_line 49 = .ok (.invokevirtual 187, 3) := by decide +kernel
theorem dX10_line_52 : decode cX10_line 52 = .ok (.ifCond .eq 8, 3) := by decide +kernel
theorem dX10_line_55 : decode cX10_line 55 = .ok (.aload_n 0, 1) := by decide +kernel
theorem dX10_line_56 : decode cX10_line 56 = .ok (.invokevirtual 200, 3) := by decide +kernel
theorem dX10_line_59 : decode cX10_line 59 = .ok (.ireturn, 1) := by decide +kernel
theorem dX10_line_60 : decode cX10_line 60 = .ok (.aload_n 0, 1) := by decide +kernel
theorem dX10_line_61 : decode cX10_line 61 = .ok (.ldc2_w 128, 3) := by decide +kernel
theorem dX10_line_64 : decode cX10_line 64 = .ok (.invokevirtual 187, 3) := by decide +kernel
theorem dX10_line_67 : decode cX10_line 67 = .ok (.ifCond .eq 10, 3) := by decide +kernel
theorem dX10_line_70 : decode cX10_line 70 = .ok (.aload_n 0, 1) := by decide +kernel
theorem dX10_line_71 : decode cX10_line 71 = .ok (.invokevirtual 203, 3) := by decide +kernel
theorem dX10_line_74 : decode cX10_line 74 = .ok (.goto 8, 3) := by decide +kernel
theorem dX10_line_77 : decode cX10_line 77 = .ok (.aload_n 0, 1) := by decide +kernel
theorem dX10_line_78 : decode cX10_line 78 = .ok (.iconst 1, 1) := by decide +kernel
theorem dX10_line_79 : decode cX10_line 79 = .ok (.invokevirtual 166, 3) := by decide +kernel
theorem dX10_line_82 : decode cX10_line 82 = .ok (.ireturn, 1) := by decide +kernel
theorem dX10_readKind_0 : decode cX10_readKind 0 = .ok (.aload_n 0, 1) := by decide +kernel
theorem dX10_readKind_1 : decode cX10_readKind 1 = .ok (.getfield 45, 3) := by decide +kernel
theorem dX10_readKind_4 : decode cX10_readKind 4 = .ok (.iconst 0, 1) := by decide +kernel
theorem dX10_readKind_5 : decode cX10_readKind 5 = .ok (.iaload, 1) := by decide +kernel
theorem dX10_readKind_6 : decode cX10_readKind 6 = .ok (.istore_n 1, 1) := by decide +kernel
theorem dX10_readKind_7 : decode cX10_readKind 7 = .ok (.aload_n 0, 1) := by decide +kernel
theorem dX10_readKind_8 : decode cX10_readKind 8 = .ok (.getfield 45, 3) := by decide +kernel
theorem dX10_readKind_11 : decode cX10_readKind 11 = .ok (.iconst 1, 1) := by decide +kernel
theorem dX10_readKind_12 : decode cX10_readKind 12 = .ok (.iaload, 1) := by decide +kernel
theorem dX10_readKind_13 : decode cX10_readKind 13 = .ok (.ifCond .le 9, 3) := by decide +kernel
theorem dX10_readKind_16 : decode cX10_readKind 16 = .ok (.aload_n 0, 1) := by decide +kernel
theorem dX10_readKind_17 : decode cX10_readKind 17 = .ok (.iconst 3, 1) := by decide +kernel
theorem dX10_readKind_18 : decode cX10_readKind 18 = .ok (.invokevirtual 166, 3) := by decide +kernel
theorem dX10_readKind_21 : decode cX10_readKind 21 = .ok (.ireturn, 1) := by decide +kernel
theorem dX10_readKind_22 : decode cX10_readKind 22 = .ok (.iload_n 1, 1) := by decide +kernel
theorem dX10_readKind_23 : decode cX10_readKind 23 = .ok (.iconst 3, 1) := by decide +kernel
theorem dX10_readKind_24 : decode cX10_readKind 24 = .ok (.if_icmp .ne 9, 3) := by decide +kernel
theorem dX10_readKind_27 : decode cX10_readKind 27 = .ok (.aload_n 0, 1) := by decide +kernel
theorem dX10_readKind_28 : decode cX10_readKind 28 = .ok (.iconst 4, 1) := by decide +kernel
theorem dX10_readKind_29 : decode cX10_readKind 29 = .ok (.invokevirtual 166, 3) := by decide +kernel
theorem dX10_readKind_32 : decode cX10_readKind 32 = .ok (.ireturn, 1) := by decide +kernel
theorem dX10_readKind_33 : decode cX10_readKind 33 = .ok (.aload_n 0, 1) := by decide +kernel
theorem dX10_readKind_34 : decode cX10_readKind 34 = .ok (.invokevirtual 169, 3) := by decide +kernel
theorem dX10_readKind_37 : decode cX10_readKind 37 = .ok (.aload_n 0, 1) := by decide +kernel
theorem dX10_readKind_38 : decode cX10_readKind 38 = .ok (.bipush 7, 2) := by decide +kernel
theorem dX10_readKind_40 : decode cX10_readKind 40 = .ok (.iload_n 1, 1) := by decide +kernel
theorem dX10_readKind_41 : decode cX10_readKind 41 = .ok (.iadd, 1) := by decide +kernel
theorem dX10_readKind_42 : decode cX10_readKind 42 = .ok (.invokevirtual 206, 3) := by decide +kernel
theorem dX10_readKind_45 : decode cX10_readKind 45 = .ok (.ifCond .ne 5, 3) := by decide +kernel
theorem dX10_readKind_48 : decode cX10_readKind 48 = .ok (.iconst 0, 1) := by decide +kernel
theorem dX10_readKind_49 : decode cX10_readKind 49 = .ok (.ireturn, 1) := by decide +kernel
theorem dX10_readKind_50 : decode cX10_readKind 50 = .ok (.aload_n 0, 1) := by decide +kernel
theorem dX10_readKind_51 : decode cX10_readKind 51 = .ok (.iconst 1, 1) := by decide +kernel
theorem dX10_readKind_52 : decode cX10_readKind 52 = .ok (.bipush 8, 2) := by decide +kernel
theorem dX10_readKind_54 : decode cX10_readKind 54 = .ok (.invokevirtual 209, 3) := by decide +kernel
theorem dX10_readKind_57 : decode cX10_readKind 57 = .ok (.ifCond .ne 5, 3) := by decide +kernel
theorem dX10_readKind_60 : decode cX10_readKind 60 = .ok (.iconst 0, 1) := by decide +kernel
theorem dX10_readKind_61 : decode cX10_readKind 61 = .ok (.ireturn, 1) := by decide +kernel
theorem dX10_readKind_62 : decode cX10_readKind 62 = .ok (.aload_n 0, 1) := by decide +kernel
theorem dX10_readKind_63 : decode cX10_readKind 63 = .ok (.getfield 45, 3) := by decide +kernel
theorem dX10_readKind_66 : decode cX10_readKind 66 = .ok (.iconst 2, 1) := by decide +kernel
theorem dX10_readKind_67 : decode cX10_readKind 67 = .ok (.iload_n 1, 1) := by decide +kernel
theorem dX10_readKind_68 : decode cX10_readKind 68 = .ok (.iadd, 1) := by decide +kernel
theorem dX10_readKind_69 : decode cX10_readKind 69 = .ok (.aload_n 0, 1) := by decide +kernel
theorem dX10_readKind_70 : decode cX10_readKind 70 = .ok (.getfield 176, 3) := by decide +kernel
theorem dX10_readKind_73 : decode cX10_readKind 73 = .ok (.iastore, 1) := by decide +kernel
theorem dX10_readKind_74 : decode cX10_readKind 74 = .ok (.aload_n 0, 1) := by decide +kernel
theorem dX10_readKind_75 : decode cX10_readKind 75 = .ok (.aload_n 0, 1) := by decide +kernel
theorem dX10_readKind_76 : decode cX10_readKind 76 = .ok (.getfield 176, 3) := by decide +kernel
theorem dX10_readKind_79 : decode cX10_readKind 79 = .ok (.bipush 8, 2) := by decide +kernel
theorem dX10_readKind_81 : decode cX10_readKind 81 = .ok (.invokevirtual 209, 3) := by decide +kernel
theorem dX10_readKind_84 : decode cX10_readKind 84 = .ok (.ifCond .ne 5, 3) := by decide +kernel
theorem dX10_readKind_87 : decode cX10_readKind 87 = .ok (.iconst 0, 1) := by decide +kernel
theorem dX10_readKind_88 : decode cX10_readKind 88 = .ok (.ireturn, 1) := by decide +kernel
theorem dX10_readKind_89 : decode cX10_readKind 89 = .ok (.aload_n 0, 1) := by decide +kernel
theorem dX10_readKind_90 : decode cX10_readKind 90 = .ok (.getfield 45, 3) := by decide +kernel
theorem dX10_readKind_93 : decode cX10_readKind 93 = .ok (.iconst 5, 1) := by decide +kernel
theorem dX10_readKind_94 : decode cX10_readKind 94 = .ok (.iload_n 1, 1) := by decide +kernel
theorem dX10_readKind_95 : decode cX10_readKind 95 = .ok (.iadd, 1) := by decide +kernel
theorem dX10_readKind_96 : decode cX10_readKind 96 = .ok (.aload_n 0, 1) := by decide +kernel
theorem dX10_readKind_97 : decode cX10_readKind 97 = .ok (.getfield 176, 3) := by decide +kernel
theorem dX10_readKind_100 : decode cX10_readKind 100 = .ok (.iastore, 1) := by decide +kernel
theorem dX10_readKind_101 : decode cX10_readKind 101 = .ok (.aload_n 0, 1) := by decide +kernel
theorem dX10_readKind_102 : decode cX10_readKind 102 = .ok (.getfield 45, 3) := by decide +kernel
theorem dX10_readKind_105 : decode cX10_readKind 105 = .ok (.bipush 8, 2) := by decide +kernel
theorem dX10_readKind_107 : decode cX10_readKind 107 = .ok (.iload_n 1, 1) := by decide +kernel
theorem dX10_readKind_108 : decode cX10_readKind 108 = .ok (.iadd, 1) := by decide +kernel
theorem dX10_readKind_109 : decode cX10_readKind 109 = .ok (.iconst 0, 1) := by decide +kernel
theorem dX10_readKind_110 : decode cX10_readKind 110 = .ok (.iastore, 1) := by decide +kernel
theorem dX10_readKind_111 : decode cX10_readKind 111 = .ok (.aload_n 0, 1) := by decide +kernel
theorem dX10_readKind_112 : decode cX10_readKind 112 = .ok (.ldc2_w 112, 3) := by decide +kernel
theorem dX10_readKind_115 : decode cX10_readKind 115 = .ok (.invokevirtual 187, 3) := by decide +kernel
theorem dX10_readKind_118 : decode cX10_readKind 118 = .ok (.ifCond .eq 98, 3) := by decide +kernel
theorem dX10_readKind_121 : decode cX10_readKind 121 = .ok (.aload_n 0, 1) := by decide +kernel
theorem dX10_readKind_122 : decode cX10_readKind 122 = .ok (.invokevirtual 169, 3) := by decide +kernel
theorem dX10_readKind_125 : decode cX10_readKind 125 = .ok (.aload_n 0, 1) := by decide +kernel
theorem dX10_readKind_126 : decode cX10_readKind 126 = .ok (.aload_n 0, 1) := by decide +kernel
theorem dX10_readKind_127 : decode cX10_readKind 127 = .ok (.getfield 45, 3) := by decide +kernel
theorem dX10_readKind_130 : decode cX10_readKind 130 = .ok (.iconst 2, 1) := by decide +kernel
theorem dX10_readKind_131 : decode cX10_readKind 131 = .ok (.iload_n 1, 1) := by decide +kernel
theorem dX10_readKind_132 : decode cX10_readKind 132 = .ok (.iadd, 1) := by decide +kernel
theorem dX10_readKind_133 : decode cX10_readKind 133 = .ok (.iaload, 1) := by decide +kernel
theorem dX10_readKind_134 : decode cX10_readKind 134 = .ok (.aload_n 0, 1) := by decide +kernel
theorem dX10_readKind_135 : decode cX10_readKind 135 = .ok (.getfield 45, 3) := by decide +kernel
theorem dX10_readKind_138 : decode cX10_readKind 138 = .ok (.iconst 5, 1) := by decide +kernel
theorem dX10_readKind_139 : decode cX10_readKind 139 = .ok (.iload_n 1, 1) := by decide +kernel
theorem dX10_readKind_140 : decode cX10_readKind 140 = .ok (.iadd, 1) := by decide +kernel
theorem dX10_readKind_141 : decode cX10_readKind 141 = .ok (.iaload, 1) := by decide +kernel
theorem dX10_readKind_142 : decode cX10_readKind 142 = .ok (.invokevirtual 209, 3) := by decide +kernel
theorem dX10_readKind_145 : decode cX10_readKind 145 = .ok (.ifCond .ne 5, 3) := by decide +kernel
theorem dX10_readKind_148 : decode cX10_readKind 148 = .ok (.iconst 0, 1) := by decide +kernel
theorem dX10_readKind_149 : decode cX10_readKind 149 = .ok (.ireturn, 1) := by decide +kernel
theorem dX10_readKind_150 : decode cX10_readKind 150 = .ok (.aload_n 0, 1) := by decide +kernel
theorem dX10_readKind_151 : decode cX10_readKind 151 = .ok (.getfield 176, 3) := by decide +kernel
theorem dX10_readKind_154 : decode cX10_readKind 154 = .ok (.istore_n 2, 1) := by decide +kernel
theorem dX10_readKind_155 : decode cX10_readKind 155 = .ok (.aload_n 0, 1) := by decide +kernel
theorem dX10_readKind_156 : decode cX10_readKind 156 = .ok (.iconst 0, 1) := by decide +kernel
theorem dX10_readKind_157 : decode cX10_readKind 157 = .ok (.iload_n 2, 1) := by decide +kernel
theorem dX10_readKind_158 : decode cX10_readKind 158 = .ok (.iconst 1, 1) := by decide +kernel
theorem dX10_readKind_159 : decode cX10_readKind 159 = .ok (.isub, 1) := by decide +kernel
theorem dX10_readKind_160 : decode cX10_readKind 160 = .ok (.invokevirtual 209, 3) := by decide +kernel
theorem dX10_readKind_163 : decode cX10_readKind 163 = .ok (.ifCond .ne 5, 3) := by decide +kernel
theorem dX10_readKind_166 : decode cX10_readKind 166 = .ok (.iconst 0, 1) := by decide +kernel
theorem dX10_readKind_167 : decode cX10_readKind 167 = .ok (.ireturn, 1) := by decide +kernel
theorem dX10_readKind_168 : decode cX10_readKind 168 = .ok (.aload_n 0, 1) := by decide +kernel
theorem dX10_readKind_169 : decode cX10_readKind 169 = .ok (.getfield 45, 3) := by decide +kernel
theorem dX10_readKind_172 : decode cX10_readKind 172 = .ok (.bipush 8, 2) := by decide +kernel
theorem dX10_readKind_174 : decode cX10_readKind 174 = .ok (.iload_n 1, 1) := by decide +kernel
theorem dX10_readKind_175 : decode cX10_readKind 175 = .ok (.iadd, 1) := by decide +kernel
theorem dX10_readKind_176 : decode cX10_readKind 176 = .ok (.iconst 1, 1) := by decide +kernel
theorem dX10_readKind_177 : decode cX10_readKind 177 = .ok (.aload_n 0, 1) := by decide +kernel
theorem dX10_readKind_178 : decode cX10_readKind 178 = .ok (.getfield 176, 3) := by decide +kernel
theorem dX10_readKind_181 : decode cX10_readKind 181 = .ok (.iadd, 1) := by decide +kernel
theorem dX10_readKind_182 : decode cX10_readKind 182 = .ok (.iastore, 1) := by decide +kernel
theorem dX10_readKind_183 : decode cX10_readKind 183 = .ok (.aload_n 0, 1) := by decide +kernel
theorem dX10_readKind_184 : decode cX10_readKind 184 = .ok (.getfield 45, 3) := by decide +kernel
theorem dX10_readKind_187 : decode cX10_readKind 187 = .ok (.iconst 2, 1) := by decide +kernel
theorem dX10_readKind_188 : decode cX10_readKind 188 = .ok (.iload_n 1, 1) := by decide +kernel
theorem dX10_readKind_189 : decode cX10_readKind 189 = .ok (.iadd, 1) := by decide +kernel
theorem dX10_readKind_190 : decode cX10_readKind 190 = .ok (.iaload, 1) := by decide +kernel
theorem dX10_readKind_191 : decode cX10_readKind 191 = .ok (.istore_n 3, 1) := by decide +kernel
theorem dX10_readKind_192 : decode cX10_readKind 192 = .ok (.iload_n 3, 1) := by decide +kernel
theorem dX10_readKind_193 : decode cX10_readKind 193 = .ok (.iload_n 2, 1) := by decide +kernel
theorem dX10_readKind_194 : decode cX10_readKind 194 = .ok (.if_icmp .ge 22, 3) := by decide +kernel
theorem dX10_readKind_197 : decode cX10_readKind 197 = .ok (.aload_n 0, 1) := by decide +kernel
theorem dX10_readKind_198 : decode cX10_readKind 198 = .ok (.getfield 45, 3) := by decide +kernel
theorem dX10_readKind_201 : decode cX10_readKind 201 = .ok (.bipush 8, 2) := by decide +kernel
theorem dX10_readKind_203 : decode cX10_readKind 203 = .ok (.iload_n 1, 1) := by decide +kernel
theorem dX10_readKind_204 : decode cX10_readKind 204 = .ok (.iadd, 1) := by decide +kernel
theorem dX10_readKind_205 : decode cX10_readKind 205 = .ok (.dup2, 1) := by decide +kernel
theorem dX10_readKind_206 : decode cX10_readKind 206 = .ok (.iaload, 1) := by decide +kernel
theorem dX10_readKind_207 : decode cX10_readKind 207 = .ok (.iload_n 3, 1) := by decide +kernel
theorem dX10_readKind_208 : decode cX10_readKind 208 = .ok (.iadd, 1) := by decide +kernel
theorem dX10_readKind_209 : decode cX10_readKind 209 = .ok (.iastore, 1) := by decide +kernel
theorem dX10_readKind_210 : decode cX10_readKind 210 = .ok (.iinc 3 1, 3) := by decide +kernel
theorem dX10_readKind_213 : decode cX10_readKind 213 = .ok (.goto (-21), 3) := by decide +kernel
theorem dX10_readKind_216 : decode cX10_readKind 216 = .ok (.aload_n 0, 1) := by decide +kernel
theorem dX10_readKind_217 : decode cX10_readKind 217 = .ok (.getfield 45, 3) := by decide +kernel
theorem dX10_readKind_220 : decode cX10_readKind 220 = .ok (.iconst 0, 1) := by decide +kernel
theorem dX10_readKind_221 : decode cX10_readKind 221 = .ok (.dup2, 1) := by decide +kernel
theorem dX10_readKind_222 : decode cX10_readKind 222 = .ok (.iaload, 1) := by decide +kernel
theorem dX10_readKind_223 : decode cX10_readKind 223 = .ok (.iconst 1, 1) := by decide +kernel
theorem dX10_readKind_224 : decode cX10_readKind 224 = .ok (.iadd, 1) := by decide +kernel
theorem dX10_readKind_225 : decode cX10_readKind 225 = .ok (.iastore, 1) := by decide +kernel
theorem dX10_readKind_226 : decode cX10_readKind 226 = .ok (.iconst 1, 1) := by decide +kernel
theorem dX10_readKind_227 : decode cX10_readKind 227 = .ok (.ireturn, 1) := by decide +kernel
theorem dX10_readPerson_0 : decode cX10_readPerson 0 = .ok (.aload_n 0, 1) := by decide +kernel
theorem dX10_readPerson_1 : decode cX10_readPerson 1 = .ok (.getfield 45, 3) := by decide +kernel
theorem dX10_readPerson_4 : decode cX10_readPerson 4 = .ok (.iconst 1, 1) := by decide +kernel
theorem dX10_readPerson_5 : decode cX10_readPerson 5 = .ok (.iaload, 1) := by decide +kernel
theorem dX10_readPerson_6 : decode cX10_readPerson 6 = .ok (.istore_n 1, 1) := by decide +kernel
theorem dX10_readPerson_7 : decode cX10_readPerson 7 = .ok (.iload_n 1, 1) := by decide +kernel
theorem dX10_readPerson_8 : decode cX10_readPerson 8 = .ok (.iconst 4, 1) := by decide +kernel
theorem dX10_readPerson_9 : decode cX10_readPerson 9 = .ok (.if_icmp .ne 9, 3) := by decide +kernel
theorem dX10_readPerson_12 : decode cX10_readPerson 12 = .ok (.aload_n 0, 1) := by decide +kernel
theorem dX10_readPerson_13 : decode cX10_readPerson 13 = .ok (.iconst 4, 1) := by decide +kernel
theorem dX10_readPerson_14 : decode cX10_readPerson 14 = .ok (.invokevirtual 166, 3) := by decide +kernel
theorem dX10_readPerson_17 : decode cX10_readPerson 17 = .ok (.ireturn, 1) := by decide +kernel
theorem dX10_readPerson_18 : decode cX10_readPerson 18 = .ok (.aload_n 0, 1) := by decide +kernel
theorem dX10_readPerson_19 : decode cX10_readPerson 19 = .ok (.invokevirtual 169, 3) := by decide +kernel
theorem dX10_readPerson_22 : decode cX10_readPerson 22 = .ok (.aload_n 0, 1) := by decide +kernel
theorem dX10_readPerson_23 : decode cX10_readPerson 23 = .ok (.bipush 10, 2) := by decide +kernel
theorem dX10_readPerson_25 : decode cX10_readPerson 25 = .ok (.iload_n 1, 1) := by decide +kernel
theorem dX10_readPerson_26 : decode cX10_readPerson 26 = .ok (.iadd, 1) := by decide +kernel
theorem dX10_readPerson_27 : decode cX10_readPerson 27 = .ok (.invokevirtual 206, 3) := by decide +kernel
theorem dX10_readPerson_30 : decode cX10_readPerson 30 = .ok (.ifCond .ne 5, 3) := by decide +kernel
theorem dX10_readPerson_33 : decode cX10_readPerson 33 = .ok (.iconst 0, 1) := by decide +kernel
theorem dX10_readPerson_34 : decode cX10_readPerson 34 = .ok (.ireturn, 1) := by decide +kernel
theorem dX10_readPerson_35 : decode cX10_readPerson 35 = .ok (.iconst 0, 1) := by decide +kernel
theorem dX10_readPerson_36 : decode cX10_readPerson 36 = .ok (.istore_n 2, 1) := by decide +kernel
theorem dX10_readPerson_37 : decode cX10_readPerson 37 = .ok (.aload_n 0, 1) := by decide +kernel
theorem dX10_readPerson_38 : decode cX10_readPerson 38 = .ok (.ldc2_w 116, 3) := by decide +kernel
theorem dX10_readPerson_41 : decode cX10_readPerson 41 = .ok (.invokevirtual 187, 3) := by decide +kernel
theorem dX10_readPerson_44 : decode cX10_readPerson 44 = .ok (.ifCond .ne 33, 3) := by decide +kernel
theorem dX10_readPerson_47 : decode cX10_readPerson 47 = .ok (.aload_n 0, 1) := by decide +kernel
theorem dX10_readPerson_48 : decode cX10_readPerson 48 = .ok (.ldc2_w 118, 3) := by decide +kernel
theorem dX10_readPerson_51 : decode cX10_readPerson 51 = .ok (.invokevirtual 187, 3) := by decide +kernel
theorem dX10_readPerson_54 : decode cX10_readPerson 54 = .ok (.ifCond .ne 23, 3) := by decide +kernel
theorem dX10_readPerson_57 : decode cX10_readPerson 57 = .ok (.aload_n 0, 1) := by decide +kernel
theorem dX10_readPerson_58 : decode cX10_readPerson 58 = .ok (.ldc2_w 120, 3) := by decide +kernel
theorem dX10_readPerson_61 : decode cX10_readPerson 61 = .ok (.invokevirtual 187, 3) := by decide +kernel
theorem dX10_readPerson_64 : decode cX10_readPerson 64 = .ok (.ifCond .ne 13, 3) := by decide +kernel
theorem dX10_readPerson_67 : decode cX10_readPerson 67 = .ok (.aload_n 0, 1) := by decide +kernel
theorem dX10_readPerson_68 : decode cX10_readPerson 68 = .ok (.ldc2_w 122, 3) := by decide +kernel
theorem dX10_readPerson_71 : decode cX10_readPerson 71 = .ok (.invokevirtual 187, 3) := by decide +kernel
theorem dX10_readPerson_74 : decode cX10_readPerson 74 = .ok (.ifCond .eq 128, 3) := by decide +kernel
theorem dX10_readPerson_77 : decode cX10_readPerson 77 = .ok (.aload_n 0, 1) := by decide +kernel
theorem dX10_readPerson_78 : decode cX10_readPerson 78 = .ok (.ldc2_w 116, 3) := by decide +kernel
theorem dX10_readPerson_81 : decode cX10_readPerson 81 = .ok (.invokevirtual 187, 3) := by decide +kernel
theorem dX10_readPerson_84 : decode cX10_readPerson 84 = .ok (.ifCond .eq 7, 3) := by decide +kernel
theorem dX10_readPerson_87 : decode cX10_readPerson 87 = .ok (.iconst 0, 1) := by decide +kernel
theorem dX10_readPerson_88 : decode cX10_readPerson 88 = .ok (.goto 32, 3) := by decide +kernel
theorem dX10_readPerson_91 : decode cX10_readPerson 91 = .ok (.aload_n 0, 1) := by decide +kernel
theorem dX10_readPerson_92 : decode cX10_readPerson 92 = .ok (.ldc2_w 118, 3) := by decide +kernel
theorem dX10_readPerson_95 : decode cX10_readPerson 95 = .ok (.invokevirtual 187, 3) := by decide +kernel
theorem dX10_readPerson_98 : decode cX10_readPerson 98 = .ok (.ifCond .eq 7, 3) := by decide +kernel
theorem dX10_readPerson_101 : decode cX10_readPerson 101 = .ok (.iconst 1, 1) := by decide +kernel
theorem dX10_readPerson_102 : decode cX10_readPerson 102 = .ok (.goto 18, 3) := by decide +kernel
theorem dX10_readPerson_105 : decode cX10_readPerson 105 = .ok (.aload_n 0, 1) := by decide +kernel
theorem dX10_readPerson_106 : decode cX10_readPerson 106 = .ok (.ldc2_w 120, 3) := by decide +kernel
theorem dX10_readPerson_109 : decode cX10_readPerson 109 = .ok (.invokevirtual 187, 3) := by decide +kernel
theorem dX10_readPerson_112 : decode cX10_readPerson 112 = .ok (.ifCond .eq 7, 3) := by decide +kernel
theorem dX10_readPerson_115 : decode cX10_readPerson 115 = .ok (.iconst 2, 1) := by decide +kernel
theorem dX10_readPerson_116 : decode cX10_readPerson 116 = .ok (.goto 4, 3) := by decide +kernel
theorem dX10_readPerson_119 : decode cX10_readPerson 119 = .ok (.iconst 3, 1) := by decide +kernel
theorem dX10_readPerson_120 : decode cX10_readPerson 120 = .ok (.istore_n 3, 1) := by decide +kernel
theorem dX10_readPerson_121 : decode cX10_readPerson 121 = .ok (.iload_n 3, 1) := by decide +kernel
theorem dX10_readPerson_122 : decode cX10_readPerson 122 = .ok (.iconst 1, 1) := by decide +kernel
theorem dX10_readPerson_123 : decode cX10_readPerson 123 = .ok (.if_icmp .le 52, 3) := by decide +kernel
theorem dX10_readPerson_126 : decode cX10_readPerson 126 = .ok (.aload_n 0, 1) := by decide +kernel
theorem dX10_readPerson_127 : decode cX10_readPerson 127 = .ok (.invokevirtual 169, 3) := by decide +kernel
theorem dX10_readPerson_130 : decode cX10_readPerson 130 = .ok (.aload_n 0, 1) := by decide +kernel
theorem dX10_readPerson_131 : decode cX10_readPerson 131 = .ok (.invokevirtual 179, 3) := by decide +kernel
theorem dX10_readPerson_134 : decode cX10_readPerson 134 = .ok (.ifCond .ne 9, 3) := by decide +kernel
theorem dX10_readPerson_137 : decode cX10_readPerson 137 = .ok (.aload_n 0, 1) := by decide +kernel
theorem dX10_readPerson_138 : decode cX10_readPerson 138 = .ok (.iconst 1, 1) := by decide +kernel
theorem dX10_readPerson_139 : decode cX10_readPerson 139 = .ok (.invokevirtual 166, 3) := by decide +kernel
theorem dX10_readPerson_142 : decode cX10_readPerson 142 = .ok (.ireturn, 1) := by decide +kernel
theorem dX10_readPerson_143 : decode cX10_readPerson 143 = .ok (.aload_n 0, 1) := by decide +kernel
theorem dX10_readPerson_144 : decode cX10_readPerson 144 = .ok (.bipush 7, 2) := by decide +kernel
theorem dX10_readPerson_146 : decode cX10_readPerson 146 = .ok (.aload_n 0, 1) := by decide +kernel
theorem dX10_readPerson_147 : decode cX10_readPerson 147 = .ok (.getfield 45, 3) := by decide +kernel
theorem dX10_readPerson_150 : decode cX10_readPerson 150 = .ok (.iconst 0, 1) := by decide +kernel
theorem dX10_readPerson_151 : decode cX10_readPerson 151 = .ok (.iaload, 1) := by decide +kernel
theorem dX10_readPerson_152 : decode cX10_readPerson 152 = .ok (.invokevirtual 183, 3) := by decide +kernel
theorem dX10_readPerson_155 : decode cX10_readPerson 155 = .ok (.istore 4, 2) := by decide +kernel
theorem dX10_readPerson_157 : decode cX10_readPerson 157 = .ok (.iload 4, 2) := by decide +kernel
theorem dX10_readPerson_159 : decode cX10_readPerson 159 = .ok (.ifCond .ge 9, 3) := by decide +kernel
theorem dX10_readPerson_162 : decode cX10_readPerson 162 = .ok (.aload_n 0, 1) := by decide +kernel
theorem dX10_readPerson_163 : decode cX10_readPerson 163 = .ok (.iconst 3, 1) := by decide +kernel
theorem dX10_readPerson_164 : decode cX10_readPerson 164 = .ok (.invokevirtual 166, 3) := by decide +kernel
theorem dX10_readPerson_167 : decode cX10_readPerson 167 = .ok (.ireturn, 1) := by decide +kernel
theorem dX10_readPerson_168 : decode cX10_readPerson 168 = .ok (.iload_n 3, 1) := by decide +kernel
theorem dX10_readPerson_169 : decode cX10_readPerson 169 = .ok (.iconst 2, 1) := by decide +kernel
theorem dX10_readPerson_170 : decode cX10_readPerson 170 = .ok (.iload 4, 2) := by decide +kernel
theorem dX10_readPerson_172 : decode cX10_readPerson 172 = .ok (.imul, 1) := by decide +kernel
theorem dX10_readPerson_173 : decode cX10_readPerson 173 = .ok (.iadd, 1) := by decide +kernel
theorem dX10_readPerson_174 : decode cX10_readPerson 174 = .ok (.istore_n 3, 1) := by decide +kernel
theorem dX10_readPerson_175 : decode cX10_readPerson 175 = .ok (.iload_n 2, 1) := by decide +kernel
theorem dX10_readPerson_176 : decode cX10_readPerson 176 = .ok (.iload_n 3, 1) := by decide +kernel
theorem dX10_readPerson_177 : decode cX10_readPerson 177 = .ok (.invokestatic 213, 3) := by decide +kernel
theorem dX10_readPerson_180 : decode cX10_readPerson 180 = .ok (.ifCond .eq 9, 3) := by decide +kernel
theorem dX10_readPerson_183 : decode cX10_readPerson 183 = .ok (.aload_n 0, 1) := by decide +kernel
theorem dX10_readPerson_184 : decode cX10_readPerson 184 = .ok (.iconst 3, 1) := by decide +kernel
theorem dX10_readPerson_185 : decode cX10_readPerson 185 = .ok (.invokevirtual 166, 3) := by decide +kernel
theorem dX10_readPerson_188 : decode cX10_readPerson 188 = .ok (.ireturn, 1) := by decide +kernel
theorem dX10_readPerson_189 : decode cX10_readPerson 189 = .ok (.iload_n 2, 1) := by decide +kernel
theorem dX10_readPerson_190 : decode cX10_readPerson 190 = .ok (.iconst 1, 1) := by decide +kernel
theorem dX10_readPerson_191 : decode cX10_readPerson 191 = .ok (.iload_n 3, 1) := by decide +kernel
theorem dX10_readPerson_192 : decode cX10_readPerson 192 = .ok (.ishl, 1) := by decide +kernel
theorem dX10_readPerson_193 : decode cX10_readPerson 193 = .ok (.ior, 1) := by decide +kernel
theorem dX10_readPerson_194 : decode cX10_readPerson 194 = .ok (.istore_n 2, 1) := by decide +kernel
theorem dX10_readPerson_195 : decode cX10_readPerson 195 = .ok (.aload_n 0, 1) := by decide +kernel
theorem dX10_readPerson_196 : decode cX10_readPerson 196 = .ok (.invokevirtual 169, 3) := by decide +kernel
theorem dX10_readPerson_199 : decode cX10_readPerson 199 = .ok (.goto (-162), 3) := by decide +kernel
theorem dX10_readPerson_202 : decode cX10_readPerson 202 = .ok (.aload_n 0, 1) := by decide +kernel
theorem dX10_readPerson_203 : decode cX10_readPerson 203 = .ok (.getfield 45, 3) := by decide +kernel
theorem dX10_readPerson_206 : decode cX10_readPerson 206 = .ok (.bipush 11, 2) := by decide +kernel
theorem dX10_readPerson_208 : decode cX10_readPerson 208 = .ok (.iload_n 1, 1) := by decide +kernel
theorem dX10_readPerson_209 : decode cX10_readPerson 209 = .ok (.iadd, 1) := by decide +kernel
theorem dX10_readPerson_210 : decode cX10_readPerson 210 = .ok (.iload_n 2, 1) := by decide +kernel
theorem dX10_readPerson_211 : decode cX10_readPerson 211 = .ok (.ifCond .ne 20, 3) := by decide +kernel
theorem dX10_readPerson_214 : decode cX10_readPerson 214 = .ok (.iconst 1, 1) := by decide +kernel
theorem dX10_readPerson_215 : decode cX10_readPerson 215 = .ok (.iconst 2, 1) := by decide +kernel
theorem dX10_readPerson_216 : decode cX10_readPerson 216 = .ok (.iconst 2, 1) := by decide +kernel
theorem dX10_readPerson_217 : decode cX10_readPerson 217 = .ok (.aload_n 0, 1) := by decide +kernel
theorem dX10_readPerson_218 : decode cX10_readPerson 218 = .ok (.getfield 45, 3) := by decide +kernel
theorem dX10_readPerson_221 : decode cX10_readPerson 221 = .ok (.iconst 0, 1) := by decide +kernel
theorem dX10_readPerson_222 : decode cX10_readPerson 222 = .ok (.iaload, 1) := by decide +kernel
theorem dX10_readPerson_223 : decode cX10_readPerson 223 = .ok (.imul, 1) := by decide +kernel
theorem dX10_readPerson_224 : decode cX10_readPerson 224 = .ok (.iadd, 1) := by decide +kernel
theorem dX10_readPerson_225 : decode cX10_readPerson 225 = .ok (.ishl, 1) := by decide +kernel
theorem dX10_readPerson_226 : decode cX10_readPerson 226 = .ok (.iconst 1, 1) := by decide +kernel
theorem dX10_readPerson_227 : decode cX10_readPerson 227 = .ok (.isub, 1) := by decide +kernel
theorem dX10_readPerson_228 : decode cX10_readPerson 228 = .ok (.goto 4, 3) := by decide +kernel
theorem dX10_readPerson_231 : decode cX10_readPerson 231 = .ok (.iload_n 2, 1) := by decide +kernel
theorem dX10_readPerson_232 : decode cX10_readPerson 232 = .ok (.iastore, 1) := by decide +kernel
theorem dX10_readPerson_233 : decode cX10_readPerson 233 = .ok (.aload_n 0, 1) := by decide +kernel
theorem dX10_readPerson_234 : decode cX10_readPerson 234 = .ok (.getfield 45, 3) := by decide +kernel
theorem dX10_readPerson_237 : decode cX10_readPerson 237 = .ok (.iconst 1, 1) := by decide +kernel
theorem dX10_readPerson_238 : decode cX10_readPerson 238 = .ok (.dup2, 1) := by decide +kernel
theorem dX10_readPerson_239 : decode cX10_readPerson 239 = .ok (.iaload, 1) := by decide +kernel
theorem dX10_readPerson_240 : decode cX10_readPerson 240 = .ok (.iconst 1, 1) := by decide +kernel
theorem dX10_readPerson_241 : decode cX10_readPerson 241 = .ok (.iadd, 1) := by decide +kernel
theorem dX10_readPerson_242 : decode cX10_readPerson 242 = .ok (.iastore, 1) := by decide +kernel
theorem dX10_readPerson_243 : decode cX10_readPerson 243 = .ok (.iconst 1, 1) := by decide +kernel
theorem dX10_readPerson_244 : decode cX10_readPerson 244 = .ok (.ireturn, 1) := by decide +kernel
theorem dX10_readLooks_0 : decode cX10_readLooks 0 = .ok (.aload_n 0, 1) := by decide +kernel
theorem dX10_readLooks_1 : decode cX10_readLooks 1 = .ok (.invokevirtual 169, 3) := by decide +kernel
theorem dX10_readLooks_4 : decode cX10_readLooks 4 = .ok (.aload_n 0, 1) := by decide +kernel
theorem dX10_readLooks_5 : decode cX10_readLooks 5 = .ok (.bipush 10, 2) := by decide +kernel
theorem dX10_readLooks_7 : decode cX10_readLooks 7 = .ok (.aload_n 0, 1) := by decide +kernel
theorem dX10_readLooks_8 : decode cX10_readLooks 8 = .ok (.getfield 45, 3) := by decide +kernel
theorem dX10_readLooks_11 : decode cX10_readLooks 11 = .ok (.iconst 1, 1) := by decide +kernel
theorem dX10_readLooks_12 : decode cX10_readLooks 12 = .ok (.iaload, 1) := by decide +kernel
theorem dX10_readLooks_13 : decode cX10_readLooks 13 = .ok (.invokevirtual 216, 3) := by decide +kernel
theorem dX10_readLooks_16 : decode cX10_readLooks 16 = .ok (.ifCond .ne 5, 3) := by decide +kernel
theorem dX10_readLooks_19 : decode cX10_readLooks 19 = .ok (.iconst 0, 1) := by decide +kernel
theorem dX10_readLooks_20 : decode cX10_readLooks 20 = .ok (.ireturn, 1) := by decide +kernel
theorem dX10_readLooks_21 : decode cX10_readLooks 21 = .ok (.aload_n 0, 1) := by decide +kernel
theorem dX10_readLooks_22 : decode cX10_readLooks 22 = .ok (.getfield 176, 3) := by decide +kernel
theorem dX10_readLooks_25 : decode cX10_readLooks 25 = .ok (.istore_n 1, 1) := by decide +kernel
theorem dX10_readLooks_26 : decode cX10_readLooks 26 = .ok (.aload_n 0, 1) := by decide +kernel
theorem dX10_readLooks_27 : decode cX10_readLooks 27 = .ok (.getfield 140, 3) := by decide +kernel
theorem dX10_readLooks_30 : decode cX10_readLooks 30 = .ok (.iconst 2, 1) := by decide +kernel
theorem dX10_readLooks_31 : decode cX10_readLooks 31 = .ok (.if_icmp .eq 9, 3) := by decide +kernel
theorem dX10_readLooks_34 : decode cX10_readLooks 34 = .ok (.aload_n 0, 1) := by decide +kernel
theorem dX10_readLooks_35 : decode cX10_readLooks 35 = .ok (.iconst 1, 1) := by decide +kernel
theorem dX10_readLooks_36 : decode cX10_readLooks 36 = .ok (.invokevirtual 166, 3) := by decide +kernel
theorem dX10_readLooks_39 : decode cX10_readLooks 39 = .ok (.ireturn, 1) := by decide +kernel
theorem dX10_readLooks_40 : decode cX10_readLooks 40 = .ok (.aload_n 0, 1) := by decide +kernel
theorem dX10_readLooks_41 : decode cX10_readLooks 41 = .ok (.getfield 150, 3) := by decide +kernel
theorem dX10_readLooks_44 : decode cX10_readLooks 44 = .ok (.bipush 29, 2) := by decide +kernel
theorem dX10_readLooks_46 : decode cX10_readLooks 46 = .ok (.if_icmp .le 9, 3) := by decide +kernel
theorem dX10_readLooks_49 : decode cX10_readLooks 49 = .ok (.aload_n 0, 1) := by decide +kernel
theorem dX10_readLooks_50 : decode cX10_readLooks 50 = .ok (.iconst 2, 1) := by decide +kernel
theorem dX10_readLooks_51 : decode cX10_readLooks 51 = .ok (.invokevirtual 166, 3) := by decide +kernel
theorem dX10_readLooks_54 : decode cX10_readLooks 54 = .ok (.ireturn, 1) := by decide +kernel
theorem dX10_readLooks_55 : decode cX10_readLooks 55 = .ok (.aload_n 0, 1) := by decide +kernel
theorem dX10_readLooks_56 : decode cX10_readLooks 56 = .ok (.getfield 45, 3) := by decide +kernel
theorem dX10_readLooks_59 : decode cX10_readLooks 59 = .ok (.bipush 15, 2) := by decide +kernel
theorem dX10_readLooks_61 : decode cX10_readLooks 61 = .ok (.iload_n 1, 1) := by decide +kernel
theorem dX10_readLooks_62 : decode cX10_readLooks 62 = .ok (.iadd, 1) := by decide +kernel
theorem dX10_readLooks_63 : decode cX10_readLooks 63 = .ok (.iaload, 1) := by decide +kernel
theorem dX10_readLooks_64 : decode cX10_readLooks 64 = .ok (.aload_n 0, 1) := by decide +kernel
theorem dX10_readLooks_65 : decode cX10_readLooks 65 = .ok (.getfield 150, 3) := by decide +kernel
theorem dX10_readLooks_68 : decode cX10_readLooks 68 = .ok (.invokestatic 213, 3) := by decide +kernel
theorem dX10_readLooks_71 : decode cX10_readLooks 71 = .ok (.ifCond .eq 9, 3) := by decide +kernel
theorem dX10_readLooks_74 : decode cX10_readLooks 74 = .ok (.aload_n 0, 1) := by decide +kernel
theorem dX10_readLooks_75 : decode cX10_readLooks 75 = .ok (.iconst 3, 1) := by decide +kernel
theorem dX10_readLooks_76 : decode cX10_readLooks 76 = .ok (.invokevirtual 166, 3) := by decide +kernel
theorem dX10_readLooks_79 : decode cX10_readLooks 79 = .ok (.ireturn, 1) := by decide +kernel
theorem dX10_readLooks_80 : decode cX10_readLooks 80 = .ok (.aload_n 0, 1) := by decide +kernel
theorem dX10_readLooks_81 : decode cX10_readLooks 81 = .ok (.getfield 45, 3) := by decide +kernel
theorem dX10_readLooks_84 : decode cX10_readLooks 84 = .ok (.bipush 15, 2) := by decide +kernel
theorem dX10_readLooks_86 : decode cX10_readLooks 86 = .ok (.iload_n 1, 1) := by decide +kernel
theorem dX10_readLooks_87 : decode cX10_readLooks 87 = .ok (.iadd, 1) := by decide +kernel
theorem dX10_readLooks_88 : decode cX10_readLooks 88 = .ok (.dup2, 1) := by decide +kernel
theorem dX10_readLooks_89 : decode cX10_readLooks 89 = .ok (.iaload, 1) := by decide +kernel
theorem dX10_readLooks_90 : decode cX10_readLooks 90 = .ok (.iconst 1, 1) := by decide +kernel
theorem dX10_readLooks_91 : decode cX10_readLooks 91 = .ok (.aload_n 0, 1) := by decide +kernel
theorem dX10_readLooks_92 : decode cX10_readLooks 92 = .ok (.getfield 150, 3) := by decide +kernel
theorem dX10_readLooks_95 : decode cX10_readLooks 95 = .ok (.ishl, 1) := by decide +kernel
theorem dX10_readLooks_96 : decode cX10_readLooks 96 = .ok (.ior, 1) := by decide +kernel
theorem dX10_readLooks_97 : decode cX10_readLooks 97 = .ok (.iastore, 1) := by decide +kernel
theorem dX10_readLooks_98 : decode cX10_readLooks 98 = .ok (.aload_n 0, 1) := by decide +kernel
theorem dX10_readLooks_99 : decode cX10_readLooks 99 = .ok (.invokevirtual 169, 3) := by decide +kernel
theorem dX10_readLooks_102 : decode cX10_readLooks 102 = .ok (.iconst 1, 1) := by decide +kernel
theorem dX10_readLooks_103 : decode cX10_readLooks 103 = .ok (.ireturn, 1) := by decide +kernel
theorem dX10_readTurn_0 : decode cX10_readTurn 0 = .ok (.aload_n 0, 1) := by decide +kernel
theorem dX10_readTurn_1 : decode cX10_readTurn 1 = .ok (.invokevirtual 169, 3) := by decide +kernel
theorem dX10_readTurn_4 : decode cX10_readTurn 4 = .ok (.aload_n 0, 1) := by decide +kernel
theorem dX10_readTurn_5 : decode cX10_readTurn 5 = .ok (.getfield 140, 3) := by decide +kernel
theorem dX10_readTurn_8 : decode cX10_readTurn 8 = .ok (.iconst 2, 1) := by decide +kernel
theorem dX10_readTurn_9 : decode cX10_readTurn 9 = .ok (.if_icmp .eq 9, 3) := by decide +kernel
theorem dX10_readTurn_12 : decode cX10_readTurn 12 = .ok (.aload_n 0, 1) := by decide +kernel
theorem dX10_readTurn_13 : decode cX10_readTurn 13 = .ok (.iconst 1, 1) := by decide +kernel
theorem dX10_readTurn_14 : decode cX10_readTurn 14 = .ok (.invokevirtual 166, 3) := by decide +kernel
theorem dX10_readTurn_17 : decode cX10_readTurn 17 = .ok (.ireturn, 1) := by decide +kernel
theorem dX10_readTurn_18 : decode cX10_readTurn 18 = .ok (.aload_n 0, 1) := by decide +kernel
theorem dX10_readTurn_19 : decode cX10_readTurn 19 = .ok (.getfield 150, 3) := by decide +kernel
theorem dX10_readTurn_22 : decode cX10_readTurn 22 = .ok (.bipush 29, 2) := by decide +kernel
theorem dX10_readTurn_24 : decode cX10_readTurn 24 = .ok (.if_icmp .le 9, 3) := by decide +kernel
theorem dX10_readTurn_27 : decode cX10_readTurn 27 = .ok (.aload_n 0, 1) := by decide +kernel
theorem dX10_readTurn_28 : decode cX10_readTurn 28 = .ok (.iconst 2, 1) := by decide +kernel
theorem dX10_readTurn_29 : decode cX10_readTurn 29 = .ok (.invokevirtual 166, 3) := by decide +kernel
theorem dX10_readTurn_32 : decode cX10_readTurn 32 = .ok (.ireturn, 1) := by decide +kernel
theorem dX10_readTurn_33 : decode cX10_readTurn 33 = .ok (.aload_n 0, 1) := by decide +kernel
theorem dX10_readTurn_34 : decode cX10_readTurn 34 = .ok (.getfield 45, 3) := by decide +kernel
theorem dX10_readTurn_37 : decode cX10_readTurn 37 = .ok (.bipush 19, 2) := by decide +kernel
theorem dX10_readTurn_39 : decode cX10_readTurn 39 = .ok (.aload_n 0, 1) := by decide +kernel
theorem dX10_readTurn_40 : decode cX10_readTurn 40 = .ok (.getfield 150, 3) := by decide +kernel
theorem dX10_readTurn_43 : decode cX10_readTurn 43 = .ok (.iadd, 1) := by decide +kernel
theorem dX10_readTurn_44 : decode cX10_readTurn 44 = .ok (.iaload, 1) := by decide +kernel
theorem dX10_readTurn_45 : decode cX10_readTurn 45 = .ok (.ifCond .le 9, 3) := by decide +kernel
theorem dX10_readTurn_48 : decode cX10_readTurn 48 = .ok (.aload_n 0, 1) := by decide +kernel
theorem dX10_readTurn_49 : decode cX10_readTurn 49 = .ok (.iconst 3, 1) := by decide +kernel
theorem dX10_readTurn_50 : decode cX10_readTurn 50 = .ok (.invokevirtual 166, 3) := by decide +kernel
theorem dX10_readTurn_53 : decode cX10_readTurn 53 = .ok (.ireturn, 1) := by decide +kernel
theorem dX10_readTurn_54 : decode cX10_readTurn 54 = .ok (.aload_n 0, 1) := by decide +kernel
theorem dX10_readTurn_55 : decode cX10_readTurn 55 = .ok (.getfield 150, 3) := by decide +kernel
theorem dX10_readTurn_58 : decode cX10_readTurn 58 = .ok (.istore_n 1, 1) := by decide +kernel
theorem dX10_readTurn_59 : decode cX10_readTurn 59 = .ok (.aload_n 0, 1) := by decide +kernel
theorem dX10_readTurn_60 : decode cX10_readTurn 60 = .ok (.invokevirtual 169, 3) := by decide +kernel
theorem dX10_readTurn_63 : decode cX10_readTurn 63 = .ok (.aload_n 0, 1) := by decide +kernel
theorem dX10_readTurn_64 : decode cX10_readTurn 64 = .ok (.bipush 10, 2) := by decide +kernel
theorem dX10_readTurn_66 : decode cX10_readTurn 66 = .ok (.aload_n 0, 1) := by decide +kernel
theorem dX10_readTurn_67 : decode cX10_readTurn 67 = .ok (.getfield 45, 3) := by decide +kernel
theorem dX10_readTurn_70 : decode cX10_readTurn 70 = .ok (.iconst 1, 1) := by decide +kernel
theorem dX10_readTurn_71 : decode cX10_readTurn 71 = .ok (.iaload, 1) := by decide +kernel
theorem dX10_readTurn_72 : decode cX10_readTurn 72 = .ok (.invokevirtual 216, 3) := by decide +kernel
theorem dX10_readTurn_75 : decode cX10_readTurn 75 = .ok (.ifCond .ne 5, 3) := by decide +kernel
theorem dX10_readTurn_78 : decode cX10_readTurn 78 = .ok (.iconst 0, 1) := by decide +kernel
theorem dX10_readTurn_79 : decode cX10_readTurn 79 = .ok (.ireturn, 1) := by decide +kernel
theorem dX10_readTurn_80 : decode cX10_readTurn 80 = .ok (.aload_n 0, 1) := by decide +kernel
theorem dX10_readTurn_81 : decode cX10_readTurn 81 = .ok (.getfield 45, 3) := by decide +kernel
theorem dX10_readTurn_84 : decode cX10_readTurn 84 = .ok (.bipush 19, 2) := by decide +kernel
theorem dX10_readTurn_86 : decode cX10_readTurn 86 = .ok (.iload_n 1, 1) := by decide +kernel
theorem dX10_readTurn_87 : decode cX10_readTurn 87 = .ok (.iadd, 1) := by decide +kernel
theorem dX10_readTurn_88 : decode cX10_readTurn 88 = .ok (.aload_n 0, 1) := by decide +kernel
theorem dX10_readTurn_89 : decode cX10_readTurn 89 = .ok (.getfield 176, 3) := by decide +kernel
theorem dX10_readTurn_92 : decode cX10_readTurn 92 = .ok (.iconst 1, 1) := by decide +kernel
theorem dX10_readTurn_93 : decode cX10_readTurn 93 = .ok (.iadd, 1) := by decide +kernel
theorem dX10_readTurn_94 : decode cX10_readTurn 94 = .ok (.iastore, 1) := by decide +kernel
theorem dX10_readTurn_95 : decode cX10_readTurn 95 = .ok (.iconst 1, 1) := by decide +kernel
theorem dX10_readTurn_96 : decode cX10_readTurn 96 = .ok (.ireturn, 1) := by decide +kernel
theorem dX10_readWants_0 : decode cX10_readWants 0 = .ok (.aload_n 0, 1) := by decide +kernel
theorem dX10_readWants_1 : decode cX10_readWants 1 = .ok (.invokevirtual 169, 3) := by decide +kernel
theorem dX10_readWants_4 : decode cX10_readWants 4 = .ok (.aload_n 0, 1) := by decide +kernel
theorem dX10_readWants_5 : decode cX10_readWants 5 = .ok (.bipush 10, 2) := by decide +kernel
theorem dX10_readWants_7 : decode cX10_readWants 7 = .ok (.aload_n 0, 1) := by decide +kernel
theorem dX10_readWants_8 : decode cX10_readWants 8 = .ok (.getfield 45, 3) := by decide +kernel
theorem dX10_readWants_11 : decode cX10_readWants 11 = .ok (.iconst 1, 1) := by decide +kernel
theorem dX10_readWants_12 : decode cX10_readWants 12 = .ok (.iaload, 1) := by decide +kernel
theorem dX10_readWants_13 : decode cX10_readWants 13 = .ok (.invokevirtual 216, 3) := by decide +kernel
theorem dX10_readWants_16 : decode cX10_readWants 16 = .ok (.ifCond .ne 5, 3) := by decide +kernel
theorem dX10_readWants_19 : decode cX10_readWants 19 = .ok (.iconst 0, 1) := by decide +kernel
theorem dX10_readWants_20 : decode cX10_readWants 20 = .ok (.ireturn, 1) := by decide +kernel
theorem dX10_readWants_21 : decode cX10_readWants 21 = .ok (.aload_n 0, 1) := by decide +kernel
theorem dX10_readWants_22 : decode cX10_readWants 22 = .ok (.getfield 176, 3) := by decide +kernel
theorem dX10_readWants_25 : decode cX10_readWants 25 = .ok (.istore_n 1, 1) := by decide +kernel
theorem dX10_readWants_26 : decode cX10_readWants 26 = .ok (.aload_n 0, 1) := by decide +kernel
theorem dX10_readWants_27 : decode cX10_readWants 27 = .ok (.getfield 140, 3) := by decide +kernel
theorem dX10_readWants_30 : decode cX10_readWants 30 = .ok (.iconst 2, 1) := by decide +kernel
theorem dX10_readWants_31 : decode cX10_readWants 31 = .ok (.if_icmp .eq 9, 3) := by decide +kernel
theorem dX10_readWants_34 : decode cX10_readWants 34 = .ok (.aload_n 0, 1) := by decide +kernel
theorem dX10_readWants_35 : decode cX10_readWants 35 = .ok (.iconst 1, 1) := by decide +kernel
theorem dX10_readWants_36 : decode cX10_readWants 36 = .ok (.invokevirtual 166, 3) := by decide +kernel
theorem dX10_readWants_39 : decode cX10_readWants 39 = .ok (.ireturn, 1) := by decide +kernel
theorem dX10_readWants_40 : decode cX10_readWants 40 = .ok (.aload_n 0, 1) := by decide +kernel
theorem dX10_readWants_41 : decode cX10_readWants 41 = .ok (.getfield 150, 3) := by decide +kernel
theorem dX10_readWants_44 : decode cX10_readWants 44 = .ok (.bipush 29, 2) := by decide +kernel
theorem dX10_readWants_46 : decode cX10_readWants 46 = .ok (.if_icmp .le 9, 3) := by decide +kernel
theorem dX10_readWants_49 : decode cX10_readWants 49 = .ok (.aload_n 0, 1) := by decide +kernel
theorem dX10_readWants_50 : decode cX10_readWants 50 = .ok (.iconst 2, 1) := by decide +kernel
theorem dX10_readWants_51 : decode cX10_readWants 51 = .ok (.invokevirtual 166, 3) := by decide +kernel
theorem dX10_readWants_54 : decode cX10_readWants 54 = .ok (.ireturn, 1) := by decide +kernel
theorem dX10_readWants_55 : decode cX10_readWants 55 = .ok (.bipush 49, 2) := by decide +kernel
theorem dX10_readWants_57 : decode cX10_readWants 57 = .ok (.bipush 30, 2) := by decide +kernel
theorem dX10_readWants_59 : decode cX10_readWants 59 = .ok (.iload_n 1, 1) := by decide +kernel
theorem dX10_readWants_60 : decode cX10_readWants 60 = .ok (.imul, 1) := by decide +kernel
theorem dX10_readWants_61 : decode cX10_readWants 61 = .ok (.iadd, 1) := by decide +kernel
theorem dX10_readWants_62 : decode cX10_readWants 62 = .ok (.aload_n 0, 1) := by decide +kernel
theorem dX10_readWants_63 : decode cX10_readWants 63 = .ok (.getfield 150, 3) := by decide +kernel
theorem dX10_readWants_66 : decode cX10_readWants 66 = .ok (.iadd, 1) := by decide +kernel
theorem dX10_readWants_67 : decode cX10_readWants 67 = .ok (.istore_n 2, 1) := by decide +kernel
theorem dX10_readWants_68 : decode cX10_readWants 68 = .ok (.aload_n 0, 1) := by decide +kernel
theorem dX10_readWants_69 : decode cX10_readWants 69 = .ok (.getfield 45, 3) := by decide +kernel
theorem dX10_readWants_72 : decode cX10_readWants 72 = .ok (.iload_n 2, 1) := by decide +kernel
theorem dX10_readWants_73 : decode cX10_readWants 73 = .ok (.iaload, 1) := by decide +kernel
theorem dX10_readWants_74 : decode cX10_readWants 74 = .ok (.ifCond .le 9, 3) := by decide +kernel
theorem dX10_readWants_77 : decode cX10_readWants 77 = .ok (.aload_n 0, 1) := by decide +kernel
theorem dX10_readWants_78 : decode cX10_readWants 78 = .ok (.iconst 3, 1) := by decide +kernel
theorem dX10_readWants_79 : decode cX10_readWants 79 = .ok (.invokevirtual 166, 3) := by decide +kernel
theorem dX10_readWants_82 : decode cX10_readWants 82 = .ok (.ireturn, 1) := by decide +kernel
theorem dX10_readWants_83 : decode cX10_readWants 83 = .ok (.aload_n 0, 1) := by decide +kernel
theorem dX10_readWants_84 : decode cX10_readWants 84 = .ok (.invokevirtual 169, 3) := by decide +kernel
theorem dX10_readWants_87 : decode cX10_readWants 87 = .ok (.aload_n 0, 1) := by decide +kernel
theorem dX10_readWants_88 : decode cX10_readWants 88 = .ok (.iconst 0, 1) := by decide +kernel
theorem dX10_readWants_89 : decode cX10_readWants 89 = .ok (.bipush 99, 2) := by decide +kernel
theorem dX10_readWants_91 : decode cX10_readWants 91 = .ok (.invokevirtual 209, 3) := by decide +kernel
theorem dX10_readWants_94 : decode cX10_readWants 94 = .ok (.ifCond .ne 5, 3) := by decide +kernel
theorem dX10_readWants_97 : decode cX10_readWants 97 = .ok (.iconst 0, 1) := by decide +kernel
theorem dX10_readWants_98 : decode cX10_readWants 98 = .ok (.ireturn, 1) := by decide +kernel
theorem dX10_readWants_99 : decode cX10_readWants 99 = .ok (.aload_n 0, 1) := by decide +kernel
theorem dX10_readWants_100 : decode cX10_readWants 100 = .ok (.getfield 45, 3) := by decide +kernel
theorem dX10_readWants_103 : decode cX10_readWants 103 = .ok (.iload_n 2, 1) := by decide +kernel
theorem dX10_readWants_104 : decode cX10_readWants 104 = .ok (.aload_n 0, 1) := by decide +kernel
theorem dX10_readWants_105 : decode cX10_readWants 105 = .ok (.getfield 176, 3) := by decide +kernel
theorem dX10_readWants_108 : decode cX10_readWants 108 = .ok (.iconst 1, 1) := by decide +kernel
theorem dX10_readWants_109 : decode cX10_readWants 109 = .ok (.iadd, 1) := by decide +kernel
theorem dX10_readWants_110 : decode cX10_readWants 110 = .ok (.iastore, 1) := by decide +kernel
theorem dX10_readWants_111 : decode cX10_readWants 111 = .ok (.iconst 1, 1) := by decide +kernel
theorem dX10_readWants_112 : decode cX10_readWants 112 = .ok (.ireturn, 1) := by decide +kernel
theorem dX10_house_0 : decode cX10_house 0 = .ok (.aload_n 0, 1) := by decide +kernel
theorem dX10_house_1 : decode cX10_house 1 = .ok (.iconst 0, 1) := by decide +kernel
theorem dX10_house_2 : decode cX10_house 2 = .ok (.putfield 1, 3) := by decide +kernel
theorem dX10_house_5 : decode cX10_house 5 = .ok (.aload_n 0, 1) := by decide +kernel
theorem dX10_house_6 : decode cX10_house 6 = .ok (.sipush 900, 3) := by decide +kernel
theorem dX10_house_9 : decode cX10_house 9 = .ok (.invokevirtual 219, 3) := by decide +kernel
theorem dX10_house_12 : decode cX10_house 12 = .ok (.aload_n 0, 1) := by decide +kernel
theorem dX10_house_13 : decode cX10_house 13 = .ok (.iconst 0, 1) := by decide +kernel
theorem dX10_house_14 : decode cX10_house 14 = .ok (.putfield 157, 3) := by decide +kernel
theorem dX10_house_17 : decode cX10_house 17 = .ok (.aload_n 0, 1) := by decide +kernel
theorem dX10_house_18 : decode cX10_house 18 = .ok (.iconst 0, 1) := by decide +kernel
theorem dX10_house_19 : decode cX10_house 19 = .ok (.putfield 222, 3) := by decide +kernel
theorem dX10_house_22 : decode cX10_house 22 = .ok (.iconst 0, 1) := by decide +kernel
theorem dX10_house_23 : decode cX10_house 23 = .ok (.istore_n 1, 1) := by decide +kernel
theorem dX10_house_24 : decode cX10_house 24 = .ok (.iload_n 1, 1) := by decide +kernel
theorem dX10_house_25 : decode cX10_house 25 = .ok (.sipush 169, 3) := by decide +kernel
theorem dX10_house_28 : decode cX10_house 28 = .ok (.if_icmp .ge 16, 3) := by decide +kernel
theorem dX10_house_31 : decode cX10_house 31 = .ok (.aload_n 0, 1) := by decide +kernel
theorem dX10_house_32 : decode cX10_house 32 = .ok (.getfield 45, 3) := by decide +kernel
theorem dX10_house_35 : decode cX10_house 35 = .ok (.iload_n 1, 1) := by decide +kernel
theorem dX10_house_36 : decode cX10_house 36 = .ok (.iconst 0, 1) := by decide +kernel
theorem dX10_house_37 : decode cX10_house 37 = .ok (.iastore, 1) := by decide +kernel
theorem dX10_house_38 : decode cX10_house 38 = .ok (.iinc 1 1, 3) := by decide +kernel
theorem dX10_house_41 : decode cX10_house 41 = .ok (.goto (-17), 3) := by decide +kernel
theorem dX10_house_44 : decode cX10_house 44 = .ok (.aload_n 0, 1) := by decide +kernel
theorem dX10_house_45 : decode cX10_house 45 = .ok (.invokevirtual 169, 3) := by decide +kernel
theorem dX10_house_48 : decode cX10_house 48 = .ok (.aload_n 0, 1) := by decide +kernel
theorem dX10_house_49 : decode cX10_house 49 = .ok (.getfield 140, 3) := by decide +kernel
theorem dX10_house_52 : decode cX10_house 52 = .ok (.ifCond .eq 39, 3) := by decide +kernel
theorem dX10_house_55 : decode cX10_house 55 = .ok (.aload_n 0, 1) := by decide +kernel
theorem dX10_house_56 : decode cX10_house 56 = .ok (.invokevirtual 225, 3) := by decide +kernel
theorem dX10_house_59 : decode cX10_house 59 = .ok (.ifCond .eq 12, 3) := by decide +kernel
theorem dX10_house_62 : decode cX10_house 62 = .ok (.aload_n 0, 1) := by decide +kernel
theorem dX10_house_63 : decode cX10_house 63 = .ok (.bipush 59, 2) := by decide +kernel
theorem dX10_house_65 : decode cX10_house 65 = .ok (.invokevirtual 228, 3) := by decide +kernel
theorem dX10_house_68 : decode cX10_house 68 = .ok (.ifCond .ne 10, 3) := by decide +kernel
theorem dX10_house_71 : decode cX10_house 71 = .ok (.iconst (-1), 1) := by decide +kernel
theorem dX10_house_72 : decode cX10_house 72 = .ok (.aload_n 0, 1) := by decide +kernel
theorem dX10_house_73 : decode cX10_house 73 = .ok (.getfield 160, 3) := by decide +kernel
theorem dX10_house_76 : decode cX10_house 76 = .ok (.isub, 1) := by decide +kernel
theorem dX10_house_77 : decode cX10_house 77 = .ok (.ireturn, 1) := by decide +kernel
theorem dX10_house_78 : decode cX10_house 78 = .ok (.aload_n 0, 1) := by decide +kernel
theorem dX10_house_79 : decode cX10_house 79 = .ok (.dup, 1) := by decide +kernel
theorem dX10_house_80 : decode cX10_house 80 = .ok (.getfield 222, 3) := by decide +kernel
theorem dX10_house_83 : decode cX10_house 83 = .ok (.iconst 1, 1) := by decide +kernel
theorem dX10_house_84 : decode cX10_house 84 = .ok (.iadd, 1) := by decide +kernel
theorem dX10_house_85 : decode cX10_house 85 = .ok (.putfield 222, 3) := by decide +kernel
theorem dX10_house_88 : decode cX10_house 88 = .ok (.goto (-40), 3) := by decide +kernel
theorem dX10_house_91 : decode cX10_house 91 = .ok (.iconst 0, 1) := by decide +kernel
theorem dX10_house_92 : decode cX10_house 92 = .ok (.istore_n 1, 1) := by decide +kernel
theorem dX10_house_93 : decode cX10_house 93 = .ok (.iload_n 1, 1) := by decide +kernel
theorem dX10_house_94 : decode cX10_house 94 = .ok (.sipush 290, 3) := by decide +kernel
theorem dX10_house_97 : decode cX10_house 97 = .ok (.if_icmp .ge 32, 3) := by decide +kernel
theorem dX10_house_100 : decode cX10_house 100 = .ok (.aload_n 0, 1) := by decide +kernel
theorem dX10_house_101 : decode cX10_house 101 = .ok (.getfield 41, 3) := by decide +kernel
theorem dX10_house_104 : decode cX10_house 104 = .ok (.iload_n 1, 1) := by decide +kernel
theorem dX10_house_105 : decode cX10_house 105 = .ok (.iload_n 1, 1) := by decide +kernel
theorem dX10_house_106 : decode cX10_house 106 = .ok (.sipush 169, 3) := by decide +kernel
theorem dX10_house_109 : decode cX10_house 109 = .ok (.if_icmp .ge 12, 3) := by decide +kernel
theorem dX10_house_112 : decode cX10_house 112 = .ok (.aload_n 0, 1) := by decide +kernel
theorem dX10_house_113 : decode cX10_house 113 = .ok (.getfield 45, 3) := by decide +kernel
theorem dX10_house_116 : decode cX10_house 116 = .ok (.iload_n 1, 1) := by decide +kernel
theorem dX10_house_117 : decode cX10_house 117 = .ok (.iaload, 1) := by decide +kernel
theorem dX10_house_118 : decode cX10_house 118 = .ok (.goto 4, 3) := by decide +kernel
theorem dX10_house_121 : decode cX10_house 121 = .ok (.iconst 0, 1) := by decide +kernel
theorem dX10_house_122 : decode cX10_house 122 = .ok (.iastore, 1) := by decide +kernel
theorem dX10_house_123 : decode cX10_house 123 = .ok (.iinc 1 1, 3) := by decide +kernel
theorem dX10_house_126 : decode cX10_house 126 = .ok (.goto (-33), 3) := by decide +kernel
theorem dX10_house_129 : decode cX10_house 129 = .ok (.iconst 0, 1) := by decide +kernel
theorem dX10_house_130 : decode cX10_house 130 = .ok (.istore_n 1, 1) := by decide +kernel
theorem dX10_house_131 : decode cX10_house 131 = .ok (.iload_n 1, 1) := by decide +kernel
theorem dX10_house_132 : decode cX10_house 132 = .ok (.bipush 7, 2) := by decide +kernel
theorem dX10_house_134 : decode cX10_house 134 = .ok (.if_icmp .ge 24, 3) := by decide +kernel
theorem dX10_house_137 : decode cX10_house 137 = .ok (.aload_n 0, 1) := by decide +kernel
theorem dX10_house_138 : decode cX10_house 138 = .ok (.getfield 54, 3) := by decide +kernel
theorem dX10_house_141 : decode cX10_house 141 = .ok (.iload_n 1, 1) := by decide +kernel
theorem dX10_house_142 : decode cX10_house 142 = .ok (.aload_n 0, 1) := by decide +kernel
theorem dX10_house_143 : decode cX10_house 143 = .ok (.getfield 54, 3) := by decide +kernel
theorem dX10_house_146 : decode cX10_house 146 = .ok (.bipush 7, 2) := by decide +kernel
theorem dX10_house_148 : decode cX10_house 148 = .ok (.iload_n 1, 1) := by decide +kernel
theorem dX10_house_149 : decode cX10_house 149 = .ok (.iadd, 1) := by decide +kernel
theorem dX10_house_150 : decode cX10_house 150 = .ok (.laload, 1) := by decide +kernel
theorem dX10_house_151 : decode cX10_house 151 = .ok (.lastore, 1) := by decide +kernel
theorem dX10_house_152 : decode cX10_house 152 = .ok (.iinc 1 1, 3) := by decide +kernel
theorem dX10_house_155 : decode cX10_house 155 = .ok (.goto (-24), 3) := by decide +kernel
theorem dX10_house_158 : decode cX10_house 158 = .ok (.aload_n 0, 1) := by decide +kernel
theorem dX10_house_159 : decode cX10_house 159 = .ok (.invokevirtual 231, 3) := by decide +kernel
theorem dX10_house_162 : decode cX10_house 162 = .ok (.aload_n 0, 1) := by decide +kernel
theorem dX10_house_163 : decode cX10_house 163 = .ok (.getfield 222, 3) := by decide +kernel
theorem dX10_house_166 : decode cX10_house 166 = .ok (.ireturn, 1) := by decide +kernel
theorem dX10_fault_0 : decode cX10_fault 0 = .ok (.aload_n 0, 1) := by decide +kernel
theorem dX10_fault_1 : decode cX10_fault 1 = .ok (.iconst 0, 1) := by decide +kernel
theorem dX10_fault_2 : decode cX10_fault 2 = .ok (.putfield 1, 3) := by decide +kernel
theorem dX10_fault_5 : decode cX10_fault 5 = .ok (.aload_n 0, 1) := by decide +kernel
theorem dX10_fault_6 : decode cX10_fault 6 = .ok (.getfield 157, 3) := by decide +kernel
theorem dX10_fault_9 : decode cX10_fault 9 = .ok (.ireturn, 1) := by decide +kernel
theorem dX10_settle_0 : decode cX10_settle 0 = .ok (.iconst 0, 1) := by decide +kernel
theorem dX10_settle_1 : decode cX10_settle 1 = .ok (.istore_n 1, 1) := by decide +kernel
theorem dX10_settle_2 : decode cX10_settle 2 = .ok (.iload_n 1, 1) := by decide +kernel
theorem dX10_settle_3 : decode cX10_settle 3 = .ok (.aload_n 0, 1) := by decide +kernel
theorem dX10_settle_4 : decode cX10_settle 4 = .ok (.getfield 41, 3) := by decide +kernel
theorem dX10_settle_7 : decode cX10_settle 7 = .ok (.iconst 0, 1) := by decide +kernel
theorem dX10_settle_8 : decode cX10_settle 8 = .ok (.iaload, 1) := by decide +kernel
theorem dX10_settle_9 : decode cX10_settle 9 = .ok (.if_icmp .ge 108, 3) := by decide +kernel
theorem dX10_settle_12 : decode cX10_settle 12 = .ok (.iconst 0, 1) := by decide +kernel
theorem dX10_settle_13 : decode cX10_settle 13 = .ok (.istore_n 2, 1) := by decide +kernel
theorem dX10_settle_14 : decode cX10_settle 14 = .ok (.aload_n 0, 1) := by decide +kernel
theorem dX10_settle_15 : decode cX10_settle 15 = .ok (.getfield 41, 3) := by decide +kernel
theorem dX10_settle_18 : decode cX10_settle 18 = .ok (.iconst 2, 1) := by decide +kernel
theorem dX10_settle_19 : decode cX10_settle 19 = .ok (.iload_n 1, 1) := by decide +kernel
theorem dX10_settle_20 : decode cX10_settle 20 = .ok (.iadd, 1) := by decide +kernel
theorem dX10_settle_21 : decode cX10_settle 21 = .ok (.iaload, 1) := by decide +kernel
theorem dX10_settle_22 : decode cX10_settle 22 = .ok (.istore_n 3, 1) := by decide +kernel
theorem dX10_settle_23 : decode cX10_settle 23 = .ok (.iload_n 3, 1) := by decide +kernel
theorem dX10_settle_24 : decode cX10_settle 24 = .ok (.aload_n 0, 1) := by decide +kernel
theorem dX10_settle_25 : decode cX10_settle 25 = .ok (.getfield 41, 3) := by decide +kernel
theorem dX10_settle_28 : decode cX10_settle 28 = .ok (.iconst 5, 1) := by decide +kernel
theorem dX10_settle_29 : decode cX10_settle 29 = .ok (.iload_n 1, 1) := by decide +kernel
theorem dX10_settle_30 : decode cX10_settle 30 = .ok (.iadd, 1) := by decide +kernel
theorem dX10_settle_31 : decode cX10_settle 31 = .ok (.iaload, 1) := by decide +kernel
theorem dX10_settle_32 : decode cX10_settle 32 = .ok (.if_icmp .gt 72, 3) := by decide +kernel
theorem dX10_settle_35 : decode cX10_settle 35 = .ok (.iconst 0, 1) := by decide +kernel
theorem dX10_settle_36 : decode cX10_settle 36 = .ok (.istore 4, 2) := by decide +kernel
theorem dX10_settle_38 : decode cX10_settle 38 = .ok (.iload 4, 2) := by decide +kernel
theorem dX10_settle_40 : decode cX10_settle 40 = .ok (.iload_n 3, 1) := by decide +kernel
theorem dX10_settle_41 : decode cX10_settle 41 = .ok (.if_icmp .ge 57, 3) := by decide +kernel
theorem dX10_settle_44 : decode cX10_settle 44 = .ok (.iconst 0, 1) := by decide +kernel
theorem dX10_settle_45 : decode cX10_settle 45 = .ok (.istore 5, 2) := by decide +kernel
theorem dX10_settle_47 : decode cX10_settle 47 = .ok (.iload 4, 2) := by decide +kernel
theorem dX10_settle_49 : decode cX10_settle 49 = .ok (.istore 6, 2) := by decide +kernel
theorem dX10_settle_51 : decode cX10_settle 51 = .ok (.iload 6, 2) := by decide +kernel
theorem dX10_settle_53 : decode cX10_settle 53 = .ok (.bipush 30, 2) := by decide +kernel
theorem dX10_settle_55 : decode cX10_settle 55 = .ok (.if_icmp .ge 21, 3) := by decide +kernel
theorem dX10_settle_58 : decode cX10_settle 58 = .ok (.iload 5, 2) := by decide +kernel
theorem dX10_settle_60 : decode cX10_settle 60 = .ok (.iconst 1, 1) := by decide +kernel
theorem dX10_settle_61 : decode cX10_settle 61 = .ok (.iload 6, 2) := by decide +kernel
theorem dX10_settle_63 : decode cX10_settle 63 = .ok (.ishl, 1) := by decide +kernel
theorem dX10_settle_64 : decode cX10_settle 64 = .ok (.ior, 1) := by decide +kernel
theorem dX10_settle_65 : decode cX10_settle 65 = .ok (.istore 5, 2) := by decide +kernel
theorem dX10_settle_67 : decode cX10_settle 67 = .ok (.iload 6, 2) := by decide +kernel
theorem dX10_settle_69 : decode cX10_settle 69 = .ok (.iload_n 3, 1) := by decide +kernel
theorem dX10_settle_70 : decode cX10_settle 70 = .ok (.iadd, 1) := by decide +kernel
theorem dX10_settle_71 : decode cX10_settle 71 = .ok (.istore 6, 2) := by decide +kernel
theorem dX10_settle_73 : decode cX10_settle 73 = .ok (.goto (-22), 3) := by decide +kernel
theorem dX10_settle_76 : decode cX10_settle 76 = .ok (.aload_n 0, 1) := by decide +kernel
theorem dX10_settle_77 : decode cX10_settle 77 = .ok (.getfield 61, 3) := by decide +kernel
theorem dX10_settle_80 : decode cX10_settle 80 = .ok (.bipush 36, 2) := by decide +kernel
theorem dX10_settle_82 : decode cX10_settle 82 = .ok (.iload_n 1, 1) := by decide +kernel
theorem dX10_settle_83 : decode cX10_settle 83 = .ok (.imul, 1) := by decide +kernel
theorem dX10_settle_84 : decode cX10_settle 84 = .ok (.iload_n 2, 1) := by decide +kernel
theorem dX10_settle_85 : decode cX10_settle 85 = .ok (.iadd, 1) := by decide +kernel
theorem dX10_settle_86 : decode cX10_settle 86 = .ok (.iload 5, 2) := by decide +kernel
theorem dX10_settle_88 : decode cX10_settle 88 = .ok (.iastore, 1) := by decide +kernel
theorem dX10_settle_89 : decode cX10_settle 89 = .ok (.iinc 2 1, 3) := by decide +kernel
theorem dX10_settle_92 : decode cX10_settle 92 = .ok (.iinc 4 1, 3) := by decide +kernel
theorem dX10_settle_95 : decode cX10_settle 95 = .ok (.goto (-57), 3) := by decide +kernel
theorem dX10_settle_98 : decode cX10_settle 98 = .ok (.iinc 3 1, 3) := by decide +kernel
theorem dX10_settle_101 : decode cX10_settle 101 = .ok (.goto (-78), 3) := by decide +kernel
theorem dX10_settle_104 : decode cX10_settle 104 = .ok (.aload_n 0, 1) := by decide +kernel
theorem dX10_settle_105 : decode cX10_settle 105 = .ok (.getfield 64, 3) := by decide +kernel
theorem dX10_settle_108 : decode cX10_settle 108 = .ok (.iload_n 1, 1) := by decide +kernel
theorem dX10_settle_109 : decode cX10_settle 109 = .ok (.iload_n 2, 1) := by decide +kernel
theorem dX10_settle_110 : decode cX10_settle 110 = .ok (.iastore, 1) := by decide +kernel
theorem dX10_settle_111 : decode cX10_settle 111 = .ok (.iinc 1 1, 3) := by decide +kernel
theorem dX10_settle_114 : decode cX10_settle 114 = .ok (.goto (-112), 3) := by decide +kernel
theorem dX10_settle_117 : decode cX10_settle 117 = .ok (.return_, 1) := by decide +kernel
theorem dX10_isKind_0 : decode cX10_isKind 0 = .ok (.iload_n 1, 1) := by decide +kernel
theorem dX10_isKind_1 : decode cX10_isKind 1 = .ok (.iconst 0, 1) := by decide +kernel
theorem dX10_isKind_2 : decode cX10_isKind 2 = .ok (.aload_n 0, 1) := by decide +kernel
theorem dX10_isKind_3 : decode cX10_isKind 3 = .ok (.getfield 41, 3) := by decide +kernel
theorem dX10_isKind_6 : decode cX10_isKind 6 = .ok (.iconst 0, 1) := by decide +kernel
theorem dX10_isKind_7 : decode cX10_isKind 7 = .ok (.iaload, 1) := by decide +kernel
theorem dX10_isKind_8 : decode cX10_isKind 8 = .ok (.iconst 1, 1) := by decide +kernel
theorem dX10_isKind_9 : decode cX10_isKind 9 = .ok (.isub, 1) := by decide +kernel
theorem dX10_isKind_10 : decode cX10_isKind 10 = .ok (.invokestatic 172, 3) := by decide +kernel
theorem dX10_isKind_13 : decode cX10_isKind 13 = .ok (.ireturn, 1) := by decide +kernel
theorem dX10_isPerson_0 : decode cX10_isPerson 0 = .ok (.iload_n 1, 1) := by decide +kernel
theorem dX10_isPerson_1 : decode cX10_isPerson 1 = .ok (.iconst 0, 1) := by decide +kernel
theorem dX10_isPerson_2 : decode cX10_isPerson 2 = .ok (.aload_n 0, 1) := by decide +kernel
theorem dX10_isPerson_3 : decode cX10_isPerson 3 = .ok (.getfield 41, 3) := by decide +kernel
theorem dX10_isPerson_6 : decode cX10_isPerson 6 = .ok (.iconst 1, 1) := by decide +kernel
theorem dX10_isPerson_7 : decode cX10_isPerson 7 = .ok (.iaload, 1) := by decide +kernel
theorem dX10_isPerson_8 : decode cX10_isPerson 8 = .ok (.iconst 1, 1) := by decide +kernel
theorem dX10_isPerson_9 : decode cX10_isPerson 9 = .ok (.isub, 1) := by decide +kernel
theorem dX10_isPerson_10 : decode cX10_isPerson 10 = .ok (.invokestatic 172, 3) := by decide +kernel
theorem dX10_isPerson_13 : decode cX10_isPerson 13 = .ok (.ireturn, 1) := by decide +kernel
theorem dX10_isHour_0 : decode cX10_isHour 0 = .ok (.iload_n 0, 1) := by decide +kernel
theorem dX10_isHour_1 : decode cX10_isHour 1 = .ok (.iconst 0, 1) := by decide +kernel
theorem dX10_isHour_2 : decode cX10_isHour 2 = .ok (.bipush 29, 2) := by decide +kernel
theorem dX10_isHour_4 : decode cX10_isHour 4 = .ok (.invokestatic 172, 3) := by decide +kernel
theorem dX10_isHour_7 : decode cX10_isHour 7 = .ok (.ireturn, 1) := by decide +kernel
theorem dX10_truly_0 : decode cX10_truly 0 = .ok (.aload_n 0, 1) := by decide +kernel
theorem dX10_truly_1 : decode cX10_truly 1 = .ok (.getfield 41, 3) := by decide +kernel
theorem dX10_truly_4 : decode cX10_truly 4 = .ok (.bipush 8, 2) := by decide +kernel
theorem dX10_truly_6 : decode cX10_truly 6 = .ok (.iload_n 1, 1) := by decide +kernel
theorem dX10_truly_7 : decode cX10_truly 7 = .ok (.iadd, 1) := by decide +kernel
theorem dX10_truly_8 : decode cX10_truly 8 = .ok (.iaload, 1) := by decide +kernel
theorem dX10_truly_9 : decode cX10_truly 9 = .ok (.iconst 1, 1) := by decide +kernel
theorem dX10_truly_10 : decode cX10_truly 10 = .ok (.isub, 1) := by decide +kernel
theorem dX10_truly_11 : decode cX10_truly 11 = .ok (.ireturn, 1) := by decide +kernel
theorem dX10_kind_0 : decode cX10_kind 0 = .ok (.aload_n 0, 1) := by decide +kernel
theorem dX10_kind_1 : decode cX10_kind 1 = .ok (.aload_n 0, 1) := by decide +kernel
theorem dX10_kind_2 : decode cX10_kind 2 = .ok (.iload_n 1, 1) := by decide +kernel
theorem dX10_kind_3 : decode cX10_kind 3 = .ok (.invokevirtual 234, 3) := by decide +kernel
theorem dX10_kind_6 : decode cX10_kind 6 = .ok (.ifCond .eq 12, 3) := by decide +kernel
theorem dX10_kind_9 : decode cX10_kind 9 = .ok (.iload_n 2, 1) := by decide +kernel
theorem dX10_kind_10 : decode cX10_kind 10 = .ok (.iconst 0, 1) := by decide +kernel
theorem dX10_kind_11 : decode cX10_kind 11 = .ok (.iconst 3, 1) := by decide +kernel
theorem dX10_kind_12 : decode cX10_kind 12 = .ok (.invokestatic 172, 3) := by decide +kernel
theorem dX10_kind_15 : decode cX10_kind 15 = .ok (.ifCond .ne 7, 3) := by decide +kernel
theorem dX10_kind_18 : decode cX10_kind 18 = .ok (.iconst 1, 1) := by decide +kernel
theorem dX10_kind_19 : decode cX10_kind 19 = .ok (.goto 4, 3) := by decide +kernel
theorem dX10_kind_22 : decode cX10_kind 22 = .ok (.iconst 0, 1) := by decide +kernel
theorem dX10_kind_23 : decode cX10_kind 23 = .ok (.invokevirtual 237, 3) := by decide +kernel
theorem dX10_kind_26 : decode cX10_kind 26 = .ok (.ifCond .eq 5, 3) := by decide +kernel
theorem dX10_kind_29 : decode cX10_kind 29 = .ok (.iconst 0, 1) := by decide +kernel
theorem dX10_kind_30 : decode cX10_kind 30 = .ok (.ireturn, 1) := by decide +kernel
theorem dX10_kind_31 : decode cX10_kind 31 = .ok (.iload_n 2, 1) := by decide +kernel
theorem dX10_kind_32 : decode cX10_kind 32 = .ok (.ifCond .ne 14, 3) := by decide +kernel
theorem dX10_kind_35 : decode cX10_kind 35 = .ok (.aload_n 0, 1) := by decide +kernel
theorem dX10_kind_36 : decode cX10_kind 36 = .ok (.getfield 41, 3) := by decide +kernel
theorem dX10_kind_39 : decode cX10_kind 39 = .ok (.iconst 2, 1) := by decide +kernel
theorem dX10_kind_40 : decode cX10_kind 40 = .ok (.iload_n 1, 1) := by decide +kernel
theorem dX10_kind_41 : decode cX10_kind 41 = .ok (.iadd, 1) := by decide +kernel
theorem dX10_kind_42 : decode cX10_kind 42 = .ok (.iaload, 1) := by decide +kernel
theorem dX10_kind_43 : decode cX10_kind 43 = .ok (.goto 38, 3) := by decide +kernel
theorem dX10_kind_46 : decode cX10_kind 46 = .ok (.iload_n 2, 1) := by decide +kernel
theorem dX10_kind_47 : decode cX10_kind 47 = .ok (.iconst 1, 1) := by decide +kernel
theorem dX10_kind_48 : decode cX10_kind 48 = .ok (.if_icmp .ne 14, 3) := by decide +kernel
theorem dX10_kind_51 : decode cX10_kind 51 = .ok (.aload_n 0, 1) := by decide +kernel
theorem dX10_kind_52 : decode cX10_kind 52 = .ok (.getfield 41, 3) := by decide +kernel
theorem dX10_kind_55 : decode cX10_kind 55 = .ok (.iconst 5, 1) := by decide +kernel
theorem dX10_kind_56 : decode cX10_kind 56 = .ok (.iload_n 1, 1) := by decide +kernel
theorem dX10_kind_57 : decode cX10_kind 57 = .ok (.iadd, 1) := by decide +kernel
theorem dX10_kind_58 : decode cX10_kind 58 = .ok (.iaload, 1) := by decide +kernel
theorem dX10_kind_59 : decode cX10_kind 59 = .ok (.goto 22, 3) := by decide +kernel
theorem dX10_kind_62 : decode cX10_kind 62 = .ok (.iload_n 2, 1) := by decide +kernel
theorem dX10_kind_63 : decode cX10_kind 63 = .ok (.iconst 2, 1) := by decide +kernel
theorem dX10_kind_64 : decode cX10_kind 64 = .ok (.if_icmp .ne 11, 3) := by decide +kernel
theorem dX10_kind_67 : decode cX10_kind 67 = .ok (.aload_n 0, 1) := by decide +kernel
theorem dX10_kind_68 : decode cX10_kind 68 = .ok (.iload_n 1, 1) := by decide +kernel
theorem dX10_kind_69 : decode cX10_kind 69 = .ok (.invokevirtual 241, 3) := by decide +kernel
theorem dX10_kind_72 : decode cX10_kind 72 = .ok (.goto 9, 3) := by decide +kernel
theorem dX10_kind_75 : decode cX10_kind 75 = .ok (.aload_n 0, 1) := by decide +kernel
theorem dX10_kind_76 : decode cX10_kind 76 = .ok (.getfield 64, 3) := by decide +kernel
theorem dX10_kind_79 : decode cX10_kind 79 = .ok (.iload_n 1, 1) := by decide +kernel
theorem dX10_kind_80 : decode cX10_kind 80 = .ok (.iaload, 1) := by decide +kernel
theorem dX10_kind_81 : decode cX10_kind 81 = .ok (.ireturn, 1) := by decide +kernel
theorem dX10_passes_0 : decode cX10_passes 0 = .ok (.aload_n 0, 1) := by decide +kernel
theorem dX10_passes_1 : decode cX10_passes 1 = .ok (.iconst 0, 1) := by decide +kernel
theorem dX10_passes_2 : decode cX10_passes 2 = .ok (.putfield 1, 3) := by decide +kernel
theorem dX10_passes_5 : decode cX10_passes 5 = .ok (.aload_n 0, 1) := by decide +kernel
theorem dX10_passes_6 : decode cX10_passes 6 = .ok (.iload_n 1, 1) := by decide +kernel
theorem dX10_passes_7 : decode cX10_passes 7 = .ok (.invokevirtual 234, 3) := by decide +kernel
theorem dX10_passes_10 : decode cX10_passes 10 = .ok (.ifCond .eq 44, 3) := by decide +kernel
theorem dX10_passes_13 : decode cX10_passes 13 = .ok (.iload_n 2, 1) := by decide +kernel
theorem dX10_passes_14 : decode cX10_passes 14 = .ok (.iconst 0, 1) := by decide +kernel
theorem dX10_passes_15 : decode cX10_passes 15 = .ok (.aload_n 0, 1) := by decide +kernel
theorem dX10_passes_16 : decode cX10_passes 16 = .ok (.getfield 64, 3) := by decide +kernel
theorem dX10_passes_19 : decode cX10_passes 19 = .ok (.iload_n 1, 1) := by decide +kernel
theorem dX10_passes_20 : decode cX10_passes 20 = .ok (.iaload, 1) := by decide +kernel
theorem dX10_passes_21 : decode cX10_passes 21 = .ok (.iconst 1, 1) := by decide +kernel
theorem dX10_passes_22 : decode cX10_passes 22 = .ok (.isub, 1) := by decide +kernel
theorem dX10_passes_23 : decode cX10_passes 23 = .ok (.invokestatic 172, 3) := by decide +kernel
theorem dX10_passes_26 : decode cX10_passes 26 = .ok (.ifCond .eq 28, 3) := by decide +kernel
theorem dX10_passes_29 : decode cX10_passes 29 = .ok (.iload_n 3, 1) := by decide +kernel
theorem dX10_passes_30 : decode cX10_passes 30 = .ok (.invokestatic 245, 3) := by decide +kernel
theorem dX10_passes_33 : decode cX10_passes 33 = .ok (.ifCond .eq 21, 3) := by decide +kernel
theorem dX10_passes_36 : decode cX10_passes 36 = .ok (.aload_n 0, 1) := by decide +kernel
theorem dX10_passes_37 : decode cX10_passes 37 = .ok (.getfield 61, 3) := by decide +kernel
theorem dX10_passes_40 : decode cX10_passes 40 = .ok (.bipush 36, 2) := by decide +kernel
theorem dX10_passes_42 : decode cX10_passes 42 = .ok (.iload_n 1, 1) := by decide +kernel
theorem dX10_passes_43 : decode cX10_passes 43 = .ok (.imul, 1) := by decide +kernel
theorem dX10_passes_44 : decode cX10_passes 44 = .ok (.iload_n 2, 1) := by decide +kernel
theorem dX10_passes_45 : decode cX10_passes 45 = .ok (.iadd, 1) := by decide +kernel
theorem dX10_passes_46 : decode cX10_passes 46 = .ok (.iaload, 1) := by decide +kernel
theorem dX10_passes_47 : decode cX10_passes 47 = .ok (.iload_n 3, 1) := by decide +kernel
theorem dX10_passes_48 : decode cX10_passes 48 = .ok (.ishr, 1) := by decide +kernel
theorem dX10_passes_49 : decode cX10_passes 49 = .ok (.iconst 1, 1) := by decide +kernel
theorem dX10_passes_50 : decode cX10_passes 50 = .ok (.iand, 1) := by decide +kernel
theorem dX10_passes_51 : decode cX10_passes 51 = .ok (.goto 4, 3) := by decide +kernel
theorem dX10_passes_54 : decode cX10_passes 54 = .ok (.iconst (-1), 1) := by decide +kernel
theorem dX10_passes_55 : decode cX10_passes 55 = .ok (.ireturn, 1) := by decide +kernel
theorem dX10_may_0 : decode cX10_may 0 = .ok (.aload_n 0, 1) := by decide +kernel
theorem dX10_may_1 : decode cX10_may 1 = .ok (.iconst 0, 1) := by decide +kernel
theorem dX10_may_2 : decode cX10_may 2 = .ok (.putfield 1, 3) := by decide +kernel
theorem dX10_may_5 : decode cX10_may 5 = .ok (.aload_n 0, 1) := by decide +kernel
theorem dX10_may_6 : decode cX10_may 6 = .ok (.iload_n 1, 1) := by decide +kernel
theorem dX10_may_7 : decode cX10_may 7 = .ok (.invokevirtual 248, 3) := by decide +kernel
theorem dX10_may_10 : decode cX10_may 10 = .ok (.ifCond .eq 15, 3) := by decide +kernel
theorem dX10_may_13 : decode cX10_may 13 = .ok (.aload_n 0, 1) := by decide +kernel
theorem dX10_may_14 : decode cX10_may 14 = .ok (.getfield 41, 3) := by decide +kernel
theorem dX10_may_17 : decode cX10_may 17 = .ok (.bipush 11, 2) := by decide +kernel
theorem dX10_may_19 : decode cX10_may 19 = .ok (.iload_n 1, 1) := by decide +kernel
theorem dX10_may_20 : decode cX10_may 20 = .ok (.iadd, 1) := by decide +kernel
theorem dX10_may_21 : decode cX10_may 21 = .ok (.iaload, 1) := by decide +kernel
theorem dX10_may_22 : decode cX10_may 22 = .ok (.goto 4, 3) := by decide +kernel
theorem dX10_may_25 : decode cX10_may 25 = .ok (.iconst (-1), 1) := by decide +kernel
theorem dX10_may_26 : decode cX10_may 26 = .ok (.ireturn, 1) := by decide +kernel
theorem dX10_readTelling_0 : decode cX10_readTelling 0 = .ok (.aload_n 0, 1) := by decide +kernel
theorem dX10_readTelling_1 : decode cX10_readTelling 1 = .ok (.invokevirtual 179, 3) := by decide +kernel
theorem dX10_readTelling_4 : decode cX10_readTelling 4 = .ok (.ifCond .ne 9, 3) := by decide +kernel
theorem dX10_readTelling_7 : decode cX10_readTelling 7 = .ok (.aload_n 0, 1) := by decide +kernel
theorem dX10_readTelling_8 : decode cX10_readTelling 8 = .ok (.iconst 1, 1) := by decide +kernel
theorem dX10_readTelling_9 : decode cX10_readTelling 9 = .ok (.invokevirtual 166, 3) := by decide +kernel
theorem dX10_readTelling_12 : decode cX10_readTelling 12 = .ok (.ireturn, 1) := by decide +kernel
theorem dX10_readTelling_13 : decode cX10_readTelling 13 = .ok (.aload_n 0, 1) := by decide +kernel
theorem dX10_readTelling_14 : decode cX10_readTelling 14 = .ok (.iconst 3, 1) := by decide +kernel
theorem dX10_readTelling_15 : decode cX10_readTelling 15 = .ok (.aload_n 0, 1) := by decide +kernel
theorem dX10_readTelling_16 : decode cX10_readTelling 16 = .ok (.getfield 41, 3) := by decide +kernel
theorem dX10_readTelling_19 : decode cX10_readTelling 19 = .ok (.iconst 1, 1) := by decide +kernel
theorem dX10_readTelling_20 : decode cX10_readTelling 20 = .ok (.iaload, 1) := by decide +kernel
theorem dX10_readTelling_21 : decode cX10_readTelling 21 = .ok (.invokevirtual 183, 3) := by decide +kernel
theorem dX10_readTelling_24 : decode cX10_readTelling 24 = .ok (.istore_n 1, 1) := by decide +kernel
theorem dX10_readTelling_25 : decode cX10_readTelling 25 = .ok (.iload_n 1, 1) := by decide +kernel
theorem dX10_readTelling_26 : decode cX10_readTelling 26 = .ok (.ifCond .ge 9, 3) := by decide +kernel
theorem dX10_readTelling_29 : decode cX10_readTelling 29 = .ok (.aload_n 0, 1) := by decide +kernel
theorem dX10_readTelling_30 : decode cX10_readTelling 30 = .ok (.iconst 3, 1) := by decide +kernel
theorem dX10_readTelling_31 : decode cX10_readTelling 31 = .ok (.invokevirtual 166, 3) := by decide +kernel
theorem dX10_readTelling_34 : decode cX10_readTelling 34 = .ok (.ireturn, 1) := by decide +kernel
theorem dX10_readTelling_35 : decode cX10_readTelling 35 = .ok (.aload_n 0, 1) := by decide +kernel
theorem dX10_readTelling_36 : decode cX10_readTelling 36 = .ok (.getfield 251, 3) := by decide +kernel
theorem dX10_readTelling_39 : decode cX10_readTelling 39 = .ok (.bipush 40, 2) := by decide +kernel
theorem dX10_readTelling_41 : decode cX10_readTelling 41 = .ok (.if_icmp .ne 9, 3) := by decide +kernel
theorem dX10_readTelling_44 : decode cX10_readTelling 44 = .ok (.aload_n 0, 1) := by decide +kernel
theorem dX10_readTelling_45 : decode cX10_readTelling 45 = .ok (.iconst 4, 1) := by decide +kernel
theorem dX10_readTelling_46 : decode cX10_readTelling 46 = .ok (.invokevirtual 166, 3) := by decide +kernel
theorem dX10_readTelling_49 : decode cX10_readTelling 49 = .ok (.ireturn, 1) := by decide +kernel
theorem dX10_readTelling_50 : decode cX10_readTelling 50 = .ok (.aload_n 0, 1) := by decide +kernel
theorem dX10_readTelling_51 : decode cX10_readTelling 51 = .ok (.invokevirtual 169, 3) := by decide +kernel
theorem dX10_readTelling_54 : decode cX10_readTelling 54 = .ok (.aload_n 0, 1) := by decide +kernel
theorem dX10_readTelling_55 : decode cX10_readTelling 55 = .ok (.iconst 0, 1) := by decide +kernel
theorem dX10_readTelling_56 : decode cX10_readTelling 56 = .ok (.bipush 29, 2) := by decide +kernel
theorem dX10_readTelling_58 : decode cX10_readTelling 58 = .ok (.invokevirtual 209, 3) := by decide +kernel
theorem dX10_readTelling_61 : decode cX10_readTelling 61 = .ok (.ifCond .ne 5, 3) := by decide +kernel
theorem dX10_readTelling_64 : decode cX10_readTelling 64 = .ok (.iconst 0, 1) := by decide +kernel
theorem dX10_readTelling_65 : decode cX10_readTelling 65 = .ok (.ireturn, 1) := by decide +kernel
theorem dX10_readTelling_66 : decode cX10_readTelling 66 = .ok (.aload_n 0, 1) := by decide +kernel
theorem dX10_readTelling_67 : decode cX10_readTelling 67 = .ok (.getfield 48, 3) := by decide +kernel
theorem dX10_readTelling_70 : decode cX10_readTelling 70 = .ok (.iconst 3, 1) := by decide +kernel
theorem dX10_readTelling_71 : decode cX10_readTelling 71 = .ok (.aload_n 0, 1) := by decide +kernel
theorem dX10_readTelling_72 : decode cX10_readTelling 72 = .ok (.getfield 251, 3) := by decide +kernel
theorem dX10_readTelling_75 : decode cX10_readTelling 75 = .ok (.imul, 1) := by decide +kernel
theorem dX10_readTelling_76 : decode cX10_readTelling 76 = .ok (.iload_n 1, 1) := by decide +kernel
theorem dX10_readTelling_77 : decode cX10_readTelling 77 = .ok (.iastore, 1) := by decide +kernel
theorem dX10_readTelling_78 : decode cX10_readTelling 78 = .ok (.aload_n 0, 1) := by decide +kernel
theorem dX10_readTelling_79 : decode cX10_readTelling 79 = .ok (.getfield 48, 3) := by decide +kernel
theorem dX10_readTelling_82 : decode cX10_readTelling 82 = .ok (.iconst 3, 1) := by decide +kernel
theorem dX10_readTelling_83 : decode cX10_readTelling 83 = .ok (.aload_n 0, 1) := by decide +kernel
theorem dX10_readTelling_84 : decode cX10_readTelling 84 = .ok (.getfield 251, 3) := by decide +kernel
theorem dX10_readTelling_87 : decode cX10_readTelling 87 = .ok (.imul, 1) := by decide +kernel
theorem dX10_readTelling_88 : decode cX10_readTelling 88 = .ok (.iconst 1, 1) := by decide +kernel
theorem dX10_readTelling_89 : decode cX10_readTelling 89 = .ok (.iadd, 1) := by decide +kernel
theorem dX10_readTelling_90 : decode cX10_readTelling 90 = .ok (.aload_n 0, 1) := by decide +kernel
theorem dX10_readTelling_91 : decode cX10_readTelling 91 = .ok (.getfield 176, 3) := by decide +kernel
theorem dX10_readTelling_94 : decode cX10_readTelling 94 = .ok (.iastore, 1) := by decide +kernel
theorem dX10_readTelling_95 : decode cX10_readTelling 95 = .ok (.iconst 0, 1) := by decide +kernel
theorem dX10_readTelling_96 : decode cX10_readTelling 96 = .ok (.istore_n 2, 1) := by decide +kernel
theorem dX10_readTelling_97 : decode cX10_readTelling 97 = .ok (.aload_n 0, 1) := by decide +kernel
theorem dX10_readTelling_98 : decode cX10_readTelling 98 = .ok (.bipush 59, 2) := by decide +kernel
theorem dX10_readTelling_100 : decode cX10_readTelling 100 = .ok (.invokevirtual 163, 3) := by decide +kernel
theorem dX10_readTelling_103 : decode cX10_readTelling 103 = .ok (.ifCond .ne 59, 3) := by decide +kernel
theorem dX10_readTelling_106 : decode cX10_readTelling 106 = .ok (.aload_n 0, 1) := by decide +kernel
theorem dX10_readTelling_107 : decode cX10_readTelling 107 = .ok (.invokevirtual 179, 3) := by decide +kernel
theorem dX10_readTelling_110 : decode cX10_readTelling 110 = .ok (.ifCond .ne 9, 3) := by decide +kernel
theorem dX10_readTelling_113 : decode cX10_readTelling 113 = .ok (.aload_n 0, 1) := by decide +kernel
theorem dX10_readTelling_114 : decode cX10_readTelling 114 = .ok (.iconst 1, 1) := by decide +kernel
theorem dX10_readTelling_115 : decode cX10_readTelling 115 = .ok (.invokevirtual 166, 3) := by decide +kernel
theorem dX10_readTelling_118 : decode cX10_readTelling 118 = .ok (.ireturn, 1) := by decide +kernel
theorem dX10_readTelling_119 : decode cX10_readTelling 119 = .ok (.aload_n 0, 1) := by decide +kernel
theorem dX10_readTelling_120 : decode cX10_readTelling 120 = .ok (.iconst 0, 1) := by decide +kernel
theorem dX10_readTelling_121 : decode cX10_readTelling 121 = .ok (.aload_n 0, 1) := by decide +kernel
theorem dX10_readTelling_122 : decode cX10_readTelling 122 = .ok (.getfield 41, 3) := by decide +kernel
theorem dX10_readTelling_125 : decode cX10_readTelling 125 = .ok (.iconst 0, 1) := by decide +kernel
theorem dX10_readTelling_126 : decode cX10_readTelling 126 = .ok (.iaload, 1) := by decide +kernel
theorem dX10_readTelling_127 : decode cX10_readTelling 127 = .ok (.invokevirtual 183, 3) := by decide +kernel
theorem dX10_readTelling_130 : decode cX10_readTelling 130 = .ok (.istore_n 3, 1) := by decide +kernel
theorem dX10_readTelling_131 : decode cX10_readTelling 131 = .ok (.iload_n 3, 1) := by decide +kernel
theorem dX10_readTelling_132 : decode cX10_readTelling 132 = .ok (.ifCond .lt 11, 3) := by decide +kernel
theorem dX10_readTelling_135 : decode cX10_readTelling 135 = .ok (.iload_n 2, 1) := by decide +kernel
theorem dX10_readTelling_136 : decode cX10_readTelling 136 = .ok (.iload_n 3, 1) := by decide +kernel
theorem dX10_readTelling_137 : decode cX10_readTelling 137 = .ok (.invokestatic 213, 3) := by decide +kernel
theorem dX10_readTelling_140 : decode cX10_readTelling 140 = .ok (.ifCond .eq 9, 3) := by decide +kernel
theorem dX10_readTelling_143 : decode cX10_readTelling 143 = .ok (.aload_n 0, 1) := by decide +kernel
theorem dX10_readTelling_144 : decode cX10_readTelling 144 = .ok (.iconst 3, 1) := by decide +kernel
theorem dX10_readTelling_145 : decode cX10_readTelling 145 = .ok (.invokevirtual 166, 3) := by decide +kernel
theorem dX10_readTelling_148 : decode cX10_readTelling 148 = .ok (.ireturn, 1) := by decide +kernel
theorem dX10_readTelling_149 : decode cX10_readTelling 149 = .ok (.iload_n 2, 1) := by decide +kernel
theorem dX10_readTelling_150 : decode cX10_readTelling 150 = .ok (.iconst 1, 1) := by decide +kernel
theorem dX10_readTelling_151 : decode cX10_readTelling 151 = .ok (.iload_n 3, 1) := by decide +kernel
theorem dX10_readTelling_152 : decode cX10_readTelling 152 = .ok (.ishl, 1) := by decide +kernel
theorem dX10_readTelling_153 : decode cX10_readTelling 153 = .ok (.ior, 1) := by decide +kernel
theorem dX10_readTelling_154 : decode cX10_readTelling 154 = .ok (.istore_n 2, 1) := by decide +kernel
theorem dX10_readTelling_155 : decode cX10_readTelling 155 = .ok (.aload_n 0, 1) := by decide +kernel
theorem dX10_readTelling_156 : decode cX10_readTelling 156 = .ok (.invokevirtual 169, 3) := by decide +kernel
theorem dX10_readTelling_159 : decode cX10_readTelling 159 = .ok (.goto (-62), 3) := by decide +kernel
theorem dX10_readTelling_162 : decode cX10_readTelling 162 = .ok (.aload_n 0, 1) := by decide +kernel
theorem dX10_readTelling_163 : decode cX10_readTelling 163 = .ok (.getfield 48, 3) := by decide +kernel
theorem dX10_readTelling_166 : decode cX10_readTelling 166 = .ok (.iconst 3, 1) := by decide +kernel
theorem dX10_readTelling_167 : decode cX10_readTelling 167 = .ok (.aload_n 0, 1) := by decide +kernel
theorem dX10_readTelling_168 : decode cX10_readTelling 168 = .ok (.getfield 251, 3) := by decide +kernel
theorem dX10_readTelling_171 : decode cX10_readTelling 171 = .ok (.imul, 1) := by decide +kernel
theorem dX10_readTelling_172 : decode cX10_readTelling 172 = .ok (.iconst 2, 1) := by decide +kernel
theorem dX10_readTelling_173 : decode cX10_readTelling 173 = .ok (.iadd, 1) := by decide +kernel
theorem dX10_readTelling_174 : decode cX10_readTelling 174 = .ok (.iload_n 2, 1) := by decide +kernel
theorem dX10_readTelling_175 : decode cX10_readTelling 175 = .ok (.iastore, 1) := by decide +kernel
theorem dX10_readTelling_176 : decode cX10_readTelling 176 = .ok (.iconst 1, 1) := by decide +kernel
theorem dX10_readTelling_177 : decode cX10_readTelling 177 = .ok (.ireturn, 1) := by decide +kernel
theorem dX10_tellings_0 : decode cX10_tellings 0 = .ok (.aload_n 0, 1) := by decide +kernel
theorem dX10_tellings_1 : decode cX10_tellings 1 = .ok (.iconst 0, 1) := by decide +kernel
theorem dX10_tellings_2 : decode cX10_tellings 2 = .ok (.putfield 1, 3) := by decide +kernel
theorem dX10_tellings_5 : decode cX10_tellings 5 = .ok (.aload_n 0, 1) := by decide +kernel
theorem dX10_tellings_6 : decode cX10_tellings 6 = .ok (.sipush 600, 3) := by decide +kernel
theorem dX10_tellings_9 : decode cX10_tellings 9 = .ok (.invokevirtual 219, 3) := by decide +kernel
theorem dX10_tellings_12 : decode cX10_tellings 12 = .ok (.aload_n 0, 1) := by decide +kernel
theorem dX10_tellings_13 : decode cX10_tellings 13 = .ok (.iconst 0, 1) := by decide +kernel
theorem dX10_tellings_14 : decode cX10_tellings 14 = .ok (.putfield 157, 3) := by decide +kernel
theorem dX10_tellings_17 : decode cX10_tellings 17 = .ok (.aload_n 0, 1) := by decide +kernel
theorem dX10_tellings_18 : decode cX10_tellings 18 = .ok (.iconst 0, 1) := by decide +kernel
theorem dX10_tellings_19 : decode cX10_tellings 19 = .ok (.putfield 251, 3) := by decide +kernel
theorem dX10_tellings_22 : decode cX10_tellings 22 = .ok (.aload_n 0, 1) := by decide +kernel
theorem dX10_tellings_23 : decode cX10_tellings 23 = .ok (.invokevirtual 169, 3) := by decide +kernel
theorem dX10_tellings_26 : decode cX10_tellings 26 = .ok (.aload_n 0, 1) := by decide +kernel
theorem dX10_tellings_27 : decode cX10_tellings 27 = .ok (.getfield 140, 3) := by decide +kernel
theorem dX10_tellings_30 : decode cX10_tellings 30 = .ok (.ifCond .eq 39, 3) := by decide +kernel
theorem dX10_tellings_33 : decode cX10_tellings 33 = .ok (.aload_n 0, 1) := by decide +kernel
theorem dX10_tellings_34 : decode cX10_tellings 34 = .ok (.invokevirtual 254, 3) := by decide +kernel
theorem dX10_tellings_37 : decode cX10_tellings 37 = .ok (.ifCond .eq 12, 3) := by decide +kernel
theorem dX10_tellings_40 : decode cX10_tellings 40 = .ok (.aload_n 0, 1) := by decide +kernel
theorem dX10_tellings_41 : decode cX10_tellings 41 = .ok (.bipush 59, 2) := by decide +kernel
theorem dX10_tellings_43 : decode cX10_tellings 43 = .ok (.invokevirtual 228, 3) := by decide +kernel
theorem dX10_tellings_46 : decode cX10_tellings 46 = .ok (.ifCond .ne 10, 3) := by decide +kernel
theorem dX10_tellings_49 : decode cX10_tellings 49 = .ok (.iconst (-1), 1) := by decide +kernel
theorem dX10_tellings_50 : decode cX10_tellings 50 = .ok (.aload_n 0, 1) := by decide +kernel
theorem dX10_tellings_51 : decode cX10_tellings 51 = .ok (.getfield 160, 3) := by decide +kernel
theorem dX10_tellings_54 : decode cX10_tellings 54 = .ok (.isub, 1) := by decide +kernel
theorem dX10_tellings_55 : decode cX10_tellings 55 = .ok (.ireturn, 1) := by decide +kernel
theorem dX10_tellings_56 : decode cX10_tellings 56 = .ok (.aload_n 0, 1) := by decide +kernel
theorem dX10_tellings_57 : decode cX10_tellings 57 = .ok (.dup, 1) := by decide +kernel
theorem dX10_tellings_58 : decode cX10_tellings 58 = .ok (.getfield 251, 3) := by decide +kernel
theorem dX10_tellings_61 : decode cX10_tellings 61 = .ok (.iconst 1, 1) := by decide +kernel
theorem dX10_tellings_62 : decode cX10_tellings 62 = .ok (.iadd, 1) := by decide +kernel
theorem dX10_tellings_63 : decode cX10_tellings 63 = .ok (.putfield 251, 3) := by decide +kernel
theorem dX10_tellings_66 : decode cX10_tellings 66 = .ok (.goto (-40), 3) := by decide +kernel
theorem dX10_tellings_69 : decode cX10_tellings 69 = .ok (.aload_n 0, 1) := by decide +kernel
theorem dX10_tellings_70 : decode cX10_tellings 70 = .ok (.getfield 41, 3) := by decide +kernel
theorem dX10_tellings_73 : decode cX10_tellings 73 = .ok (.sipush 169, 3) := by decide +kernel
theorem dX10_tellings_76 : decode cX10_tellings 76 = .ok (.aload_n 0, 1) := by decide +kernel
theorem dX10_tellings_77 : decode cX10_tellings 77 = .ok (.getfield 251, 3) := by decide +kernel
theorem dX10_tellings_80 : decode cX10_tellings 80 = .ok (.iastore, 1) := by decide +kernel
theorem dX10_tellings_81 : decode cX10_tellings 81 = .ok (.iconst 0, 1) := by decide +kernel
theorem dX10_tellings_82 : decode cX10_tellings 82 = .ok (.istore_n 1, 1) := by decide +kernel
theorem dX10_tellings_83 : decode cX10_tellings 83 = .ok (.iload_n 1, 1) := by decide +kernel
theorem dX10_tellings_84 : decode cX10_tellings 84 = .ok (.iconst 3, 1) := by decide +kernel
theorem dX10_tellings_85 : decode cX10_tellings 85 = .ok (.aload_n 0, 1) := by decide +kernel
theorem dX10_tellings_86 : decode cX10_tellings 86 = .ok (.getfield 251, 3) := by decide +kernel
theorem dX10_tellings_89 : decode cX10_tellings 89 = .ok (.imul, 1) := by decide +kernel
theorem dX10_tellings_90 : decode cX10_tellings 90 = .ok (.if_icmp .ge 25, 3) := by decide +kernel
theorem dX10_tellings_93 : decode cX10_tellings 93 = .ok (.aload_n 0, 1) := by decide +kernel
theorem dX10_tellings_94 : decode cX10_tellings 94 = .ok (.getfield 41, 3) := by decide +kernel
theorem dX10_tellings_97 : decode cX10_tellings 97 = .ok (.sipush 170, 3) := by decide +kernel
theorem dX10_tellings_100 : decode cX10_tellings 100 = .ok (.iload_n 1, 1) := by decide +kernel
theorem dX10_tellings_101 : decode cX10_tellings 101 = .ok (.iadd, 1) := by decide +kernel
theorem dX10_tellings_102 : decode cX10_tellings 102 = .ok (.aload_n 0, 1) := by decide +kernel
theorem dX10_tellings_103 : decode cX10_tellings 103 = .ok (.getfield 48, 3) := by decide +kernel
theorem dX10_tellings_106 : decode cX10_tellings 106 = .ok (.iload_n 1, 1) := by decide +kernel
theorem dX10_tellings_107 : decode cX10_tellings 107 = .ok (.iaload, 1) := by decide +kernel
theorem dX10_tellings_108 : decode cX10_tellings 108 = .ok (.iastore, 1) := by decide +kernel
theorem dX10_tellings_109 : decode cX10_tellings 109 = .ok (.iinc 1 1, 3) := by decide +kernel
theorem dX10_tellings_112 : decode cX10_tellings 112 = .ok (.goto (-29), 3) := by decide +kernel
theorem dX10_tellings_115 : decode cX10_tellings 115 = .ok (.aload_n 0, 1) := by decide +kernel
theorem dX10_tellings_116 : decode cX10_tellings 116 = .ok (.getfield 251, 3) := by decide +kernel
theorem dX10_tellings_119 : decode cX10_tellings 119 = .ok (.ireturn, 1) := by decide +kernel
theorem dX10_isSet_0 : decode cX10_isSet 0 = .ok (.iload_n 1, 1) := by decide +kernel
theorem dX10_isSet_1 : decode cX10_isSet 1 = .ok (.iconst 0, 1) := by decide +kernel
theorem dX10_isSet_2 : decode cX10_isSet 2 = .ok (.iconst 1, 1) := by decide +kernel
theorem dX10_isSet_3 : decode cX10_isSet 3 = .ok (.aload_n 0, 1) := by decide +kernel
theorem dX10_isSet_4 : decode cX10_isSet 4 = .ok (.getfield 41, 3) := by decide +kernel
theorem dX10_isSet_7 : decode cX10_isSet 7 = .ok (.iconst 0, 1) := by decide +kernel
theorem dX10_isSet_8 : decode cX10_isSet 8 = .ok (.iaload, 1) := by decide +kernel
theorem dX10_isSet_9 : decode cX10_isSet 9 = .ok (.ishl, 1) := by decide +kernel
theorem dX10_isSet_10 : decode cX10_isSet 10 = .ok (.iconst 1, 1) := by decide +kernel
theorem dX10_isSet_11 : decode cX10_isSet 11 = .ok (.isub, 1) := by decide +kernel
theorem dX10_isSet_12 : decode cX10_isSet 12 = .ok (.invokestatic 172, 3) := by decide +kernel
theorem dX10_isSet_15 : decode cX10_isSet 15 = .ok (.ireturn, 1) := by decide +kernel
theorem dX10_tell_0 : decode cX10_tell 0 = .ok (.aload_n 0, 1) := by decide +kernel
theorem dX10_tell_1 : decode cX10_tell 1 = .ok (.iconst 0, 1) := by decide +kernel
theorem dX10_tell_2 : decode cX10_tell 2 = .ok (.putfield 1, 3) := by decide +kernel
theorem dX10_tell_5 : decode cX10_tell 5 = .ok (.aload_n 0, 1) := by decide +kernel
theorem dX10_tell_6 : decode cX10_tell 6 = .ok (.iload_n 1, 1) := by decide +kernel
theorem dX10_tell_7 : decode cX10_tell 7 = .ok (.invokevirtual 248, 3) := by decide +kernel
theorem dX10_tell_10 : decode cX10_tell 10 = .ok (.ifCond .eq 31, 3) := by decide +kernel
theorem dX10_tell_13 : decode cX10_tell 13 = .ok (.iload_n 2, 1) := by decide +kernel
theorem dX10_tell_14 : decode cX10_tell 14 = .ok (.invokestatic 245, 3) := by decide +kernel
theorem dX10_tell_17 : decode cX10_tell 17 = .ok (.ifCond .eq 24, 3) := by decide +kernel
theorem dX10_tell_20 : decode cX10_tell 20 = .ok (.aload_n 0, 1) := by decide +kernel
theorem dX10_tell_21 : decode cX10_tell 21 = .ok (.iload_n 3, 1) := by decide +kernel
theorem dX10_tell_22 : decode cX10_tell 22 = .ok (.invokevirtual 257, 3) := by decide +kernel
theorem dX10_tell_25 : decode cX10_tell 25 = .ok (.ifCond .eq 16, 3) := by decide +kernel
theorem dX10_tell_28 : decode cX10_tell 28 = .ok (.aload_n 0, 1) := by decide +kernel
theorem dX10_tell_29 : decode cX10_tell 29 = .ok (.getfield 41, 3) := by decide +kernel
theorem dX10_tell_32 : decode cX10_tell 32 = .ok (.sipush 169, 3) := by decide +kernel
theorem dX10_tell_35 : decode cX10_tell 35 = .ok (.iaload, 1) := by decide +kernel
theorem dX10_tell_36 : decode cX10_tell 36 = .ok (.bipush 40, 2) := by decide +kernel
theorem dX10_tell_38 : decode cX10_tell 38 = .ok (.if_icmp .ne 5, 3) := by decide +kernel
theorem dX10_tell_41 : decode cX10_tell 41 = .ok (.iconst (-1), 1) := by decide +kernel
theorem dX10_tell_42 : decode cX10_tell 42 = .ok (.ireturn, 1) := by decide +kernel
theorem dX10_tell_43 : decode cX10_tell 43 = .ok (.sipush 170, 3) := by decide +kernel
theorem dX10_tell_46 : decode cX10_tell 46 = .ok (.iconst 3, 1) := by decide +kernel
theorem dX10_tell_47 : decode cX10_tell 47 = .ok (.aload_n 0, 1) := by decide +kernel
theorem dX10_tell_48 : decode cX10_tell 48 = .ok (.getfield 41, 3) := by decide +kernel
theorem dX10_tell_51 : decode cX10_tell 51 = .ok (.sipush 169, 3) := by decide +kernel
theorem dX10_tell_54 : decode cX10_tell 54 = .ok (.iaload, 1) := by decide +kernel
theorem dX10_tell_55 : decode cX10_tell 55 = .ok (.imul, 1) := by decide +kernel
theorem dX10_tell_56 : decode cX10_tell 56 = .ok (.iadd, 1) := by decide +kernel
theorem dX10_tell_57 : decode cX10_tell 57 = .ok (.istore 4, 2) := by decide +kernel
theorem dX10_tell_59 : decode cX10_tell 59 = .ok (.aload_n 0, 1) := by decide +kernel
theorem dX10_tell_60 : decode cX10_tell 60 = .ok (.getfield 41, 3) := by decide +kernel
theorem dX10_tell_63 : decode cX10_tell 63 = .ok (.iload 4, 2) := by decide +kernel
theorem dX10_tell_65 : decode cX10_tell 65 = .ok (.iload_n 1, 1) := by decide +kernel
theorem dX10_tell_66 : decode cX10_tell 66 = .ok (.iastore, 1) := by decide +kernel
theorem dX10_tell_67 : decode cX10_tell 67 = .ok (.aload_n 0, 1) := by decide +kernel
theorem dX10_tell_68 : decode cX10_tell 68 = .ok (.getfield 41, 3) := by decide +kernel
theorem dX10_tell_71 : decode cX10_tell 71 = .ok (.iload 4, 2) := by decide +kernel
theorem dX10_tell_73 : decode cX10_tell 73 = .ok (.iconst 1, 1) := by decide +kernel
theorem dX10_tell_74 : decode cX10_tell 74 = .ok (.iadd, 1) := by decide +kernel
theorem dX10_tell_75 : decode cX10_tell 75 = .ok (.iload_n 2, 1) := by decide +kernel
theorem dX10_tell_76 : decode cX10_tell 76 = .ok (.iastore, 1) := by decide +kernel
theorem dX10_tell_77 : decode cX10_tell 77 = .ok (.aload_n 0, 1) := by decide +kernel
theorem dX10_tell_78 : decode cX10_tell 78 = .ok (.getfield 41, 3) := by decide +kernel
theorem dX10_tell_81 : decode cX10_tell 81 = .ok (.iload 4, 2) := by decide +kernel
theorem dX10_tell_83 : decode cX10_tell 83 = .ok (.iconst 2, 1) := by decide +kernel
theorem dX10_tell_84 : decode cX10_tell 84 = .ok (.iadd, 1) := by decide +kernel
theorem dX10_tell_85 : decode cX10_tell 85 = .ok (.iload_n 3, 1) := by decide +kernel
theorem dX10_tell_86 : decode cX10_tell 86 = .ok (.iastore, 1) := by decide +kernel
theorem dX10_tell_87 : decode cX10_tell 87 = .ok (.aload_n 0, 1) := by decide +kernel
theorem dX10_tell_88 : decode cX10_tell 88 = .ok (.getfield 41, 3) := by decide +kernel
theorem dX10_tell_91 : decode cX10_tell 91 = .ok (.sipush 169, 3) := by decide +kernel
theorem dX10_tell_94 : decode cX10_tell 94 = .ok (.dup2, 1) := by decide +kernel
theorem dX10_tell_95 : decode cX10_tell 95 = .ok (.iaload, 1) := by decide +kernel
theorem dX10_tell_96 : decode cX10_tell 96 = .ok (.iconst 1, 1) := by decide +kernel
theorem dX10_tell_97 : decode cX10_tell 97 = .ok (.iadd, 1) := by decide +kernel
theorem dX10_tell_98 : decode cX10_tell 98 = .ok (.iastore, 1) := by decide +kernel
theorem dX10_tell_99 : decode cX10_tell 99 = .ok (.aload_n 0, 1) := by decide +kernel
theorem dX10_tell_100 : decode cX10_tell 100 = .ok (.getfield 41, 3) := by decide +kernel
theorem dX10_tell_103 : decode cX10_tell 103 = .ok (.sipush 169, 3) := by decide +kernel
theorem dX10_tell_106 : decode cX10_tell 106 = .ok (.iaload, 1) := by decide +kernel
theorem dX10_tell_107 : decode cX10_tell 107 = .ok (.iconst 1, 1) := by decide +kernel
theorem dX10_tell_108 : decode cX10_tell 108 = .ok (.isub, 1) := by decide +kernel
theorem dX10_tell_109 : decode cX10_tell 109 = .ok (.ireturn, 1) := by decide +kernel
theorem dX10_untell_0 : decode cX10_untell 0 = .ok (.aload_n 0, 1) := by decide +kernel
theorem dX10_untell_1 : decode cX10_untell 1 = .ok (.iconst 0, 1) := by decide +kernel
theorem dX10_untell_2 : decode cX10_untell 2 = .ok (.putfield 1, 3) := by decide +kernel
theorem dX10_untell_5 : decode cX10_untell 5 = .ok (.aload_n 0, 1) := by decide +kernel
theorem dX10_untell_6 : decode cX10_untell 6 = .ok (.getfield 41, 3) := by decide +kernel
theorem dX10_untell_9 : decode cX10_untell 9 = .ok (.sipush 169, 3) := by decide +kernel
theorem dX10_untell_12 : decode cX10_untell 12 = .ok (.iaload, 1) := by decide +kernel
theorem dX10_untell_13 : decode cX10_untell 13 = .ok (.ifCond .ne 5, 3) := by decide +kernel
theorem dX10_untell_16 : decode cX10_untell 16 = .ok (.iconst (-1), 1) := by decide +kernel
theorem dX10_untell_17 : decode cX10_untell 17 = .ok (.ireturn, 1) := by decide +kernel
theorem dX10_untell_18 : decode cX10_untell 18 = .ok (.aload_n 0, 1) := by decide +kernel
theorem dX10_untell_19 : decode cX10_untell 19 = .ok (.getfield 41, 3) := by decide +kernel
theorem dX10_untell_22 : decode cX10_untell 22 = .ok (.sipush 169, 3) := by decide +kernel
theorem dX10_untell_25 : decode cX10_untell 25 = .ok (.dup2, 1) := by decide +kernel
theorem dX10_untell_26 : decode cX10_untell 26 = .ok (.iaload, 1) := by decide +kernel
theorem dX10_untell_27 : decode cX10_untell 27 = .ok (.iconst 1, 1) := by decide +kernel
theorem dX10_untell_28 : decode cX10_untell 28 = .ok (.isub, 1) := by decide +kernel
theorem dX10_untell_29 : decode cX10_untell 29 = .ok (.iastore, 1) := by decide +kernel
theorem dX10_untell_30 : decode cX10_untell 30 = .ok (.aload_n 0, 1) := by decide +kernel
theorem dX10_untell_31 : decode cX10_untell 31 = .ok (.getfield 41, 3) := by decide +kernel
theorem dX10_untell_34 : decode cX10_untell 34 = .ok (.sipush 169, 3) := by decide +kernel
theorem dX10_untell_37 : decode cX10_untell 37 = .ok (.iaload, 1) := by decide +kernel
theorem dX10_untell_38 : decode cX10_untell 38 = .ok (.ireturn, 1) := by decide +kernel
theorem dX10_telling_0 : decode cX10_telling 0 = .ok (.aload_n 0, 1) := by decide +kernel
theorem dX10_telling_1 : decode cX10_telling 1 = .ok (.iload_n 1, 1) := by decide +kernel
theorem dX10_telling_2 : decode cX10_telling 2 = .ok (.iconst 0, 1) := by decide +kernel
theorem dX10_telling_3 : decode cX10_telling 3 = .ok (.aload_n 0, 1) := by decide +kernel
theorem dX10_telling_4 : decode cX10_telling 4 = .ok (.getfield 41, 3) := by decide +kernel
theorem dX10_telling_7 : decode cX10_telling 7 = .ok (.sipush 169, 3) := by decide +kernel
theorem dX10_telling_10 : decode cX10_telling 10 = .ok (.iaload, 1) := by decide +kernel
theorem dX10_telling_11 : decode cX10_telling 11 = .ok (.iconst 1, 1) := by decide +kernel
theorem dX10_telling_12 : decode cX10_telling 12 = .ok (.isub, 1) := by decide +kernel
theorem dX10_telling_13 : decode cX10_telling 13 = .ok (.invokestatic 172, 3) := by decide +kernel
theorem dX10_telling_16 : decode cX10_telling 16 = .ok (.ifCond .eq 12, 3) := by decide +kernel
theorem dX10_telling_19 : decode cX10_telling 19 = .ok (.iload_n 2, 1) := by decide +kernel
theorem dX10_telling_20 : decode cX10_telling 20 = .ok (.iconst 0, 1) := by decide +kernel
theorem dX10_telling_21 : decode cX10_telling 21 = .ok (.iconst 2, 1) := by decide +kernel
theorem dX10_telling_22 : decode cX10_telling 22 = .ok (.invokestatic 172, 3) := by decide +kernel
theorem dX10_telling_25 : decode cX10_telling 25 = .ok (.ifCond .ne 7, 3) := by decide +kernel
theorem dX10_telling_28 : decode cX10_telling 28 = .ok (.iconst 1, 1) := by decide +kernel
theorem dX10_telling_29 : decode cX10_telling 29 = .ok (.goto 4, 3) := by decide +kernel
theorem dX10_telling_32 : decode cX10_telling 32 = .ok (.iconst 0, 1) := by decide +kernel
theorem dX10_telling_33 : decode cX10_telling 33 = .ok (.invokevirtual 237, 3) := by decide +kernel
theorem dX10_telling_36 : decode cX10_telling 36 = .ok (.ifCond .eq 7, 3) := by decide +kernel
theorem dX10_telling_39 : decode cX10_telling 39 = .ok (.iconst 0, 1) := by decide +kernel
theorem dX10_telling_40 : decode cX10_telling 40 = .ok (.goto 17, 3) := by decide +kernel
theorem dX10_telling_43 : decode cX10_telling 43 = .ok (.aload_n 0, 1) := by decide +kernel
theorem dX10_telling_44 : decode cX10_telling 44 = .ok (.getfield 41, 3) := by decide +kernel
theorem dX10_telling_47 : decode cX10_telling 47 = .ok (.sipush 170, 3) := by decide +kernel
theorem dX10_telling_50 : decode cX10_telling 50 = .ok (.iconst 3, 1) := by decide +kernel
theorem dX10_telling_51 : decode cX10_telling 51 = .ok (.iload_n 1, 1) := by decide +kernel
theorem dX10_telling_52 : decode cX10_telling 52 = .ok (.imul, 1) := by decide +kernel
theorem dX10_telling_53 : decode cX10_telling 53 = .ok (.iadd, 1) := by decide +kernel
theorem dX10_telling_54 : decode cX10_telling 54 = .ok (.iload_n 2, 1) := by decide +kernel
theorem dX10_telling_55 : decode cX10_telling 55 = .ok (.iadd, 1) := by decide +kernel
theorem dX10_telling_56 : decode cX10_telling 56 = .ok (.iaload, 1) := by decide +kernel
theorem dX10_telling_57 : decode cX10_telling 57 = .ok (.ireturn, 1) := by decide +kernel
theorem dX10_letting_0 : decode cX10_letting 0 = .ok (.lconst 1, 1) := by decide +kernel
theorem dX10_letting_1 : decode cX10_letting 1 = .ok (.aload_n 0, 1) := by decide +kernel
theorem dX10_letting_2 : decode cX10_letting 2 = .ok (.getfield 64, 3) := by decide +kernel
theorem dX10_letting_5 : decode cX10_letting 5 = .ok (.iload_n 2, 1) := by decide +kernel
theorem dX10_letting_6 : decode cX10_letting 6 = .ok (.iaload, 1) := by decide +kernel
theorem dX10_letting_7 : decode cX10_letting 7 = .ok (.lshl, 1) := by decide +kernel
theorem dX10_letting_8 : decode cX10_letting 8 = .ok (.lconst 1, 1) := by decide +kernel
theorem dX10_letting_9 : decode cX10_letting 9 = .ok (.lsub, 1) := by decide +kernel
theorem dX10_letting_10 : decode cX10_letting 10 = .ok (.lstore 5, 2) := by decide +kernel
theorem dX10_letting_12 : decode cX10_letting 12 = .ok (.iload_n 1, 1) := by decide +kernel
theorem dX10_letting_13 : decode cX10_letting 13 = .ok (.iconst 1, 1) := by decide +kernel
theorem dX10_letting_14 : decode cX10_letting 14 = .ok (.if_icmp .le 36, 3) := by decide +kernel
theorem dX10_letting_17 : decode cX10_letting 17 = .ok (.iload_n 1, 1) := by decide +kernel
theorem dX10_letting_18 : decode cX10_letting 18 = .ok (.iconst 2, 1) := by decide +kernel
theorem dX10_letting_19 : decode cX10_letting 19 = .ok (.isub, 1) := by decide +kernel
theorem dX10_letting_20 : decode cX10_letting 20 = .ok (.iconst 2, 1) := by decide +kernel
theorem dX10_letting_21 : decode cX10_letting 21 = .ok (.idiv, 1) := by decide +kernel
theorem dX10_letting_22 : decode cX10_letting 22 = .ok (.iload_n 2, 1) := by decide +kernel
theorem dX10_letting_23 : decode cX10_letting 23 = .ok (.if_icmp .ne 27, 3) := by decide +kernel
theorem dX10_letting_26 : decode cX10_letting 26 = .ok (.iload 4, 2) := by decide +kernel
theorem dX10_letting_28 : decode cX10_letting 28 = .ok (.iload_n 1, 1) := by decide +kernel
theorem dX10_letting_29 : decode cX10_letting 29 = .ok (.iconst 2, 1) := by decide +kernel
theorem dX10_letting_30 : decode cX10_letting 30 = .ok (.irem, 1) := by decide +kernel
theorem dX10_letting_31 : decode cX10_letting 31 = .ok (.iconst 1, 1) := by decide +kernel
theorem dX10_letting_32 : decode cX10_letting 32 = .ok (.if_icmp .ne 7, 3) := by decide +kernel
theorem dX10_letting_35 : decode cX10_letting 35 = .ok (.iconst 1, 1) := by decide +kernel
theorem dX10_letting_36 : decode cX10_letting 36 = .ok (.goto 4, 3) := by decide +kernel
theorem dX10_letting_39 : decode cX10_letting 39 = .ok (.iconst 0, 1) := by decide +kernel
theorem dX10_letting_40 : decode cX10_letting 40 = .ok (.if_icmp .ne 8, 3) := by decide +kernel
theorem dX10_letting_43 : decode cX10_letting 43 = .ok (.lload 5, 2) := by decide +kernel
theorem dX10_letting_45 : decode cX10_letting 45 = .ok (.goto 4, 3) := by decide +kernel
theorem dX10_letting_48 : decode cX10_letting 48 = .ok (.lconst 0, 1) := by decide +kernel
theorem dX10_letting_49 : decode cX10_letting 49 = .ok (.lreturn, 1) := by decide +kernel
theorem dX10_letting_50 : decode cX10_letting 50 = .ok (.iload_n 1, 1) := by decide +kernel
theorem dX10_letting_51 : decode cX10_letting 51 = .ok (.iconst 1, 1) := by decide +kernel
theorem dX10_letting_52 : decode cX10_letting 52 = .ok (.if_icmp .ne 9, 3) := by decide +kernel
theorem dX10_letting_55 : decode cX10_letting 55 = .ok (.iload_n 3, 1) := by decide +kernel
theorem dX10_letting_56 : decode cX10_letting 56 = .ok (.iconst 1, 1) := by decide +kernel
theorem dX10_letting_57 : decode cX10_letting 57 = .ok (.isub, 1) := by decide +kernel
theorem dX10_letting_58 : decode cX10_letting 58 = .ok (.goto 4, 3) := by decide +kernel
theorem dX10_letting_61 : decode cX10_letting 61 = .ok (.iload_n 3, 1) := by decide +kernel
theorem dX10_letting_62 : decode cX10_letting 62 = .ok (.istore 7, 2) := by decide +kernel
theorem dX10_letting_64 : decode cX10_letting 64 = .ok (.lconst 0, 1) := by decide +kernel
theorem dX10_letting_65 : decode cX10_letting 65 = .ok (.lstore 8, 2) := by decide +kernel
theorem dX10_letting_67 : decode cX10_letting 67 = .ok (.iconst 0, 1) := by decide +kernel
theorem dX10_letting_68 : decode cX10_letting 68 = .ok (.istore 10, 2) := by decide +kernel
theorem dX10_letting_70 : decode cX10_letting 70 = .ok (.iload 10, 2) := by decide +kernel
theorem dX10_letting_72 : decode cX10_letting 72 = .ok (.aload_n 0, 1) := by decide +kernel
theorem dX10_letting_73 : decode cX10_letting 73 = .ok (.getfield 64, 3) := by decide +kernel
theorem dX10_letting_76 : decode cX10_letting 76 = .ok (.iload_n 2, 1) := by decide +kernel
theorem dX10_letting_77 : decode cX10_letting 77 = .ok (.iaload, 1) := by decide +kernel
theorem dX10_letting_78 : decode cX10_letting 78 = .ok (.if_icmp .ge 53, 3) := by decide +kernel
theorem dX10_letting_81 : decode cX10_letting 81 = .ok (.iload 7, 2) := by decide +kernel
theorem dX10_letting_83 : decode cX10_letting 83 = .ok (.ifCond .lt 27, 3) := by decide +kernel
theorem dX10_letting_86 : decode cX10_letting 86 = .ok (.aload_n 0, 1) := by decide +kernel
theorem dX10_letting_87 : decode cX10_letting 87 = .ok (.getfield 61, 3) := by decide +kernel
theorem dX10_letting_90 : decode cX10_letting 90 = .ok (.bipush 36, 2) := by decide +kernel
theorem dX10_letting_92 : decode cX10_letting 92 = .ok (.iload_n 2, 1) := by decide +kernel
theorem dX10_letting_93 : decode cX10_letting 93 = .ok (.imul, 1) := by decide +kernel
theorem dX10_letting_94 : decode cX10_letting 94 = .ok (.iload 10, 2) := by decide +kernel
theorem dX10_letting_96 : decode cX10_letting 96 = .ok (.iadd, 1) := by decide +kernel
theorem dX10_letting_97 : decode cX10_letting 97 = .ok (.iaload, 1) := by decide +kernel
theorem dX10_letting_98 : decode cX10_letting 98 = .ok (.iload 7, 2) := by decide +kernel
theorem dX10_letting_100 : decode cX10_letting 100 = .ok (.invokestatic 213, 3) := by decide +kernel
theorem dX10_letting_103 : decode cX10_letting 103 = .ok (.ifCond .eq 7, 3) := by decide +kernel
theorem dX10_letting_106 : decode cX10_letting 106 = .ok (.iconst 1, 1) := by decide +kernel
theorem dX10_letting_107 : decode cX10_letting 107 = .ok (.goto 4, 3) := by decide +kernel
theorem dX10_letting_110 : decode cX10_letting 110 = .ok (.iconst 0, 1) := by decide +kernel
theorem dX10_letting_111 : decode cX10_letting 111 = .ok (.iload 4, 2) := by decide +kernel
theorem dX10_letting_113 : decode cX10_letting 113 = .ok (.if_icmp .ne 12, 3) := by decide +kernel
theorem dX10_letting_116 : decode cX10_letting 116 = .ok (.lload 8, 2) := by decide +kernel
theorem dX10_letting_118 : decode cX10_letting 118 = .ok (.lconst 1, 1) := by decide +kernel
theorem dX10_letting_119 : decode cX10_letting 119 = .ok (.iload 10, 2) := by decide +kernel
theorem dX10_letting_121 : decode cX10_letting 121 = .ok (.lshl, 1) := by decide +kernel
theorem dX10_letting_122 : decode cX10_letting 122 = .ok (.lor, 1) := by decide +kernel
theorem dX10_letting_123 : decode cX10_letting 123 = .ok (.lstore 8, 2) := by decide +kernel
theorem dX10_letting_125 : decode cX10_letting 125 = .ok (.iinc 10 1, 3) := by decide +kernel
theorem dX10_letting_128 : decode cX10_letting 128 = .ok (.goto (-58), 3) := by decide +kernel
theorem dX10_letting_131 : decode cX10_letting 131 = .ok (.lload 8, 2) := by decide +kernel
theorem dX10_letting_133 : decode cX10_letting 133 = .ok (.lreturn, 1) := by decide +kernel
theorem dX10_letAll_0 : decode cX10_letAll 0 = .ok (.iconst 0, 1) := by decide +kernel
theorem dX10_letAll_1 : decode cX10_letAll 1 = .ok (.istore_n 2, 1) := by decide +kernel
theorem dX10_letAll_2 : decode cX10_letAll 2 = .ok (.iload_n 2, 1) := by decide +kernel
theorem dX10_letAll_3 : decode cX10_letAll 3 = .ok (.aload_n 0, 1) := by decide +kernel
theorem dX10_letAll_4 : decode cX10_letAll 4 = .ok (.getfield 41, 3) := by decide +kernel
theorem dX10_letAll_7 : decode cX10_letAll 7 = .ok (.iconst 1, 1) := by decide +kernel
theorem dX10_letAll_8 : decode cX10_letAll 8 = .ok (.iaload, 1) := by decide +kernel
theorem dX10_letAll_9 : decode cX10_letAll 9 = .ok (.if_icmp .ge 161, 3) := by decide +kernel
theorem dX10_letAll_12 : decode cX10_letAll 12 = .ok (.iconst 0, 1) := by decide +kernel
theorem dX10_letAll_13 : decode cX10_letAll 13 = .ok (.istore_n 3, 1) := by decide +kernel
theorem dX10_letAll_14 : decode cX10_letAll 14 = .ok (.iload_n 3, 1) := by decide +kernel
theorem dX10_letAll_15 : decode cX10_letAll 15 = .ok (.iconst 2, 1) := by decide +kernel
theorem dX10_letAll_16 : decode cX10_letAll 16 = .ok (.iconst 2, 1) := by decide +kernel
theorem dX10_letAll_17 : decode cX10_letAll 17 = .ok (.aload_n 0, 1) := by decide +kernel
theorem dX10_letAll_18 : decode cX10_letAll 18 = .ok (.getfield 41, 3) := by decide +kernel
theorem dX10_letAll_21 : decode cX10_letAll 21 = .ok (.iconst 0, 1) := by decide +kernel
theorem dX10_letAll_22 : decode cX10_letAll 22 = .ok (.iaload, 1) := by decide +kernel
theorem dX10_letAll_23 : decode cX10_letAll 23 = .ok (.imul, 1) := by decide +kernel
theorem dX10_letAll_24 : decode cX10_letAll 24 = .ok (.iadd, 1) := by decide +kernel
theorem dX10_letAll_25 : decode cX10_letAll 25 = .ok (.if_icmp .ge 139, 3) := by decide +kernel
theorem dX10_letAll_28 : decode cX10_letAll 28 = .ok (.iconst 0, 1) := by decide +kernel
theorem dX10_letAll_29 : decode cX10_letAll 29 = .ok (.istore 4, 2) := by decide +kernel
theorem dX10_letAll_31 : decode cX10_letAll 31 = .ok (.iload 4, 2) := by decide +kernel
theorem dX10_letAll_33 : decode cX10_letAll 33 = .ok (.aload_n 0, 1) := by decide +kernel
theorem dX10_letAll_34 : decode cX10_letAll 34 = .ok (.getfield 41, 3) := by decide +kernel
theorem dX10_letAll_37 : decode cX10_letAll 37 = .ok (.iconst 0, 1) := by decide +kernel
theorem dX10_letAll_38 : decode cX10_letAll 38 = .ok (.iaload, 1) := by decide +kernel
theorem dX10_letAll_39 : decode cX10_letAll 39 = .ok (.if_icmp .ge 119, 3) := by decide +kernel
theorem dX10_letAll_42 : decode cX10_letAll 42 = .ok (.lconst 1, 1) := by decide +kernel
theorem dX10_letAll_43 : decode cX10_letAll 43 = .ok (.aload_n 0, 1) := by decide +kernel
theorem dX10_letAll_44 : decode cX10_letAll 44 = .ok (.getfield 64, 3) := by decide +kernel
theorem dX10_letAll_47 : decode cX10_letAll 47 = .ok (.iload 4, 2) := by decide +kernel
theorem dX10_letAll_49 : decode cX10_letAll 49 = .ok (.iaload, 1) := by decide +kernel
theorem dX10_letAll_50 : decode cX10_letAll 50 = .ok (.lshl, 1) := by decide +kernel
theorem dX10_letAll_51 : decode cX10_letAll 51 = .ok (.lconst 1, 1) := by decide +kernel
theorem dX10_letAll_52 : decode cX10_letAll 52 = .ok (.lsub, 1) := by decide +kernel
theorem dX10_letAll_53 : decode cX10_letAll 53 = .ok (.lstore 5, 2) := by decide +kernel
theorem dX10_letAll_55 : decode cX10_letAll 55 = .ok (.iconst 0, 1) := by decide +kernel
theorem dX10_letAll_56 : decode cX10_letAll 56 = .ok (.istore 7, 2) := by decide +kernel
theorem dX10_letAll_58 : decode cX10_letAll 58 = .ok (.iload 7, 2) := by decide +kernel
theorem dX10_letAll_60 : decode cX10_letAll 60 = .ok (.iload_n 1, 1) := by decide +kernel
theorem dX10_letAll_61 : decode cX10_letAll 61 = .ok (.if_icmp .ge 73, 3) := by decide +kernel
theorem dX10_letAll_64 : decode cX10_letAll 64 = .ok (.aload_n 0, 1) := by decide +kernel
theorem dX10_letAll_65 : decode cX10_letAll 65 = .ok (.getfield 41, 3) := by decide +kernel
theorem dX10_letAll_68 : decode cX10_letAll 68 = .ok (.sipush 170, 3) := by decide +kernel
theorem dX10_letAll_71 : decode cX10_letAll 71 = .ok (.iconst 3, 1) := by decide +kernel
theorem dX10_letAll_72 : decode cX10_letAll 72 = .ok (.iload 7, 2) := by decide +kernel
theorem dX10_letAll_74 : decode cX10_letAll 74 = .ok (.imul, 1) := by decide +kernel
theorem dX10_letAll_75 : decode cX10_letAll 75 = .ok (.iadd, 1) := by decide +kernel
theorem dX10_letAll_76 : decode cX10_letAll 76 = .ok (.iaload, 1) := by decide +kernel
theorem dX10_letAll_77 : decode cX10_letAll 77 = .ok (.iload_n 2, 1) := by decide +kernel
theorem dX10_letAll_78 : decode cX10_letAll 78 = .ok (.if_icmp .ne 50, 3) := by decide +kernel
theorem dX10_letAll_81 : decode cX10_letAll 81 = .ok (.lload 5, 2) := by decide +kernel
theorem dX10_letAll_83 : decode cX10_letAll 83 = .ok (.aload_n 0, 1) := by decide +kernel
theorem dX10_letAll_84 : decode cX10_letAll 84 = .ok (.iload_n 3, 1) := by decide +kernel
theorem dX10_letAll_85 : decode cX10_letAll 85 = .ok (.iload 4, 2) := by decide +kernel
theorem dX10_letAll_87 : decode cX10_letAll 87 = .ok (.aload_n 0, 1) := by decide +kernel
theorem dX10_letAll_88 : decode cX10_letAll 88 = .ok (.getfield 41, 3) := by decide +kernel
theorem dX10_letAll_91 : decode cX10_letAll 91 = .ok (.sipush 170, 3) := by decide +kernel
theorem dX10_letAll_94 : decode cX10_letAll 94 = .ok (.iconst 3, 1) := by decide +kernel
theorem dX10_letAll_95 : decode cX10_letAll 95 = .ok (.iload 7, 2) := by decide +kernel
theorem dX10_letAll_97 : decode cX10_letAll 97 = .ok (.imul, 1) := by decide +kernel
theorem dX10_letAll_98 : decode cX10_letAll 98 = .ok (.iadd, 1) := by decide +kernel
theorem dX10_letAll_99 : decode cX10_letAll 99 = .ok (.iconst 1, 1) := by decide +kernel
theorem dX10_letAll_100 : decode cX10_letAll 100 = .ok (.iadd, 1) := by decide +kernel
theorem dX10_letAll_101 : decode cX10_letAll 101 = .ok (.iaload, 1) := by decide +kernel
theorem dX10_letAll_102 : decode cX10_letAll 102 = .ok (.aload_n 0, 1) := by decide +kernel
theorem dX10_letAll_103 : decode cX10_letAll 103 = .ok (.getfield 41, 3) := by decide +kernel
theorem dX10_letAll_106 : decode cX10_letAll 106 = .ok (.sipush 170, 3) := by decide +kernel
theorem dX10_letAll_109 : decode cX10_letAll 109 = .ok (.iconst 3, 1) := by decide +kernel
theorem dX10_letAll_110 : decode cX10_letAll 110 = .ok (.iload 7, 2) := by decide +kernel
theorem dX10_letAll_112 : decode cX10_letAll 112 = .ok (.imul, 1) := by decide +kernel
theorem dX10_letAll_113 : decode cX10_letAll 113 = .ok (.iadd, 1) := by decide +kernel
theorem dX10_letAll_114 : decode cX10_letAll 114 = .ok (.iconst 2, 1) := by decide +kernel
theorem dX10_letAll_115 : decode cX10_letAll 115 = .ok (.iadd, 1) := by decide +kernel
theorem dX10_letAll_116 : decode cX10_letAll 116 = .ok (.iaload, 1) := by decide +kernel
theorem dX10_letAll_117 : decode cX10_letAll 117 = .ok (.iload 4, 2) := by decide +kernel
theorem dX10_letAll_119 : decode cX10_letAll 119 = .ok (.invokestatic 213, 3) := by decide +kernel
theorem dX10_letAll_122 : decode cX10_letAll 122 = .ok (.invokevirtual 260, 3) := by decide +kernel
theorem dX10_letAll_125 : decode cX10_letAll 125 = .ok (.land, 1) := by decide +kernel
theorem dX10_letAll_126 : decode cX10_letAll 126 = .ok (.lstore 5, 2) := by decide +kernel
theorem dX10_letAll_128 : decode cX10_letAll 128 = .ok (.iinc 7 1, 3) := by decide +kernel
theorem dX10_letAll_131 : decode cX10_letAll 131 = .ok (.goto (-73), 3) := by decide +kernel
theorem dX10_letAll_134 : decode cX10_letAll 134 = .ok (.aload_n 0, 1) := by decide +kernel
theorem dX10_letAll_135 : decode cX10_letAll 135 = .ok (.getfield 67, 3) := by decide +kernel
theorem dX10_letAll_138 : decode cX10_letAll 138 = .ok (.bipush 24, 2) := by decide +kernel
theorem dX10_letAll_140 : decode cX10_letAll 140 = .ok (.iload_n 2, 1) := by decide +kernel
theorem dX10_letAll_141 : decode cX10_letAll 141 = .ok (.imul, 1) := by decide +kernel
theorem dX10_letAll_142 : decode cX10_letAll 142 = .ok (.iconst 3, 1) := by decide +kernel
theorem dX10_letAll_143 : decode cX10_letAll 143 = .ok (.iload_n 3, 1) := by decide +kernel
theorem dX10_letAll_144 : decode cX10_letAll 144 = .ok (.imul, 1) := by decide +kernel
theorem dX10_letAll_145 : decode cX10_letAll 145 = .ok (.iadd, 1) := by decide +kernel
theorem dX10_letAll_146 : decode cX10_letAll 146 = .ok (.iload 4, 2) := by decide +kernel
theorem dX10_letAll_148 : decode cX10_letAll 148 = .ok (.iadd, 1) := by decide +kernel
theorem dX10_letAll_149 : decode cX10_letAll 149 = .ok (.lload 5, 2) := by decide +kernel
theorem dX10_letAll_151 : decode cX10_letAll 151 = .ok (.lastore, 1) := by decide +kernel
theorem dX10_letAll_152 : decode cX10_letAll 152 = .ok (.iinc 4 1, 3) := by decide +kernel
theorem dX10_letAll_155 : decode cX10_letAll 155 = .ok (.goto (-124), 3) := by decide +kernel
theorem dX10_letAll_158 : decode cX10_letAll 158 = .ok (.iinc 3 1, 3) := by decide +kernel
theorem dX10_letAll_161 : decode cX10_letAll 161 = .ok (.goto (-147), 3) := by decide +kernel
theorem dX10_letAll_164 : decode cX10_letAll 164 = .ok (.iinc 2 1, 3) := by decide +kernel
theorem dX10_letAll_167 : decode cX10_letAll 167 = .ok (.goto (-165), 3) := by decide +kernel
theorem dX10_letAll_170 : decode cX10_letAll 170 = .ok (.return_, 1) := by decide +kernel
theorem dX10_firstWays_0 : decode cX10_firstWays 0 = .ok (.iconst 0, 1) := by decide +kernel
theorem dX10_firstWays_1 : decode cX10_firstWays 1 = .ok (.istore_n 1, 1) := by decide +kernel
theorem dX10_firstWays_2 : decode cX10_firstWays 2 = .ok (.iload_n 1, 1) := by decide +kernel
theorem dX10_firstWays_3 : decode cX10_firstWays 3 = .ok (.aload_n 0, 1) := by decide +kernel
theorem dX10_firstWays_4 : decode cX10_firstWays 4 = .ok (.getfield 41, 3) := by decide +kernel
theorem dX10_firstWays_7 : decode cX10_firstWays 7 = .ok (.iconst 1, 1) := by decide +kernel
theorem dX10_firstWays_8 : decode cX10_firstWays 8 = .ok (.iaload, 1) := by decide +kernel
theorem dX10_firstWays_9 : decode cX10_firstWays 9 = .ok (.if_icmp .ge 50, 3) := by decide +kernel
theorem dX10_firstWays_12 : decode cX10_firstWays 12 = .ok (.aload_n 0, 1) := by decide +kernel
theorem dX10_firstWays_13 : decode cX10_firstWays 13 = .ok (.getfield 73, 3) := by decide +kernel
theorem dX10_firstWays_16 : decode cX10_firstWays 16 = .ok (.iload_n 1, 1) := by decide +kernel
theorem dX10_firstWays_17 : decode cX10_firstWays 17 = .ok (.iconst 0, 1) := by decide +kernel
theorem dX10_firstWays_18 : decode cX10_firstWays 18 = .ok (.iastore, 1) := by decide +kernel
theorem dX10_firstWays_19 : decode cX10_firstWays 19 = .ok (.aload_n 0, 1) := by decide +kernel
theorem dX10_firstWays_20 : decode cX10_firstWays 20 = .ok (.getfield 41, 3) := by decide +kernel
theorem dX10_firstWays_23 : decode cX10_firstWays 23 = .ok (.bipush 11, 2) := by decide +kernel
theorem dX10_firstWays_25 : decode cX10_firstWays 25 = .ok (.iload_n 1, 1) := by decide +kernel
theorem dX10_firstWays_26 : decode cX10_firstWays 26 = .ok (.iadd, 1) := by decide +kernel
theorem dX10_firstWays_27 : decode cX10_firstWays 27 = .ok (.iaload, 1) := by decide +kernel
theorem dX10_firstWays_28 : decode cX10_firstWays 28 = .ok (.aload_n 0, 1) := by decide +kernel
theorem dX10_firstWays_29 : decode cX10_firstWays 29 = .ok (.getfield 73, 3) := by decide +kernel
theorem dX10_firstWays_32 : decode cX10_firstWays 32 = .ok (.iload_n 1, 1) := by decide +kernel
theorem dX10_firstWays_33 : decode cX10_firstWays 33 = .ok (.iaload, 1) := by decide +kernel
theorem dX10_firstWays_34 : decode cX10_firstWays 34 = .ok (.invokestatic 213, 3) := by decide +kernel
theorem dX10_firstWays_37 : decode cX10_firstWays 37 = .ok (.ifCond .ne 16, 3) := by decide +kernel
theorem dX10_firstWays_40 : decode cX10_firstWays 40 = .ok (.aload_n 0, 1) := by decide +kernel
theorem dX10_firstWays_41 : decode cX10_firstWays 41 = .ok (.getfield 73, 3) := by decide +kernel
theorem dX10_firstWays_44 : decode cX10_firstWays 44 = .ok (.iload_n 1, 1) := by decide +kernel
theorem dX10_firstWays_45 : decode cX10_firstWays 45 = .ok (.dup2, 1) := by decide +kernel
theorem dX10_firstWays_46 : decode cX10_firstWays 46 = .ok (.iaload, 1) := by decide +kernel
theorem dX10_firstWays_47 : decode cX10_firstWays 47 = .ok (.iconst 1, 1) := by decide +kernel
theorem dX10_firstWays_48 : decode cX10_firstWays 48 = .ok (.iadd, 1) := by decide +kernel
theorem dX10_firstWays_49 : decode cX10_firstWays 49 = .ok (.iastore, 1) := by decide +kernel
theorem dX10_firstWays_50 : decode cX10_firstWays 50 = .ok (.goto (-31), 3) := by decide +kernel
theorem dX10_firstWays_53 : decode cX10_firstWays 53 = .ok (.iinc 1 1, 3) := by decide +kernel
theorem dX10_firstWays_56 : decode cX10_firstWays 56 = .ok (.goto (-54), 3) := by decide +kernel
theorem dX10_firstWays_59 : decode cX10_firstWays 59 = .ok (.aload_n 0, 1) := by decide +kernel
theorem dX10_firstWays_60 : decode cX10_firstWays 60 = .ok (.invokevirtual 264, 3) := by decide +kernel
theorem dX10_firstWays_63 : decode cX10_firstWays 63 = .ok (.return_, 1) := by decide +kernel
theorem dX10_nextWays_0 : decode cX10_nextWays 0 = .ok (.iconst 2, 1) := by decide +kernel
theorem dX10_nextWays_1 : decode cX10_nextWays 1 = .ok (.iconst 2, 1) := by decide +kernel
theorem dX10_nextWays_2 : decode cX10_nextWays 2 = .ok (.aload_n 0, 1) := by decide +kernel
theorem dX10_nextWays_3 : decode cX10_nextWays 3 = .ok (.getfield 41, 3) := by decide +kernel
theorem dX10_nextWays_6 : decode cX10_nextWays 6 = .ok (.iconst 0, 1) := by decide +kernel
theorem dX10_nextWays_7 : decode cX10_nextWays 7 = .ok (.iaload, 1) := by decide +kernel
theorem dX10_nextWays_8 : decode cX10_nextWays 8 = .ok (.imul, 1) := by decide +kernel
theorem dX10_nextWays_9 : decode cX10_nextWays 9 = .ok (.iadd, 1) := by decide +kernel
theorem dX10_nextWays_10 : decode cX10_nextWays 10 = .ok (.istore_n 1, 1) := by decide +kernel
theorem dX10_nextWays_11 : decode cX10_nextWays 11 = .ok (.aload_n 0, 1) := by decide +kernel
theorem dX10_nextWays_12 : decode cX10_nextWays 12 = .ok (.getfield 41, 3) := by decide +kernel
theorem dX10_nextWays_15 : decode cX10_nextWays 15 = .ok (.iconst 1, 1) := by decide +kernel
theorem dX10_nextWays_16 : decode cX10_nextWays 16 = .ok (.iaload, 1) := by decide +kernel
theorem dX10_nextWays_17 : decode cX10_nextWays 17 = .ok (.iconst 1, 1) := by decide +kernel
theorem dX10_nextWays_18 : decode cX10_nextWays 18 = .ok (.isub, 1) := by decide +kernel
theorem dX10_nextWays_19 : decode cX10_nextWays 19 = .ok (.istore_n 2, 1) := by decide +kernel
theorem dX10_nextWays_20 : decode cX10_nextWays 20 = .ok (.iload_n 2, 1) := by decide +kernel
theorem dX10_nextWays_21 : decode cX10_nextWays 21 = .ok (.ifCond .lt 120, 3) := by decide +kernel
theorem dX10_nextWays_24 : decode cX10_nextWays 24 = .ok (.aload_n 0, 1) := by decide +kernel
theorem dX10_nextWays_25 : decode cX10_nextWays 25 = .ok (.getfield 73, 3) := by decide +kernel
theorem dX10_nextWays_28 : decode cX10_nextWays 28 = .ok (.iload_n 2, 1) := by decide +kernel
theorem dX10_nextWays_29 : decode cX10_nextWays 29 = .ok (.dup2, 1) := by decide +kernel
theorem dX10_nextWays_30 : decode cX10_nextWays 30 = .ok (.iaload, 1) := by decide +kernel
theorem dX10_nextWays_31 : decode cX10_nextWays 31 = .ok (.iconst 1, 1) := by decide +kernel
theorem dX10_nextWays_32 : decode cX10_nextWays 32 = .ok (.iadd, 1) := by decide +kernel
theorem dX10_nextWays_33 : decode cX10_nextWays 33 = .ok (.iastore, 1) := by decide +kernel
theorem dX10_nextWays_34 : decode cX10_nextWays 34 = .ok (.aload_n 0, 1) := by decide +kernel
theorem dX10_nextWays_35 : decode cX10_nextWays 35 = .ok (.getfield 73, 3) := by decide +kernel
theorem dX10_nextWays_38 : decode cX10_nextWays 38 = .ok (.iload_n 2, 1) := by decide +kernel
theorem dX10_nextWays_39 : decode cX10_nextWays 39 = .ok (.iaload, 1) := by decide +kernel
theorem dX10_nextWays_40 : decode cX10_nextWays 40 = .ok (.iload_n 1, 1) := by decide +kernel
theorem dX10_nextWays_41 : decode cX10_nextWays 41 = .ok (.if_icmp .ge 37, 3) := by decide +kernel
theorem dX10_nextWays_44 : decode cX10_nextWays 44 = .ok (.aload_n 0, 1) := by decide +kernel
theorem dX10_nextWays_45 : decode cX10_nextWays 45 = .ok (.getfield 41, 3) := by decide +kernel
theorem dX10_nextWays_48 : decode cX10_nextWays 48 = .ok (.bipush 11, 2) := by decide +kernel
theorem dX10_nextWays_50 : decode cX10_nextWays 50 = .ok (.iload_n 2, 1) := by decide +kernel
theorem dX10_nextWays_51 : decode cX10_nextWays 51 = .ok (.iadd, 1) := by decide +kernel
theorem dX10_nextWays_52 : decode cX10_nextWays 52 = .ok (.iaload, 1) := by decide +kernel
theorem dX10_nextWays_53 : decode cX10_nextWays 53 = .ok (.aload_n 0, 1) := by decide +kernel
theorem dX10_nextWays_54 : decode cX10_nextWays 54 = .ok (.getfield 73, 3) := by decide +kernel
theorem dX10_nextWays_57 : decode cX10_nextWays 57 = .ok (.iload_n 2, 1) := by decide +kernel
theorem dX10_nextWays_58 : decode cX10_nextWays 58 = .ok (.iaload, 1) := by decide +kernel
theorem dX10_nextWays_59 : decode cX10_nextWays 59 = .ok (.invokestatic 213, 3) := by decide +kernel
theorem dX10_nextWays_62 : decode cX10_nextWays 62 = .ok (.ifCond .ne 16, 3) := by decide +kernel
theorem dX10_nextWays_65 : decode cX10_nextWays 65 = .ok (.aload_n 0, 1) := by decide +kernel
theorem dX10_nextWays_66 : decode cX10_nextWays 66 = .ok (.getfield 73, 3) := by decide +kernel
theorem dX10_nextWays_69 : decode cX10_nextWays 69 = .ok (.iload_n 2, 1) := by decide +kernel
theorem dX10_nextWays_70 : decode cX10_nextWays 70 = .ok (.dup2, 1) := by decide +kernel
theorem dX10_nextWays_71 : decode cX10_nextWays 71 = .ok (.iaload, 1) := by decide +kernel
theorem dX10_nextWays_72 : decode cX10_nextWays 72 = .ok (.iconst 1, 1) := by decide +kernel
theorem dX10_nextWays_73 : decode cX10_nextWays 73 = .ok (.iadd, 1) := by decide +kernel
theorem dX10_nextWays_74 : decode cX10_nextWays 74 = .ok (.iastore, 1) := by decide +kernel
theorem dX10_nextWays_75 : decode cX10_nextWays 75 = .ok (.goto (-41), 3) := by decide +kernel
theorem dX10_nextWays_78 : decode cX10_nextWays 78 = .ok (.aload_n 0, 1) := by decide +kernel
theorem dX10_nextWays_79 : decode cX10_nextWays 79 = .ok (.getfield 73, 3) := by decide +kernel
theorem dX10_nextWays_82 : decode cX10_nextWays 82 = .ok (.iload_n 2, 1) := by decide +kernel
theorem dX10_nextWays_83 : decode cX10_nextWays 83 = .ok (.iaload, 1) := by decide +kernel
theorem dX10_nextWays_84 : decode cX10_nextWays 84 = .ok (.iload_n 1, 1) := by decide +kernel
theorem dX10_nextWays_85 : decode cX10_nextWays 85 = .ok (.if_icmp .ge 9, 3) := by decide +kernel
theorem dX10_nextWays_88 : decode cX10_nextWays 88 = .ok (.aload_n 0, 1) := by decide +kernel
theorem dX10_nextWays_89 : decode cX10_nextWays 89 = .ok (.invokevirtual 264, 3) := by decide +kernel
theorem dX10_nextWays_92 : decode cX10_nextWays 92 = .ok (.iconst 1, 1) := by decide +kernel
theorem dX10_nextWays_93 : decode cX10_nextWays 93 = .ok (.ireturn, 1) := by decide +kernel
theorem dX10_nextWays_94 : decode cX10_nextWays 94 = .ok (.aload_n 0, 1) := by decide +kernel
theorem dX10_nextWays_95 : decode cX10_nextWays 95 = .ok (.getfield 73, 3) := by decide +kernel
theorem dX10_nextWays_98 : decode cX10_nextWays 98 = .ok (.iload_n 2, 1) := by decide +kernel
theorem dX10_nextWays_99 : decode cX10_nextWays 99 = .ok (.iconst 0, 1) := by decide +kernel
theorem dX10_nextWays_100 : decode cX10_nextWays 100 = .ok (.iastore, 1) := by decide +kernel
theorem dX10_nextWays_101 : decode cX10_nextWays 101 = .ok (.aload_n 0, 1) := by decide +kernel
theorem dX10_nextWays_102 : decode cX10_nextWays 102 = .ok (.getfield 41, 3) := by decide +kernel
theorem dX10_nextWays_105 : decode cX10_nextWays 105 = .ok (.bipush 11, 2) := by decide +kernel
theorem dX10_nextWays_107 : decode cX10_nextWays 107 = .ok (.iload_n 2, 1) := by decide +kernel
theorem dX10_nextWays_108 : decode cX10_nextWays 108 = .ok (.iadd, 1) := by decide +kernel
theorem dX10_nextWays_109 : decode cX10_nextWays 109 = .ok (.iaload, 1) := by decide +kernel
theorem dX10_nextWays_110 : decode cX10_nextWays 110 = .ok (.aload_n 0, 1) := by decide +kernel
theorem dX10_nextWays_111 : decode cX10_nextWays 111 = .ok (.getfield 73, 3) := by decide +kernel
theorem dX10_nextWays_114 : decode cX10_nextWays 114 = .ok (.iload_n 2, 1) := by decide +kernel
theorem dX10_nextWays_115 : decode cX10_nextWays 115 = .ok (.iaload, 1) := by decide +kernel
theorem dX10_nextWays_116 : decode cX10_nextWays 116 = .ok (.invokestatic 213, 3) := by decide +kernel
theorem dX10_nextWays_119 : decode cX10_nextWays 119 = .ok (.ifCond .ne 16, 3) := by decide +kernel
theorem dX10_nextWays_122 : decode cX10_nextWays 122 = .ok (.aload_n 0, 1) := by decide +kernel
theorem dX10_nextWays_123 : decode cX10_nextWays 123 = .ok (.getfield 73, 3) := by decide +kernel
theorem dX10_nextWays_126 : decode cX10_nextWays 126 = .ok (.iload_n 2, 1) := by decide +kernel
theorem dX10_nextWays_127 : decode cX10_nextWays 127 = .ok (.dup2, 1) := by decide +kernel
theorem dX10_nextWays_128 : decode cX10_nextWays 128 = .ok (.iaload, 1) := by decide +kernel
theorem dX10_nextWays_129 : decode cX10_nextWays 129 = .ok (.iconst 1, 1) := by decide +kernel
theorem dX10_nextWays_130 : decode cX10_nextWays 130 = .ok (.iadd, 1) := by decide +kernel
theorem dX10_nextWays_131 : decode cX10_nextWays 131 = .ok (.iastore, 1) := by decide +kernel
theorem dX10_nextWays_132 : decode cX10_nextWays 132 = .ok (.goto (-31), 3) := by decide +kernel
theorem dX10_nextWays_135 : decode cX10_nextWays 135 = .ok (.iinc 2 (-1), 3) := by decide +kernel
theorem dX10_nextWays_138 : decode cX10_nextWays 138 = .ok (.goto (-118), 3) := by decide +kernel
theorem dX10_nextWays_141 : decode cX10_nextWays 141 = .ok (.iconst 0, 1) := by decide +kernel
theorem dX10_nextWays_142 : decode cX10_nextWays 142 = .ok (.ireturn, 1) := by decide +kernel
theorem dX10_within_0 : decode cX10_within 0 = .ok (.iconst 0, 1) := by decide +kernel
theorem dX10_within_1 : decode cX10_within 1 = .ok (.istore_n 1, 1) := by decide +kernel
theorem dX10_within_2 : decode cX10_within 2 = .ok (.iload_n 1, 1) := by decide +kernel
theorem dX10_within_3 : decode cX10_within 3 = .ok (.aload_n 0, 1) := by decide +kernel
theorem dX10_within_4 : decode cX10_within 4 = .ok (.getfield 41, 3) := by decide +kernel
theorem dX10_within_7 : decode cX10_within 7 = .ok (.iconst 0, 1) := by decide +kernel
theorem dX10_within_8 : decode cX10_within 8 = .ok (.iaload, 1) := by decide +kernel
theorem dX10_within_9 : decode cX10_within 9 = .ok (.if_icmp .ge 72, 3) := by decide +kernel
theorem dX10_within_12 : decode cX10_within 12 = .ok (.aload_n 0, 1) := by decide +kernel
theorem dX10_within_13 : decode cX10_within 13 = .ok (.getfield 70, 3) := by decide +kernel
theorem dX10_within_16 : decode cX10_within 16 = .ok (.iload_n 1, 1) := by decide +kernel
theorem dX10_within_17 : decode cX10_within 17 = .ok (.lconst 1, 1) := by decide +kernel
theorem dX10_within_18 : decode cX10_within 18 = .ok (.aload_n 0, 1) := by decide +kernel
theorem dX10_within_19 : decode cX10_within 19 = .ok (.getfield 64, 3) := by decide +kernel
theorem dX10_within_22 : decode cX10_within 22 = .ok (.iload_n 1, 1) := by decide +kernel
theorem dX10_within_23 : decode cX10_within 23 = .ok (.iaload, 1) := by decide +kernel
theorem dX10_within_24 : decode cX10_within 24 = .ok (.lshl, 1) := by decide +kernel
theorem dX10_within_25 : decode cX10_within 25 = .ok (.lconst 1, 1) := by decide +kernel
theorem dX10_within_26 : decode cX10_within 26 = .ok (.lsub, 1) := by decide +kernel
theorem dX10_within_27 : decode cX10_within 27 = .ok (.lastore, 1) := by decide +kernel
theorem dX10_within_28 : decode cX10_within 28 = .ok (.iconst 0, 1) := by decide +kernel
theorem dX10_within_29 : decode cX10_within 29 = .ok (.istore_n 2, 1) := by decide +kernel
theorem dX10_within_30 : decode cX10_within 30 = .ok (.iload_n 2, 1) := by decide +kernel
theorem dX10_within_31 : decode cX10_within 31 = .ok (.aload_n 0, 1) := by decide +kernel
theorem dX10_within_32 : decode cX10_within 32 = .ok (.getfield 41, 3) := by decide +kernel
theorem dX10_within_35 : decode cX10_within 35 = .ok (.iconst 1, 1) := by decide +kernel
theorem dX10_within_36 : decode cX10_within 36 = .ok (.iaload, 1) := by decide +kernel
theorem dX10_within_37 : decode cX10_within 37 = .ok (.if_icmp .ge 38, 3) := by decide +kernel
theorem dX10_within_40 : decode cX10_within 40 = .ok (.aload_n 0, 1) := by decide +kernel
theorem dX10_within_41 : decode cX10_within 41 = .ok (.getfield 70, 3) := by decide +kernel
theorem dX10_within_44 : decode cX10_within 44 = .ok (.iload_n 1, 1) := by decide +kernel
theorem dX10_within_45 : decode cX10_within 45 = .ok (.dup2, 1) := by decide +kernel
theorem dX10_within_46 : decode cX10_within 46 = .ok (.laload, 1) := by decide +kernel
theorem dX10_within_47 : decode cX10_within 47 = .ok (.aload_n 0, 1) := by decide +kernel
theorem dX10_within_48 : decode cX10_within 48 = .ok (.getfield 67, 3) := by decide +kernel
theorem dX10_within_51 : decode cX10_within 51 = .ok (.bipush 24, 2) := by decide +kernel
theorem dX10_within_53 : decode cX10_within 53 = .ok (.iload_n 2, 1) := by decide +kernel
theorem dX10_within_54 : decode cX10_within 54 = .ok (.imul, 1) := by decide +kernel
theorem dX10_within_55 : decode cX10_within 55 = .ok (.iconst 3, 1) := by decide +kernel
theorem dX10_within_56 : decode cX10_within 56 = .ok (.aload_n 0, 1) := by decide +kernel
theorem dX10_within_57 : decode cX10_within 57 = .ok (.getfield 73, 3) := by decide +kernel
theorem dX10_within_60 : decode cX10_within 60 = .ok (.iload_n 2, 1) := by decide +kernel
theorem dX10_within_61 : decode cX10_within 61 = .ok (.iaload, 1) := by decide +kernel
theorem dX10_within_62 : decode cX10_within 62 = .ok (.imul, 1) := by decide +kernel
theorem dX10_within_63 : decode cX10_within 63 = .ok (.iadd, 1) := by decide +kernel
theorem dX10_within_64 : decode cX10_within 64 = .ok (.iload_n 1, 1) := by decide +kernel
theorem dX10_within_65 : decode cX10_within 65 = .ok (.iadd, 1) := by decide +kernel
theorem dX10_within_66 : decode cX10_within 66 = .ok (.laload, 1) := by decide +kernel
theorem dX10_within_67 : decode cX10_within 67 = .ok (.land, 1) := by decide +kernel
theorem dX10_within_68 : decode cX10_within 68 = .ok (.lastore, 1) := by decide +kernel
theorem dX10_within_69 : decode cX10_within 69 = .ok (.iinc 2 1, 3) := by decide +kernel
theorem dX10_within_72 : decode cX10_within 72 = .ok (.goto (-42), 3) := by decide +kernel
theorem dX10_within_75 : decode cX10_within 75 = .ok (.iinc 1 1, 3) := by decide +kernel
theorem dX10_within_78 : decode cX10_within 78 = .ok (.goto (-76), 3) := by decide +kernel
theorem dX10_within_81 : decode cX10_within 81 = .ok (.return_, 1) := by decide +kernel
theorem dX10_worldsNow_0 : decode cX10_worldsNow 0 = .ok (.lconst 1, 1) := by decide +kernel
theorem dX10_worldsNow_1 : decode cX10_worldsNow 1 = .ok (.lstore_n 3, 1) := by decide +kernel
theorem dX10_worldsNow_2 : decode cX10_worldsNow 2 = .ok (.iconst 0, 1) := by decide +kernel
theorem dX10_worldsNow_3 : decode cX10_worldsNow 3 = .ok (.istore 5, 2) := by decide +kernel
theorem dX10_worldsNow_5 : decode cX10_worldsNow 5 = .ok (.iload 5, 2) := by decide +kernel
theorem dX10_worldsNow_7 : decode cX10_worldsNow 7 = .ok (.aload_n 0, 1) := by decide +kernel
theorem dX10_worldsNow_8 : decode cX10_worldsNow 8 = .ok (.getfield 41, 3) := by decide +kernel
theorem dX10_worldsNow_11 : decode cX10_worldsNow 11 = .ok (.iconst 0, 1) := by decide +kernel
theorem dX10_worldsNow_12 : decode cX10_worldsNow 12 = .ok (.iaload, 1) := by decide +kernel
theorem dX10_worldsNow_13 : decode cX10_worldsNow 13 = .ok (.if_icmp .ge 39, 3) := by decide +kernel
theorem dX10_worldsNow_16 : decode cX10_worldsNow 16 = .ok (.lload_n 3, 1) := by decide +kernel
theorem dX10_worldsNow_17 : decode cX10_worldsNow 17 = .ok (.iload 5, 2) := by decide +kernel
theorem dX10_worldsNow_19 : decode cX10_worldsNow 19 = .ok (.iload_n 1, 1) := by decide +kernel
theorem dX10_worldsNow_20 : decode cX10_worldsNow 20 = .ok (.if_icmp .eq 9, 3) := by decide +kernel
theorem dX10_worldsNow_23 : decode cX10_worldsNow 23 = .ok (.iload 5, 2) := by decide +kernel
theorem dX10_worldsNow_25 : decode cX10_worldsNow 25 = .ok (.iload_n 2, 1) := by decide +kernel
theorem dX10_worldsNow_26 : decode cX10_worldsNow 26 = .ok (.if_icmp .ne 7, 3) := by decide +kernel
theorem dX10_worldsNow_29 : decode cX10_worldsNow 29 = .ok (.lconst 1, 1) := by decide +kernel
theorem dX10_worldsNow_30 : decode cX10_worldsNow 30 = .ok (.goto 14, 3) := by decide +kernel
theorem dX10_worldsNow_33 : decode cX10_worldsNow 33 = .ok (.aload_n 0, 1) := by decide +kernel
theorem dX10_worldsNow_34 : decode cX10_worldsNow 34 = .ok (.getfield 70, 3) := by decide +kernel
theorem dX10_worldsNow_37 : decode cX10_worldsNow 37 = .ok (.iload 5, 2) := by decide +kernel
theorem dX10_worldsNow_39 : decode cX10_worldsNow 39 = .ok (.laload, 1) := by decide +kernel
theorem dX10_worldsNow_40 : decode cX10_worldsNow 40 = .ok (.invokestatic 266, 3) := by decide +kernel
theorem dX10_worldsNow_43 : decode cX10_worldsNow 43 = .ok (.i2l, 1) := by decide +kernel
theorem dX10_worldsNow_44 : decode cX10_worldsNow 44 = .ok (.lmul, 1) := by decide +kernel
theorem dX10_worldsNow_45 : decode cX10_worldsNow 45 = .ok (.lstore_n 3, 1) := by decide +kernel
theorem dX10_worldsNow_46 : decode cX10_worldsNow 46 = .ok (.iinc 5 1, 3) := by decide +kernel
theorem dX10_worldsNow_49 : decode cX10_worldsNow 49 = .ok (.goto (-44), 3) := by decide +kernel
theorem dX10_worldsNow_52 : decode cX10_worldsNow 52 = .ok (.lload_n 3, 1) := by decide +kernel
theorem dX10_worldsNow_53 : decode cX10_worldsNow 53 = .ok (.lreturn, 1) := by decide +kernel
theorem dX10_worldsBy_0 : decode cX10_worldsBy 0 = .ok (.aload_n 0, 1) := by decide +kernel
theorem dX10_worldsBy_1 : decode cX10_worldsBy 1 = .ok (.iload_n 1, 1) := by decide +kernel
theorem dX10_worldsBy_2 : decode cX10_worldsBy 2 = .ok (.invokevirtual 270, 3) := by decide +kernel
theorem dX10_worldsBy_5 : decode cX10_worldsBy 5 = .ok (.lconst 0, 1) := by decide +kernel
theorem dX10_worldsBy_6 : decode cX10_worldsBy 6 = .ok (.lstore_n 2, 1) := by decide +kernel
theorem dX10_worldsBy_7 : decode cX10_worldsBy 7 = .ok (.aload_n 0, 1) := by decide +kernel
theorem dX10_worldsBy_8 : decode cX10_worldsBy 8 = .ok (.invokevirtual 273, 3) := by decide +kernel
theorem dX10_worldsBy_11 : decode cX10_worldsBy 11 = .ok (.lload_n 2, 1) := by decide +kernel
theorem dX10_worldsBy_12 : decode cX10_worldsBy 12 = .ok (.aload_n 0, 1) := by decide +kernel
theorem dX10_worldsBy_13 : decode cX10_worldsBy 13 = .ok (.iconst (-1), 1) := by decide +kernel
theorem dX10_worldsBy_14 : decode cX10_worldsBy 14 = .ok (.iconst (-1), 1) := by decide +kernel
theorem dX10_worldsBy_15 : decode cX10_worldsBy 15 = .ok (.invokevirtual 276, 3) := by decide +kernel
theorem dX10_worldsBy_18 : decode cX10_worldsBy 18 = .ok (.ladd, 1) := by decide +kernel
theorem dX10_worldsBy_19 : decode cX10_worldsBy 19 = .ok (.lstore_n 2, 1) := by decide +kernel
theorem dX10_worldsBy_20 : decode cX10_worldsBy 20 = .ok (.aload_n 0, 1) := by decide +kernel
theorem dX10_worldsBy_21 : decode cX10_worldsBy 21 = .ok (.invokevirtual 280, 3) := by decide +kernel
theorem dX10_worldsBy_24 : decode cX10_worldsBy 24 = .ok (.ifCond .ne (-13), 3) := by decide +kernel
theorem dX10_worldsBy_27 : decode cX10_worldsBy 27 = .ok (.lload_n 2, 1) := by decide +kernel
theorem dX10_worldsBy_28 : decode cX10_worldsBy 28 = .ok (.lreturn, 1) := by decide +kernel
theorem dX10_worlds_0 : decode cX10_worlds 0 = .ok (.aload_n 0, 1) := by decide +kernel
theorem dX10_worlds_1 : decode cX10_worlds 1 = .ok (.iconst 0, 1) := by decide +kernel
theorem dX10_worlds_2 : decode cX10_worlds 2 = .ok (.putfield 1, 3) := by decide +kernel
theorem dX10_worlds_5 : decode cX10_worlds 5 = .ok (.aload_n 0, 1) := by decide +kernel
theorem dX10_worlds_6 : decode cX10_worlds 6 = .ok (.aload_n 0, 1) := by decide +kernel
theorem dX10_worlds_7 : decode cX10_worlds 7 = .ok (.getfield 41, 3) := by decide +kernel
theorem dX10_worlds_10 : decode cX10_worlds 10 = .ok (.sipush 169, 3) := by decide +kernel
theorem dX10_worlds_13 : decode cX10_worlds 13 = .ok (.iaload, 1) := by decide +kernel
theorem dX10_worlds_14 : decode cX10_worlds 14 = .ok (.invokevirtual 283, 3) := by decide +kernel
theorem dX10_worlds_17 : decode cX10_worlds 17 = .ok (.lreturn, 1) := by decide +kernel
theorem dX10_worldsIn_0 : decode cX10_worldsIn 0 = .ok (.aload_n 0, 1) := by decide +kernel
theorem dX10_worldsIn_1 : decode cX10_worldsIn 1 = .ok (.aload_n 0, 1) := by decide +kernel
theorem dX10_worldsIn_2 : decode cX10_worldsIn 2 = .ok (.getfield 41, 3) := by decide +kernel
theorem dX10_worldsIn_5 : decode cX10_worldsIn 5 = .ok (.sipush 169, 3) := by decide +kernel
theorem dX10_worldsIn_8 : decode cX10_worldsIn 8 = .ok (.iaload, 1) := by decide +kernel
theorem dX10_worldsIn_9 : decode cX10_worldsIn 9 = .ok (.invokevirtual 270, 3) := by decide +kernel
theorem dX10_worldsIn_12 : decode cX10_worldsIn 12 = .ok (.lconst 0, 1) := by decide +kernel
theorem dX10_worldsIn_13 : decode cX10_worldsIn 13 = .ok (.lstore 4, 2) := by decide +kernel
theorem dX10_worldsIn_15 : decode cX10_worldsIn 15 = .ok (.aload_n 0, 1) := by decide +kernel
theorem dX10_worldsIn_16 : decode cX10_worldsIn 16 = .ok (.invokevirtual 273, 3) := by decide +kernel
theorem dX10_worldsIn_19 : decode cX10_worldsIn 19 = .ok (.lload 4, 2) := by decide +kernel
theorem dX10_worldsIn_21 : decode cX10_worldsIn 21 = .ok (.aload_n 0, 1) := by decide +kernel
theorem dX10_worldsIn_22 : decode cX10_worldsIn 22 = .ok (.iload_n 1, 1) := by decide +kernel
theorem dX10_worldsIn_23 : decode cX10_worldsIn 23 = .ok (.iconst (-1), 1) := by decide +kernel
theorem dX10_worldsIn_24 : decode cX10_worldsIn 24 = .ok (.invokevirtual 276, 3) := by decide +kernel
theorem dX10_worldsIn_27 : decode cX10_worldsIn 27 = .ok (.aload_n 0, 1) := by decide +kernel
theorem dX10_worldsIn_28 : decode cX10_worldsIn 28 = .ok (.getfield 70, 3) := by decide +kernel
theorem dX10_worldsIn_31 : decode cX10_worldsIn 31 = .ok (.iload_n 1, 1) := by decide +kernel
theorem dX10_worldsIn_32 : decode cX10_worldsIn 32 = .ok (.laload, 1) := by decide +kernel
theorem dX10_worldsIn_33 : decode cX10_worldsIn 33 = .ok (.lload_n 2, 1) := by decide +kernel
theorem dX10_worldsIn_34 : decode cX10_worldsIn 34 = .ok (.land, 1) := by decide +kernel
theorem dX10_worldsIn_35 : decode cX10_worldsIn 35 = .ok (.invokestatic 266, 3) := by decide +kernel
theorem dX10_worldsIn_38 : decode cX10_worldsIn 38 = .ok (.i2l, 1) := by decide +kernel
theorem dX10_worldsIn_39 : decode cX10_worldsIn 39 = .ok (.lmul, 1) := by decide +kernel
theorem dX10_worldsIn_40 : decode cX10_worldsIn 40 = .ok (.ladd, 1) := by decide +kernel
theorem dX10_worldsIn_41 : decode cX10_worldsIn 41 = .ok (.lstore 4, 2) := by decide +kernel
theorem dX10_worldsIn_43 : decode cX10_worldsIn 43 = .ok (.aload_n 0, 1) := by decide +kernel
theorem dX10_worldsIn_44 : decode cX10_worldsIn 44 = .ok (.invokevirtual 280, 3) := by decide +kernel
theorem dX10_worldsIn_47 : decode cX10_worldsIn 47 = .ok (.ifCond .ne (-28), 3) := by decide +kernel
theorem dX10_worldsIn_50 : decode cX10_worldsIn 50 = .ok (.lload 4, 2) := by decide +kernel
theorem dX10_worldsIn_52 : decode cX10_worldsIn 52 = .ok (.lreturn, 1) := by decide +kernel
theorem dX10_worldsOf_0 : decode cX10_worldsOf 0 = .ok (.aload_n 0, 1) := by decide +kernel
theorem dX10_worldsOf_1 : decode cX10_worldsOf 1 = .ok (.iconst 0, 1) := by decide +kernel
theorem dX10_worldsOf_2 : decode cX10_worldsOf 2 = .ok (.putfield 1, 3) := by decide +kernel
theorem dX10_worldsOf_5 : decode cX10_worldsOf 5 = .ok (.aload_n 0, 1) := by decide +kernel
theorem dX10_worldsOf_6 : decode cX10_worldsOf 6 = .ok (.iload_n 1, 1) := by decide +kernel
theorem dX10_worldsOf_7 : decode cX10_worldsOf 7 = .ok (.invokevirtual 234, 3) := by decide +kernel
theorem dX10_worldsOf_10 : decode cX10_worldsOf 10 = .ok (.ifCond .eq 30, 3) := by decide +kernel
theorem dX10_worldsOf_13 : decode cX10_worldsOf 13 = .ok (.iload_n 2, 1) := by decide +kernel
theorem dX10_worldsOf_14 : decode cX10_worldsOf 14 = .ok (.iconst 0, 1) := by decide +kernel
theorem dX10_worldsOf_15 : decode cX10_worldsOf 15 = .ok (.aload_n 0, 1) := by decide +kernel
theorem dX10_worldsOf_16 : decode cX10_worldsOf 16 = .ok (.getfield 64, 3) := by decide +kernel
theorem dX10_worldsOf_19 : decode cX10_worldsOf 19 = .ok (.iload_n 1, 1) := by decide +kernel
theorem dX10_worldsOf_20 : decode cX10_worldsOf 20 = .ok (.iaload, 1) := by decide +kernel
theorem dX10_worldsOf_21 : decode cX10_worldsOf 21 = .ok (.iconst 1, 1) := by decide +kernel
theorem dX10_worldsOf_22 : decode cX10_worldsOf 22 = .ok (.isub, 1) := by decide +kernel
theorem dX10_worldsOf_23 : decode cX10_worldsOf 23 = .ok (.invokestatic 172, 3) := by decide +kernel
theorem dX10_worldsOf_26 : decode cX10_worldsOf 26 = .ok (.ifCond .eq 14, 3) := by decide +kernel
theorem dX10_worldsOf_29 : decode cX10_worldsOf 29 = .ok (.aload_n 0, 1) := by decide +kernel
theorem dX10_worldsOf_30 : decode cX10_worldsOf 30 = .ok (.iload_n 1, 1) := by decide +kernel
theorem dX10_worldsOf_31 : decode cX10_worldsOf 31 = .ok (.lconst 1, 1) := by decide +kernel
theorem dX10_worldsOf_32 : decode cX10_worldsOf 32 = .ok (.iload_n 2, 1) := by decide +kernel
theorem dX10_worldsOf_33 : decode cX10_worldsOf 33 = .ok (.lshl, 1) := by decide +kernel
theorem dX10_worldsOf_34 : decode cX10_worldsOf 34 = .ok (.invokevirtual 287, 3) := by decide +kernel
theorem dX10_worldsOf_37 : decode cX10_worldsOf 37 = .ok (.goto 6, 3) := by decide +kernel
theorem dX10_worldsOf_40 : decode cX10_worldsOf 40 = .ok (.ldc2_w 291, 3) := by decide +kernel
theorem dX10_worldsOf_43 : decode cX10_worldsOf 43 = .ok (.lreturn, 1) := by decide +kernel
theorem dX10_waysOf_0 : decode cX10_waysOf 0 = .ok (.aload_n 0, 1) := by decide +kernel
theorem dX10_waysOf_1 : decode cX10_waysOf 1 = .ok (.iconst 0, 1) := by decide +kernel
theorem dX10_waysOf_2 : decode cX10_waysOf 2 = .ok (.putfield 1, 3) := by decide +kernel
theorem dX10_waysOf_5 : decode cX10_waysOf 5 = .ok (.aload_n 0, 1) := by decide +kernel
theorem dX10_waysOf_6 : decode cX10_waysOf 6 = .ok (.iload_n 1, 1) := by decide +kernel
theorem dX10_waysOf_7 : decode cX10_waysOf 7 = .ok (.invokevirtual 248, 3) := by decide +kernel
theorem dX10_waysOf_10 : decode cX10_waysOf 10 = .ok (.ifCond .eq 21, 3) := by decide +kernel
theorem dX10_waysOf_13 : decode cX10_waysOf 13 = .ok (.iload_n 2, 1) := by decide +kernel
theorem dX10_waysOf_14 : decode cX10_waysOf 14 = .ok (.iconst 0, 1) := by decide +kernel
theorem dX10_waysOf_15 : decode cX10_waysOf 15 = .ok (.iconst 1, 1) := by decide +kernel
theorem dX10_waysOf_16 : decode cX10_waysOf 16 = .ok (.iconst 2, 1) := by decide +kernel
theorem dX10_waysOf_17 : decode cX10_waysOf 17 = .ok (.aload_n 0, 1) := by decide +kernel
theorem dX10_waysOf_18 : decode cX10_waysOf 18 = .ok (.getfield 41, 3) := by decide +kernel
theorem dX10_waysOf_21 : decode cX10_waysOf 21 = .ok (.iconst 0, 1) := by decide +kernel
theorem dX10_waysOf_22 : decode cX10_waysOf 22 = .ok (.iaload, 1) := by decide +kernel
theorem dX10_waysOf_23 : decode cX10_waysOf 23 = .ok (.imul, 1) := by decide +kernel
theorem dX10_waysOf_24 : decode cX10_waysOf 24 = .ok (.iadd, 1) := by decide +kernel
theorem dX10_waysOf_25 : decode cX10_waysOf 25 = .ok (.invokestatic 172, 3) := by decide +kernel
theorem dX10_waysOf_28 : decode cX10_waysOf 28 = .ok (.ifCond .ne 7, 3) := by decide +kernel
theorem dX10_waysOf_31 : decode cX10_waysOf 31 = .ok (.ldc2_w 291, 3) := by decide +kernel
theorem dX10_waysOf_34 : decode cX10_waysOf 34 = .ok (.lreturn, 1) := by decide +kernel
theorem dX10_waysOf_35 : decode cX10_waysOf 35 = .ok (.aload_n 0, 1) := by decide +kernel
theorem dX10_waysOf_36 : decode cX10_waysOf 36 = .ok (.aload_n 0, 1) := by decide +kernel
theorem dX10_waysOf_37 : decode cX10_waysOf 37 = .ok (.getfield 41, 3) := by decide +kernel
theorem dX10_waysOf_40 : decode cX10_waysOf 40 = .ok (.sipush 169, 3) := by decide +kernel
theorem dX10_waysOf_43 : decode cX10_waysOf 43 = .ok (.iaload, 1) := by decide +kernel
theorem dX10_waysOf_44 : decode cX10_waysOf 44 = .ok (.invokevirtual 270, 3) := by decide +kernel
theorem dX10_waysOf_47 : decode cX10_waysOf 47 = .ok (.lconst 0, 1) := by decide +kernel
theorem dX10_waysOf_48 : decode cX10_waysOf 48 = .ok (.lstore_n 3, 1) := by decide +kernel
theorem dX10_waysOf_49 : decode cX10_waysOf 49 = .ok (.aload_n 0, 1) := by decide +kernel
theorem dX10_waysOf_50 : decode cX10_waysOf 50 = .ok (.invokevirtual 273, 3) := by decide +kernel
theorem dX10_waysOf_53 : decode cX10_waysOf 53 = .ok (.lload_n 3, 1) := by decide +kernel
theorem dX10_waysOf_54 : decode cX10_waysOf 54 = .ok (.aload_n 0, 1) := by decide +kernel
theorem dX10_waysOf_55 : decode cX10_waysOf 55 = .ok (.getfield 73, 3) := by decide +kernel
theorem dX10_waysOf_58 : decode cX10_waysOf 58 = .ok (.iload_n 1, 1) := by decide +kernel
theorem dX10_waysOf_59 : decode cX10_waysOf 59 = .ok (.iaload, 1) := by decide +kernel
theorem dX10_waysOf_60 : decode cX10_waysOf 60 = .ok (.iload_n 2, 1) := by decide +kernel
theorem dX10_waysOf_61 : decode cX10_waysOf 61 = .ok (.if_icmp .ne 12, 3) := by decide +kernel
theorem dX10_waysOf_64 : decode cX10_waysOf 64 = .ok (.aload_n 0, 1) := by decide +kernel
theorem dX10_waysOf_65 : decode cX10_waysOf 65 = .ok (.iconst (-1), 1) := by decide +kernel
theorem dX10_waysOf_66 : decode cX10_waysOf 66 = .ok (.iconst (-1), 1) := by decide +kernel
theorem dX10_waysOf_67 : decode cX10_waysOf 67 = .ok (.invokevirtual 276, 3) := by decide +kernel
theorem dX10_waysOf_70 : decode cX10_waysOf 70 = .ok (.goto 4, 3) := by decide +kernel
theorem dX10_waysOf_73 : decode cX10_waysOf 73 = .ok (.lconst 0, 1) := by decide +kernel
theorem dX10_waysOf_74 : decode cX10_waysOf 74 = .ok (.ladd, 1) := by decide +kernel
theorem dX10_waysOf_75 : decode cX10_waysOf 75 = .ok (.lstore_n 3, 1) := by decide +kernel
theorem dX10_waysOf_76 : decode cX10_waysOf 76 = .ok (.aload_n 0, 1) := by decide +kernel
theorem dX10_waysOf_77 : decode cX10_waysOf 77 = .ok (.invokevirtual 280, 3) := by decide +kernel
theorem dX10_waysOf_80 : decode cX10_waysOf 80 = .ok (.ifCond .ne (-27), 3) := by decide +kernel
theorem dX10_waysOf_83 : decode cX10_waysOf 83 = .ok (.lload_n 3, 1) := by decide +kernel
theorem dX10_waysOf_84 : decode cX10_waysOf 84 = .ok (.lreturn, 1) := by decide +kernel
theorem dX10_passing_0 : decode cX10_passing 0 = .ok (.aload_n 0, 1) := by decide +kernel
theorem dX10_passing_1 : decode cX10_passing 1 = .ok (.iconst 0, 1) := by decide +kernel
theorem dX10_passing_2 : decode cX10_passing 2 = .ok (.iload_n 1, 1) := by decide +kernel
theorem dX10_passing_3 : decode cX10_passing 3 = .ok (.iload_n 2, 1) := by decide +kernel
theorem dX10_passing_4 : decode cX10_passing 4 = .ok (.iconst 1, 1) := by decide +kernel
theorem dX10_passing_5 : decode cX10_passing 5 = .ok (.invokevirtual 260, 3) := by decide +kernel
theorem dX10_passing_8 : decode cX10_passing 8 = .ok (.lreturn, 1) := by decide +kernel
theorem dX10_sureOf_0 : decode cX10_sureOf 0 = .ok (.aload_n 0, 1) := by decide +kernel
theorem dX10_sureOf_1 : decode cX10_sureOf 1 = .ok (.iload_n 1, 1) := by decide +kernel
theorem dX10_sureOf_2 : decode cX10_sureOf 2 = .ok (.aload_n 0, 1) := by decide +kernel
theorem dX10_sureOf_3 : decode cX10_sureOf 3 = .ok (.iload_n 1, 1) := by decide +kernel
theorem dX10_sureOf_4 : decode cX10_sureOf 4 = .ok (.iload_n 2, 1) := by decide +kernel
theorem dX10_sureOf_5 : decode cX10_sureOf 5 = .ok (.invokevirtual 293, 3) := by decide +kernel
theorem dX10_sureOf_8 : decode cX10_sureOf 8 = .ok (.invokevirtual 287, 3) := by decide +kernel
theorem dX10_sureOf_11 : decode cX10_sureOf 11 = .ok (.lstore 5, 2) := by decide +kernel
theorem dX10_sureOf_13 : decode cX10_sureOf 13 = .ok (.lload 5, 2) := by decide +kernel
theorem dX10_sureOf_15 : decode cX10_sureOf 15 = .ok (.lload_n 3, 1) := by decide +kernel
theorem dX10_sureOf_16 : decode cX10_sureOf 16 = .ok (.lcmp, 1) := by decide +kernel
theorem dX10_sureOf_17 : decode cX10_sureOf 17 = .ok (.ifCond .ne 7, 3) := by decide +kernel
theorem dX10_sureOf_20 : decode cX10_sureOf 20 = .ok (.iconst 1, 1) := by decide +kernel
theorem dX10_sureOf_21 : decode cX10_sureOf 21 = .ok (.goto 15, 3) := by decide +kernel
theorem dX10_sureOf_24 : decode cX10_sureOf 24 = .ok (.lload 5, 2) := by decide +kernel
theorem dX10_sureOf_26 : decode cX10_sureOf 26 = .ok (.lconst 0, 1) := by decide +kernel
theorem dX10_sureOf_27 : decode cX10_sureOf 27 = .ok (.lcmp, 1) := by decide +kernel
theorem dX10_sureOf_28 : decode cX10_sureOf 28 = .ok (.ifCond .ne 7, 3) := by decide +kernel
theorem dX10_sureOf_31 : decode cX10_sureOf 31 = .ok (.iconst 0, 1) := by decide +kernel
theorem dX10_sureOf_32 : decode cX10_sureOf 32 = .ok (.goto 4, 3) := by decide +kernel
theorem dX10_sureOf_35 : decode cX10_sureOf 35 = .ok (.iconst 2, 1) := by decide +kernel
theorem dX10_sureOf_36 : decode cX10_sureOf 36 = .ok (.ireturn, 1) := by decide +kernel
theorem dX10_sure_0 : decode cX10_sure 0 = .ok (.aload_n 0, 1) := by decide +kernel
theorem dX10_sure_1 : decode cX10_sure 1 = .ok (.iconst 0, 1) := by decide +kernel
theorem dX10_sure_2 : decode cX10_sure 2 = .ok (.putfield 1, 3) := by decide +kernel
theorem dX10_sure_5 : decode cX10_sure 5 = .ok (.aload_n 0, 1) := by decide +kernel
theorem dX10_sure_6 : decode cX10_sure 6 = .ok (.iload_n 1, 1) := by decide +kernel
theorem dX10_sure_7 : decode cX10_sure 7 = .ok (.invokevirtual 234, 3) := by decide +kernel
theorem dX10_sure_10 : decode cX10_sure 10 = .ok (.ifCond .eq 10, 3) := by decide +kernel
theorem dX10_sure_13 : decode cX10_sure 13 = .ok (.iload_n 2, 1) := by decide +kernel
theorem dX10_sure_14 : decode cX10_sure 14 = .ok (.invokestatic 245, 3) := by decide +kernel
theorem dX10_sure_17 : decode cX10_sure 17 = .ok (.ifCond .ne 5, 3) := by decide +kernel
theorem dX10_sure_20 : decode cX10_sure 20 = .ok (.iconst (-1), 1) := by decide +kernel
theorem dX10_sure_21 : decode cX10_sure 21 = .ok (.ireturn, 1) := by decide +kernel
theorem dX10_sure_22 : decode cX10_sure 22 = .ok (.aload_n 0, 1) := by decide +kernel
theorem dX10_sure_23 : decode cX10_sure 23 = .ok (.aload_n 0, 1) := by decide +kernel
theorem dX10_sure_24 : decode cX10_sure 24 = .ok (.getfield 41, 3) := by decide +kernel
theorem dX10_sure_27 : decode cX10_sure 27 = .ok (.sipush 169, 3) := by decide +kernel
theorem dX10_sure_30 : decode cX10_sure 30 = .ok (.iaload, 1) := by decide +kernel
theorem dX10_sure_31 : decode cX10_sure 31 = .ok (.invokevirtual 283, 3) := by decide +kernel
theorem dX10_sure_34 : decode cX10_sure 34 = .ok (.lstore_n 3, 1) := by decide +kernel
theorem dX10_sure_35 : decode cX10_sure 35 = .ok (.lload_n 3, 1) := by decide +kernel
theorem dX10_sure_36 : decode cX10_sure 36 = .ok (.lconst 0, 1) := by decide +kernel
theorem dX10_sure_37 : decode cX10_sure 37 = .ok (.lcmp, 1) := by decide +kernel
theorem dX10_sure_38 : decode cX10_sure 38 = .ok (.ifCond .ne 7, 3) := by decide +kernel
theorem dX10_sure_41 : decode cX10_sure 41 = .ok (.iconst (-1), 1) := by decide +kernel
theorem dX10_sure_42 : decode cX10_sure 42 = .ok (.goto 10, 3) := by decide +kernel
theorem dX10_sure_45 : decode cX10_sure 45 = .ok (.aload_n 0, 1) := by decide +kernel
theorem dX10_sure_46 : decode cX10_sure 46 = .ok (.iload_n 1, 1) := by decide +kernel
theorem dX10_sure_47 : decode cX10_sure 47 = .ok (.iload_n 2, 1) := by decide +kernel
theorem dX10_sure_48 : decode cX10_sure 48 = .ok (.lload_n 3, 1) := by decide +kernel
theorem dX10_sure_49 : decode cX10_sure 49 = .ok (.invokevirtual 296, 3) := by decide +kernel
theorem dX10_sure_52 : decode cX10_sure 52 = .ok (.ireturn, 1) := by decide +kernel
theorem dX10_common_0 : decode cX10_common 0 = .ok (.lload_n 0, 1) := by decide +kernel
theorem dX10_common_1 : decode cX10_common 1 = .ok (.lstore 4, 2) := by decide +kernel
theorem dX10_common_3 : decode cX10_common 3 = .ok (.lload_n 2, 1) := by decide +kernel
theorem dX10_common_4 : decode cX10_common 4 = .ok (.lstore 6, 2) := by decide +kernel
theorem dX10_common_6 : decode cX10_common 6 = .ok (.lload 6, 2) := by decide +kernel
theorem dX10_common_8 : decode cX10_common 8 = .ok (.lconst 0, 1) := by decide +kernel
theorem dX10_common_9 : decode cX10_common 9 = .ok (.lcmp, 1) := by decide +kernel
theorem dX10_common_10 : decode cX10_common 10 = .ok (.ifCond .eq 21, 3) := by decide +kernel
theorem dX10_common_13 : decode cX10_common 13 = .ok (.lload 4, 2) := by decide +kernel
theorem dX10_common_15 : decode cX10_common 15 = .ok (.lload 6, 2) := by decide +kernel
theorem dX10_common_17 : decode cX10_common 17 = .ok (.lrem, 1) := by decide +kernel
theorem dX10_common_18 : decode cX10_common 18 = .ok (.lstore 8, 2) := by decide +kernel
theorem dX10_common_20 : decode cX10_common 20 = .ok (.lload 6, 2) := by decide +kernel
theorem dX10_common_22 : decode cX10_common 22 = .ok (.lstore 4, 2) := by decide +kernel
theorem dX10_common_24 : decode cX10_common 24 = .ok (.lload 8, 2) := by decide +kernel
theorem dX10_common_26 : decode cX10_common 26 = .ok (.lstore 6, 2) := by decide +kernel
theorem dX10_common_28 : decode cX10_common 28 = .ok (.goto (-22), 3) := by decide +kernel
theorem dX10_common_31 : decode cX10_common 31 = .ok (.lload 4, 2) := by decide +kernel
theorem dX10_common_33 : decode cX10_common 33 = .ok (.lreturn, 1) := by decide +kernel
theorem dX10_part_0 : decode cX10_part 0 = .ok (.iload 4, 2) := by decide +kernel
theorem dX10_part_2 : decode cX10_part 2 = .ok (.ifCond .ne 7, 3) := by decide +kernel
theorem dX10_part_5 : decode cX10_part 5 = .ok (.lload_n 0, 1) := by decide +kernel
theorem dX10_part_6 : decode cX10_part 6 = .ok (.goto 4, 3) := by decide +kernel
theorem dX10_part_9 : decode cX10_part 9 = .ok (.lload_n 2, 1) := by decide +kernel
theorem dX10_part_10 : decode cX10_part 10 = .ok (.lload_n 2, 1) := by decide +kernel
theorem dX10_part_11 : decode cX10_part 11 = .ok (.lload_n 0, 1) := by decide +kernel
theorem dX10_part_12 : decode cX10_part 12 = .ok (.invokestatic 300, 3) := by decide +kernel
theorem dX10_part_15 : decode cX10_part 15 = .ok (.ldiv, 1) := by decide +kernel
theorem dX10_part_16 : decode cX10_part 16 = .ok (.lreturn, 1) := by decide +kernel
theorem dX10_odds_0 : decode cX10_odds 0 = .ok (.aload_n 0, 1) := by decide +kernel
theorem dX10_odds_1 : decode cX10_odds 1 = .ok (.aload_n 0, 1) := by decide +kernel
theorem dX10_odds_2 : decode cX10_odds 2 = .ok (.iload_n 1, 1) := by decide +kernel
theorem dX10_odds_3 : decode cX10_odds 3 = .ok (.invokevirtual 234, 3) := by decide +kernel
theorem dX10_odds_6 : decode cX10_odds 6 = .ok (.ifCond .eq 19, 3) := by decide +kernel
theorem dX10_odds_9 : decode cX10_odds 9 = .ok (.iload_n 2, 1) := by decide +kernel
theorem dX10_odds_10 : decode cX10_odds 10 = .ok (.invokestatic 245, 3) := by decide +kernel
theorem dX10_odds_13 : decode cX10_odds 13 = .ok (.ifCond .eq 12, 3) := by decide +kernel
theorem dX10_odds_16 : decode cX10_odds 16 = .ok (.iload_n 3, 1) := by decide +kernel
theorem dX10_odds_17 : decode cX10_odds 17 = .ok (.iconst 0, 1) := by decide +kernel
theorem dX10_odds_18 : decode cX10_odds 18 = .ok (.iconst 1, 1) := by decide +kernel
theorem dX10_odds_19 : decode cX10_odds 19 = .ok (.invokestatic 172, 3) := by decide +kernel
theorem dX10_odds_22 : decode cX10_odds 22 = .ok (.ifCond .ne 7, 3) := by decide +kernel
theorem dX10_odds_25 : decode cX10_odds 25 = .ok (.iconst 1, 1) := by decide +kernel
theorem dX10_odds_26 : decode cX10_odds 26 = .ok (.goto 4, 3) := by decide +kernel
theorem dX10_odds_29 : decode cX10_odds 29 = .ok (.iconst 0, 1) := by decide +kernel
theorem dX10_odds_30 : decode cX10_odds 30 = .ok (.invokevirtual 237, 3) := by decide +kernel
theorem dX10_odds_33 : decode cX10_odds 33 = .ok (.ifCond .eq 5, 3) := by decide +kernel
theorem dX10_odds_36 : decode cX10_odds 36 = .ok (.lconst 0, 1) := by decide +kernel
theorem dX10_odds_37 : decode cX10_odds 37 = .ok (.lreturn, 1) := by decide +kernel
theorem dX10_odds_38 : decode cX10_odds 38 = .ok (.aload_n 0, 1) := by decide +kernel
theorem dX10_odds_39 : decode cX10_odds 39 = .ok (.aload_n 0, 1) := by decide +kernel
theorem dX10_odds_40 : decode cX10_odds 40 = .ok (.getfield 41, 3) := by decide +kernel
theorem dX10_odds_43 : decode cX10_odds 43 = .ok (.sipush 169, 3) := by decide +kernel
theorem dX10_odds_46 : decode cX10_odds 46 = .ok (.iaload, 1) := by decide +kernel
theorem dX10_odds_47 : decode cX10_odds 47 = .ok (.invokevirtual 283, 3) := by decide +kernel
theorem dX10_odds_50 : decode cX10_odds 50 = .ok (.lstore 4, 2) := by decide +kernel
theorem dX10_odds_52 : decode cX10_odds 52 = .ok (.aload_n 0, 1) := by decide +kernel
theorem dX10_odds_53 : decode cX10_odds 53 = .ok (.lload 4, 2) := by decide +kernel
theorem dX10_odds_55 : decode cX10_odds 55 = .ok (.lconst 0, 1) := by decide +kernel
theorem dX10_odds_56 : decode cX10_odds 56 = .ok (.lcmp, 1) := by decide +kernel
theorem dX10_odds_57 : decode cX10_odds 57 = .ok (.ifCond .ne 7, 3) := by decide +kernel
theorem dX10_odds_60 : decode cX10_odds 60 = .ok (.iconst 1, 1) := by decide +kernel
theorem dX10_odds_61 : decode cX10_odds 61 = .ok (.goto 4, 3) := by decide +kernel
theorem dX10_odds_64 : decode cX10_odds 64 = .ok (.iconst 0, 1) := by decide +kernel
theorem dX10_odds_65 : decode cX10_odds 65 = .ok (.invokevirtual 237, 3) := by decide +kernel
theorem dX10_odds_68 : decode cX10_odds 68 = .ok (.ifCond .eq 7, 3) := by decide +kernel
theorem dX10_odds_71 : decode cX10_odds 71 = .ok (.lconst 0, 1) := by decide +kernel
theorem dX10_odds_72 : decode cX10_odds 72 = .ok (.goto 20, 3) := by decide +kernel
theorem dX10_odds_75 : decode cX10_odds 75 = .ok (.aload_n 0, 1) := by decide +kernel
theorem dX10_odds_76 : decode cX10_odds 76 = .ok (.iload_n 1, 1) := by decide +kernel
theorem dX10_odds_77 : decode cX10_odds 77 = .ok (.aload_n 0, 1) := by decide +kernel
theorem dX10_odds_78 : decode cX10_odds 78 = .ok (.iload_n 1, 1) := by decide +kernel
theorem dX10_odds_79 : decode cX10_odds 79 = .ok (.iload_n 2, 1) := by decide +kernel
theorem dX10_odds_80 : decode cX10_odds 80 = .ok (.invokevirtual 293, 3) := by decide +kernel
theorem dX10_odds_83 : decode cX10_odds 83 = .ok (.invokevirtual 287, 3) := by decide +kernel
theorem dX10_odds_86 : decode cX10_odds 86 = .ok (.lload 4, 2) := by decide +kernel
theorem dX10_odds_88 : decode cX10_odds 88 = .ok (.iload_n 3, 1) := by decide +kernel
theorem dX10_odds_89 : decode cX10_odds 89 = .ok (.invokestatic 304, 3) := by decide +kernel
theorem dX10_odds_92 : decode cX10_odds 92 = .ok (.lreturn, 1) := by decide +kernel
theorem dX10_hours_0 : decode cX10_hours 0 = .ok (.aload_n 0, 1) := by decide +kernel
theorem dX10_hours_1 : decode cX10_hours 1 = .ok (.iconst 0, 1) := by decide +kernel
theorem dX10_hours_2 : decode cX10_hours 2 = .ok (.putfield 1, 3) := by decide +kernel
theorem dX10_hours_5 : decode cX10_hours 5 = .ok (.aload_n 0, 1) := by decide +kernel
theorem dX10_hours_6 : decode cX10_hours 6 = .ok (.iload_n 1, 1) := by decide +kernel
theorem dX10_hours_7 : decode cX10_hours 7 = .ok (.invokevirtual 234, 3) := by decide +kernel
theorem dX10_hours_10 : decode cX10_hours 10 = .ok (.ifCond .eq 12, 3) := by decide +kernel
theorem dX10_hours_13 : decode cX10_hours 13 = .ok (.iload_n 2, 1) := by decide +kernel
theorem dX10_hours_14 : decode cX10_hours 14 = .ok (.iconst 0, 1) := by decide +kernel
theorem dX10_hours_15 : decode cX10_hours 15 = .ok (.iconst 2, 1) := by decide +kernel
theorem dX10_hours_16 : decode cX10_hours 16 = .ok (.invokestatic 172, 3) := by decide +kernel
theorem dX10_hours_19 : decode cX10_hours 19 = .ok (.ifCond .ne 5, 3) := by decide +kernel
theorem dX10_hours_22 : decode cX10_hours 22 = .ok (.iconst (-1), 1) := by decide +kernel
theorem dX10_hours_23 : decode cX10_hours 23 = .ok (.ireturn, 1) := by decide +kernel
theorem dX10_hours_24 : decode cX10_hours 24 = .ok (.aload_n 0, 1) := by decide +kernel
theorem dX10_hours_25 : decode cX10_hours 25 = .ok (.aload_n 0, 1) := by decide +kernel
theorem dX10_hours_26 : decode cX10_hours 26 = .ok (.getfield 41, 3) := by decide +kernel
theorem dX10_hours_29 : decode cX10_hours 29 = .ok (.sipush 169, 3) := by decide +kernel
theorem dX10_hours_32 : decode cX10_hours 32 = .ok (.iaload, 1) := by decide +kernel
theorem dX10_hours_33 : decode cX10_hours 33 = .ok (.invokevirtual 283, 3) := by decide +kernel
theorem dX10_hours_36 : decode cX10_hours 36 = .ok (.lstore_n 3, 1) := by decide +kernel
theorem dX10_hours_37 : decode cX10_hours 37 = .ok (.lload_n 3, 1) := by decide +kernel
theorem dX10_hours_38 : decode cX10_hours 38 = .ok (.lconst 0, 1) := by decide +kernel
theorem dX10_hours_39 : decode cX10_hours 39 = .ok (.lcmp, 1) := by decide +kernel
theorem dX10_hours_40 : decode cX10_hours 40 = .ok (.ifCond .ne 5, 3) := by decide +kernel
theorem dX10_hours_43 : decode cX10_hours 43 = .ok (.iconst (-1), 1) := by decide +kernel
theorem dX10_hours_44 : decode cX10_hours 44 = .ok (.ireturn, 1) := by decide +kernel
theorem dX10_hours_45 : decode cX10_hours 45 = .ok (.iconst 0, 1) := by decide +kernel
theorem dX10_hours_46 : decode cX10_hours 46 = .ok (.istore 5, 2) := by decide +kernel
theorem dX10_hours_48 : decode cX10_hours 48 = .ok (.iconst 0, 1) := by decide +kernel
theorem dX10_hours_49 : decode cX10_hours 49 = .ok (.istore 6, 2) := by decide +kernel
theorem dX10_hours_51 : decode cX10_hours 51 = .ok (.iload 6, 2) := by decide +kernel
theorem dX10_hours_53 : decode cX10_hours 53 = .ok (.bipush 30, 2) := by decide +kernel
theorem dX10_hours_55 : decode cX10_hours 55 = .ok (.if_icmp .ge 34, 3) := by decide +kernel
theorem dX10_hours_58 : decode cX10_hours 58 = .ok (.iload 5, 2) := by decide +kernel
theorem dX10_hours_60 : decode cX10_hours 60 = .ok (.aload_n 0, 1) := by decide +kernel
theorem dX10_hours_61 : decode cX10_hours 61 = .ok (.iload_n 1, 1) := by decide +kernel
theorem dX10_hours_62 : decode cX10_hours 62 = .ok (.iload 6, 2) := by decide +kernel
theorem dX10_hours_64 : decode cX10_hours 64 = .ok (.lload_n 3, 1) := by decide +kernel
theorem dX10_hours_65 : decode cX10_hours 65 = .ok (.invokevirtual 296, 3) := by decide +kernel
theorem dX10_hours_68 : decode cX10_hours 68 = .ok (.iload_n 2, 1) := by decide +kernel
theorem dX10_hours_69 : decode cX10_hours 69 = .ok (.if_icmp .ne 10, 3) := by decide +kernel
theorem dX10_hours_72 : decode cX10_hours 72 = .ok (.iconst 1, 1) := by decide +kernel
theorem dX10_hours_73 : decode cX10_hours 73 = .ok (.iload 6, 2) := by decide +kernel
theorem dX10_hours_75 : decode cX10_hours 75 = .ok (.ishl, 1) := by decide +kernel
theorem dX10_hours_76 : decode cX10_hours 76 = .ok (.goto 4, 3) := by decide +kernel
theorem dX10_hours_79 : decode cX10_hours 79 = .ok (.iconst 0, 1) := by decide +kernel
theorem dX10_hours_80 : decode cX10_hours 80 = .ok (.ior, 1) := by decide +kernel
theorem dX10_hours_81 : decode cX10_hours 81 = .ok (.istore 5, 2) := by decide +kernel
theorem dX10_hours_83 : decode cX10_hours 83 = .ok (.iinc 6 1, 3) := by decide +kernel
theorem dX10_hours_86 : decode cX10_hours 86 = .ok (.goto (-35), 3) := by decide +kernel
theorem dX10_hours_89 : decode cX10_hours 89 = .ok (.iload 5, 2) := by decide +kernel
theorem dX10_hours_91 : decode cX10_hours 91 = .ok (.ireturn, 1) := by decide +kernel
theorem dX10_both_0 : decode cX10_both 0 = .ok (.aload_n 0, 1) := by decide +kernel
theorem dX10_both_1 : decode cX10_both 1 = .ok (.iconst 0, 1) := by decide +kernel
theorem dX10_both_2 : decode cX10_both 2 = .ok (.putfield 1, 3) := by decide +kernel
theorem dX10_both_5 : decode cX10_both 5 = .ok (.aload_n 0, 1) := by decide +kernel
theorem dX10_both_6 : decode cX10_both 6 = .ok (.iload_n 1, 1) := by decide +kernel
theorem dX10_both_7 : decode cX10_both 7 = .ok (.invokevirtual 234, 3) := by decide +kernel
theorem dX10_both_10 : decode cX10_both 10 = .ok (.ifCond .eq 18, 3) := by decide +kernel
theorem dX10_both_13 : decode cX10_both 13 = .ok (.aload_n 0, 1) := by decide +kernel
theorem dX10_both_14 : decode cX10_both 14 = .ok (.iload_n 2, 1) := by decide +kernel
theorem dX10_both_15 : decode cX10_both 15 = .ok (.invokevirtual 234, 3) := by decide +kernel
theorem dX10_both_18 : decode cX10_both 18 = .ok (.ifCond .eq 10, 3) := by decide +kernel
theorem dX10_both_21 : decode cX10_both 21 = .ok (.iload_n 3, 1) := by decide +kernel
theorem dX10_both_22 : decode cX10_both 22 = .ok (.invokestatic 245, 3) := by decide +kernel
theorem dX10_both_25 : decode cX10_both 25 = .ok (.ifCond .ne 7, 3) := by decide +kernel
theorem dX10_both_28 : decode cX10_both 28 = .ok (.ldc2_w 291, 3) := by decide +kernel
theorem dX10_both_31 : decode cX10_both 31 = .ok (.lreturn, 1) := by decide +kernel
theorem dX10_both_32 : decode cX10_both 32 = .ok (.iload_n 1, 1) := by decide +kernel
theorem dX10_both_33 : decode cX10_both 33 = .ok (.iload_n 2, 1) := by decide +kernel
theorem dX10_both_34 : decode cX10_both 34 = .ok (.if_icmp .ne 15, 3) := by decide +kernel
theorem dX10_both_37 : decode cX10_both 37 = .ok (.aload_n 0, 1) := by decide +kernel
theorem dX10_both_38 : decode cX10_both 38 = .ok (.iload_n 1, 1) := by decide +kernel
theorem dX10_both_39 : decode cX10_both 39 = .ok (.aload_n 0, 1) := by decide +kernel
theorem dX10_both_40 : decode cX10_both 40 = .ok (.iload_n 1, 1) := by decide +kernel
theorem dX10_both_41 : decode cX10_both 41 = .ok (.iload_n 3, 1) := by decide +kernel
theorem dX10_both_42 : decode cX10_both 42 = .ok (.invokevirtual 293, 3) := by decide +kernel
theorem dX10_both_45 : decode cX10_both 45 = .ok (.invokevirtual 287, 3) := by decide +kernel
theorem dX10_both_48 : decode cX10_both 48 = .ok (.lreturn, 1) := by decide +kernel
theorem dX10_both_49 : decode cX10_both 49 = .ok (.aload_n 0, 1) := by decide +kernel
theorem dX10_both_50 : decode cX10_both 50 = .ok (.aload_n 0, 1) := by decide +kernel
theorem dX10_both_51 : decode cX10_both 51 = .ok (.getfield 41, 3) := by decide +kernel
theorem dX10_both_54 : decode cX10_both 54 = .ok (.sipush 169, 3) := by decide +kernel
theorem dX10_both_57 : decode cX10_both 57 = .ok (.iaload, 1) := by decide +kernel
theorem dX10_both_58 : decode cX10_both 58 = .ok (.invokevirtual 270, 3) := by decide +kernel
theorem dX10_both_61 : decode cX10_both 61 = .ok (.lconst 0, 1) := by decide +kernel
theorem dX10_both_62 : decode cX10_both 62 = .ok (.lstore 4, 2) := by decide +kernel
theorem dX10_both_64 : decode cX10_both 64 = .ok (.aload_n 0, 1) := by decide +kernel
theorem dX10_both_65 : decode cX10_both 65 = .ok (.invokevirtual 273, 3) := by decide +kernel
theorem dX10_both_68 : decode cX10_both 68 = .ok (.lload 4, 2) := by decide +kernel
theorem dX10_both_70 : decode cX10_both 70 = .ok (.aload_n 0, 1) := by decide +kernel
theorem dX10_both_71 : decode cX10_both 71 = .ok (.iload_n 1, 1) := by decide +kernel
theorem dX10_both_72 : decode cX10_both 72 = .ok (.iload_n 2, 1) := by decide +kernel
theorem dX10_both_73 : decode cX10_both 73 = .ok (.invokevirtual 276, 3) := by decide +kernel
theorem dX10_both_76 : decode cX10_both 76 = .ok (.aload_n 0, 1) := by decide +kernel
theorem dX10_both_77 : decode cX10_both 77 = .ok (.getfield 70, 3) := by decide +kernel
theorem dX10_both_80 : decode cX10_both 80 = .ok (.iload_n 1, 1) := by decide +kernel
theorem dX10_both_81 : decode cX10_both 81 = .ok (.laload, 1) := by decide +kernel
theorem dX10_both_82 : decode cX10_both 82 = .ok (.aload_n 0, 1) := by decide +kernel
theorem dX10_both_83 : decode cX10_both 83 = .ok (.iload_n 1, 1) := by decide +kernel
theorem dX10_both_84 : decode cX10_both 84 = .ok (.iload_n 3, 1) := by decide +kernel
theorem dX10_both_85 : decode cX10_both 85 = .ok (.invokevirtual 293, 3) := by decide +kernel
theorem dX10_both_88 : decode cX10_both 88 = .ok (.land, 1) := by decide +kernel
theorem dX10_both_89 : decode cX10_both 89 = .ok (.invokestatic 266, 3) := by decide +kernel
theorem dX10_both_92 : decode cX10_both 92 = .ok (.i2l, 1) := by decide +kernel
theorem dX10_both_93 : decode cX10_both 93 = .ok (.lmul, 1) := by decide +kernel
theorem dX10_both_94 : decode cX10_both 94 = .ok (.aload_n 0, 1) := by decide +kernel
theorem dX10_both_95 : decode cX10_both 95 = .ok (.getfield 70, 3) := by decide +kernel
theorem dX10_both_98 : decode cX10_both 98 = .ok (.iload_n 2, 1) := by decide +kernel
theorem dX10_both_99 : decode cX10_both 99 = .ok (.laload, 1) := by decide +kernel
theorem dX10_both_100 : decode cX10_both 100 = .ok (.aload_n 0, 1) := by decide +kernel
theorem dX10_both_101 : decode cX10_both 101 = .ok (.iload_n 2, 1) := by decide +kernel
theorem dX10_both_102 : decode cX10_both 102 = .ok (.iload_n 3, 1) := by decide +kernel
theorem dX10_both_103 : decode cX10_both 103 = .ok (.invokevirtual 293, 3) := by decide +kernel
theorem dX10_both_106 : decode cX10_both 106 = .ok (.land, 1) := by decide +kernel
theorem dX10_both_107 : decode cX10_both 107 = .ok (.invokestatic 266, 3) := by decide +kernel
theorem dX10_both_110 : decode cX10_both 110 = .ok (.i2l, 1) := by decide +kernel
theorem dX10_both_111 : decode cX10_both 111 = .ok (.lmul, 1) := by decide +kernel
theorem dX10_both_112 : decode cX10_both 112 = .ok (.ladd, 1) := by decide +kernel
theorem dX10_both_113 : decode cX10_both 113 = .ok (.lstore 4, 2) := by decide +kernel
theorem dX10_both_115 : decode cX10_both 115 = .ok (.aload_n 0, 1) := by decide +kernel
theorem dX10_both_116 : decode cX10_both 116 = .ok (.invokevirtual 280, 3) := by decide +kernel
theorem dX10_both_119 : decode cX10_both 119 = .ok (.ifCond .ne (-51), 3) := by decide +kernel
theorem dX10_both_122 : decode cX10_both 122 = .ok (.lload 4, 2) := by decide +kernel
theorem dX10_both_124 : decode cX10_both 124 = .ok (.lreturn, 1) := by decide +kernel
theorem dX10_nextHour_0 : decode cX10_nextHour 0 = .ok (.iload_n 3, 1) := by decide +kernel
theorem dX10_nextHour_1 : decode cX10_nextHour 1 = .ok (.istore 4, 2) := by decide +kernel
theorem dX10_nextHour_3 : decode cX10_nextHour 3 = .ok (.iload 4, 2) := by decide +kernel
theorem dX10_nextHour_5 : decode cX10_nextHour 5 = .ok (.bipush 30, 2) := by decide +kernel
theorem dX10_nextHour_7 : decode cX10_nextHour 7 = .ok (.if_icmp .ge 28, 3) := by decide +kernel
theorem dX10_nextHour_10 : decode cX10_nextHour 10 = .ok (.aload_n 0, 1) := by decide +kernel
theorem dX10_nextHour_11 : decode cX10_nextHour 11 = .ok (.getfield 61, 3) := by decide +kernel
theorem dX10_nextHour_14 : decode cX10_nextHour 14 = .ok (.bipush 36, 2) := by decide +kernel
theorem dX10_nextHour_16 : decode cX10_nextHour 16 = .ok (.iload_n 1, 1) := by decide +kernel
theorem dX10_nextHour_17 : decode cX10_nextHour 17 = .ok (.imul, 1) := by decide +kernel
theorem dX10_nextHour_18 : decode cX10_nextHour 18 = .ok (.iload_n 2, 1) := by decide +kernel
theorem dX10_nextHour_19 : decode cX10_nextHour 19 = .ok (.iadd, 1) := by decide +kernel
theorem dX10_nextHour_20 : decode cX10_nextHour 20 = .ok (.iaload, 1) := by decide +kernel
theorem dX10_nextHour_21 : decode cX10_nextHour 21 = .ok (.iload 4, 2) := by decide +kernel
theorem dX10_nextHour_23 : decode cX10_nextHour 23 = .ok (.invokestatic 213, 3) := by decide +kernel
theorem dX10_nextHour_26 : decode cX10_nextHour 26 = .ok (.ifCond .ne 9, 3) := by decide +kernel
theorem dX10_nextHour_29 : decode cX10_nextHour 29 = .ok (.iinc 4 1, 3) := by decide +kernel
theorem dX10_nextHour_32 : decode cX10_nextHour 32 = .ok (.goto (-29), 3) := by decide +kernel
theorem dX10_nextHour_35 : decode cX10_nextHour 35 = .ok (.iload 4, 2) := by decide +kernel
theorem dX10_nextHour_37 : decode cX10_nextHour 37 = .ok (.ireturn, 1) := by decide +kernel
theorem dX10_bet_0 : decode cX10_bet 0 = .ok (.aload_n 0, 1) := by decide +kernel
theorem dX10_bet_1 : decode cX10_bet 1 = .ok (.aload_n 0, 1) := by decide +kernel
theorem dX10_bet_2 : decode cX10_bet 2 = .ok (.iload_n 1, 1) := by decide +kernel
theorem dX10_bet_3 : decode cX10_bet 3 = .ok (.invokevirtual 234, 3) := by decide +kernel
theorem dX10_bet_6 : decode cX10_bet 6 = .ok (.ifCond .eq 19, 3) := by decide +kernel
theorem dX10_bet_9 : decode cX10_bet 9 = .ok (.iload_n 2, 1) := by decide +kernel
theorem dX10_bet_10 : decode cX10_bet 10 = .ok (.invokestatic 245, 3) := by decide +kernel
theorem dX10_bet_13 : decode cX10_bet 13 = .ok (.ifCond .eq 12, 3) := by decide +kernel
theorem dX10_bet_16 : decode cX10_bet 16 = .ok (.iload_n 3, 1) := by decide +kernel
theorem dX10_bet_17 : decode cX10_bet 17 = .ok (.iconst 0, 1) := by decide +kernel
theorem dX10_bet_18 : decode cX10_bet 18 = .ok (.iconst 1, 1) := by decide +kernel
theorem dX10_bet_19 : decode cX10_bet 19 = .ok (.invokestatic 172, 3) := by decide +kernel
theorem dX10_bet_22 : decode cX10_bet 22 = .ok (.ifCond .ne 7, 3) := by decide +kernel
theorem dX10_bet_25 : decode cX10_bet 25 = .ok (.iconst 1, 1) := by decide +kernel
theorem dX10_bet_26 : decode cX10_bet 26 = .ok (.goto 4, 3) := by decide +kernel
theorem dX10_bet_29 : decode cX10_bet 29 = .ok (.iconst 0, 1) := by decide +kernel
theorem dX10_bet_30 : decode cX10_bet 30 = .ok (.invokevirtual 237, 3) := by decide +kernel
theorem dX10_bet_33 : decode cX10_bet 33 = .ok (.ifCond .eq 5, 3) := by decide +kernel
theorem dX10_bet_36 : decode cX10_bet 36 = .ok (.lconst 0, 1) := by decide +kernel
theorem dX10_bet_37 : decode cX10_bet 37 = .ok (.lreturn, 1) := by decide +kernel
theorem dX10_bet_38 : decode cX10_bet 38 = .ok (.iconst 0, 1) := by decide +kernel
theorem dX10_bet_39 : decode cX10_bet 39 = .ok (.istore 4, 2) := by decide +kernel
theorem dX10_bet_41 : decode cX10_bet 41 = .ok (.iload 4, 2) := by decide +kernel
theorem dX10_bet_43 : decode cX10_bet 43 = .ok (.bipush 30, 2) := by decide +kernel
theorem dX10_bet_45 : decode cX10_bet 45 = .ok (.if_icmp .ge 161, 3) := by decide +kernel
theorem dX10_bet_48 : decode cX10_bet 48 = .ok (.aload_n 0, 1) := by decide +kernel
theorem dX10_bet_49 : decode cX10_bet 49 = .ok (.getfield 79, 3) := by decide +kernel
theorem dX10_bet_52 : decode cX10_bet 52 = .ok (.iload 4, 2) := by decide +kernel
theorem dX10_bet_54 : decode cX10_bet 54 = .ok (.lconst 0, 1) := by decide +kernel
theorem dX10_bet_55 : decode cX10_bet 55 = .ok (.lastore, 1) := by decide +kernel
theorem dX10_bet_56 : decode cX10_bet 56 = .ok (.iconst 0, 1) := by decide +kernel
theorem dX10_bet_57 : decode cX10_bet 57 = .ok (.istore 5, 2) := by decide +kernel
theorem dX10_bet_59 : decode cX10_bet 59 = .ok (.iload 5, 2) := by decide +kernel
theorem dX10_bet_61 : decode cX10_bet 61 = .ok (.aload_n 0, 1) := by decide +kernel
theorem dX10_bet_62 : decode cX10_bet 62 = .ok (.getfield 64, 3) := by decide +kernel
theorem dX10_bet_65 : decode cX10_bet 65 = .ok (.iload_n 1, 1) := by decide +kernel
theorem dX10_bet_66 : decode cX10_bet 66 = .ok (.iaload, 1) := by decide +kernel
theorem dX10_bet_67 : decode cX10_bet 67 = .ok (.if_icmp .ge 40, 3) := by decide +kernel
theorem dX10_bet_70 : decode cX10_bet 70 = .ok (.aload_n 0, 1) := by decide +kernel
theorem dX10_bet_71 : decode cX10_bet 71 = .ok (.getfield 79, 3) := by decide +kernel
theorem dX10_bet_74 : decode cX10_bet 74 = .ok (.iload 4, 2) := by decide +kernel
theorem dX10_bet_76 : decode cX10_bet 76 = .ok (.dup2, 1) := by decide +kernel
theorem dX10_bet_77 : decode cX10_bet 77 = .ok (.laload, 1) := by decide +kernel
theorem dX10_bet_78 : decode cX10_bet 78 = .ok (.aload_n 0, 1) := by decide +kernel
theorem dX10_bet_79 : decode cX10_bet 79 = .ok (.iload_n 1, 1) := by decide +kernel
theorem dX10_bet_80 : decode cX10_bet 80 = .ok (.iload 5, 2) := by decide +kernel
theorem dX10_bet_82 : decode cX10_bet 82 = .ok (.iload_n 2, 1) := by decide +kernel
theorem dX10_bet_83 : decode cX10_bet 83 = .ok (.invokevirtual 308, 3) := by decide +kernel
theorem dX10_bet_86 : decode cX10_bet 86 = .ok (.iload 4, 2) := by decide +kernel
theorem dX10_bet_88 : decode cX10_bet 88 = .ok (.if_icmp .ne 10, 3) := by decide +kernel
theorem dX10_bet_91 : decode cX10_bet 91 = .ok (.lconst 1, 1) := by decide +kernel
theorem dX10_bet_92 : decode cX10_bet 92 = .ok (.iload 5, 2) := by decide +kernel
theorem dX10_bet_94 : decode cX10_bet 94 = .ok (.lshl, 1) := by decide +kernel
theorem dX10_bet_95 : decode cX10_bet 95 = .ok (.goto 4, 3) := by decide +kernel
theorem dX10_bet_98 : decode cX10_bet 98 = .ok (.lconst 0, 1) := by decide +kernel
theorem dX10_bet_99 : decode cX10_bet 99 = .ok (.lor, 1) := by decide +kernel
theorem dX10_bet_100 : decode cX10_bet 100 = .ok (.lastore, 1) := by decide +kernel
theorem dX10_bet_101 : decode cX10_bet 101 = .ok (.iinc 5 1, 3) := by decide +kernel
theorem dX10_bet_104 : decode cX10_bet 104 = .ok (.goto (-45), 3) := by decide +kernel
theorem dX10_bet_107 : decode cX10_bet 107 = .ok (.iconst 0, 1) := by decide +kernel
theorem dX10_bet_108 : decode cX10_bet 108 = .ok (.istore 5, 2) := by decide +kernel
theorem dX10_bet_110 : decode cX10_bet 110 = .ok (.iload 5, 2) := by decide +kernel
theorem dX10_bet_112 : decode cX10_bet 112 = .ok (.aload_n 0, 1) := by decide +kernel
theorem dX10_bet_113 : decode cX10_bet 113 = .ok (.getfield 41, 3) := by decide +kernel
theorem dX10_bet_116 : decode cX10_bet 116 = .ok (.iconst 0, 1) := by decide +kernel
theorem dX10_bet_117 : decode cX10_bet 117 = .ok (.iaload, 1) := by decide +kernel
theorem dX10_bet_118 : decode cX10_bet 118 = .ok (.if_icmp .ge 82, 3) := by decide +kernel
theorem dX10_bet_121 : decode cX10_bet 121 = .ok (.aload_n 0, 1) := by decide +kernel
theorem dX10_bet_122 : decode cX10_bet 122 = .ok (.getfield 76, 3) := by decide +kernel
theorem dX10_bet_125 : decode cX10_bet 125 = .ok (.bipush 30, 2) := by decide +kernel
theorem dX10_bet_127 : decode cX10_bet 127 = .ok (.iload 5, 2) := by decide +kernel
theorem dX10_bet_129 : decode cX10_bet 129 = .ok (.imul, 1) := by decide +kernel
theorem dX10_bet_130 : decode cX10_bet 130 = .ok (.iload 4, 2) := by decide +kernel
theorem dX10_bet_132 : decode cX10_bet 132 = .ok (.iadd, 1) := by decide +kernel
theorem dX10_bet_133 : decode cX10_bet 133 = .ok (.lconst 0, 1) := by decide +kernel
theorem dX10_bet_134 : decode cX10_bet 134 = .ok (.lastore, 1) := by decide +kernel
theorem dX10_bet_135 : decode cX10_bet 135 = .ok (.iconst 0, 1) := by decide +kernel
theorem dX10_bet_136 : decode cX10_bet 136 = .ok (.istore 6, 2) := by decide +kernel
theorem dX10_bet_138 : decode cX10_bet 138 = .ok (.iload 6, 2) := by decide +kernel
theorem dX10_bet_140 : decode cX10_bet 140 = .ok (.aload_n 0, 1) := by decide +kernel
theorem dX10_bet_141 : decode cX10_bet 141 = .ok (.getfield 64, 3) := by decide +kernel
theorem dX10_bet_144 : decode cX10_bet 144 = .ok (.iload 5, 2) := by decide +kernel
theorem dX10_bet_146 : decode cX10_bet 146 = .ok (.iaload, 1) := by decide +kernel
theorem dX10_bet_147 : decode cX10_bet 147 = .ok (.if_icmp .ge 47, 3) := by decide +kernel
theorem dX10_bet_150 : decode cX10_bet 150 = .ok (.aload_n 0, 1) := by decide +kernel
theorem dX10_bet_151 : decode cX10_bet 151 = .ok (.getfield 76, 3) := by decide +kernel
theorem dX10_bet_154 : decode cX10_bet 154 = .ok (.bipush 30, 2) := by decide +kernel
theorem dX10_bet_156 : decode cX10_bet 156 = .ok (.iload 5, 2) := by decide +kernel
theorem dX10_bet_158 : decode cX10_bet 158 = .ok (.imul, 1) := by decide +kernel
theorem dX10_bet_159 : decode cX10_bet 159 = .ok (.iload 4, 2) := by decide +kernel
theorem dX10_bet_161 : decode cX10_bet 161 = .ok (.iadd, 1) := by decide +kernel
theorem dX10_bet_162 : decode cX10_bet 162 = .ok (.dup2, 1) := by decide +kernel
theorem dX10_bet_163 : decode cX10_bet 163 = .ok (.laload, 1) := by decide +kernel
theorem dX10_bet_164 : decode cX10_bet 164 = .ok (.aload_n 0, 1) := by decide +kernel
theorem dX10_bet_165 : decode cX10_bet 165 = .ok (.iload 5, 2) := by decide +kernel
theorem dX10_bet_167 : decode cX10_bet 167 = .ok (.iload 6, 2) := by decide +kernel
theorem dX10_bet_169 : decode cX10_bet 169 = .ok (.iload_n 2, 1) := by decide +kernel
theorem dX10_bet_170 : decode cX10_bet 170 = .ok (.invokevirtual 308, 3) := by decide +kernel
theorem dX10_bet_173 : decode cX10_bet 173 = .ok (.iload 4, 2) := by decide +kernel
theorem dX10_bet_175 : decode cX10_bet 175 = .ok (.if_icmp .le 10, 3) := by decide +kernel
theorem dX10_bet_178 : decode cX10_bet 178 = .ok (.lconst 1, 1) := by decide +kernel
theorem dX10_bet_179 : decode cX10_bet 179 = .ok (.iload 6, 2) := by decide +kernel
theorem dX10_bet_181 : decode cX10_bet 181 = .ok (.lshl, 1) := by decide +kernel
theorem dX10_bet_182 : decode cX10_bet 182 = .ok (.goto 4, 3) := by decide +kernel
theorem dX10_bet_185 : decode cX10_bet 185 = .ok (.lconst 0, 1) := by decide +kernel
theorem dX10_bet_186 : decode cX10_bet 186 = .ok (.lor, 1) := by decide +kernel
theorem dX10_bet_187 : decode cX10_bet 187 = .ok (.lastore, 1) := by decide +kernel
theorem dX10_bet_188 : decode cX10_bet 188 = .ok (.iinc 6 1, 3) := by decide +kernel
theorem dX10_bet_191 : decode cX10_bet 191 = .ok (.goto (-53), 3) := by decide +kernel
theorem dX10_bet_194 : decode cX10_bet 194 = .ok (.iinc 5 1, 3) := by decide +kernel
theorem dX10_bet_197 : decode cX10_bet 197 = .ok (.goto (-87), 3) := by decide +kernel
theorem dX10_bet_200 : decode cX10_bet 200 = .ok (.iinc 4 1, 3) := by decide +kernel
theorem dX10_bet_203 : decode cX10_bet 203 = .ok (.goto (-162), 3) := by decide +kernel
theorem dX10_bet_206 : decode cX10_bet 206 = .ok (.aload_n 0, 1) := by decide +kernel
theorem dX10_bet_207 : decode cX10_bet 207 = .ok (.aload_n 0, 1) := by decide +kernel
theorem dX10_bet_208 : decode cX10_bet 208 = .ok (.getfield 41, 3) := by decide +kernel
theorem dX10_bet_211 : decode cX10_bet 211 = .ok (.sipush 169, 3) := by decide +kernel
theorem dX10_bet_214 : decode cX10_bet 214 = .ok (.iaload, 1) := by decide +kernel
theorem dX10_bet_215 : decode cX10_bet 215 = .ok (.invokevirtual 283, 3) := by decide +kernel
theorem dX10_bet_218 : decode cX10_bet 218 = .ok (.lstore 4, 2) := by decide +kernel
theorem dX10_bet_220 : decode cX10_bet 220 = .ok (.lconst 0, 1) := by decide +kernel
theorem dX10_bet_221 : decode cX10_bet 221 = .ok (.lstore 6, 2) := by decide +kernel
theorem dX10_bet_223 : decode cX10_bet 223 = .ok (.aload_n 0, 1) := by decide +kernel
theorem dX10_bet_224 : decode cX10_bet 224 = .ok (.invokevirtual 273, 3) := by decide +kernel
theorem dX10_bet_227 : decode cX10_bet 227 = .ok (.iload_n 2, 1) := by decide +kernel
theorem dX10_bet_228 : decode cX10_bet 228 = .ok (.istore 8, 2) := by decide +kernel
theorem dX10_bet_230 : decode cX10_bet 230 = .ok (.iload 8, 2) := by decide +kernel
theorem dX10_bet_232 : decode cX10_bet 232 = .ok (.bipush 30, 2) := by decide +kernel
theorem dX10_bet_234 : decode cX10_bet 234 = .ok (.if_icmp .ge 103, 3) := by decide +kernel
theorem dX10_bet_237 : decode cX10_bet 237 = .ok (.aload_n 0, 1) := by decide +kernel
theorem dX10_bet_238 : decode cX10_bet 238 = .ok (.getfield 70, 3) := by decide +kernel
theorem dX10_bet_241 : decode cX10_bet 241 = .ok (.iload_n 1, 1) := by decide +kernel
theorem dX10_bet_242 : decode cX10_bet 242 = .ok (.laload, 1) := by decide +kernel
theorem dX10_bet_243 : decode cX10_bet 243 = .ok (.aload_n 0, 1) := by decide +kernel
theorem dX10_bet_244 : decode cX10_bet 244 = .ok (.getfield 79, 3) := by decide +kernel
theorem dX10_bet_247 : decode cX10_bet 247 = .ok (.iload 8, 2) := by decide +kernel
theorem dX10_bet_249 : decode cX10_bet 249 = .ok (.laload, 1) := by decide +kernel
theorem dX10_bet_250 : decode cX10_bet 250 = .ok (.land, 1) := by decide +kernel
theorem dX10_bet_251 : decode cX10_bet 251 = .ok (.invokestatic 266, 3) := by decide +kernel
theorem dX10_bet_254 : decode cX10_bet 254 = .ok (.i2l, 1) := by decide +kernel
theorem dX10_bet_255 : decode cX10_bet 255 = .ok (.lstore 9, 2) := by decide +kernel
theorem dX10_bet_257 : decode cX10_bet 257 = .ok (.iconst 0, 1) := by decide +kernel
theorem dX10_bet_258 : decode cX10_bet 258 = .ok (.istore 11, 2) := by decide +kernel
theorem dX10_bet_260 : decode cX10_bet 260 = .ok (.iload 11, 2) := by decide +kernel
theorem dX10_bet_262 : decode cX10_bet 262 = .ok (.aload_n 0, 1) := by decide +kernel
theorem dX10_bet_263 : decode cX10_bet 263 = .ok (.getfield 41, 3) := by decide +kernel
theorem dX10_bet_266 : decode cX10_bet 266 = .ok (.iconst 0, 1) := by decide +kernel
theorem dX10_bet_267 : decode cX10_bet 267 = .ok (.iaload, 1) := by decide +kernel
theorem dX10_bet_268 : decode cX10_bet 268 = .ok (.if_icmp .ge 56, 3) := by decide +kernel
theorem dX10_bet_271 : decode cX10_bet 271 = .ok (.lload 9, 2) := by decide +kernel
theorem dX10_bet_273 : decode cX10_bet 273 = .ok (.lconst 0, 1) := by decide +kernel
theorem dX10_bet_274 : decode cX10_bet 274 = .ok (.lcmp, 1) := by decide +kernel
theorem dX10_bet_275 : decode cX10_bet 275 = .ok (.ifCond .le 49, 3) := by decide +kernel
theorem dX10_bet_278 : decode cX10_bet 278 = .ok (.lload 9, 2) := by decide +kernel
theorem dX10_bet_280 : decode cX10_bet 280 = .ok (.iload 11, 2) := by decide +kernel
theorem dX10_bet_282 : decode cX10_bet 282 = .ok (.iload_n 1, 1) := by decide +kernel
theorem dX10_bet_283 : decode cX10_bet 283 = .ok (.if_icmp .ne 7, 3) := by decide +kernel
theorem dX10_bet_286 : decode cX10_bet 286 = .ok (.lconst 1, 1) := by decide +kernel
theorem dX10_bet_287 : decode cX10_bet 287 = .ok (.goto 28, 3) := by decide +kernel
theorem dX10_bet_290 : decode cX10_bet 290 = .ok (.aload_n 0, 1) := by decide +kernel
theorem dX10_bet_291 : decode cX10_bet 291 = .ok (.getfield 70, 3) := by decide +kernel
theorem dX10_bet_294 : decode cX10_bet 294 = .ok (.iload 11, 2) := by decide +kernel
theorem dX10_bet_296 : decode cX10_bet 296 = .ok (.laload, 1) := by decide +kernel
theorem dX10_bet_297 : decode cX10_bet 297 = .ok (.aload_n 0, 1) := by decide +kernel
theorem dX10_bet_298 : decode cX10_bet 298 = .ok (.getfield 76, 3) := by decide +kernel
theorem dX10_bet_301 : decode cX10_bet 301 = .ok (.bipush 30, 2) := by decide +kernel
theorem dX10_bet_303 : decode cX10_bet 303 = .ok (.iload 11, 2) := by decide +kernel
theorem dX10_bet_305 : decode cX10_bet 305 = .ok (.imul, 1) := by decide +kernel
theorem dX10_bet_306 : decode cX10_bet 306 = .ok (.iload 8, 2) := by decide +kernel
theorem dX10_bet_308 : decode cX10_bet 308 = .ok (.iadd, 1) := by decide +kernel
theorem dX10_bet_309 : decode cX10_bet 309 = .ok (.laload, 1) := by decide +kernel
theorem dX10_bet_310 : decode cX10_bet 310 = .ok (.land, 1) := by decide +kernel
theorem dX10_bet_311 : decode cX10_bet 311 = .ok (.invokestatic 266, 3) := by decide +kernel
theorem dX10_bet_314 : decode cX10_bet 314 = .ok (.i2l, 1) := by decide +kernel
theorem dX10_bet_315 : decode cX10_bet 315 = .ok (.lmul, 1) := by decide +kernel
theorem dX10_bet_316 : decode cX10_bet 316 = .ok (.lstore 9, 2) := by decide +kernel
theorem dX10_bet_318 : decode cX10_bet 318 = .ok (.iinc 11 1, 3) := by decide +kernel
theorem dX10_bet_321 : decode cX10_bet 321 = .ok (.goto (-61), 3) := by decide +kernel
theorem dX10_bet_324 : decode cX10_bet 324 = .ok (.lload 6, 2) := by decide +kernel
theorem dX10_bet_326 : decode cX10_bet 326 = .ok (.lload 9, 2) := by decide +kernel
theorem dX10_bet_328 : decode cX10_bet 328 = .ok (.ladd, 1) := by decide +kernel
theorem dX10_bet_329 : decode cX10_bet 329 = .ok (.lstore 6, 2) := by decide +kernel
theorem dX10_bet_331 : decode cX10_bet 331 = .ok (.iinc 8 1, 3) := by decide +kernel
theorem dX10_bet_334 : decode cX10_bet 334 = .ok (.goto (-104), 3) := by decide +kernel
theorem dX10_bet_337 : decode cX10_bet 337 = .ok (.aload_n 0, 1) := by decide +kernel
theorem dX10_bet_338 : decode cX10_bet 338 = .ok (.invokevirtual 280, 3) := by decide +kernel
theorem dX10_bet_341 : decode cX10_bet 341 = .ok (.ifCond .ne (-114), 3) := by decide +kernel
theorem dX10_bet_344 : decode cX10_bet 344 = .ok (.aload_n 0, 1) := by decide +kernel
theorem dX10_bet_345 : decode cX10_bet 345 = .ok (.lload 4, 2) := by decide +kernel
theorem dX10_bet_347 : decode cX10_bet 347 = .ok (.lconst 0, 1) := by decide +kernel
theorem dX10_bet_348 : decode cX10_bet 348 = .ok (.lcmp, 1) := by decide +kernel
theorem dX10_bet_349 : decode cX10_bet 349 = .ok (.ifCond .ne 7, 3) := by decide +kernel
theorem dX10_bet_352 : decode cX10_bet 352 = .ok (.iconst 1, 1) := by decide +kernel
theorem dX10_bet_353 : decode cX10_bet 353 = .ok (.goto 4, 3) := by decide +kernel
theorem dX10_bet_356 : decode cX10_bet 356 = .ok (.iconst 0, 1) := by decide +kernel
theorem dX10_bet_357 : decode cX10_bet 357 = .ok (.invokevirtual 237, 3) := by decide +kernel
theorem dX10_bet_360 : decode cX10_bet 360 = .ok (.ifCond .eq 7, 3) := by decide +kernel
theorem dX10_bet_363 : decode cX10_bet 363 = .ok (.lconst 0, 1) := by decide +kernel
theorem dX10_bet_364 : decode cX10_bet 364 = .ok (.goto 11, 3) := by decide +kernel
theorem dX10_bet_367 : decode cX10_bet 367 = .ok (.lload 6, 2) := by decide +kernel
theorem dX10_bet_369 : decode cX10_bet 369 = .ok (.lload 4, 2) := by decide +kernel
theorem dX10_bet_371 : decode cX10_bet 371 = .ok (.iload_n 3, 1) := by decide +kernel
theorem dX10_bet_372 : decode cX10_bet 372 = .ok (.invokestatic 304, 3) := by decide +kernel
theorem dX10_bet_375 : decode cX10_bet 375 = .ok (.lreturn, 1) := by decide +kernel
theorem dX10_lies_0 : decode cX10_lies 0 = .ok (.iconst 0, 1) := by decide +kernel
theorem dX10_lies_1 : decode cX10_lies 1 = .ok (.istore_n 1, 1) := by decide +kernel
theorem dX10_lies_2 : decode cX10_lies 2 = .ok (.iload_n 1, 1) := by decide +kernel
theorem dX10_lies_3 : decode cX10_lies 3 = .ok (.bipush 16, 2) := by decide +kernel
theorem dX10_lies_5 : decode cX10_lies 5 = .ok (.if_icmp .ge 16, 3) := by decide +kernel
theorem dX10_lies_8 : decode cX10_lies 8 = .ok (.aload_n 0, 1) := by decide +kernel
theorem dX10_lies_9 : decode cX10_lies 9 = .ok (.getfield 82, 3) := by decide +kernel
theorem dX10_lies_12 : decode cX10_lies 12 = .ok (.iload_n 1, 1) := by decide +kernel
theorem dX10_lies_13 : decode cX10_lies 13 = .ok (.iconst 0, 1) := by decide +kernel
theorem dX10_lies_14 : decode cX10_lies 14 = .ok (.bastore, 1) := by decide +kernel
theorem dX10_lies_15 : decode cX10_lies 15 = .ok (.iinc 1 1, 3) := by decide +kernel
theorem dX10_lies_18 : decode cX10_lies 18 = .ok (.goto (-16), 3) := by decide +kernel
theorem dX10_lies_21 : decode cX10_lies 21 = .ok (.aload_n 0, 1) := by decide +kernel
theorem dX10_lies_22 : decode cX10_lies 22 = .ok (.aload_n 0, 1) := by decide +kernel
theorem dX10_lies_23 : decode cX10_lies 23 = .ok (.getfield 41, 3) := by decide +kernel
theorem dX10_lies_26 : decode cX10_lies 26 = .ok (.sipush 169, 3) := by decide +kernel
theorem dX10_lies_29 : decode cX10_lies 29 = .ok (.iaload, 1) := by decide +kernel
theorem dX10_lies_30 : decode cX10_lies 30 = .ok (.invokevirtual 270, 3) := by decide +kernel
theorem dX10_lies_33 : decode cX10_lies 33 = .ok (.iconst 0, 1) := by decide +kernel
theorem dX10_lies_34 : decode cX10_lies 34 = .ok (.istore_n 1, 1) := by decide +kernel
theorem dX10_lies_35 : decode cX10_lies 35 = .ok (.aload_n 0, 1) := by decide +kernel
theorem dX10_lies_36 : decode cX10_lies 36 = .ok (.invokevirtual 273, 3) := by decide +kernel
theorem dX10_lies_39 : decode cX10_lies 39 = .ok (.aload_n 0, 1) := by decide +kernel
theorem dX10_lies_40 : decode cX10_lies 40 = .ok (.iconst (-1), 1) := by decide +kernel
theorem dX10_lies_41 : decode cX10_lies 41 = .ok (.iconst (-1), 1) := by decide +kernel
theorem dX10_lies_42 : decode cX10_lies 42 = .ok (.invokevirtual 276, 3) := by decide +kernel
theorem dX10_lies_45 : decode cX10_lies 45 = .ok (.lconst 0, 1) := by decide +kernel
theorem dX10_lies_46 : decode cX10_lies 46 = .ok (.lcmp, 1) := by decide +kernel
theorem dX10_lies_47 : decode cX10_lies 47 = .ok (.ifCond .ne 6, 3) := by decide +kernel
theorem dX10_lies_50 : decode cX10_lies 50 = .ok (.goto 51, 3) := by decide +kernel
theorem dX10_lies_53 : decode cX10_lies 53 = .ok (.iconst 0, 1) := by decide +kernel
theorem dX10_lies_54 : decode cX10_lies 54 = .ok (.istore_n 2, 1) := by decide +kernel
theorem dX10_lies_55 : decode cX10_lies 55 = .ok (.iconst 0, 1) := by decide +kernel
theorem dX10_lies_56 : decode cX10_lies 56 = .ok (.istore_n 3, 1) := by decide +kernel
theorem dX10_lies_57 : decode cX10_lies 57 = .ok (.iload_n 3, 1) := by decide +kernel
theorem dX10_lies_58 : decode cX10_lies 58 = .ok (.aload_n 0, 1) := by decide +kernel
theorem dX10_lies_59 : decode cX10_lies 59 = .ok (.getfield 41, 3) := by decide +kernel
theorem dX10_lies_62 : decode cX10_lies 62 = .ok (.iconst 1, 1) := by decide +kernel
theorem dX10_lies_63 : decode cX10_lies 63 = .ok (.iaload, 1) := by decide +kernel
theorem dX10_lies_64 : decode cX10_lies 64 = .ok (.if_icmp .ge 28, 3) := by decide +kernel
theorem dX10_lies_67 : decode cX10_lies 67 = .ok (.iload_n 2, 1) := by decide +kernel
theorem dX10_lies_68 : decode cX10_lies 68 = .ok (.aload_n 0, 1) := by decide +kernel
theorem dX10_lies_69 : decode cX10_lies 69 = .ok (.getfield 73, 3) := by decide +kernel
theorem dX10_lies_72 : decode cX10_lies 72 = .ok (.iload_n 3, 1) := by decide +kernel
theorem dX10_lies_73 : decode cX10_lies 73 = .ok (.iaload, 1) := by decide +kernel
theorem dX10_lies_74 : decode cX10_lies 74 = .ok (.ifCond .le 9, 3) := by decide +kernel
theorem dX10_lies_77 : decode cX10_lies 77 = .ok (.iconst 1, 1) := by decide +kernel
theorem dX10_lies_78 : decode cX10_lies 78 = .ok (.iload_n 3, 1) := by decide +kernel
theorem dX10_lies_79 : decode cX10_lies 79 = .ok (.ishl, 1) := by decide +kernel
theorem dX10_lies_80 : decode cX10_lies 80 = .ok (.goto 4, 3) := by decide +kernel
theorem dX10_lies_83 : decode cX10_lies 83 = .ok (.iconst 0, 1) := by decide +kernel
theorem dX10_lies_84 : decode cX10_lies 84 = .ok (.ior, 1) := by decide +kernel
theorem dX10_lies_85 : decode cX10_lies 85 = .ok (.istore_n 2, 1) := by decide +kernel
theorem dX10_lies_86 : decode cX10_lies 86 = .ok (.iinc 3 1, 3) := by decide +kernel
theorem dX10_lies_89 : decode cX10_lies 89 = .ok (.goto (-32), 3) := by decide +kernel
theorem dX10_lies_92 : decode cX10_lies 92 = .ok (.aload_n 0, 1) := by decide +kernel
theorem dX10_lies_93 : decode cX10_lies 93 = .ok (.getfield 82, 3) := by decide +kernel
theorem dX10_lies_96 : decode cX10_lies 96 = .ok (.iload_n 2, 1) := by decide +kernel
theorem dX10_lies_97 : decode cX10_lies 97 = .ok (.iconst 1, 1) := by decide +kernel
theorem dX10_lies_98 : decode cX10_lies 98 = .ok (.bastore, 1) := by decide +kernel
theorem dX10_lies_99 : decode cX10_lies 99 = .ok (.iconst 1, 1) := by decide +kernel
theorem dX10_lies_100 : decode cX10_lies 100 = .ok (.istore_n 1, 1) := by decide +kernel
theorem dX10_lies_101 : decode cX10_lies 101 = .ok (.aload_n 0, 1) := by decide +kernel
theorem dX10_lies_102 : decode cX10_lies 102 = .ok (.invokevirtual 280, 3) := by decide +kernel
theorem dX10_lies_105 : decode cX10_lies 105 = .ok (.ifCond .ne (-66), 3) := by decide +kernel
theorem dX10_lies_108 : decode cX10_lies 108 = .ok (.iload_n 1, 1) := by decide +kernel
theorem dX10_lies_109 : decode cX10_lies 109 = .ok (.ireturn, 1) := by decide +kernel
theorem dX10_lying_0 : decode cX10_lying 0 = .ok (.aload_n 0, 1) := by decide +kernel
theorem dX10_lying_1 : decode cX10_lying 1 = .ok (.iconst 0, 1) := by decide +kernel
theorem dX10_lying_2 : decode cX10_lying 2 = .ok (.putfield 1, 3) := by decide +kernel
theorem dX10_lying_5 : decode cX10_lying 5 = .ok (.iload_n 1, 1) := by decide +kernel
theorem dX10_lying_6 : decode cX10_lying 6 = .ok (.iconst 0, 1) := by decide +kernel
theorem dX10_lying_7 : decode cX10_lying 7 = .ok (.iconst 1, 1) := by decide +kernel
theorem dX10_lying_8 : decode cX10_lying 8 = .ok (.invokestatic 172, 3) := by decide +kernel
theorem dX10_lying_11 : decode cX10_lying 11 = .ok (.ifCond .eq 10, 3) := by decide +kernel
theorem dX10_lying_14 : decode cX10_lying 14 = .ok (.aload_n 0, 1) := by decide +kernel
theorem dX10_lying_15 : decode cX10_lying 15 = .ok (.invokevirtual 312, 3) := by decide +kernel
theorem dX10_lying_18 : decode cX10_lying 18 = .ok (.ifCond .ne 5, 3) := by decide +kernel
theorem dX10_lying_21 : decode cX10_lying 21 = .ok (.iconst (-1), 1) := by decide +kernel
theorem dX10_lying_22 : decode cX10_lying 22 = .ok (.ireturn, 1) := by decide +kernel
theorem dX10_lying_23 : decode cX10_lying 23 = .ok (.iconst 1, 1) := by decide +kernel
theorem dX10_lying_24 : decode cX10_lying 24 = .ok (.aload_n 0, 1) := by decide +kernel
theorem dX10_lying_25 : decode cX10_lying 25 = .ok (.getfield 41, 3) := by decide +kernel
theorem dX10_lying_28 : decode cX10_lying 28 = .ok (.iconst 1, 1) := by decide +kernel
theorem dX10_lying_29 : decode cX10_lying 29 = .ok (.iaload, 1) := by decide +kernel
theorem dX10_lying_30 : decode cX10_lying 30 = .ok (.ishl, 1) := by decide +kernel
theorem dX10_lying_31 : decode cX10_lying 31 = .ok (.iconst 1, 1) := by decide +kernel
theorem dX10_lying_32 : decode cX10_lying 32 = .ok (.isub, 1) := by decide +kernel
theorem dX10_lying_33 : decode cX10_lying 33 = .ok (.istore_n 2, 1) := by decide +kernel
theorem dX10_lying_34 : decode cX10_lying 34 = .ok (.iconst 0, 1) := by decide +kernel
theorem dX10_lying_35 : decode cX10_lying 35 = .ok (.istore_n 3, 1) := by decide +kernel
theorem dX10_lying_36 : decode cX10_lying 36 = .ok (.iconst 0, 1) := by decide +kernel
theorem dX10_lying_37 : decode cX10_lying 37 = .ok (.istore 4, 2) := by decide +kernel
theorem dX10_lying_39 : decode cX10_lying 39 = .ok (.iload 4, 2) := by decide +kernel
theorem dX10_lying_41 : decode cX10_lying 41 = .ok (.bipush 16, 2) := by decide +kernel
theorem dX10_lying_43 : decode cX10_lying 43 = .ok (.if_icmp .ge 32, 3) := by decide +kernel
theorem dX10_lying_46 : decode cX10_lying 46 = .ok (.aload_n 0, 1) := by decide +kernel
theorem dX10_lying_47 : decode cX10_lying 47 = .ok (.getfield 82, 3) := by decide +kernel
theorem dX10_lying_50 : decode cX10_lying 50 = .ok (.iload 4, 2) := by decide +kernel
theorem dX10_lying_52 : decode cX10_lying 52 = .ok (.baload, 1) := by decide +kernel
theorem dX10_lying_53 : decode cX10_lying 53 = .ok (.ifCond .ne 6, 3) := by decide +kernel
theorem dX10_lying_56 : decode cX10_lying 56 = .ok (.goto 13, 3) := by decide +kernel
theorem dX10_lying_59 : decode cX10_lying 59 = .ok (.iload_n 2, 1) := by decide +kernel
theorem dX10_lying_60 : decode cX10_lying 60 = .ok (.iload 4, 2) := by decide +kernel
theorem dX10_lying_62 : decode cX10_lying 62 = .ok (.iand, 1) := by decide +kernel
theorem dX10_lying_63 : decode cX10_lying 63 = .ok (.istore_n 2, 1) := by decide +kernel
theorem dX10_lying_64 : decode cX10_lying 64 = .ok (.iload_n 3, 1) := by decide +kernel
theorem dX10_lying_65 : decode cX10_lying 65 = .ok (.iload 4, 2) := by decide +kernel
theorem dX10_lying_67 : decode cX10_lying 67 = .ok (.ior, 1) := by decide +kernel
theorem dX10_lying_68 : decode cX10_lying 68 = .ok (.istore_n 3, 1) := by decide +kernel
theorem dX10_lying_69 : decode cX10_lying 69 = .ok (.iinc 4 1, 3) := by decide +kernel
theorem dX10_lying_72 : decode cX10_lying 72 = .ok (.goto (-33), 3) := by decide +kernel
theorem dX10_lying_75 : decode cX10_lying 75 = .ok (.iload_n 1, 1) := by decide +kernel
theorem dX10_lying_76 : decode cX10_lying 76 = .ok (.ifCond .ne 7, 3) := by decide +kernel
theorem dX10_lying_79 : decode cX10_lying 79 = .ok (.iload_n 2, 1) := by decide +kernel
theorem dX10_lying_80 : decode cX10_lying 80 = .ok (.goto 17, 3) := by decide +kernel
theorem dX10_lying_83 : decode cX10_lying 83 = .ok (.iconst 1, 1) := by decide +kernel
theorem dX10_lying_84 : decode cX10_lying 84 = .ok (.aload_n 0, 1) := by decide +kernel
theorem dX10_lying_85 : decode cX10_lying 85 = .ok (.getfield 41, 3) := by decide +kernel
theorem dX10_lying_88 : decode cX10_lying 88 = .ok (.iconst 1, 1) := by decide +kernel
theorem dX10_lying_89 : decode cX10_lying 89 = .ok (.iaload, 1) := by decide +kernel
theorem dX10_lying_90 : decode cX10_lying 90 = .ok (.ishl, 1) := by decide +kernel
theorem dX10_lying_91 : decode cX10_lying 91 = .ok (.iconst 1, 1) := by decide +kernel
theorem dX10_lying_92 : decode cX10_lying 92 = .ok (.isub, 1) := by decide +kernel
theorem dX10_lying_93 : decode cX10_lying 93 = .ok (.iload_n 3, 1) := by decide +kernel
theorem dX10_lying_94 : decode cX10_lying 94 = .ok (.iconst (-1), 1) := by decide +kernel
theorem dX10_lying_95 : decode cX10_lying 95 = .ok (.ixor, 1) := by decide +kernel
theorem dX10_lying_96 : decode cX10_lying 96 = .ok (.iand, 1) := by decide +kernel
theorem dX10_lying_97 : decode cX10_lying 97 = .ok (.ireturn, 1) := by decide +kernel
theorem dX10_fewestLiars_0 : decode cX10_fewestLiars 0 = .ok (.iconst 5, 1) := by decide +kernel
theorem dX10_fewestLiars_1 : decode cX10_fewestLiars 1 = .ok (.istore_n 1, 1) := by decide +kernel
theorem dX10_fewestLiars_2 : decode cX10_fewestLiars 2 = .ok (.iconst 0, 1) := by decide +kernel
theorem dX10_fewestLiars_3 : decode cX10_fewestLiars 3 = .ok (.istore_n 2, 1) := by decide +kernel
theorem dX10_fewestLiars_4 : decode cX10_fewestLiars 4 = .ok (.iload_n 2, 1) := by decide +kernel
theorem dX10_fewestLiars_5 : decode cX10_fewestLiars 5 = .ok (.bipush 16, 2) := by decide +kernel
theorem dX10_fewestLiars_7 : decode cX10_fewestLiars 7 = .ok (.if_icmp .ge 33, 3) := by decide +kernel
theorem dX10_fewestLiars_10 : decode cX10_fewestLiars 10 = .ok (.aload_n 0, 1) := by decide +kernel
theorem dX10_fewestLiars_11 : decode cX10_fewestLiars 11 = .ok (.getfield 82, 3) := by decide +kernel
theorem dX10_fewestLiars_14 : decode cX10_fewestLiars 14 = .ok (.iload_n 2, 1) := by decide +kernel
theorem dX10_fewestLiars_15 : decode cX10_fewestLiars 15 = .ok (.baload, 1) := by decide +kernel
theorem dX10_fewestLiars_16 : decode cX10_fewestLiars 16 = .ok (.ifCond .eq 18, 3) := by decide +kernel
theorem dX10_fewestLiars_19 : decode cX10_fewestLiars 19 = .ok (.iload_n 2, 1) := by decide +kernel
theorem dX10_fewestLiars_20 : decode cX10_fewestLiars 20 = .ok (.i2l, 1) := by decide +kernel
theorem dX10_fewestLiars_21 : decode cX10_fewestLiars 21 = .ok (.invokestatic 266, 3) := by decide +kernel
theorem dX10_fewestLiars_24 : decode cX10_fewestLiars 24 = .ok (.iload_n 1, 1) := by decide +kernel
theorem dX10_fewestLiars_25 : decode cX10_fewestLiars 25 = .ok (.if_icmp .ge 9, 3) := by decide +kernel
theorem dX10_fewestLiars_28 : decode cX10_fewestLiars 28 = .ok (.iload_n 2, 1) := by decide +kernel
theorem dX10_fewestLiars_29 : decode cX10_fewestLiars 29 = .ok (.i2l, 1) := by decide +kernel
theorem dX10_fewestLiars_30 : decode cX10_fewestLiars 30 = .ok (.invokestatic 266, 3) := by decide +kernel
theorem dX10_fewestLiars_33 : decode cX10_fewestLiars 33 = .ok (.istore_n 1, 1) := by decide +kernel
theorem dX10_fewestLiars_34 : decode cX10_fewestLiars 34 = .ok (.iinc 2 1, 3) := by decide +kernel
theorem dX10_fewestLiars_37 : decode cX10_fewestLiars 37 = .ok (.goto (-33), 3) := by decide +kernel
theorem dX10_fewestLiars_40 : decode cX10_fewestLiars 40 = .ok (.iload_n 1, 1) := by decide +kernel
theorem dX10_fewestLiars_41 : decode cX10_fewestLiars 41 = .ok (.ireturn, 1) := by decide +kernel
theorem dX10_liars_0 : decode cX10_liars 0 = .ok (.aload_n 0, 1) := by decide +kernel
theorem dX10_liars_1 : decode cX10_liars 1 = .ok (.iconst 0, 1) := by decide +kernel
theorem dX10_liars_2 : decode cX10_liars 2 = .ok (.putfield 1, 3) := by decide +kernel
theorem dX10_liars_5 : decode cX10_liars 5 = .ok (.aload_n 0, 1) := by decide +kernel
theorem dX10_liars_6 : decode cX10_liars 6 = .ok (.invokevirtual 312, 3) := by decide +kernel
theorem dX10_liars_9 : decode cX10_liars 9 = .ok (.ifCond .eq 10, 3) := by decide +kernel
theorem dX10_liars_12 : decode cX10_liars 12 = .ok (.aload_n 0, 1) := by decide +kernel
theorem dX10_liars_13 : decode cX10_liars 13 = .ok (.invokevirtual 315, 3) := by decide +kernel
theorem dX10_liars_16 : decode cX10_liars 16 = .ok (.goto 4, 3) := by decide +kernel
theorem dX10_liars_19 : decode cX10_liars 19 = .ok (.iconst (-1), 1) := by decide +kernel
theorem dX10_liars_20 : decode cX10_liars 20 = .ok (.ireturn, 1) := by decide +kernel
theorem dX10_liarSet_0 : decode cX10_liarSet 0 = .ok (.aload_n 0, 1) := by decide +kernel
theorem dX10_liarSet_1 : decode cX10_liarSet 1 = .ok (.iconst 0, 1) := by decide +kernel
theorem dX10_liarSet_2 : decode cX10_liarSet 2 = .ok (.putfield 1, 3) := by decide +kernel
theorem dX10_liarSet_5 : decode cX10_liarSet 5 = .ok (.iload_n 1, 1) := by decide +kernel
theorem dX10_liarSet_6 : decode cX10_liarSet 6 = .ok (.iconst (-1), 1) := by decide +kernel
theorem dX10_liarSet_7 : decode cX10_liarSet 7 = .ok (.if_icmp .lt 10, 3) := by decide +kernel
theorem dX10_liarSet_10 : decode cX10_liarSet 10 = .ok (.aload_n 0, 1) := by decide +kernel
theorem dX10_liarSet_11 : decode cX10_liarSet 11 = .ok (.invokevirtual 312, 3) := by decide +kernel
theorem dX10_liarSet_14 : decode cX10_liarSet 14 = .ok (.ifCond .ne 5, 3) := by decide +kernel
theorem dX10_liarSet_17 : decode cX10_liarSet 17 = .ok (.iconst (-1), 1) := by decide +kernel
theorem dX10_liarSet_18 : decode cX10_liarSet 18 = .ok (.ireturn, 1) := by decide +kernel
theorem dX10_liarSet_19 : decode cX10_liarSet 19 = .ok (.aload_n 0, 1) := by decide +kernel
theorem dX10_liarSet_20 : decode cX10_liarSet 20 = .ok (.invokevirtual 315, 3) := by decide +kernel
theorem dX10_liarSet_23 : decode cX10_liarSet 23 = .ok (.istore_n 2, 1) := by decide +kernel
theorem dX10_liarSet_24 : decode cX10_liarSet 24 = .ok (.iconst 0, 1) := by decide +kernel
theorem dX10_liarSet_25 : decode cX10_liarSet 25 = .ok (.istore_n 3, 1) := by decide +kernel
theorem dX10_liarSet_26 : decode cX10_liarSet 26 = .ok (.iconst 0, 1) := by decide +kernel
theorem dX10_liarSet_27 : decode cX10_liarSet 27 = .ok (.istore 4, 2) := by decide +kernel
theorem dX10_liarSet_29 : decode cX10_liarSet 29 = .ok (.iload 4, 2) := by decide +kernel
theorem dX10_liarSet_31 : decode cX10_liarSet 31 = .ok (.bipush 16, 2) := by decide +kernel
theorem dX10_liarSet_33 : decode cX10_liarSet 33 = .ok (.if_icmp .ge 43, 3) := by decide +kernel
theorem dX10_liarSet_36 : decode cX10_liarSet 36 = .ok (.aload_n 0, 1) := by decide +kernel
theorem dX10_liarSet_37 : decode cX10_liarSet 37 = .ok (.getfield 82, 3) := by decide +kernel
theorem dX10_liarSet_40 : decode cX10_liarSet 40 = .ok (.iload 4, 2) := by decide +kernel
theorem dX10_liarSet_42 : decode cX10_liarSet 42 = .ok (.baload, 1) := by decide +kernel
theorem dX10_liarSet_43 : decode cX10_liarSet 43 = .ok (.ifCond .eq 27, 3) := by decide +kernel
theorem dX10_liarSet_46 : decode cX10_liarSet 46 = .ok (.iload 4, 2) := by decide +kernel
theorem dX10_liarSet_48 : decode cX10_liarSet 48 = .ok (.i2l, 1) := by decide +kernel
theorem dX10_liarSet_49 : decode cX10_liarSet 49 = .ok (.invokestatic 266, 3) := by decide +kernel
theorem dX10_liarSet_52 : decode cX10_liarSet 52 = .ok (.iload_n 2, 1) := by decide +kernel
theorem dX10_liarSet_53 : decode cX10_liarSet 53 = .ok (.if_icmp .eq 6, 3) := by decide +kernel
theorem dX10_liarSet_56 : decode cX10_liarSet 56 = .ok (.goto 14, 3) := by decide +kernel
theorem dX10_liarSet_59 : decode cX10_liarSet 59 = .ok (.iload_n 3, 1) := by decide +kernel
theorem dX10_liarSet_60 : decode cX10_liarSet 60 = .ok (.iload_n 1, 1) := by decide +kernel
theorem dX10_liarSet_61 : decode cX10_liarSet 61 = .ok (.if_icmp .ne 6, 3) := by decide +kernel
theorem dX10_liarSet_64 : decode cX10_liarSet 64 = .ok (.iload 4, 2) := by decide +kernel
theorem dX10_liarSet_66 : decode cX10_liarSet 66 = .ok (.ireturn, 1) := by decide +kernel
theorem dX10_liarSet_67 : decode cX10_liarSet 67 = .ok (.iinc 3 1, 3) := by decide +kernel
theorem dX10_liarSet_70 : decode cX10_liarSet 70 = .ok (.iinc 4 1, 3) := by decide +kernel
theorem dX10_liarSet_73 : decode cX10_liarSet 73 = .ok (.goto (-44), 3) := by decide +kernel
theorem dX10_liarSet_76 : decode cX10_liarSet 76 = .ok (.iload_n 1, 1) := by decide +kernel
theorem dX10_liarSet_77 : decode cX10_liarSet 77 = .ok (.iconst (-1), 1) := by decide +kernel
theorem dX10_liarSet_78 : decode cX10_liarSet 78 = .ok (.if_icmp .ne 7, 3) := by decide +kernel
theorem dX10_liarSet_81 : decode cX10_liarSet 81 = .ok (.iload_n 3, 1) := by decide +kernel
theorem dX10_liarSet_82 : decode cX10_liarSet 82 = .ok (.goto 4, 3) := by decide +kernel
theorem dX10_liarSet_85 : decode cX10_liarSet 85 = .ok (.iconst (-1), 1) := by decide +kernel
theorem dX10_liarSet_86 : decode cX10_liarSet 86 = .ok (.ireturn, 1) := by decide +kernel
theorem dX10_clash_0 : decode cX10_clash 0 = .ok (.aload_n 0, 1) := by decide +kernel
theorem dX10_clash_1 : decode cX10_clash 1 = .ok (.iconst 0, 1) := by decide +kernel
theorem dX10_clash_2 : decode cX10_clash 2 = .ok (.putfield 1, 3) := by decide +kernel
theorem dX10_clash_5 : decode cX10_clash 5 = .ok (.iconst 0, 1) := by decide +kernel
theorem dX10_clash_6 : decode cX10_clash 6 = .ok (.istore_n 1, 1) := by decide +kernel
theorem dX10_clash_7 : decode cX10_clash 7 = .ok (.iload_n 1, 1) := by decide +kernel
theorem dX10_clash_8 : decode cX10_clash 8 = .ok (.aload_n 0, 1) := by decide +kernel
theorem dX10_clash_9 : decode cX10_clash 9 = .ok (.getfield 41, 3) := by decide +kernel
theorem dX10_clash_12 : decode cX10_clash 12 = .ok (.sipush 169, 3) := by decide +kernel
theorem dX10_clash_15 : decode cX10_clash 15 = .ok (.iaload, 1) := by decide +kernel
theorem dX10_clash_16 : decode cX10_clash 16 = .ok (.if_icmp .ge 23, 3) := by decide +kernel
theorem dX10_clash_19 : decode cX10_clash 19 = .ok (.aload_n 0, 1) := by decide +kernel
theorem dX10_clash_20 : decode cX10_clash 20 = .ok (.iload_n 1, 1) := by decide +kernel
theorem dX10_clash_21 : decode cX10_clash 21 = .ok (.iconst 1, 1) := by decide +kernel
theorem dX10_clash_22 : decode cX10_clash 22 = .ok (.iadd, 1) := by decide +kernel
theorem dX10_clash_23 : decode cX10_clash 23 = .ok (.invokevirtual 283, 3) := by decide +kernel
theorem dX10_clash_26 : decode cX10_clash 26 = .ok (.lconst 0, 1) := by decide +kernel
theorem dX10_clash_27 : decode cX10_clash 27 = .ok (.lcmp, 1) := by decide +kernel
theorem dX10_clash_28 : decode cX10_clash 28 = .ok (.ifCond .ne 5, 3) := by decide +kernel
theorem dX10_clash_31 : decode cX10_clash 31 = .ok (.iload_n 1, 1) := by decide +kernel
theorem dX10_clash_32 : decode cX10_clash 32 = .ok (.ireturn, 1) := by decide +kernel
theorem dX10_clash_33 : decode cX10_clash 33 = .ok (.iinc 1 1, 3) := by decide +kernel
theorem dX10_clash_36 : decode cX10_clash 36 = .ok (.goto (-29), 3) := by decide +kernel
theorem dX10_clash_39 : decode cX10_clash 39 = .ok (.iconst (-1), 1) := by decide +kernel
theorem dX10_clash_40 : decode cX10_clash 40 = .ok (.ireturn, 1) := by decide +kernel
theorem dX10_tellsOf_0 : decode cX10_tellsOf 0 = .ok (.iconst 2, 1) := by decide +kernel
theorem dX10_tellsOf_1 : decode cX10_tellsOf 1 = .ok (.iconst 2, 1) := by decide +kernel
theorem dX10_tellsOf_2 : decode cX10_tellsOf 2 = .ok (.aload_n 0, 1) := by decide +kernel
theorem dX10_tellsOf_3 : decode cX10_tellsOf 3 = .ok (.getfield 41, 3) := by decide +kernel
theorem dX10_tellsOf_6 : decode cX10_tellsOf 6 = .ok (.iconst 0, 1) := by decide +kernel
theorem dX10_tellsOf_7 : decode cX10_tellsOf 7 = .ok (.iaload, 1) := by decide +kernel
theorem dX10_tellsOf_8 : decode cX10_tellsOf 8 = .ok (.imul, 1) := by decide +kernel
theorem dX10_tellsOf_9 : decode cX10_tellsOf 9 = .ok (.iadd, 1) := by decide +kernel
theorem dX10_tellsOf_10 : decode cX10_tellsOf 10 = .ok (.istore_n 3, 1) := by decide +kernel
theorem dX10_tellsOf_11 : decode cX10_tellsOf 11 = .ok (.iconst 0, 1) := by decide +kernel
theorem dX10_tellsOf_12 : decode cX10_tellsOf 12 = .ok (.istore 4, 2) := by decide +kernel
theorem dX10_tellsOf_14 : decode cX10_tellsOf 14 = .ok (.iload 4, 2) := by decide +kernel
theorem dX10_tellsOf_16 : decode cX10_tellsOf 16 = .ok (.iload_n 3, 1) := by decide +kernel
theorem dX10_tellsOf_17 : decode cX10_tellsOf 17 = .ok (.if_icmp .ge 81, 3) := by decide +kernel
theorem dX10_tellsOf_20 : decode cX10_tellsOf 20 = .ok (.iconst 0, 1) := by decide +kernel
theorem dX10_tellsOf_21 : decode cX10_tellsOf 21 = .ok (.istore 5, 2) := by decide +kernel
theorem dX10_tellsOf_23 : decode cX10_tellsOf 23 = .ok (.iload 5, 2) := by decide +kernel
theorem dX10_tellsOf_25 : decode cX10_tellsOf 25 = .ok (.aload_n 0, 1) := by decide +kernel
theorem dX10_tellsOf_26 : decode cX10_tellsOf 26 = .ok (.getfield 41, 3) := by decide +kernel
theorem dX10_tellsOf_29 : decode cX10_tellsOf 29 = .ok (.iconst 0, 1) := by decide +kernel
theorem dX10_tellsOf_30 : decode cX10_tellsOf 30 = .ok (.iaload, 1) := by decide +kernel
theorem dX10_tellsOf_31 : decode cX10_tellsOf 31 = .ok (.if_icmp .ge 61, 3) := by decide +kernel
theorem dX10_tellsOf_34 : decode cX10_tellsOf 34 = .ok (.aload_n 0, 1) := by decide +kernel
theorem dX10_tellsOf_35 : decode cX10_tellsOf 35 = .ok (.getfield 89, 3) := by decide +kernel
theorem dX10_tellsOf_38 : decode cX10_tellsOf 38 = .ok (.bipush 6, 2) := by decide +kernel
theorem dX10_tellsOf_40 : decode cX10_tellsOf 40 = .ok (.iload 4, 2) := by decide +kernel
theorem dX10_tellsOf_42 : decode cX10_tellsOf 42 = .ok (.imul, 1) := by decide +kernel
theorem dX10_tellsOf_43 : decode cX10_tellsOf 43 = .ok (.iconst 2, 1) := by decide +kernel
theorem dX10_tellsOf_44 : decode cX10_tellsOf 44 = .ok (.iload 5, 2) := by decide +kernel
theorem dX10_tellsOf_46 : decode cX10_tellsOf 46 = .ok (.imul, 1) := by decide +kernel
theorem dX10_tellsOf_47 : decode cX10_tellsOf 47 = .ok (.iadd, 1) := by decide +kernel
theorem dX10_tellsOf_48 : decode cX10_tellsOf 48 = .ok (.aload_n 0, 1) := by decide +kernel
theorem dX10_tellsOf_49 : decode cX10_tellsOf 49 = .ok (.iload 4, 2) := by decide +kernel
theorem dX10_tellsOf_51 : decode cX10_tellsOf 51 = .ok (.iload 5, 2) := by decide +kernel
theorem dX10_tellsOf_53 : decode cX10_tellsOf 53 = .ok (.iload_n 2, 1) := by decide +kernel
theorem dX10_tellsOf_54 : decode cX10_tellsOf 54 = .ok (.iconst 0, 1) := by decide +kernel
theorem dX10_tellsOf_55 : decode cX10_tellsOf 55 = .ok (.invokevirtual 260, 3) := by decide +kernel
theorem dX10_tellsOf_58 : decode cX10_tellsOf 58 = .ok (.lastore, 1) := by decide +kernel
theorem dX10_tellsOf_59 : decode cX10_tellsOf 59 = .ok (.aload_n 0, 1) := by decide +kernel
theorem dX10_tellsOf_60 : decode cX10_tellsOf 60 = .ok (.getfield 89, 3) := by decide +kernel
theorem dX10_tellsOf_63 : decode cX10_tellsOf 63 = .ok (.bipush 6, 2) := by decide +kernel
theorem dX10_tellsOf_65 : decode cX10_tellsOf 65 = .ok (.iload 4, 2) := by decide +kernel
theorem dX10_tellsOf_67 : decode cX10_tellsOf 67 = .ok (.imul, 1) := by decide +kernel
theorem dX10_tellsOf_68 : decode cX10_tellsOf 68 = .ok (.iconst 2, 1) := by decide +kernel
theorem dX10_tellsOf_69 : decode cX10_tellsOf 69 = .ok (.iload 5, 2) := by decide +kernel
theorem dX10_tellsOf_71 : decode cX10_tellsOf 71 = .ok (.imul, 1) := by decide +kernel
theorem dX10_tellsOf_72 : decode cX10_tellsOf 72 = .ok (.iadd, 1) := by decide +kernel
theorem dX10_tellsOf_73 : decode cX10_tellsOf 73 = .ok (.iconst 1, 1) := by decide +kernel
theorem dX10_tellsOf_74 : decode cX10_tellsOf 74 = .ok (.iadd, 1) := by decide +kernel
theorem dX10_tellsOf_75 : decode cX10_tellsOf 75 = .ok (.aload_n 0, 1) := by decide +kernel
theorem dX10_tellsOf_76 : decode cX10_tellsOf 76 = .ok (.iload 4, 2) := by decide +kernel
theorem dX10_tellsOf_78 : decode cX10_tellsOf 78 = .ok (.iload 5, 2) := by decide +kernel
theorem dX10_tellsOf_80 : decode cX10_tellsOf 80 = .ok (.iload_n 2, 1) := by decide +kernel
theorem dX10_tellsOf_81 : decode cX10_tellsOf 81 = .ok (.iconst 1, 1) := by decide +kernel
theorem dX10_tellsOf_82 : decode cX10_tellsOf 82 = .ok (.invokevirtual 260, 3) := by decide +kernel
theorem dX10_tellsOf_85 : decode cX10_tellsOf 85 = .ok (.lastore, 1) := by decide +kernel
theorem dX10_tellsOf_86 : decode cX10_tellsOf 86 = .ok (.iinc 5 1, 3) := by decide +kernel
theorem dX10_tellsOf_89 : decode cX10_tellsOf 89 = .ok (.goto (-66), 3) := by decide +kernel
theorem dX10_tellsOf_92 : decode cX10_tellsOf 92 = .ok (.iinc 4 1, 3) := by decide +kernel
theorem dX10_tellsOf_95 : decode cX10_tellsOf 95 = .ok (.goto (-81), 3) := by decide +kernel
theorem dX10_tellsOf_98 : decode cX10_tellsOf 98 = .ok (.iconst 0, 1) := by decide +kernel
theorem dX10_tellsOf_99 : decode cX10_tellsOf 99 = .ok (.istore 4, 2) := by decide +kernel
theorem dX10_tellsOf_101 : decode cX10_tellsOf 101 = .ok (.iload 4, 2) := by decide +kernel
theorem dX10_tellsOf_103 : decode cX10_tellsOf 103 = .ok (.bipush 8, 2) := by decide +kernel
theorem dX10_tellsOf_105 : decode cX10_tellsOf 105 = .ok (.if_icmp .ge 17, 3) := by decide +kernel
theorem dX10_tellsOf_108 : decode cX10_tellsOf 108 = .ok (.aload_n 0, 1) := by decide +kernel
theorem dX10_tellsOf_109 : decode cX10_tellsOf 109 = .ok (.getfield 86, 3) := by decide +kernel
theorem dX10_tellsOf_112 : decode cX10_tellsOf 112 = .ok (.iload 4, 2) := by decide +kernel
theorem dX10_tellsOf_114 : decode cX10_tellsOf 114 = .ok (.lconst 0, 1) := by decide +kernel
theorem dX10_tellsOf_115 : decode cX10_tellsOf 115 = .ok (.lastore, 1) := by decide +kernel
theorem dX10_tellsOf_116 : decode cX10_tellsOf 116 = .ok (.iinc 4 1, 3) := by decide +kernel
theorem dX10_tellsOf_119 : decode cX10_tellsOf 119 = .ok (.goto (-18), 3) := by decide +kernel
theorem dX10_tellsOf_122 : decode cX10_tellsOf 122 = .ok (.aload_n 0, 1) := by decide +kernel
theorem dX10_tellsOf_123 : decode cX10_tellsOf 123 = .ok (.invokevirtual 273, 3) := by decide +kernel
theorem dX10_tellsOf_126 : decode cX10_tellsOf 126 = .ok (.aload_n 0, 1) := by decide +kernel
theorem dX10_tellsOf_127 : decode cX10_tellsOf 127 = .ok (.iconst (-1), 1) := by decide +kernel
theorem dX10_tellsOf_128 : decode cX10_tellsOf 128 = .ok (.iconst (-1), 1) := by decide +kernel
theorem dX10_tellsOf_129 : decode cX10_tellsOf 129 = .ok (.invokevirtual 276, 3) := by decide +kernel
theorem dX10_tellsOf_132 : decode cX10_tellsOf 132 = .ok (.lconst 0, 1) := by decide +kernel
theorem dX10_tellsOf_133 : decode cX10_tellsOf 133 = .ok (.lcmp, 1) := by decide +kernel
theorem dX10_tellsOf_134 : decode cX10_tellsOf 134 = .ok (.ifCond .ne 6, 3) := by decide +kernel
theorem dX10_tellsOf_137 : decode cX10_tellsOf 137 = .ok (.goto 111, 3) := by decide +kernel
theorem dX10_tellsOf_140 : decode cX10_tellsOf 140 = .ok (.iconst 0, 1) := by decide +kernel
theorem dX10_tellsOf_141 : decode cX10_tellsOf 141 = .ok (.istore 4, 2) := by decide +kernel
theorem dX10_tellsOf_143 : decode cX10_tellsOf 143 = .ok (.iload 4, 2) := by decide +kernel
theorem dX10_tellsOf_145 : decode cX10_tellsOf 145 = .ok (.iconst 1, 1) := by decide +kernel
theorem dX10_tellsOf_146 : decode cX10_tellsOf 146 = .ok (.aload_n 0, 1) := by decide +kernel
theorem dX10_tellsOf_147 : decode cX10_tellsOf 147 = .ok (.getfield 41, 3) := by decide +kernel
theorem dX10_tellsOf_150 : decode cX10_tellsOf 150 = .ok (.iconst 0, 1) := by decide +kernel
theorem dX10_tellsOf_151 : decode cX10_tellsOf 151 = .ok (.iaload, 1) := by decide +kernel
theorem dX10_tellsOf_152 : decode cX10_tellsOf 152 = .ok (.ishl, 1) := by decide +kernel
theorem dX10_tellsOf_153 : decode cX10_tellsOf 153 = .ok (.if_icmp .ge 95, 3) := by decide +kernel
theorem dX10_tellsOf_156 : decode cX10_tellsOf 156 = .ok (.lconst 1, 1) := by decide +kernel
theorem dX10_tellsOf_157 : decode cX10_tellsOf 157 = .ok (.lstore 5, 2) := by decide +kernel
theorem dX10_tellsOf_159 : decode cX10_tellsOf 159 = .ok (.iconst 0, 1) := by decide +kernel
theorem dX10_tellsOf_160 : decode cX10_tellsOf 160 = .ok (.istore 7, 2) := by decide +kernel
theorem dX10_tellsOf_162 : decode cX10_tellsOf 162 = .ok (.iload 7, 2) := by decide +kernel
theorem dX10_tellsOf_164 : decode cX10_tellsOf 164 = .ok (.aload_n 0, 1) := by decide +kernel
theorem dX10_tellsOf_165 : decode cX10_tellsOf 165 = .ok (.getfield 41, 3) := by decide +kernel
theorem dX10_tellsOf_168 : decode cX10_tellsOf 168 = .ok (.iconst 0, 1) := by decide +kernel
theorem dX10_tellsOf_169 : decode cX10_tellsOf 169 = .ok (.iaload, 1) := by decide +kernel
theorem dX10_tellsOf_170 : decode cX10_tellsOf 170 = .ok (.if_icmp .ge 60, 3) := by decide +kernel
theorem dX10_tellsOf_173 : decode cX10_tellsOf 173 = .ok (.lload 5, 2) := by decide +kernel
theorem dX10_tellsOf_175 : decode cX10_tellsOf 175 = .ok (.lconst 0, 1) := by decide +kernel
theorem dX10_tellsOf_176 : decode cX10_tellsOf 176 = .ok (.lcmp, 1) := by decide +kernel
theorem dX10_tellsOf_177 : decode cX10_tellsOf 177 = .ok (.ifCond .le 53, 3) := by decide +kernel
theorem dX10_tellsOf_180 : decode cX10_tellsOf 180 = .ok (.lload 5, 2) := by decide +kernel
theorem dX10_tellsOf_182 : decode cX10_tellsOf 182 = .ok (.aload_n 0, 1) := by decide +kernel
theorem dX10_tellsOf_183 : decode cX10_tellsOf 183 = .ok (.getfield 70, 3) := by decide +kernel
theorem dX10_tellsOf_186 : decode cX10_tellsOf 186 = .ok (.iload 7, 2) := by decide +kernel
theorem dX10_tellsOf_188 : decode cX10_tellsOf 188 = .ok (.laload, 1) := by decide +kernel
theorem dX10_tellsOf_189 : decode cX10_tellsOf 189 = .ok (.aload_n 0, 1) := by decide +kernel
theorem dX10_tellsOf_190 : decode cX10_tellsOf 190 = .ok (.getfield 89, 3) := by decide +kernel
theorem dX10_tellsOf_193 : decode cX10_tellsOf 193 = .ok (.bipush 6, 2) := by decide +kernel
theorem dX10_tellsOf_195 : decode cX10_tellsOf 195 = .ok (.aload_n 0, 1) := by decide +kernel
theorem dX10_tellsOf_196 : decode cX10_tellsOf 196 = .ok (.getfield 73, 3) := by decide +kernel
theorem dX10_tellsOf_199 : decode cX10_tellsOf 199 = .ok (.iload_n 1, 1) := by decide +kernel
theorem dX10_tellsOf_200 : decode cX10_tellsOf 200 = .ok (.iaload, 1) := by decide +kernel
theorem dX10_tellsOf_201 : decode cX10_tellsOf 201 = .ok (.imul, 1) := by decide +kernel
theorem dX10_tellsOf_202 : decode cX10_tellsOf 202 = .ok (.iconst 2, 1) := by decide +kernel
theorem dX10_tellsOf_203 : decode cX10_tellsOf 203 = .ok (.iload 7, 2) := by decide +kernel
theorem dX10_tellsOf_205 : decode cX10_tellsOf 205 = .ok (.imul, 1) := by decide +kernel
theorem dX10_tellsOf_206 : decode cX10_tellsOf 206 = .ok (.iadd, 1) := by decide +kernel
theorem dX10_tellsOf_207 : decode cX10_tellsOf 207 = .ok (.iload 4, 2) := by decide +kernel
theorem dX10_tellsOf_209 : decode cX10_tellsOf 209 = .ok (.iload 7, 2) := by decide +kernel
theorem dX10_tellsOf_211 : decode cX10_tellsOf 211 = .ok (.ishr, 1) := by decide +kernel
theorem dX10_tellsOf_212 : decode cX10_tellsOf 212 = .ok (.iconst 1, 1) := by decide +kernel
theorem dX10_tellsOf_213 : decode cX10_tellsOf 213 = .ok (.iand, 1) := by decide +kernel
theorem dX10_tellsOf_214 : decode cX10_tellsOf 214 = .ok (.iadd, 1) := by decide +kernel
theorem dX10_tellsOf_215 : decode cX10_tellsOf 215 = .ok (.laload, 1) := by decide +kernel
theorem dX10_tellsOf_216 : decode cX10_tellsOf 216 = .ok (.land, 1) := by decide +kernel
theorem dX10_tellsOf_217 : decode cX10_tellsOf 217 = .ok (.invokestatic 266, 3) := by decide +kernel
theorem dX10_tellsOf_220 : decode cX10_tellsOf 220 = .ok (.i2l, 1) := by decide +kernel
theorem dX10_tellsOf_221 : decode cX10_tellsOf 221 = .ok (.lmul, 1) := by decide +kernel
theorem dX10_tellsOf_222 : decode cX10_tellsOf 222 = .ok (.lstore 5, 2) := by decide +kernel
theorem dX10_tellsOf_224 : decode cX10_tellsOf 224 = .ok (.iinc 7 1, 3) := by decide +kernel
theorem dX10_tellsOf_227 : decode cX10_tellsOf 227 = .ok (.goto (-65), 3) := by decide +kernel
theorem dX10_tellsOf_230 : decode cX10_tellsOf 230 = .ok (.aload_n 0, 1) := by decide +kernel
theorem dX10_tellsOf_231 : decode cX10_tellsOf 231 = .ok (.getfield 86, 3) := by decide +kernel
theorem dX10_tellsOf_234 : decode cX10_tellsOf 234 = .ok (.iload 4, 2) := by decide +kernel
theorem dX10_tellsOf_236 : decode cX10_tellsOf 236 = .ok (.dup2, 1) := by decide +kernel
theorem dX10_tellsOf_237 : decode cX10_tellsOf 237 = .ok (.laload, 1) := by decide +kernel
theorem dX10_tellsOf_238 : decode cX10_tellsOf 238 = .ok (.lload 5, 2) := by decide +kernel
theorem dX10_tellsOf_240 : decode cX10_tellsOf 240 = .ok (.ladd, 1) := by decide +kernel
theorem dX10_tellsOf_241 : decode cX10_tellsOf 241 = .ok (.lastore, 1) := by decide +kernel
theorem dX10_tellsOf_242 : decode cX10_tellsOf 242 = .ok (.iinc 4 1, 3) := by decide +kernel
theorem dX10_tellsOf_245 : decode cX10_tellsOf 245 = .ok (.goto (-102), 3) := by decide +kernel
theorem dX10_tellsOf_248 : decode cX10_tellsOf 248 = .ok (.aload_n 0, 1) := by decide +kernel
theorem dX10_tellsOf_249 : decode cX10_tellsOf 249 = .ok (.invokevirtual 280, 3) := by decide +kernel
theorem dX10_tellsOf_252 : decode cX10_tellsOf 252 = .ok (.ifCond .ne (-126), 3) := by decide +kernel
theorem dX10_tellsOf_255 : decode cX10_tellsOf 255 = .ok (.return_, 1) := by decide +kernel
theorem dX10_wouldTell_0 : decode cX10_wouldTell 0 = .ok (.aload_n 0, 1) := by decide +kernel
theorem dX10_wouldTell_1 : decode cX10_wouldTell 1 = .ok (.iconst 0, 1) := by decide +kernel
theorem dX10_wouldTell_2 : decode cX10_wouldTell 2 = .ok (.putfield 1, 3) := by decide +kernel
theorem dX10_wouldTell_5 : decode cX10_wouldTell 5 = .ok (.aload_n 0, 1) := by decide +kernel
theorem dX10_wouldTell_6 : decode cX10_wouldTell 6 = .ok (.iload_n 1, 1) := by decide +kernel
theorem dX10_wouldTell_7 : decode cX10_wouldTell 7 = .ok (.invokevirtual 248, 3) := by decide +kernel
theorem dX10_wouldTell_10 : decode cX10_wouldTell 10 = .ok (.ifCond .eq 18, 3) := by decide +kernel
theorem dX10_wouldTell_13 : decode cX10_wouldTell 13 = .ok (.iload_n 2, 1) := by decide +kernel
theorem dX10_wouldTell_14 : decode cX10_wouldTell 14 = .ok (.invokestatic 245, 3) := by decide +kernel
theorem dX10_wouldTell_17 : decode cX10_wouldTell 17 = .ok (.ifCond .eq 11, 3) := by decide +kernel
theorem dX10_wouldTell_20 : decode cX10_wouldTell 20 = .ok (.aload_n 0, 1) := by decide +kernel
theorem dX10_wouldTell_21 : decode cX10_wouldTell 21 = .ok (.iload_n 3, 1) := by decide +kernel
theorem dX10_wouldTell_22 : decode cX10_wouldTell 22 = .ok (.invokevirtual 257, 3) := by decide +kernel
theorem dX10_wouldTell_25 : decode cX10_wouldTell 25 = .ok (.ifCond .ne 7, 3) := by decide +kernel
theorem dX10_wouldTell_28 : decode cX10_wouldTell 28 = .ok (.ldc2_w 291, 3) := by decide +kernel
theorem dX10_wouldTell_31 : decode cX10_wouldTell 31 = .ok (.lreturn, 1) := by decide +kernel
theorem dX10_wouldTell_32 : decode cX10_wouldTell 32 = .ok (.aload_n 0, 1) := by decide +kernel
theorem dX10_wouldTell_33 : decode cX10_wouldTell 33 = .ok (.aload_n 0, 1) := by decide +kernel
theorem dX10_wouldTell_34 : decode cX10_wouldTell 34 = .ok (.getfield 41, 3) := by decide +kernel
theorem dX10_wouldTell_37 : decode cX10_wouldTell 37 = .ok (.sipush 169, 3) := by decide +kernel
theorem dX10_wouldTell_40 : decode cX10_wouldTell 40 = .ok (.iaload, 1) := by decide +kernel
theorem dX10_wouldTell_41 : decode cX10_wouldTell 41 = .ok (.invokevirtual 270, 3) := by decide +kernel
theorem dX10_wouldTell_44 : decode cX10_wouldTell 44 = .ok (.aload_n 0, 1) := by decide +kernel
theorem dX10_wouldTell_45 : decode cX10_wouldTell 45 = .ok (.iload_n 1, 1) := by decide +kernel
theorem dX10_wouldTell_46 : decode cX10_wouldTell 46 = .ok (.iload_n 2, 1) := by decide +kernel
theorem dX10_wouldTell_47 : decode cX10_wouldTell 47 = .ok (.invokevirtual 318, 3) := by decide +kernel
theorem dX10_wouldTell_50 : decode cX10_wouldTell 50 = .ok (.aload_n 0, 1) := by decide +kernel
theorem dX10_wouldTell_51 : decode cX10_wouldTell 51 = .ok (.getfield 86, 3) := by decide +kernel
theorem dX10_wouldTell_54 : decode cX10_wouldTell 54 = .ok (.iload_n 3, 1) := by decide +kernel
theorem dX10_wouldTell_55 : decode cX10_wouldTell 55 = .ok (.laload, 1) := by decide +kernel
theorem dX10_wouldTell_56 : decode cX10_wouldTell 56 = .ok (.lreturn, 1) := by decide +kernel
theorem dX10_leftOf_0 : decode cX10_leftOf 0 = .ok (.aload_n 0, 1) := by decide +kernel
theorem dX10_leftOf_1 : decode cX10_leftOf 1 = .ok (.iload_n 1, 1) := by decide +kernel
theorem dX10_leftOf_2 : decode cX10_leftOf 2 = .ok (.iload_n 2, 1) := by decide +kernel
theorem dX10_leftOf_3 : decode cX10_leftOf 3 = .ok (.invokevirtual 318, 3) := by decide +kernel
theorem dX10_leftOf_6 : decode cX10_leftOf 6 = .ok (.lconst 0, 1) := by decide +kernel
theorem dX10_leftOf_7 : decode cX10_leftOf 7 = .ok (.lstore_n 3, 1) := by decide +kernel
theorem dX10_leftOf_8 : decode cX10_leftOf 8 = .ok (.iconst 0, 1) := by decide +kernel
theorem dX10_leftOf_9 : decode cX10_leftOf 9 = .ok (.istore 5, 2) := by decide +kernel
theorem dX10_leftOf_11 : decode cX10_leftOf 11 = .ok (.iload 5, 2) := by decide +kernel
theorem dX10_leftOf_13 : decode cX10_leftOf 13 = .ok (.bipush 8, 2) := by decide +kernel
theorem dX10_leftOf_15 : decode cX10_leftOf 15 = .ok (.if_icmp .ge 33, 3) := by decide +kernel
theorem dX10_leftOf_18 : decode cX10_leftOf 18 = .ok (.aload_n 0, 1) := by decide +kernel
theorem dX10_leftOf_19 : decode cX10_leftOf 19 = .ok (.getfield 86, 3) := by decide +kernel
theorem dX10_leftOf_22 : decode cX10_leftOf 22 = .ok (.iload 5, 2) := by decide +kernel
theorem dX10_leftOf_24 : decode cX10_leftOf 24 = .ok (.laload, 1) := by decide +kernel
theorem dX10_leftOf_25 : decode cX10_leftOf 25 = .ok (.lload_n 3, 1) := by decide +kernel
theorem dX10_leftOf_26 : decode cX10_leftOf 26 = .ok (.lcmp, 1) := by decide +kernel
theorem dX10_leftOf_27 : decode cX10_leftOf 27 = .ok (.ifCond .le 13, 3) := by decide +kernel
theorem dX10_leftOf_30 : decode cX10_leftOf 30 = .ok (.aload_n 0, 1) := by decide +kernel
theorem dX10_leftOf_31 : decode cX10_leftOf 31 = .ok (.getfield 86, 3) := by decide +kernel
theorem dX10_leftOf_34 : decode cX10_leftOf 34 = .ok (.iload 5, 2) := by decide +kernel
theorem dX10_leftOf_36 : decode cX10_leftOf 36 = .ok (.laload, 1) := by decide +kernel
theorem dX10_leftOf_37 : decode cX10_leftOf 37 = .ok (.goto 4, 3) := by decide +kernel
theorem dX10_leftOf_40 : decode cX10_leftOf 40 = .ok (.lload_n 3, 1) := by decide +kernel
theorem dX10_leftOf_41 : decode cX10_leftOf 41 = .ok (.lstore_n 3, 1) := by decide +kernel
theorem dX10_leftOf_42 : decode cX10_leftOf 42 = .ok (.iinc 5 1, 3) := by decide +kernel
theorem dX10_leftOf_45 : decode cX10_leftOf 45 = .ok (.goto (-34), 3) := by decide +kernel
theorem dX10_leftOf_48 : decode cX10_leftOf 48 = .ok (.lload_n 3, 1) := by decide +kernel
theorem dX10_leftOf_49 : decode cX10_leftOf 49 = .ok (.lreturn, 1) := by decide +kernel
theorem dX10_left_0 : decode cX10_left 0 = .ok (.aload_n 0, 1) := by decide +kernel
theorem dX10_left_1 : decode cX10_left 1 = .ok (.iconst 0, 1) := by decide +kernel
theorem dX10_left_2 : decode cX10_left 2 = .ok (.putfield 1, 3) := by decide +kernel
theorem dX10_left_5 : decode cX10_left 5 = .ok (.aload_n 0, 1) := by decide +kernel
theorem dX10_left_6 : decode cX10_left 6 = .ok (.iload_n 1, 1) := by decide +kernel
theorem dX10_left_7 : decode cX10_left 7 = .ok (.invokevirtual 248, 3) := by decide +kernel
theorem dX10_left_10 : decode cX10_left 10 = .ok (.ifCond .eq 10, 3) := by decide +kernel
theorem dX10_left_13 : decode cX10_left 13 = .ok (.iload_n 2, 1) := by decide +kernel
theorem dX10_left_14 : decode cX10_left 14 = .ok (.invokestatic 245, 3) := by decide +kernel
theorem dX10_left_17 : decode cX10_left 17 = .ok (.ifCond .ne 7, 3) := by decide +kernel
theorem dX10_left_20 : decode cX10_left 20 = .ok (.ldc2_w 291, 3) := by decide +kernel
theorem dX10_left_23 : decode cX10_left 23 = .ok (.lreturn, 1) := by decide +kernel
theorem dX10_left_24 : decode cX10_left 24 = .ok (.aload_n 0, 1) := by decide +kernel
theorem dX10_left_25 : decode cX10_left 25 = .ok (.aload_n 0, 1) := by decide +kernel
theorem dX10_left_26 : decode cX10_left 26 = .ok (.getfield 41, 3) := by decide +kernel
theorem dX10_left_29 : decode cX10_left 29 = .ok (.sipush 169, 3) := by decide +kernel
theorem dX10_left_32 : decode cX10_left 32 = .ok (.iaload, 1) := by decide +kernel
theorem dX10_left_33 : decode cX10_left 33 = .ok (.invokevirtual 270, 3) := by decide +kernel
theorem dX10_left_36 : decode cX10_left 36 = .ok (.aload_n 0, 1) := by decide +kernel
theorem dX10_left_37 : decode cX10_left 37 = .ok (.iload_n 1, 1) := by decide +kernel
theorem dX10_left_38 : decode cX10_left 38 = .ok (.iload_n 2, 1) := by decide +kernel
theorem dX10_left_39 : decode cX10_left 39 = .ok (.invokevirtual 322, 3) := by decide +kernel
theorem dX10_left_42 : decode cX10_left 42 = .ok (.lreturn, 1) := by decide +kernel
theorem dX10_next_0 : decode cX10_next 0 = .ok (.aload_n 0, 1) := by decide +kernel
theorem dX10_next_1 : decode cX10_next 1 = .ok (.iconst 0, 1) := by decide +kernel
theorem dX10_next_2 : decode cX10_next 2 = .ok (.putfield 1, 3) := by decide +kernel
theorem dX10_next_5 : decode cX10_next 5 = .ok (.aload_n 0, 1) := by decide +kernel
theorem dX10_next_6 : decode cX10_next 6 = .ok (.getfield 41, 3) := by decide +kernel
theorem dX10_next_9 : decode cX10_next 9 = .ok (.iconst 1, 1) := by decide +kernel
theorem dX10_next_10 : decode cX10_next 10 = .ok (.iaload, 1) := by decide +kernel
theorem dX10_next_11 : decode cX10_next 11 = .ok (.ifCond .eq 20, 3) := by decide +kernel
theorem dX10_next_14 : decode cX10_next 14 = .ok (.aload_n 0, 1) := by decide +kernel
theorem dX10_next_15 : decode cX10_next 15 = .ok (.aload_n 0, 1) := by decide +kernel
theorem dX10_next_16 : decode cX10_next 16 = .ok (.getfield 41, 3) := by decide +kernel
theorem dX10_next_19 : decode cX10_next 19 = .ok (.sipush 169, 3) := by decide +kernel
theorem dX10_next_22 : decode cX10_next 22 = .ok (.iaload, 1) := by decide +kernel
theorem dX10_next_23 : decode cX10_next 23 = .ok (.invokevirtual 283, 3) := by decide +kernel
theorem dX10_next_26 : decode cX10_next 26 = .ok (.lconst 0, 1) := by decide +kernel
theorem dX10_next_27 : decode cX10_next 27 = .ok (.lcmp, 1) := by decide +kernel
theorem dX10_next_28 : decode cX10_next 28 = .ok (.ifCond .ne 5, 3) := by decide +kernel
theorem dX10_next_31 : decode cX10_next 31 = .ok (.iconst (-1), 1) := by decide +kernel
theorem dX10_next_32 : decode cX10_next 32 = .ok (.ireturn, 1) := by decide +kernel
theorem dX10_next_33 : decode cX10_next 33 = .ok (.ldc2_w 291, 3) := by decide +kernel
theorem dX10_next_36 : decode cX10_next 36 = .ok (.lstore_n 1, 1) := by decide +kernel
theorem dX10_next_37 : decode cX10_next 37 = .ok (.iconst (-1), 1) := by decide +kernel
theorem dX10_next_38 : decode cX10_next 38 = .ok (.istore_n 3, 1) := by decide +kernel
theorem dX10_next_39 : decode cX10_next 39 = .ok (.iconst 0, 1) := by decide +kernel
theorem dX10_next_40 : decode cX10_next 40 = .ok (.istore 4, 2) := by decide +kernel
theorem dX10_next_42 : decode cX10_next 42 = .ok (.iload 4, 2) := by decide +kernel
theorem dX10_next_44 : decode cX10_next 44 = .ok (.aload_n 0, 1) := by decide +kernel
theorem dX10_next_45 : decode cX10_next 45 = .ok (.getfield 41, 3) := by decide +kernel
theorem dX10_next_48 : decode cX10_next 48 = .ok (.iconst 1, 1) := by decide +kernel
theorem dX10_next_49 : decode cX10_next 49 = .ok (.iaload, 1) := by decide +kernel
theorem dX10_next_50 : decode cX10_next 50 = .ok (.if_icmp .ge 61, 3) := by decide +kernel
theorem dX10_next_53 : decode cX10_next 53 = .ok (.iconst 0, 1) := by decide +kernel
theorem dX10_next_54 : decode cX10_next 54 = .ok (.istore 5, 2) := by decide +kernel
theorem dX10_next_56 : decode cX10_next 56 = .ok (.iload 5, 2) := by decide +kernel
theorem dX10_next_58 : decode cX10_next 58 = .ok (.bipush 30, 2) := by decide +kernel
theorem dX10_next_60 : decode cX10_next 60 = .ok (.if_icmp .ge 45, 3) := by decide +kernel
theorem dX10_next_63 : decode cX10_next 63 = .ok (.aload_n 0, 1) := by decide +kernel
theorem dX10_next_64 : decode cX10_next 64 = .ok (.iload 4, 2) := by decide +kernel
theorem dX10_next_66 : decode cX10_next 66 = .ok (.iload 5, 2) := by decide +kernel
theorem dX10_next_68 : decode cX10_next 68 = .ok (.invokevirtual 322, 3) := by decide +kernel
theorem dX10_next_71 : decode cX10_next 71 = .ok (.lstore 6, 2) := by decide +kernel
theorem dX10_next_73 : decode cX10_next 73 = .ok (.iload_n 3, 1) := by decide +kernel
theorem dX10_next_74 : decode cX10_next 74 = .ok (.ifCond .lt 13, 3) := by decide +kernel
theorem dX10_next_77 : decode cX10_next 77 = .ok (.lload 6, 2) := by decide +kernel
theorem dX10_next_79 : decode cX10_next 79 = .ok (.lload_n 1, 1) := by decide +kernel
theorem dX10_next_80 : decode cX10_next 80 = .ok (.lcmp, 1) := by decide +kernel
theorem dX10_next_81 : decode cX10_next 81 = .ok (.ifCond .lt 6, 3) := by decide +kernel
theorem dX10_next_84 : decode cX10_next 84 = .ok (.goto 15, 3) := by decide +kernel
theorem dX10_next_87 : decode cX10_next 87 = .ok (.lload 6, 2) := by decide +kernel
theorem dX10_next_89 : decode cX10_next 89 = .ok (.lstore_n 1, 1) := by decide +kernel
theorem dX10_next_90 : decode cX10_next 90 = .ok (.bipush 100, 2) := by decide +kernel
theorem dX10_next_92 : decode cX10_next 92 = .ok (.iload 4, 2) := by decide +kernel
theorem dX10_next_94 : decode cX10_next 94 = .ok (.imul, 1) := by decide +kernel
theorem dX10_next_95 : decode cX10_next 95 = .ok (.iload 5, 2) := by decide +kernel
theorem dX10_next_97 : decode cX10_next 97 = .ok (.iadd, 1) := by decide +kernel
theorem dX10_next_98 : decode cX10_next 98 = .ok (.istore_n 3, 1) := by decide +kernel
theorem dX10_next_99 : decode cX10_next 99 = .ok (.iinc 5 1, 3) := by decide +kernel
theorem dX10_next_102 : decode cX10_next 102 = .ok (.goto (-46), 3) := by decide +kernel
theorem dX10_next_105 : decode cX10_next 105 = .ok (.iinc 4 1, 3) := by decide +kernel
theorem dX10_next_108 : decode cX10_next 108 = .ok (.goto (-66), 3) := by decide +kernel
theorem dX10_next_111 : decode cX10_next 111 = .ok (.iload_n 3, 1) := by decide +kernel
theorem dX10_next_112 : decode cX10_next 112 = .ok (.ireturn, 1) := by decide +kernel
theorem dX10_alike_0 : decode cX10_alike 0 = .ok (.iconst 0, 1) := by decide +kernel
theorem dX10_alike_1 : decode cX10_alike 1 = .ok (.istore 6, 2) := by decide +kernel
theorem dX10_alike_3 : decode cX10_alike 3 = .ok (.iconst 0, 1) := by decide +kernel
theorem dX10_alike_4 : decode cX10_alike 4 = .ok (.istore 7, 2) := by decide +kernel
theorem dX10_alike_6 : decode cX10_alike 6 = .ok (.iload 7, 2) := by decide +kernel
theorem dX10_alike_8 : decode cX10_alike 8 = .ok (.aload_n 0, 1) := by decide +kernel
theorem dX10_alike_9 : decode cX10_alike 9 = .ok (.getfield 64, 3) := by decide +kernel
theorem dX10_alike_12 : decode cX10_alike 12 = .ok (.iload_n 1, 1) := by decide +kernel
theorem dX10_alike_13 : decode cX10_alike 13 = .ok (.iaload, 1) := by decide +kernel
theorem dX10_alike_14 : decode cX10_alike 14 = .ok (.if_icmp .ge 68, 3) := by decide +kernel
theorem dX10_alike_17 : decode cX10_alike 17 = .ok (.iload 6, 2) := by decide +kernel
theorem dX10_alike_19 : decode cX10_alike 19 = .ok (.lload_n 3, 1) := by decide +kernel
theorem dX10_alike_20 : decode cX10_alike 20 = .ok (.iload 7, 2) := by decide +kernel
theorem dX10_alike_22 : decode cX10_alike 22 = .ok (.lshr, 1) := by decide +kernel
theorem dX10_alike_23 : decode cX10_alike 23 = .ok (.lconst 1, 1) := by decide +kernel
theorem dX10_alike_24 : decode cX10_alike 24 = .ok (.land, 1) := by decide +kernel
theorem dX10_alike_25 : decode cX10_alike 25 = .ok (.lconst 1, 1) := by decide +kernel
theorem dX10_alike_26 : decode cX10_alike 26 = .ok (.lcmp, 1) := by decide +kernel
theorem dX10_alike_27 : decode cX10_alike 27 = .ok (.ifCond .ne 45, 3) := by decide +kernel
theorem dX10_alike_30 : decode cX10_alike 30 = .ok (.aload_n 0, 1) := by decide +kernel
theorem dX10_alike_31 : decode cX10_alike 31 = .ok (.getfield 61, 3) := by decide +kernel
theorem dX10_alike_34 : decode cX10_alike 34 = .ok (.bipush 36, 2) := by decide +kernel
theorem dX10_alike_36 : decode cX10_alike 36 = .ok (.iload_n 1, 1) := by decide +kernel
theorem dX10_alike_37 : decode cX10_alike 37 = .ok (.imul, 1) := by decide +kernel
theorem dX10_alike_38 : decode cX10_alike 38 = .ok (.iload 7, 2) := by decide +kernel
theorem dX10_alike_40 : decode cX10_alike 40 = .ok (.iadd, 1) := by decide +kernel
theorem dX10_alike_41 : decode cX10_alike 41 = .ok (.iaload, 1) := by decide +kernel
theorem dX10_alike_42 : decode cX10_alike 42 = .ok (.aload_n 0, 1) := by decide +kernel
theorem dX10_alike_43 : decode cX10_alike 43 = .ok (.getfield 61, 3) := by decide +kernel
theorem dX10_alike_46 : decode cX10_alike 46 = .ok (.bipush 36, 2) := by decide +kernel
theorem dX10_alike_48 : decode cX10_alike 48 = .ok (.iload_n 1, 1) := by decide +kernel
theorem dX10_alike_49 : decode cX10_alike 49 = .ok (.imul, 1) := by decide +kernel
theorem dX10_alike_50 : decode cX10_alike 50 = .ok (.iload 5, 2) := by decide +kernel
theorem dX10_alike_52 : decode cX10_alike 52 = .ok (.iadd, 1) := by decide +kernel
theorem dX10_alike_53 : decode cX10_alike 53 = .ok (.iaload, 1) := by decide +kernel
theorem dX10_alike_54 : decode cX10_alike 54 = .ok (.ixor, 1) := by decide +kernel
theorem dX10_alike_55 : decode cX10_alike 55 = .ok (.aload_n 0, 1) := by decide +kernel
theorem dX10_alike_56 : decode cX10_alike 56 = .ok (.getfield 41, 3) := by decide +kernel
theorem dX10_alike_59 : decode cX10_alike 59 = .ok (.bipush 15, 2) := by decide +kernel
theorem dX10_alike_61 : decode cX10_alike 61 = .ok (.iload_n 2, 1) := by decide +kernel
theorem dX10_alike_62 : decode cX10_alike 62 = .ok (.iadd, 1) := by decide +kernel
theorem dX10_alike_63 : decode cX10_alike 63 = .ok (.iaload, 1) := by decide +kernel
theorem dX10_alike_64 : decode cX10_alike 64 = .ok (.iand, 1) := by decide +kernel
theorem dX10_alike_65 : decode cX10_alike 65 = .ok (.ifCond .ne 7, 3) := by decide +kernel
theorem dX10_alike_68 : decode cX10_alike 68 = .ok (.iconst 1, 1) := by decide +kernel
theorem dX10_alike_69 : decode cX10_alike 69 = .ok (.goto 4, 3) := by decide +kernel
theorem dX10_alike_72 : decode cX10_alike 72 = .ok (.iconst 0, 1) := by decide +kernel
theorem dX10_alike_73 : decode cX10_alike 73 = .ok (.iadd, 1) := by decide +kernel
theorem dX10_alike_74 : decode cX10_alike 74 = .ok (.istore 6, 2) := by decide +kernel
theorem dX10_alike_76 : decode cX10_alike 76 = .ok (.iinc 7 1, 3) := by decide +kernel
theorem dX10_alike_79 : decode cX10_alike 79 = .ok (.goto (-73), 3) := by decide +kernel
theorem dX10_alike_82 : decode cX10_alike 82 = .ok (.iload 6, 2) := by decide +kernel
theorem dX10_alike_84 : decode cX10_alike 84 = .ok (.ireturn, 1) := by decide +kernel
theorem dX10_table_0 : decode cX10_table 0 = .ok (.aload_n 0, 1) := by decide +kernel
theorem dX10_table_1 : decode cX10_table 1 = .ok (.iconst 0, 1) := by decide +kernel
theorem dX10_table_2 : decode cX10_table 2 = .ok (.putfield 1, 3) := by decide +kernel
theorem dX10_table_5 : decode cX10_table 5 = .ok (.aload_n 0, 1) := by decide +kernel
theorem dX10_table_6 : decode cX10_table 6 = .ok (.sipush 940, 3) := by decide +kernel
theorem dX10_table_9 : decode cX10_table 9 = .ok (.invokevirtual 219, 3) := by decide +kernel
theorem dX10_table_12 : decode cX10_table 12 = .ok (.aload_n 0, 1) := by decide +kernel
theorem dX10_table_13 : decode cX10_table 13 = .ok (.iload_n 1, 1) := by decide +kernel
theorem dX10_table_14 : decode cX10_table 14 = .ok (.invokevirtual 234, 3) := by decide +kernel
theorem dX10_table_17 : decode cX10_table 17 = .ok (.ifCond .eq 23, 3) := by decide +kernel
theorem dX10_table_20 : decode cX10_table 20 = .ok (.aload_n 0, 1) := by decide +kernel
theorem dX10_table_21 : decode cX10_table 21 = .ok (.iload_n 1, 1) := by decide +kernel
theorem dX10_table_22 : decode cX10_table 22 = .ok (.invokevirtual 241, 3) := by decide +kernel
theorem dX10_table_25 : decode cX10_table 25 = .ok (.ifCond .lt 15, 3) := by decide +kernel
theorem dX10_table_28 : decode cX10_table 28 = .ok (.aload_n 0, 1) := by decide +kernel
theorem dX10_table_29 : decode cX10_table 29 = .ok (.getfield 18, 3) := by decide +kernel
theorem dX10_table_32 : decode cX10_table 32 = .ok (.iconst 1, 1) := by decide +kernel
theorem dX10_table_33 : decode cX10_table 33 = .ok (.iconst 4, 1) := by decide +kernel
theorem dX10_table_34 : decode cX10_table 34 = .ok (.invokestatic 172, 3) := by decide +kernel
theorem dX10_table_37 : decode cX10_table 37 = .ok (.ifCond .ne 5, 3) := by decide +kernel
theorem dX10_table_40 : decode cX10_table 40 = .ok (.iconst (-1), 1) := by decide +kernel
theorem dX10_table_41 : decode cX10_table 41 = .ok (.ireturn, 1) := by decide +kernel
theorem dX10_table_42 : decode cX10_table 42 = .ok (.iconst 0, 1) := by decide +kernel
theorem dX10_table_43 : decode cX10_table 43 = .ok (.istore_n 2, 1) := by decide +kernel
theorem dX10_table_44 : decode cX10_table 44 = .ok (.iload_n 2, 1) := by decide +kernel
theorem dX10_table_45 : decode cX10_table 45 = .ok (.aload_n 0, 1) := by decide +kernel
theorem dX10_table_46 : decode cX10_table 46 = .ok (.getfield 18, 3) := by decide +kernel
theorem dX10_table_49 : decode cX10_table 49 = .ok (.if_icmp .ge 51, 3) := by decide +kernel
theorem dX10_table_52 : decode cX10_table 52 = .ok (.aload_n 0, 1) := by decide +kernel
theorem dX10_table_53 : decode cX10_table 53 = .ok (.aload_n 0, 1) := by decide +kernel
theorem dX10_table_54 : decode cX10_table 54 = .ok (.iload_n 2, 1) := by decide +kernel
theorem dX10_table_55 : decode cX10_table 55 = .ok (.invokevirtual 325, 3) := by decide +kernel
theorem dX10_table_58 : decode cX10_table 58 = .ok (.invokevirtual 248, 3) := by decide +kernel
theorem dX10_table_61 : decode cX10_table 61 = .ok (.ifCond .ne 5, 3) := by decide +kernel
theorem dX10_table_64 : decode cX10_table 64 = .ok (.iconst (-1), 1) := by decide +kernel
theorem dX10_table_65 : decode cX10_table 65 = .ok (.ireturn, 1) := by decide +kernel
theorem dX10_table_66 : decode cX10_table 66 = .ok (.iconst 0, 1) := by decide +kernel
theorem dX10_table_67 : decode cX10_table 67 = .ok (.istore_n 3, 1) := by decide +kernel
theorem dX10_table_68 : decode cX10_table 68 = .ok (.iload_n 3, 1) := by decide +kernel
theorem dX10_table_69 : decode cX10_table 69 = .ok (.iload_n 2, 1) := by decide +kernel
theorem dX10_table_70 : decode cX10_table 70 = .ok (.if_icmp .ge 24, 3) := by decide +kernel
theorem dX10_table_73 : decode cX10_table 73 = .ok (.aload_n 0, 1) := by decide +kernel
theorem dX10_table_74 : decode cX10_table 74 = .ok (.iload_n 3, 1) := by decide +kernel
theorem dX10_table_75 : decode cX10_table 75 = .ok (.invokevirtual 325, 3) := by decide +kernel
theorem dX10_table_78 : decode cX10_table 78 = .ok (.aload_n 0, 1) := by decide +kernel
theorem dX10_table_79 : decode cX10_table 79 = .ok (.iload_n 2, 1) := by decide +kernel
theorem dX10_table_80 : decode cX10_table 80 = .ok (.invokevirtual 325, 3) := by decide +kernel
theorem dX10_table_83 : decode cX10_table 83 = .ok (.if_icmp .ne 5, 3) := by decide +kernel
theorem dX10_table_86 : decode cX10_table 86 = .ok (.iconst (-1), 1) := by decide +kernel
theorem dX10_table_87 : decode cX10_table 87 = .ok (.ireturn, 1) := by decide +kernel
theorem dX10_table_88 : decode cX10_table 88 = .ok (.iinc 3 1, 3) := by decide +kernel
theorem dX10_table_91 : decode cX10_table 91 = .ok (.goto (-23), 3) := by decide +kernel
theorem dX10_table_94 : decode cX10_table 94 = .ok (.iinc 2 1, 3) := by decide +kernel
theorem dX10_table_97 : decode cX10_table 97 = .ok (.goto (-53), 3) := by decide +kernel
theorem dX10_table_100 : decode cX10_table 100 = .ok (.iconst 0, 1) := by decide +kernel
theorem dX10_table_101 : decode cX10_table 101 = .ok (.istore_n 2, 1) := by decide +kernel
theorem dX10_table_102 : decode cX10_table 102 = .ok (.iload_n 2, 1) := by decide +kernel
theorem dX10_table_103 : decode cX10_table 103 = .ok (.aload_n 0, 1) := by decide +kernel
theorem dX10_table_104 : decode cX10_table 104 = .ok (.getfield 18, 3) := by decide +kernel
theorem dX10_table_107 : decode cX10_table 107 = .ok (.if_icmp .ge 20, 3) := by decide +kernel
theorem dX10_table_110 : decode cX10_table 110 = .ok (.aload_n 0, 1) := by decide +kernel
theorem dX10_table_111 : decode cX10_table 111 = .ok (.getfield 92, 3) := by decide +kernel
theorem dX10_table_114 : decode cX10_table 114 = .ok (.iload_n 2, 1) := by decide +kernel
theorem dX10_table_115 : decode cX10_table 115 = .ok (.aload_n 0, 1) := by decide +kernel
theorem dX10_table_116 : decode cX10_table 116 = .ok (.iload_n 2, 1) := by decide +kernel
theorem dX10_table_117 : decode cX10_table 117 = .ok (.invokevirtual 325, 3) := by decide +kernel
theorem dX10_table_120 : decode cX10_table 120 = .ok (.iastore, 1) := by decide +kernel
theorem dX10_table_121 : decode cX10_table 121 = .ok (.iinc 2 1, 3) := by decide +kernel
theorem dX10_table_124 : decode cX10_table 124 = .ok (.goto (-22), 3) := by decide +kernel
theorem dX10_table_127 : decode cX10_table 127 = .ok (.lconst 1, 1) := by decide +kernel
theorem dX10_table_128 : decode cX10_table 128 = .ok (.aload_n 0, 1) := by decide +kernel
theorem dX10_table_129 : decode cX10_table 129 = .ok (.getfield 64, 3) := by decide +kernel
theorem dX10_table_132 : decode cX10_table 132 = .ok (.iload_n 1, 1) := by decide +kernel
theorem dX10_table_133 : decode cX10_table 133 = .ok (.iaload, 1) := by decide +kernel
theorem dX10_table_134 : decode cX10_table 134 = .ok (.lshl, 1) := by decide +kernel
theorem dX10_table_135 : decode cX10_table 135 = .ok (.lconst 1, 1) := by decide +kernel
theorem dX10_table_136 : decode cX10_table 136 = .ok (.lsub, 1) := by decide +kernel
theorem dX10_table_137 : decode cX10_table 137 = .ok (.lstore_n 2, 1) := by decide +kernel
theorem dX10_table_138 : decode cX10_table 138 = .ok (.lconst 0, 1) := by decide +kernel
theorem dX10_table_139 : decode cX10_table 139 = .ok (.lstore 4, 2) := by decide +kernel
theorem dX10_table_141 : decode cX10_table 141 = .ok (.iconst 0, 1) := by decide +kernel
theorem dX10_table_142 : decode cX10_table 142 = .ok (.istore 6, 2) := by decide +kernel
theorem dX10_table_144 : decode cX10_table 144 = .ok (.lload_n 2, 1) := by decide +kernel
theorem dX10_table_145 : decode cX10_table 145 = .ok (.lload 4, 2) := by decide +kernel
theorem dX10_table_147 : decode cX10_table 147 = .ok (.lcmp, 1) := by decide +kernel
theorem dX10_table_148 : decode cX10_table 148 = .ok (.ifCond .eq 150, 3) := by decide +kernel
theorem dX10_table_151 : decode cX10_table 151 = .ok (.lload_n 2, 1) := by decide +kernel
theorem dX10_table_152 : decode cX10_table 152 = .ok (.lstore 4, 2) := by decide +kernel
theorem dX10_table_154 : decode cX10_table 154 = .ok (.iconst 0, 1) := by decide +kernel
theorem dX10_table_155 : decode cX10_table 155 = .ok (.istore 7, 2) := by decide +kernel
theorem dX10_table_157 : decode cX10_table 157 = .ok (.iload 7, 2) := by decide +kernel
theorem dX10_table_159 : decode cX10_table 159 = .ok (.aload_n 0, 1) := by decide +kernel
theorem dX10_table_160 : decode cX10_table 160 = .ok (.getfield 18, 3) := by decide +kernel
theorem dX10_table_163 : decode cX10_table 163 = .ok (.if_icmp .ge 132, 3) := by decide +kernel
theorem dX10_table_166 : decode cX10_table 166 = .ok (.aload_n 0, 1) := by decide +kernel
theorem dX10_table_167 : decode cX10_table 167 = .ok (.getfield 92, 3) := by decide +kernel
theorem dX10_table_170 : decode cX10_table 170 = .ok (.iload 7, 2) := by decide +kernel
theorem dX10_table_172 : decode cX10_table 172 = .ok (.iaload, 1) := by decide +kernel
theorem dX10_table_173 : decode cX10_table 173 = .ok (.istore 8, 2) := by decide +kernel
theorem dX10_table_175 : decode cX10_table 175 = .ok (.aload_n 0, 1) := by decide +kernel
theorem dX10_table_176 : decode cX10_table 176 = .ok (.iload_n 1, 1) := by decide +kernel
theorem dX10_table_177 : decode cX10_table 177 = .ok (.iload 8, 2) := by decide +kernel
theorem dX10_table_179 : decode cX10_table 179 = .ok (.lload_n 2, 1) := by decide +kernel
theorem dX10_table_180 : decode cX10_table 180 = .ok (.aload_n 0, 1) := by decide +kernel
theorem dX10_table_181 : decode cX10_table 181 = .ok (.iload_n 1, 1) := by decide +kernel
theorem dX10_table_182 : decode cX10_table 182 = .ok (.invokevirtual 241, 3) := by decide +kernel
theorem dX10_table_185 : decode cX10_table 185 = .ok (.invokevirtual 328, 3) := by decide +kernel
theorem dX10_table_188 : decode cX10_table 188 = .ok (.iconst 1, 1) := by decide +kernel
theorem dX10_table_189 : decode cX10_table 189 = .ok (.if_icmp .ne 7, 3) := by decide +kernel
theorem dX10_table_192 : decode cX10_table 192 = .ok (.iconst 1, 1) := by decide +kernel
theorem dX10_table_193 : decode cX10_table 193 = .ok (.goto 4, 3) := by decide +kernel
theorem dX10_table_196 : decode cX10_table 196 = .ok (.iconst 0, 1) := by decide +kernel
theorem dX10_table_197 : decode cX10_table 197 = .ok (.istore 9, 2) := by decide +kernel
theorem dX10_table_199 : decode cX10_table 199 = .ok (.lconst 0, 1) := by decide +kernel
theorem dX10_table_200 : decode cX10_table 200 = .ok (.lstore 10, 2) := by decide +kernel
theorem dX10_table_202 : decode cX10_table 202 = .ok (.iconst 0, 1) := by decide +kernel
theorem dX10_table_203 : decode cX10_table 203 = .ok (.istore 12, 2) := by decide +kernel
theorem dX10_table_205 : decode cX10_table 205 = .ok (.iload 12, 2) := by decide +kernel
theorem dX10_table_207 : decode cX10_table 207 = .ok (.aload_n 0, 1) := by decide +kernel
theorem dX10_table_208 : decode cX10_table 208 = .ok (.getfield 64, 3) := by decide +kernel
theorem dX10_table_211 : decode cX10_table 211 = .ok (.iload_n 1, 1) := by decide +kernel
theorem dX10_table_212 : decode cX10_table 212 = .ok (.iaload, 1) := by decide +kernel
theorem dX10_table_213 : decode cX10_table 213 = .ok (.if_icmp .ge 53, 3) := by decide +kernel
theorem dX10_table_216 : decode cX10_table 216 = .ok (.lload_n 2, 1) := by decide +kernel
theorem dX10_table_217 : decode cX10_table 217 = .ok (.iload 12, 2) := by decide +kernel
theorem dX10_table_219 : decode cX10_table 219 = .ok (.lshr, 1) := by decide +kernel
theorem dX10_table_220 : decode cX10_table 220 = .ok (.lconst 1, 1) := by decide +kernel
theorem dX10_table_221 : decode cX10_table 221 = .ok (.land, 1) := by decide +kernel
theorem dX10_table_222 : decode cX10_table 222 = .ok (.lconst 1, 1) := by decide +kernel
theorem dX10_table_223 : decode cX10_table 223 = .ok (.lcmp, 1) := by decide +kernel
theorem dX10_table_224 : decode cX10_table 224 = .ok (.ifCond .ne 36, 3) := by decide +kernel
theorem dX10_table_227 : decode cX10_table 227 = .ok (.aload_n 0, 1) := by decide +kernel
theorem dX10_table_228 : decode cX10_table 228 = .ok (.iload_n 1, 1) := by decide +kernel
theorem dX10_table_229 : decode cX10_table 229 = .ok (.iload 8, 2) := by decide +kernel
theorem dX10_table_231 : decode cX10_table 231 = .ok (.lload_n 2, 1) := by decide +kernel
theorem dX10_table_232 : decode cX10_table 232 = .ok (.iload 12, 2) := by decide +kernel
theorem dX10_table_234 : decode cX10_table 234 = .ok (.invokevirtual 328, 3) := by decide +kernel
theorem dX10_table_237 : decode cX10_table 237 = .ok (.iconst 1, 1) := by decide +kernel
theorem dX10_table_238 : decode cX10_table 238 = .ok (.if_icmp .ne 7, 3) := by decide +kernel
theorem dX10_table_241 : decode cX10_table 241 = .ok (.iconst 1, 1) := by decide +kernel
theorem dX10_table_242 : decode cX10_table 242 = .ok (.goto 4, 3) := by decide +kernel
theorem dX10_table_245 : decode cX10_table 245 = .ok (.iconst 0, 1) := by decide +kernel
theorem dX10_table_246 : decode cX10_table 246 = .ok (.iload 9, 2) := by decide +kernel
theorem dX10_table_248 : decode cX10_table 248 = .ok (.if_icmp .ne 12, 3) := by decide +kernel
theorem dX10_table_251 : decode cX10_table 251 = .ok (.lload 10, 2) := by decide +kernel
theorem dX10_table_253 : decode cX10_table 253 = .ok (.lconst 1, 1) := by decide +kernel
theorem dX10_table_254 : decode cX10_table 254 = .ok (.iload 12, 2) := by decide +kernel
theorem dX10_table_256 : decode cX10_table 256 = .ok (.lshl, 1) := by decide +kernel
theorem dX10_table_257 : decode cX10_table 257 = .ok (.lor, 1) := by decide +kernel
theorem dX10_table_258 : decode cX10_table 258 = .ok (.lstore 10, 2) := by decide +kernel
theorem dX10_table_260 : decode cX10_table 260 = .ok (.iinc 12 1, 3) := by decide +kernel
theorem dX10_table_263 : decode cX10_table 263 = .ok (.goto (-58), 3) := by decide +kernel
theorem dX10_table_266 : decode cX10_table 266 = .ok (.lload 10, 2) := by decide +kernel
theorem dX10_table_268 : decode cX10_table 268 = .ok (.lstore_n 2, 1) := by decide +kernel
theorem dX10_table_269 : decode cX10_table 269 = .ok (.aload_n 0, 1) := by decide +kernel
theorem dX10_table_270 : decode cX10_table 270 = .ok (.getfield 95, 3) := by decide +kernel
theorem dX10_table_273 : decode cX10_table 273 = .ok (.iload 6, 2) := by decide +kernel
theorem dX10_table_275 : decode cX10_table 275 = .ok (.iload 9, 2) := by decide +kernel
theorem dX10_table_277 : decode cX10_table 277 = .ok (.ifCond .eq 7, 3) := by decide +kernel
theorem dX10_table_280 : decode cX10_table 280 = .ok (.iconst 1, 1) := by decide +kernel
theorem dX10_table_281 : decode cX10_table 281 = .ok (.goto 4, 3) := by decide +kernel
theorem dX10_table_284 : decode cX10_table 284 = .ok (.iconst 0, 1) := by decide +kernel
theorem dX10_table_285 : decode cX10_table 285 = .ok (.iastore, 1) := by decide +kernel
theorem dX10_table_286 : decode cX10_table 286 = .ok (.iinc 6 1, 3) := by decide +kernel
theorem dX10_table_289 : decode cX10_table 289 = .ok (.iinc 7 1, 3) := by decide +kernel
theorem dX10_table_292 : decode cX10_table 292 = .ok (.goto (-135), 3) := by decide +kernel
theorem dX10_table_295 : decode cX10_table 295 = .ok (.goto (-151), 3) := by decide +kernel
theorem dX10_table_298 : decode cX10_table 298 = .ok (.aload_n 0, 1) := by decide +kernel
theorem dX10_table_299 : decode cX10_table 299 = .ok (.iload 6, 2) := by decide +kernel
theorem dX10_table_301 : decode cX10_table 301 = .ok (.putfield 332, 3) := by decide +kernel
theorem dX10_table_304 : decode cX10_table 304 = .ok (.aload_n 0, 1) := by decide +kernel
theorem dX10_table_305 : decode cX10_table 305 = .ok (.getfield 98, 3) := by decide +kernel
theorem dX10_table_308 : decode cX10_table 308 = .ok (.iconst 0, 1) := by decide +kernel
theorem dX10_table_309 : decode cX10_table 309 = .ok (.lload_n 2, 1) := by decide +kernel
theorem dX10_table_310 : decode cX10_table 310 = .ok (.invokestatic 266, 3) := by decide +kernel
theorem dX10_table_313 : decode cX10_table 313 = .ok (.iastore, 1) := by decide +kernel
theorem dX10_table_314 : decode cX10_table 314 = .ok (.aload_n 0, 1) := by decide +kernel
theorem dX10_table_315 : decode cX10_table 315 = .ok (.getfield 98, 3) := by decide +kernel
theorem dX10_table_318 : decode cX10_table 318 = .ok (.iconst 1, 1) := by decide +kernel
theorem dX10_table_319 : decode cX10_table 319 = .ok (.iconst 0, 1) := by decide +kernel
theorem dX10_table_320 : decode cX10_table 320 = .ok (.iastore, 1) := by decide +kernel
theorem dX10_table_321 : decode cX10_table 321 = .ok (.iconst 0, 1) := by decide +kernel
theorem dX10_table_322 : decode cX10_table 322 = .ok (.istore 7, 2) := by decide +kernel
theorem dX10_table_324 : decode cX10_table 324 = .ok (.iload 7, 2) := by decide +kernel
theorem dX10_table_326 : decode cX10_table 326 = .ok (.aload_n 0, 1) := by decide +kernel
theorem dX10_table_327 : decode cX10_table 327 = .ok (.getfield 18, 3) := by decide +kernel
theorem dX10_table_330 : decode cX10_table 330 = .ok (.if_icmp .ge 53, 3) := by decide +kernel
theorem dX10_table_333 : decode cX10_table 333 = .ok (.aload_n 0, 1) := by decide +kernel
theorem dX10_table_334 : decode cX10_table 334 = .ok (.getfield 98, 3) := by decide +kernel
theorem dX10_table_337 : decode cX10_table 337 = .ok (.iconst 1, 1) := by decide +kernel
theorem dX10_table_338 : decode cX10_table 338 = .ok (.dup2, 1) := by decide +kernel
theorem dX10_table_339 : decode cX10_table 339 = .ok (.iaload, 1) := by decide +kernel
theorem dX10_table_340 : decode cX10_table 340 = .ok (.aload_n 0, 1) := by decide +kernel
theorem dX10_table_341 : decode cX10_table 341 = .ok (.iload_n 1, 1) := by decide +kernel
theorem dX10_table_342 : decode cX10_table 342 = .ok (.aload_n 0, 1) := by decide +kernel
theorem dX10_table_343 : decode cX10_table 343 = .ok (.getfield 92, 3) := by decide +kernel
theorem dX10_table_346 : decode cX10_table 346 = .ok (.iload 7, 2) := by decide +kernel
theorem dX10_table_348 : decode cX10_table 348 = .ok (.iaload, 1) := by decide +kernel
theorem dX10_table_349 : decode cX10_table 349 = .ok (.lload_n 2, 1) := by decide +kernel
theorem dX10_table_350 : decode cX10_table 350 = .ok (.aload_n 0, 1) := by decide +kernel
theorem dX10_table_351 : decode cX10_table 351 = .ok (.iload_n 1, 1) := by decide +kernel
theorem dX10_table_352 : decode cX10_table 352 = .ok (.invokevirtual 241, 3) := by decide +kernel
theorem dX10_table_355 : decode cX10_table 355 = .ok (.invokevirtual 328, 3) := by decide +kernel
theorem dX10_table_358 : decode cX10_table 358 = .ok (.iconst 1, 1) := by decide +kernel
theorem dX10_table_359 : decode cX10_table 359 = .ok (.if_icmp .ne 15, 3) := by decide +kernel
theorem dX10_table_362 : decode cX10_table 362 = .ok (.iconst 1, 1) := by decide +kernel
theorem dX10_table_363 : decode cX10_table 363 = .ok (.aload_n 0, 1) := by decide +kernel
theorem dX10_table_364 : decode cX10_table 364 = .ok (.getfield 92, 3) := by decide +kernel
theorem dX10_table_367 : decode cX10_table 367 = .ok (.iload 7, 2) := by decide +kernel
theorem dX10_table_369 : decode cX10_table 369 = .ok (.iaload, 1) := by decide +kernel
theorem dX10_table_370 : decode cX10_table 370 = .ok (.ishl, 1) := by decide +kernel
theorem dX10_table_371 : decode cX10_table 371 = .ok (.goto 4, 3) := by decide +kernel
theorem dX10_table_374 : decode cX10_table 374 = .ok (.iconst 0, 1) := by decide +kernel
theorem dX10_table_375 : decode cX10_table 375 = .ok (.ior, 1) := by decide +kernel
theorem dX10_table_376 : decode cX10_table 376 = .ok (.iastore, 1) := by decide +kernel
theorem dX10_table_377 : decode cX10_table 377 = .ok (.iinc 7 1, 3) := by decide +kernel
theorem dX10_table_380 : decode cX10_table 380 = .ok (.goto (-56), 3) := by decide +kernel
theorem dX10_table_383 : decode cX10_table 383 = .ok (.aload_n 0, 1) := by decide +kernel
theorem dX10_table_384 : decode cX10_table 384 = .ok (.iconst 1, 1) := by decide +kernel
theorem dX10_table_385 : decode cX10_table 385 = .ok (.putfield 335, 3) := by decide +kernel
theorem dX10_table_388 : decode cX10_table 388 = .ok (.iload 6, 2) := by decide +kernel
theorem dX10_table_390 : decode cX10_table 390 = .ok (.ireturn, 1) := by decide +kernel
theorem dX10_said_0 : decode cX10_said 0 = .ok (.aload_n 0, 1) := by decide +kernel
theorem dX10_said_1 : decode cX10_said 1 = .ok (.iconst 0, 1) := by decide +kernel
theorem dX10_said_2 : decode cX10_said 2 = .ok (.putfield 1, 3) := by decide +kernel
theorem dX10_said_5 : decode cX10_said 5 = .ok (.iload_n 1, 1) := by decide +kernel
theorem dX10_said_6 : decode cX10_said 6 = .ok (.iconst 0, 1) := by decide +kernel
theorem dX10_said_7 : decode cX10_said 7 = .ok (.aload_n 0, 1) := by decide +kernel
theorem dX10_said_8 : decode cX10_said 8 = .ok (.getfield 332, 3) := by decide +kernel
theorem dX10_said_11 : decode cX10_said 11 = .ok (.iconst 1, 1) := by decide +kernel
theorem dX10_said_12 : decode cX10_said 12 = .ok (.isub, 1) := by decide +kernel
theorem dX10_said_13 : decode cX10_said 13 = .ok (.invokestatic 172, 3) := by decide +kernel
theorem dX10_said_16 : decode cX10_said 16 = .ok (.ifCond .eq 12, 3) := by decide +kernel
theorem dX10_said_19 : decode cX10_said 19 = .ok (.aload_n 0, 1) := by decide +kernel
theorem dX10_said_20 : decode cX10_said 20 = .ok (.getfield 95, 3) := by decide +kernel
theorem dX10_said_23 : decode cX10_said 23 = .ok (.iload_n 1, 1) := by decide +kernel
theorem dX10_said_24 : decode cX10_said 24 = .ok (.iaload, 1) := by decide +kernel
theorem dX10_said_25 : decode cX10_said 25 = .ok (.goto 4, 3) := by decide +kernel
theorem dX10_said_28 : decode cX10_said 28 = .ok (.iconst (-1), 1) := by decide +kernel
theorem dX10_said_29 : decode cX10_said 29 = .ok (.ireturn, 1) := by decide +kernel
theorem dX10_ended_0 : decode cX10_ended 0 = .ok (.aload_n 0, 1) := by decide +kernel
theorem dX10_ended_1 : decode cX10_ended 1 = .ok (.iconst 0, 1) := by decide +kernel
theorem dX10_ended_2 : decode cX10_ended 2 = .ok (.putfield 1, 3) := by decide +kernel
theorem dX10_ended_5 : decode cX10_ended 5 = .ok (.aload_n 0, 1) := by decide +kernel
theorem dX10_ended_6 : decode cX10_ended 6 = .ok (.getfield 335, 3) := by decide +kernel
theorem dX10_ended_9 : decode cX10_ended 9 = .ok (.ifCond .eq 21, 3) := by decide +kernel
theorem dX10_ended_12 : decode cX10_ended 12 = .ok (.iload_n 1, 1) := by decide +kernel
theorem dX10_ended_13 : decode cX10_ended 13 = .ok (.iconst 0, 1) := by decide +kernel
theorem dX10_ended_14 : decode cX10_ended 14 = .ok (.iconst 1, 1) := by decide +kernel
theorem dX10_ended_15 : decode cX10_ended 15 = .ok (.invokestatic 172, 3) := by decide +kernel
theorem dX10_ended_18 : decode cX10_ended 18 = .ok (.ifCond .eq 12, 3) := by decide +kernel
theorem dX10_ended_21 : decode cX10_ended 21 = .ok (.aload_n 0, 1) := by decide +kernel
theorem dX10_ended_22 : decode cX10_ended 22 = .ok (.getfield 98, 3) := by decide +kernel
theorem dX10_ended_25 : decode cX10_ended 25 = .ok (.iload_n 1, 1) := by decide +kernel
theorem dX10_ended_26 : decode cX10_ended 26 = .ok (.iaload, 1) := by decide +kernel
theorem dX10_ended_27 : decode cX10_ended 27 = .ok (.goto 4, 3) := by decide +kernel
theorem dX10_ended_30 : decode cX10_ended 30 = .ok (.iconst (-1), 1) := by decide +kernel
theorem dX10_ended_31 : decode cX10_ended 31 = .ok (.ireturn, 1) := by decide +kernel
theorem dX10_readRule_0 : decode cX10_readRule 0 = .ok (.aload_n 0, 1) := by decide +kernel
theorem dX10_readRule_1 : decode cX10_readRule 1 = .ok (.invokevirtual 179, 3) := by decide +kernel
theorem dX10_readRule_4 : decode cX10_readRule 4 = .ok (.ifCond .ne 9, 3) := by decide +kernel
theorem dX10_readRule_7 : decode cX10_readRule 7 = .ok (.aload_n 0, 1) := by decide +kernel
theorem dX10_readRule_8 : decode cX10_readRule 8 = .ok (.iconst 1, 1) := by decide +kernel
theorem dX10_readRule_9 : decode cX10_readRule 9 = .ok (.invokevirtual 166, 3) := by decide +kernel
theorem dX10_readRule_12 : decode cX10_readRule 12 = .ok (.ireturn, 1) := by decide +kernel
theorem dX10_readRule_13 : decode cX10_readRule 13 = .ok (.aload_n 0, 1) := by decide +kernel
theorem dX10_readRule_14 : decode cX10_readRule 14 = .ok (.iconst 3, 1) := by decide +kernel
theorem dX10_readRule_15 : decode cX10_readRule 15 = .ok (.aload_n 0, 1) := by decide +kernel
theorem dX10_readRule_16 : decode cX10_readRule 16 = .ok (.getfield 41, 3) := by decide +kernel
theorem dX10_readRule_19 : decode cX10_readRule 19 = .ok (.iconst 1, 1) := by decide +kernel
theorem dX10_readRule_20 : decode cX10_readRule 20 = .ok (.iaload, 1) := by decide +kernel
theorem dX10_readRule_21 : decode cX10_readRule 21 = .ok (.invokevirtual 183, 3) := by decide +kernel
theorem dX10_readRule_24 : decode cX10_readRule 24 = .ok (.istore_n 1, 1) := by decide +kernel
theorem dX10_readRule_25 : decode cX10_readRule 25 = .ok (.iload_n 1, 1) := by decide +kernel
theorem dX10_readRule_26 : decode cX10_readRule 26 = .ok (.ifCond .ge 9, 3) := by decide +kernel
theorem dX10_readRule_29 : decode cX10_readRule 29 = .ok (.aload_n 0, 1) := by decide +kernel
theorem dX10_readRule_30 : decode cX10_readRule 30 = .ok (.iconst 3, 1) := by decide +kernel
theorem dX10_readRule_31 : decode cX10_readRule 31 = .ok (.invokevirtual 166, 3) := by decide +kernel
theorem dX10_readRule_34 : decode cX10_readRule 34 = .ok (.ireturn, 1) := by decide +kernel
theorem dX10_readRule_35 : decode cX10_readRule 35 = .ok (.aload_n 0, 1) := by decide +kernel
theorem dX10_readRule_36 : decode cX10_readRule 36 = .ok (.invokevirtual 169, 3) := by decide +kernel
theorem dX10_readRule_39 : decode cX10_readRule 39 = .ok (.aload_n 0, 1) := by decide +kernel
theorem dX10_readRule_40 : decode cX10_readRule 40 = .ok (.iconst 0, 1) := by decide +kernel
theorem dX10_readRule_41 : decode cX10_readRule 41 = .ok (.bipush 29, 2) := by decide +kernel
theorem dX10_readRule_43 : decode cX10_readRule 43 = .ok (.invokevirtual 209, 3) := by decide +kernel
theorem dX10_readRule_46 : decode cX10_readRule 46 = .ok (.ifCond .ne 5, 3) := by decide +kernel
theorem dX10_readRule_49 : decode cX10_readRule 49 = .ok (.iconst 0, 1) := by decide +kernel
theorem dX10_readRule_50 : decode cX10_readRule 50 = .ok (.ireturn, 1) := by decide +kernel
theorem dX10_readRule_51 : decode cX10_readRule 51 = .ok (.aload_n 0, 1) := by decide +kernel
theorem dX10_readRule_52 : decode cX10_readRule 52 = .ok (.getfield 176, 3) := by decide +kernel
theorem dX10_readRule_55 : decode cX10_readRule 55 = .ok (.istore_n 2, 1) := by decide +kernel
theorem dX10_readRule_56 : decode cX10_readRule 56 = .ok (.aload_n 0, 1) := by decide +kernel
theorem dX10_readRule_57 : decode cX10_readRule 57 = .ok (.iload_n 2, 1) := by decide +kernel
theorem dX10_readRule_58 : decode cX10_readRule 58 = .ok (.bipush 29, 2) := by decide +kernel
theorem dX10_readRule_60 : decode cX10_readRule 60 = .ok (.invokevirtual 209, 3) := by decide +kernel
theorem dX10_readRule_63 : decode cX10_readRule 63 = .ok (.ifCond .ne 5, 3) := by decide +kernel
theorem dX10_readRule_66 : decode cX10_readRule 66 = .ok (.iconst 0, 1) := by decide +kernel
theorem dX10_readRule_67 : decode cX10_readRule 67 = .ok (.ireturn, 1) := by decide +kernel
theorem dX10_readRule_68 : decode cX10_readRule 68 = .ok (.aload_n 0, 1) := by decide +kernel
theorem dX10_readRule_69 : decode cX10_readRule 69 = .ok (.getfield 176, 3) := by decide +kernel
theorem dX10_readRule_72 : decode cX10_readRule 72 = .ok (.istore_n 3, 1) := by decide +kernel
theorem dX10_readRule_73 : decode cX10_readRule 73 = .ok (.aload_n 0, 1) := by decide +kernel
theorem dX10_readRule_74 : decode cX10_readRule 74 = .ok (.iconst 1, 1) := by decide +kernel
theorem dX10_readRule_75 : decode cX10_readRule 75 = .ok (.bipush 30, 2) := by decide +kernel
theorem dX10_readRule_77 : decode cX10_readRule 77 = .ok (.invokevirtual 209, 3) := by decide +kernel
theorem dX10_readRule_80 : decode cX10_readRule 80 = .ok (.ifCond .ne 5, 3) := by decide +kernel
theorem dX10_readRule_83 : decode cX10_readRule 83 = .ok (.iconst 0, 1) := by decide +kernel
theorem dX10_readRule_84 : decode cX10_readRule 84 = .ok (.ireturn, 1) := by decide +kernel
theorem dX10_readRule_85 : decode cX10_readRule 85 = .ok (.aload_n 0, 1) := by decide +kernel
theorem dX10_readRule_86 : decode cX10_readRule 86 = .ok (.getfield 176, 3) := by decide +kernel
theorem dX10_readRule_89 : decode cX10_readRule 89 = .ok (.istore 4, 2) := by decide +kernel
theorem dX10_readRule_91 : decode cX10_readRule 91 = .ok (.iload_n 2, 1) := by decide +kernel
theorem dX10_readRule_92 : decode cX10_readRule 92 = .ok (.istore 5, 2) := by decide +kernel
theorem dX10_readRule_94 : decode cX10_readRule 94 = .ok (.iload 5, 2) := by decide +kernel
theorem dX10_readRule_96 : decode cX10_readRule 96 = .ok (.iload_n 3, 1) := by decide +kernel
theorem dX10_readRule_97 : decode cX10_readRule 97 = .ok (.if_icmp .gt 33, 3) := by decide +kernel
theorem dX10_readRule_100 : decode cX10_readRule 100 = .ok (.aload_n 0, 1) := by decide +kernel
theorem dX10_readRule_101 : decode cX10_readRule 101 = .ok (.getfield 51, 3) := by decide +kernel
theorem dX10_readRule_104 : decode cX10_readRule 104 = .ok (.iload 5, 2) := by decide +kernel
theorem dX10_readRule_106 : decode cX10_readRule 106 = .ok (.iaload, 1) := by decide +kernel
theorem dX10_readRule_107 : decode cX10_readRule 107 = .ok (.ifCond .ne 13, 3) := by decide +kernel
theorem dX10_readRule_110 : decode cX10_readRule 110 = .ok (.aload_n 0, 1) := by decide +kernel
theorem dX10_readRule_111 : decode cX10_readRule 111 = .ok (.getfield 51, 3) := by decide +kernel
theorem dX10_readRule_114 : decode cX10_readRule 114 = .ok (.iload 5, 2) := by decide +kernel
theorem dX10_readRule_116 : decode cX10_readRule 116 = .ok (.iload_n 1, 1) := by decide +kernel
theorem dX10_readRule_117 : decode cX10_readRule 117 = .ok (.iconst 1, 1) := by decide +kernel
theorem dX10_readRule_118 : decode cX10_readRule 118 = .ok (.iadd, 1) := by decide +kernel
theorem dX10_readRule_119 : decode cX10_readRule 119 = .ok (.iastore, 1) := by decide +kernel
theorem dX10_readRule_120 : decode cX10_readRule 120 = .ok (.iload 5, 2) := by decide +kernel
theorem dX10_readRule_122 : decode cX10_readRule 122 = .ok (.iload 4, 2) := by decide +kernel
theorem dX10_readRule_124 : decode cX10_readRule 124 = .ok (.iadd, 1) := by decide +kernel
theorem dX10_readRule_125 : decode cX10_readRule 125 = .ok (.istore 5, 2) := by decide +kernel
theorem dX10_readRule_127 : decode cX10_readRule 127 = .ok (.goto (-33), 3) := by decide +kernel
theorem dX10_readRule_130 : decode cX10_readRule 130 = .ok (.iconst 1, 1) := by decide +kernel
theorem dX10_readRule_131 : decode cX10_readRule 131 = .ok (.ireturn, 1) := by decide +kernel
theorem dX10_rules_0 : decode cX10_rules 0 = .ok (.aload_n 0, 1) := by decide +kernel
theorem dX10_rules_1 : decode cX10_rules 1 = .ok (.iconst 0, 1) := by decide +kernel
theorem dX10_rules_2 : decode cX10_rules 2 = .ok (.putfield 1, 3) := by decide +kernel
theorem dX10_rules_5 : decode cX10_rules 5 = .ok (.aload_n 0, 1) := by decide +kernel
theorem dX10_rules_6 : decode cX10_rules 6 = .ok (.sipush 300, 3) := by decide +kernel
theorem dX10_rules_9 : decode cX10_rules 9 = .ok (.invokevirtual 219, 3) := by decide +kernel
theorem dX10_rules_12 : decode cX10_rules 12 = .ok (.aload_n 0, 1) := by decide +kernel
theorem dX10_rules_13 : decode cX10_rules 13 = .ok (.iconst 0, 1) := by decide +kernel
theorem dX10_rules_14 : decode cX10_rules 14 = .ok (.putfield 157, 3) := by decide +kernel
theorem dX10_rules_17 : decode cX10_rules 17 = .ok (.aload_n 0, 1) := by decide +kernel
theorem dX10_rules_18 : decode cX10_rules 18 = .ok (.iconst 0, 1) := by decide +kernel
theorem dX10_rules_19 : decode cX10_rules 19 = .ok (.putfield 222, 3) := by decide +kernel
theorem dX10_rules_22 : decode cX10_rules 22 = .ok (.iconst 0, 1) := by decide +kernel
theorem dX10_rules_23 : decode cX10_rules 23 = .ok (.istore_n 1, 1) := by decide +kernel
theorem dX10_rules_24 : decode cX10_rules 24 = .ok (.iload_n 1, 1) := by decide +kernel
theorem dX10_rules_25 : decode cX10_rules 25 = .ok (.bipush 30, 2) := by decide +kernel
theorem dX10_rules_27 : decode cX10_rules 27 = .ok (.if_icmp .ge 16, 3) := by decide +kernel
theorem dX10_rules_30 : decode cX10_rules 30 = .ok (.aload_n 0, 1) := by decide +kernel
theorem dX10_rules_31 : decode cX10_rules 31 = .ok (.getfield 51, 3) := by decide +kernel
theorem dX10_rules_34 : decode cX10_rules 34 = .ok (.iload_n 1, 1) := by decide +kernel
theorem dX10_rules_35 : decode cX10_rules 35 = .ok (.iconst 0, 1) := by decide +kernel
theorem dX10_rules_36 : decode cX10_rules 36 = .ok (.iastore, 1) := by decide +kernel
theorem dX10_rules_37 : decode cX10_rules 37 = .ok (.iinc 1 1, 3) := by decide +kernel
theorem dX10_rules_40 : decode cX10_rules 40 = .ok (.goto (-16), 3) := by decide +kernel
theorem dX10_rules_43 : decode cX10_rules 43 = .ok (.aload_n 0, 1) := by decide +kernel
theorem dX10_rules_44 : decode cX10_rules 44 = .ok (.invokevirtual 169, 3) := by decide +kernel
theorem dX10_rules_47 : decode cX10_rules 47 = .ok (.aload_n 0, 1) := by decide +kernel
theorem dX10_rules_48 : decode cX10_rules 48 = .ok (.getfield 140, 3) := by decide +kernel
theorem dX10_rules_51 : decode cX10_rules 51 = .ok (.ifCond .eq 39, 3) := by decide +kernel
theorem dX10_rules_54 : decode cX10_rules 54 = .ok (.aload_n 0, 1) := by decide +kernel
theorem dX10_rules_55 : decode cX10_rules 55 = .ok (.invokevirtual 339, 3) := by decide +kernel
theorem dX10_rules_58 : decode cX10_rules 58 = .ok (.ifCond .eq 12, 3) := by decide +kernel
theorem dX10_rules_61 : decode cX10_rules 61 = .ok (.aload_n 0, 1) := by decide +kernel
theorem dX10_rules_62 : decode cX10_rules 62 = .ok (.bipush 59, 2) := by decide +kernel
theorem dX10_rules_64 : decode cX10_rules 64 = .ok (.invokevirtual 228, 3) := by decide +kernel
theorem dX10_rules_67 : decode cX10_rules 67 = .ok (.ifCond .ne 10, 3) := by decide +kernel
theorem dX10_rules_70 : decode cX10_rules 70 = .ok (.iconst (-1), 1) := by decide +kernel
theorem dX10_rules_71 : decode cX10_rules 71 = .ok (.aload_n 0, 1) := by decide +kernel
theorem dX10_rules_72 : decode cX10_rules 72 = .ok (.getfield 160, 3) := by decide +kernel
theorem dX10_rules_75 : decode cX10_rules 75 = .ok (.isub, 1) := by decide +kernel
theorem dX10_rules_76 : decode cX10_rules 76 = .ok (.ireturn, 1) := by decide +kernel
theorem dX10_rules_77 : decode cX10_rules 77 = .ok (.aload_n 0, 1) := by decide +kernel
theorem dX10_rules_78 : decode cX10_rules 78 = .ok (.dup, 1) := by decide +kernel
theorem dX10_rules_79 : decode cX10_rules 79 = .ok (.getfield 222, 3) := by decide +kernel
theorem dX10_rules_82 : decode cX10_rules 82 = .ok (.iconst 1, 1) := by decide +kernel
theorem dX10_rules_83 : decode cX10_rules 83 = .ok (.iadd, 1) := by decide +kernel
theorem dX10_rules_84 : decode cX10_rules 84 = .ok (.putfield 222, 3) := by decide +kernel
theorem dX10_rules_87 : decode cX10_rules 87 = .ok (.goto (-40), 3) := by decide +kernel
theorem dX10_rules_90 : decode cX10_rules 90 = .ok (.iconst 0, 1) := by decide +kernel
theorem dX10_rules_91 : decode cX10_rules 91 = .ok (.istore_n 1, 1) := by decide +kernel
theorem dX10_rules_92 : decode cX10_rules 92 = .ok (.iload_n 1, 1) := by decide +kernel
theorem dX10_rules_93 : decode cX10_rules 93 = .ok (.bipush 30, 2) := by decide +kernel
theorem dX10_rules_95 : decode cX10_rules 95 = .ok (.if_icmp .ge 24, 3) := by decide +kernel
theorem dX10_rules_98 : decode cX10_rules 98 = .ok (.aload_n 0, 1) := by decide +kernel
theorem dX10_rules_99 : decode cX10_rules 99 = .ok (.getfield 41, 3) := by decide +kernel
theorem dX10_rules_102 : decode cX10_rules 102 = .ok (.bipush 19, 2) := by decide +kernel
theorem dX10_rules_104 : decode cX10_rules 104 = .ok (.iload_n 1, 1) := by decide +kernel
theorem dX10_rules_105 : decode cX10_rules 105 = .ok (.iadd, 1) := by decide +kernel
theorem dX10_rules_106 : decode cX10_rules 106 = .ok (.aload_n 0, 1) := by decide +kernel
theorem dX10_rules_107 : decode cX10_rules 107 = .ok (.getfield 51, 3) := by decide +kernel
theorem dX10_rules_110 : decode cX10_rules 110 = .ok (.iload_n 1, 1) := by decide +kernel
theorem dX10_rules_111 : decode cX10_rules 111 = .ok (.iaload, 1) := by decide +kernel
theorem dX10_rules_112 : decode cX10_rules 112 = .ok (.iastore, 1) := by decide +kernel
theorem dX10_rules_113 : decode cX10_rules 113 = .ok (.iinc 1 1, 3) := by decide +kernel
theorem dX10_rules_116 : decode cX10_rules 116 = .ok (.goto (-24), 3) := by decide +kernel
theorem dX10_rules_119 : decode cX10_rules 119 = .ok (.aload_n 0, 1) := by decide +kernel
theorem dX10_rules_120 : decode cX10_rules 120 = .ok (.getfield 222, 3) := by decide +kernel
theorem dX10_rules_123 : decode cX10_rules 123 = .ok (.ireturn, 1) := by decide +kernel
theorem dX10_turn_0 : decode cX10_turn 0 = .ok (.aload_n 0, 1) := by decide +kernel
theorem dX10_turn_1 : decode cX10_turn 1 = .ok (.iconst 0, 1) := by decide +kernel
theorem dX10_turn_2 : decode cX10_turn 2 = .ok (.putfield 1, 3) := by decide +kernel
theorem dX10_turn_5 : decode cX10_turn 5 = .ok (.iload_n 1, 1) := by decide +kernel
theorem dX10_turn_6 : decode cX10_turn 6 = .ok (.invokestatic 245, 3) := by decide +kernel
theorem dX10_turn_9 : decode cX10_turn 9 = .ok (.ifCond .eq 17, 3) := by decide +kernel
theorem dX10_turn_12 : decode cX10_turn 12 = .ok (.aload_n 0, 1) := by decide +kernel
theorem dX10_turn_13 : decode cX10_turn 13 = .ok (.getfield 41, 3) := by decide +kernel
theorem dX10_turn_16 : decode cX10_turn 16 = .ok (.bipush 19, 2) := by decide +kernel
theorem dX10_turn_18 : decode cX10_turn 18 = .ok (.iload_n 1, 1) := by decide +kernel
theorem dX10_turn_19 : decode cX10_turn 19 = .ok (.iadd, 1) := by decide +kernel
theorem dX10_turn_20 : decode cX10_turn 20 = .ok (.iaload, 1) := by decide +kernel
theorem dX10_turn_21 : decode cX10_turn 21 = .ok (.iconst 1, 1) := by decide +kernel
theorem dX10_turn_22 : decode cX10_turn 22 = .ok (.isub, 1) := by decide +kernel
theorem dX10_turn_23 : decode cX10_turn 23 = .ok (.goto 4, 3) := by decide +kernel
theorem dX10_turn_26 : decode cX10_turn 26 = .ok (.iconst (-1), 1) := by decide +kernel
theorem dX10_turn_27 : decode cX10_turn 27 = .ok (.ireturn, 1) := by decide +kernel
theorem dX10_wantOf_0 : decode cX10_wantOf 0 = .ok (.aload_n 0, 1) := by decide +kernel
theorem dX10_wantOf_1 : decode cX10_wantOf 1 = .ok (.getfield 41, 3) := by decide +kernel
theorem dX10_wantOf_4 : decode cX10_wantOf 4 = .ok (.bipush 49, 2) := by decide +kernel
theorem dX10_wantOf_6 : decode cX10_wantOf 6 = .ok (.bipush 30, 2) := by decide +kernel
theorem dX10_wantOf_8 : decode cX10_wantOf 8 = .ok (.iload_n 1, 1) := by decide +kernel
theorem dX10_wantOf_9 : decode cX10_wantOf 9 = .ok (.imul, 1) := by decide +kernel
theorem dX10_wantOf_10 : decode cX10_wantOf 10 = .ok (.iadd, 1) := by decide +kernel
theorem dX10_wantOf_11 : decode cX10_wantOf 11 = .ok (.iload_n 2, 1) := by decide +kernel
theorem dX10_wantOf_12 : decode cX10_wantOf 12 = .ok (.iadd, 1) := by decide +kernel
theorem dX10_wantOf_13 : decode cX10_wantOf 13 = .ok (.iaload, 1) := by decide +kernel
theorem dX10_wantOf_14 : decode cX10_wantOf 14 = .ok (.istore_n 3, 1) := by decide +kernel
theorem dX10_wantOf_15 : decode cX10_wantOf 15 = .ok (.iload_n 3, 1) := by decide +kernel
theorem dX10_wantOf_16 : decode cX10_wantOf 16 = .ok (.ifCond .le 9, 3) := by decide +kernel
theorem dX10_wantOf_19 : decode cX10_wantOf 19 = .ok (.iload_n 3, 1) := by decide +kernel
theorem dX10_wantOf_20 : decode cX10_wantOf 20 = .ok (.iconst 1, 1) := by decide +kernel
theorem dX10_wantOf_21 : decode cX10_wantOf 21 = .ok (.isub, 1) := by decide +kernel
theorem dX10_wantOf_22 : decode cX10_wantOf 22 = .ok (.goto 4, 3) := by decide +kernel
theorem dX10_wantOf_25 : decode cX10_wantOf 25 = .ok (.iconst 0, 1) := by decide +kernel
theorem dX10_wantOf_26 : decode cX10_wantOf 26 = .ok (.ireturn, 1) := by decide +kernel
theorem dX10_content_0 : decode cX10_content 0 = .ok (.aload_n 0, 1) := by decide +kernel
theorem dX10_content_1 : decode cX10_content 1 = .ok (.iconst 0, 1) := by decide +kernel
theorem dX10_content_2 : decode cX10_content 2 = .ok (.putfield 1, 3) := by decide +kernel
theorem dX10_content_5 : decode cX10_content 5 = .ok (.aload_n 0, 1) := by decide +kernel
theorem dX10_content_6 : decode cX10_content 6 = .ok (.iload_n 1, 1) := by decide +kernel
theorem dX10_content_7 : decode cX10_content 7 = .ok (.invokevirtual 248, 3) := by decide +kernel
theorem dX10_content_10 : decode cX10_content 10 = .ok (.ifCond .ne 5, 3) := by decide +kernel
theorem dX10_content_13 : decode cX10_content 13 = .ok (.iconst (-1), 1) := by decide +kernel
theorem dX10_content_14 : decode cX10_content 14 = .ok (.ireturn, 1) := by decide +kernel
theorem dX10_content_15 : decode cX10_content 15 = .ok (.iconst 0, 1) := by decide +kernel
theorem dX10_content_16 : decode cX10_content 16 = .ok (.istore_n 2, 1) := by decide +kernel
theorem dX10_content_17 : decode cX10_content 17 = .ok (.iconst 0, 1) := by decide +kernel
theorem dX10_content_18 : decode cX10_content 18 = .ok (.istore_n 3, 1) := by decide +kernel
theorem dX10_content_19 : decode cX10_content 19 = .ok (.iload_n 3, 1) := by decide +kernel
theorem dX10_content_20 : decode cX10_content 20 = .ok (.bipush 30, 2) := by decide +kernel
theorem dX10_content_22 : decode cX10_content 22 = .ok (.if_icmp .ge 37, 3) := by decide +kernel
theorem dX10_content_25 : decode cX10_content 25 = .ok (.iload_n 2, 1) := by decide +kernel
theorem dX10_content_26 : decode cX10_content 26 = .ok (.aload_n 0, 1) := by decide +kernel
theorem dX10_content_27 : decode cX10_content 27 = .ok (.getfield 41, 3) := by decide +kernel
theorem dX10_content_30 : decode cX10_content 30 = .ok (.bipush 19, 2) := by decide +kernel
theorem dX10_content_32 : decode cX10_content 32 = .ok (.iload_n 3, 1) := by decide +kernel
theorem dX10_content_33 : decode cX10_content 33 = .ok (.iadd, 1) := by decide +kernel
theorem dX10_content_34 : decode cX10_content 34 = .ok (.iaload, 1) := by decide +kernel
theorem dX10_content_35 : decode cX10_content 35 = .ok (.iconst 1, 1) := by decide +kernel
theorem dX10_content_36 : decode cX10_content 36 = .ok (.isub, 1) := by decide +kernel
theorem dX10_content_37 : decode cX10_content 37 = .ok (.iload_n 1, 1) := by decide +kernel
theorem dX10_content_38 : decode cX10_content 38 = .ok (.if_icmp .ne 12, 3) := by decide +kernel
theorem dX10_content_41 : decode cX10_content 41 = .ok (.aload_n 0, 1) := by decide +kernel
theorem dX10_content_42 : decode cX10_content 42 = .ok (.iload_n 1, 1) := by decide +kernel
theorem dX10_content_43 : decode cX10_content 43 = .ok (.iload_n 3, 1) := by decide +kernel
theorem dX10_content_44 : decode cX10_content 44 = .ok (.invokevirtual 342, 3) := by decide +kernel
theorem dX10_content_47 : decode cX10_content 47 = .ok (.goto 4, 3) := by decide +kernel
theorem dX10_content_50 : decode cX10_content 50 = .ok (.iconst 0, 1) := by decide +kernel
theorem dX10_content_51 : decode cX10_content 51 = .ok (.iadd, 1) := by decide +kernel
theorem dX10_content_52 : decode cX10_content 52 = .ok (.istore_n 2, 1) := by decide +kernel
theorem dX10_content_53 : decode cX10_content 53 = .ok (.iinc 3 1, 3) := by decide +kernel
theorem dX10_content_56 : decode cX10_content 56 = .ok (.goto (-37), 3) := by decide +kernel
theorem dX10_content_59 : decode cX10_content 59 = .ok (.iload_n 2, 1) := by decide +kernel
theorem dX10_content_60 : decode cX10_content 60 = .ok (.ireturn, 1) := by decide +kernel
theorem dX10_trades_0 : decode cX10_trades 0 = .ok (.iconst 0, 1) := by decide +kernel
theorem dX10_trades_1 : decode cX10_trades 1 = .ok (.istore_n 1, 1) := by decide +kernel
theorem dX10_trades_2 : decode cX10_trades 2 = .ok (.iload_n 1, 1) := by decide +kernel
theorem dX10_trades_3 : decode cX10_trades 3 = .ok (.bipush 30, 2) := by decide +kernel
theorem dX10_trades_5 : decode cX10_trades 5 = .ok (.if_icmp .ge 148, 3) := by decide +kernel
theorem dX10_trades_8 : decode cX10_trades 8 = .ok (.iload_n 1, 1) := by decide +kernel
theorem dX10_trades_9 : decode cX10_trades 9 = .ok (.iconst 1, 1) := by decide +kernel
theorem dX10_trades_10 : decode cX10_trades 10 = .ok (.iadd, 1) := by decide +kernel
theorem dX10_trades_11 : decode cX10_trades 11 = .ok (.istore_n 2, 1) := by decide +kernel
theorem dX10_trades_12 : decode cX10_trades 12 = .ok (.iload_n 2, 1) := by decide +kernel
theorem dX10_trades_13 : decode cX10_trades 13 = .ok (.bipush 30, 2) := by decide +kernel
theorem dX10_trades_15 : decode cX10_trades 15 = .ok (.if_icmp .ge 132, 3) := by decide +kernel
theorem dX10_trades_18 : decode cX10_trades 18 = .ok (.aload_n 0, 1) := by decide +kernel
theorem dX10_trades_19 : decode cX10_trades 19 = .ok (.getfield 41, 3) := by decide +kernel
theorem dX10_trades_22 : decode cX10_trades 22 = .ok (.bipush 19, 2) := by decide +kernel
theorem dX10_trades_24 : decode cX10_trades 24 = .ok (.iload_n 1, 1) := by decide +kernel
theorem dX10_trades_25 : decode cX10_trades 25 = .ok (.iadd, 1) := by decide +kernel
theorem dX10_trades_26 : decode cX10_trades 26 = .ok (.iaload, 1) := by decide +kernel
theorem dX10_trades_27 : decode cX10_trades 27 = .ok (.iconst 1, 1) := by decide +kernel
theorem dX10_trades_28 : decode cX10_trades 28 = .ok (.isub, 1) := by decide +kernel
theorem dX10_trades_29 : decode cX10_trades 29 = .ok (.istore_n 3, 1) := by decide +kernel
theorem dX10_trades_30 : decode cX10_trades 30 = .ok (.aload_n 0, 1) := by decide +kernel
theorem dX10_trades_31 : decode cX10_trades 31 = .ok (.getfield 41, 3) := by decide +kernel
theorem dX10_trades_34 : decode cX10_trades 34 = .ok (.bipush 19, 2) := by decide +kernel
theorem dX10_trades_36 : decode cX10_trades 36 = .ok (.iload_n 2, 1) := by decide +kernel
theorem dX10_trades_37 : decode cX10_trades 37 = .ok (.iadd, 1) := by decide +kernel
theorem dX10_trades_38 : decode cX10_trades 38 = .ok (.iaload, 1) := by decide +kernel
theorem dX10_trades_39 : decode cX10_trades 39 = .ok (.iconst 1, 1) := by decide +kernel
theorem dX10_trades_40 : decode cX10_trades 40 = .ok (.isub, 1) := by decide +kernel
theorem dX10_trades_41 : decode cX10_trades 41 = .ok (.istore 4, 2) := by decide +kernel
theorem dX10_trades_43 : decode cX10_trades 43 = .ok (.iload_n 3, 1) := by decide +kernel
theorem dX10_trades_44 : decode cX10_trades 44 = .ok (.ifCond .lt 97, 3) := by decide +kernel
theorem dX10_trades_47 : decode cX10_trades 47 = .ok (.iload 4, 2) := by decide +kernel
theorem dX10_trades_49 : decode cX10_trades 49 = .ok (.ifCond .lt 92, 3) := by decide +kernel
theorem dX10_trades_52 : decode cX10_trades 52 = .ok (.iload_n 3, 1) := by decide +kernel
theorem dX10_trades_53 : decode cX10_trades 53 = .ok (.iload 4, 2) := by decide +kernel
theorem dX10_trades_55 : decode cX10_trades 55 = .ok (.if_icmp .ne 6, 3) := by decide +kernel
theorem dX10_trades_58 : decode cX10_trades 58 = .ok (.goto 83, 3) := by decide +kernel
theorem dX10_trades_61 : decode cX10_trades 61 = .ok (.aload_n 0, 1) := by decide +kernel
theorem dX10_trades_62 : decode cX10_trades 62 = .ok (.iload_n 3, 1) := by decide +kernel
theorem dX10_trades_63 : decode cX10_trades 63 = .ok (.iload_n 2, 1) := by decide +kernel
theorem dX10_trades_64 : decode cX10_trades 64 = .ok (.invokevirtual 342, 3) := by decide +kernel
theorem dX10_trades_67 : decode cX10_trades 67 = .ok (.aload_n 0, 1) := by decide +kernel
theorem dX10_trades_68 : decode cX10_trades 68 = .ok (.iload_n 3, 1) := by decide +kernel
theorem dX10_trades_69 : decode cX10_trades 69 = .ok (.iload_n 1, 1) := by decide +kernel
theorem dX10_trades_70 : decode cX10_trades 70 = .ok (.invokevirtual 342, 3) := by decide +kernel
theorem dX10_trades_73 : decode cX10_trades 73 = .ok (.isub, 1) := by decide +kernel
theorem dX10_trades_74 : decode cX10_trades 74 = .ok (.istore 5, 2) := by decide +kernel
theorem dX10_trades_76 : decode cX10_trades 76 = .ok (.aload_n 0, 1) := by decide +kernel
theorem dX10_trades_77 : decode cX10_trades 77 = .ok (.iload 4, 2) := by decide +kernel
theorem dX10_trades_79 : decode cX10_trades 79 = .ok (.iload_n 1, 1) := by decide +kernel
theorem dX10_trades_80 : decode cX10_trades 80 = .ok (.invokevirtual 342, 3) := by decide +kernel
theorem dX10_trades_83 : decode cX10_trades 83 = .ok (.aload_n 0, 1) := by decide +kernel
theorem dX10_trades_84 : decode cX10_trades 84 = .ok (.iload 4, 2) := by decide +kernel
theorem dX10_trades_86 : decode cX10_trades 86 = .ok (.iload_n 2, 1) := by decide +kernel
theorem dX10_trades_87 : decode cX10_trades 87 = .ok (.invokevirtual 342, 3) := by decide +kernel
theorem dX10_trades_90 : decode cX10_trades 90 = .ok (.isub, 1) := by decide +kernel
theorem dX10_trades_91 : decode cX10_trades 91 = .ok (.istore 6, 2) := by decide +kernel
theorem dX10_trades_93 : decode cX10_trades 93 = .ok (.iload 5, 2) := by decide +kernel
theorem dX10_trades_95 : decode cX10_trades 95 = .ok (.ifCond .lt 46, 3) := by decide +kernel
theorem dX10_trades_98 : decode cX10_trades 98 = .ok (.iload 6, 2) := by decide +kernel
theorem dX10_trades_100 : decode cX10_trades 100 = .ok (.ifCond .lt 41, 3) := by decide +kernel
theorem dX10_trades_103 : decode cX10_trades 103 = .ok (.iload 5, 2) := by decide +kernel
theorem dX10_trades_105 : decode cX10_trades 105 = .ok (.iload 6, 2) := by decide +kernel
theorem dX10_trades_107 : decode cX10_trades 107 = .ok (.iadd, 1) := by decide +kernel
theorem dX10_trades_108 : decode cX10_trades 108 = .ok (.ifCond .ne 6, 3) := by decide +kernel
theorem dX10_trades_111 : decode cX10_trades 111 = .ok (.goto 30, 3) := by decide +kernel
theorem dX10_trades_114 : decode cX10_trades 114 = .ok (.aload_n 0, 1) := by decide +kernel
theorem dX10_trades_115 : decode cX10_trades 115 = .ok (.getfield 41, 3) := by decide +kernel
theorem dX10_trades_118 : decode cX10_trades 118 = .ok (.bipush 19, 2) := by decide +kernel
theorem dX10_trades_120 : decode cX10_trades 120 = .ok (.iload_n 1, 1) := by decide +kernel
theorem dX10_trades_121 : decode cX10_trades 121 = .ok (.iadd, 1) := by decide +kernel
theorem dX10_trades_122 : decode cX10_trades 122 = .ok (.iload 4, 2) := by decide +kernel
theorem dX10_trades_124 : decode cX10_trades 124 = .ok (.iconst 1, 1) := by decide +kernel
theorem dX10_trades_125 : decode cX10_trades 125 = .ok (.iadd, 1) := by decide +kernel
theorem dX10_trades_126 : decode cX10_trades 126 = .ok (.iastore, 1) := by decide +kernel
theorem dX10_trades_127 : decode cX10_trades 127 = .ok (.aload_n 0, 1) := by decide +kernel
theorem dX10_trades_128 : decode cX10_trades 128 = .ok (.getfield 41, 3) := by decide +kernel
theorem dX10_trades_131 : decode cX10_trades 131 = .ok (.bipush 19, 2) := by decide +kernel
theorem dX10_trades_133 : decode cX10_trades 133 = .ok (.iload_n 2, 1) := by decide +kernel
theorem dX10_trades_134 : decode cX10_trades 134 = .ok (.iadd, 1) := by decide +kernel
theorem dX10_trades_135 : decode cX10_trades 135 = .ok (.iload_n 3, 1) := by decide +kernel
theorem dX10_trades_136 : decode cX10_trades 136 = .ok (.iconst 1, 1) := by decide +kernel
theorem dX10_trades_137 : decode cX10_trades 137 = .ok (.iadd, 1) := by decide +kernel
theorem dX10_trades_138 : decode cX10_trades 138 = .ok (.iastore, 1) := by decide +kernel
theorem dX10_trades_139 : decode cX10_trades 139 = .ok (.iconst 1, 1) := by decide +kernel
theorem dX10_trades_140 : decode cX10_trades 140 = .ok (.ireturn, 1) := by decide +kernel
theorem dX10_trades_141 : decode cX10_trades 141 = .ok (.iinc 2 1, 3) := by decide +kernel
theorem dX10_trades_144 : decode cX10_trades 144 = .ok (.goto (-132), 3) := by decide +kernel
theorem dX10_trades_147 : decode cX10_trades 147 = .ok (.iinc 1 1, 3) := by decide +kernel
theorem dX10_trades_150 : decode cX10_trades 150 = .ok (.goto (-148), 3) := by decide +kernel
theorem dX10_trades_153 : decode cX10_trades 153 = .ok (.iconst 0, 1) := by decide +kernel
theorem dX10_trades_154 : decode cX10_trades 154 = .ok (.ireturn, 1) := by decide +kernel
theorem dX10_trade_0 : decode cX10_trade 0 = .ok (.aload_n 0, 1) := by decide +kernel
theorem dX10_trade_1 : decode cX10_trade 1 = .ok (.iconst 0, 1) := by decide +kernel
theorem dX10_trade_2 : decode cX10_trade 2 = .ok (.putfield 1, 3) := by decide +kernel
theorem dX10_trade_5 : decode cX10_trade 5 = .ok (.iconst 0, 1) := by decide +kernel
theorem dX10_trade_6 : decode cX10_trade 6 = .ok (.istore_n 1, 1) := by decide +kernel
theorem dX10_trade_7 : decode cX10_trade 7 = .ok (.iload_n 1, 1) := by decide +kernel
theorem dX10_trade_8 : decode cX10_trade 8 = .ok (.bipush 100, 2) := by decide +kernel
theorem dX10_trade_10 : decode cX10_trade 10 = .ok (.if_icmp .ge 16, 3) := by decide +kernel
theorem dX10_trade_13 : decode cX10_trade 13 = .ok (.aload_n 0, 1) := by decide +kernel
theorem dX10_trade_14 : decode cX10_trade 14 = .ok (.invokevirtual 345, 3) := by decide +kernel
theorem dX10_trade_17 : decode cX10_trade 17 = .ok (.ifCond .eq 9, 3) := by decide +kernel
theorem dX10_trade_20 : decode cX10_trade 20 = .ok (.iinc 1 1, 3) := by decide +kernel
theorem dX10_trade_23 : decode cX10_trade 23 = .ok (.goto (-16), 3) := by decide +kernel
theorem dX10_trade_26 : decode cX10_trade 26 = .ok (.iload_n 1, 1) := by decide +kernel
theorem dX10_trade_27 : decode cX10_trade 27 = .ok (.ireturn, 1) := by decide +kernel
theorem dX10_draw_0 : decode cX10_draw 0 = .ok (.aload_n 0, 1) := by decide +kernel
theorem dX10_draw_1 : decode cX10_draw 1 = .ok (.aload_n 0, 1) := by decide +kernel
theorem dX10_draw_2 : decode cX10_draw 2 = .ok (.getfield 348, 3) := by decide +kernel
theorem dX10_draw_5 : decode cX10_draw 5 = .ok (.ldc_w 351, 3) := by decide +kernel
theorem dX10_draw_8 : decode cX10_draw 8 = .ok (.imul, 1) := by decide +kernel
theorem dX10_draw_9 : decode cX10_draw 9 = .ok (.sipush 12345, 3) := by decide +kernel
theorem dX10_draw_12 : decode cX10_draw 12 = .ok (.iadd, 1) := by decide +kernel
theorem dX10_draw_13 : decode cX10_draw 13 = .ok (.putfield 348, 3) := by decide +kernel
theorem dX10_draw_16 : decode cX10_draw 16 = .ok (.aload_n 0, 1) := by decide +kernel
theorem dX10_draw_17 : decode cX10_draw 17 = .ok (.getfield 348, 3) := by decide +kernel
theorem dX10_draw_20 : decode cX10_draw 20 = .ok (.bipush 8, 2) := by decide +kernel
theorem dX10_draw_22 : decode cX10_draw 22 = .ok (.iushr, 1) := by decide +kernel
theorem dX10_draw_23 : decode cX10_draw 23 = .ok (.iload_n 1, 1) := by decide +kernel
theorem dX10_draw_24 : decode cX10_draw 24 = .ok (.irem, 1) := by decide +kernel
theorem dX10_draw_25 : decode cX10_draw 25 = .ok (.ireturn, 1) := by decide +kernel
theorem dX10_drawn_0 : decode cX10_drawn 0 = .ok (.aload_n 0, 1) := by decide +kernel
theorem dX10_drawn_1 : decode cX10_drawn 1 = .ok (.iconst 0, 1) := by decide +kernel
theorem dX10_drawn_2 : decode cX10_drawn 2 = .ok (.putfield 1, 3) := by decide +kernel
theorem dX10_drawn_5 : decode cX10_drawn 5 = .ok (.aload_n 0, 1) := by decide +kernel
theorem dX10_drawn_6 : decode cX10_drawn 6 = .ok (.sipush 940, 3) := by decide +kernel
theorem dX10_drawn_9 : decode cX10_drawn 9 = .ok (.invokevirtual 219, 3) := by decide +kernel
theorem dX10_drawn_12 : decode cX10_drawn 12 = .ok (.iload_n 1, 1) := by decide +kernel
theorem dX10_drawn_13 : decode cX10_drawn 13 = .ok (.iconst 1, 1) := by decide +kernel
theorem dX10_drawn_14 : decode cX10_drawn 14 = .ok (.bipush 40, 2) := by decide +kernel
theorem dX10_drawn_16 : decode cX10_drawn 16 = .ok (.invokestatic 172, 3) := by decide +kernel
theorem dX10_drawn_19 : decode cX10_drawn 19 = .ok (.ifCond .eq 29, 3) := by decide +kernel
theorem dX10_drawn_22 : decode cX10_drawn 22 = .ok (.aload_n 0, 1) := by decide +kernel
theorem dX10_drawn_23 : decode cX10_drawn 23 = .ok (.getfield 41, 3) := by decide +kernel
theorem dX10_drawn_26 : decode cX10_drawn 26 = .ok (.iconst 1, 1) := by decide +kernel
theorem dX10_drawn_27 : decode cX10_drawn 27 = .ok (.iaload, 1) := by decide +kernel
theorem dX10_drawn_28 : decode cX10_drawn 28 = .ok (.ifCond .le 20, 3) := by decide +kernel
theorem dX10_drawn_31 : decode cX10_drawn 31 = .ok (.aload_n 0, 1) := by decide +kernel
theorem dX10_drawn_32 : decode cX10_drawn 32 = .ok (.getfield 18, 3) := by decide +kernel
theorem dX10_drawn_35 : decode cX10_drawn 35 = .ok (.aload_n 0, 1) := by decide +kernel
theorem dX10_drawn_36 : decode cX10_drawn 36 = .ok (.getfield 41, 3) := by decide +kernel
theorem dX10_drawn_39 : decode cX10_drawn 39 = .ok (.iconst 1, 1) := by decide +kernel
theorem dX10_drawn_40 : decode cX10_drawn 40 = .ok (.iaload, 1) := by decide +kernel
theorem dX10_drawn_41 : decode cX10_drawn 41 = .ok (.if_icmp .ne 7, 3) := by decide +kernel
theorem dX10_drawn_44 : decode cX10_drawn 44 = .ok (.iconst 1, 1) := by decide +kernel
theorem dX10_drawn_45 : decode cX10_drawn 45 = .ok (.goto 4, 3) := by decide +kernel
theorem dX10_drawn_48 : decode cX10_drawn 48 = .ok (.iconst 0, 1) := by decide +kernel
theorem dX10_drawn_49 : decode cX10_drawn 49 = .ok (.istore_n 3, 1) := by decide +kernel
theorem dX10_drawn_50 : decode cX10_drawn 50 = .ok (.iconst 0, 1) := by decide +kernel
theorem dX10_drawn_51 : decode cX10_drawn 51 = .ok (.istore 4, 2) := by decide +kernel
theorem dX10_drawn_53 : decode cX10_drawn 53 = .ok (.iload 4, 2) := by decide +kernel
theorem dX10_drawn_55 : decode cX10_drawn 55 = .ok (.aload_n 0, 1) := by decide +kernel
theorem dX10_drawn_56 : decode cX10_drawn 56 = .ok (.getfield 41, 3) := by decide +kernel
theorem dX10_drawn_59 : decode cX10_drawn 59 = .ok (.iconst 0, 1) := by decide +kernel
theorem dX10_drawn_60 : decode cX10_drawn 60 = .ok (.iaload, 1) := by decide +kernel
theorem dX10_drawn_61 : decode cX10_drawn 61 = .ok (.if_icmp .ge 28, 3) := by decide +kernel
theorem dX10_drawn_64 : decode cX10_drawn 64 = .ok (.iload_n 3, 1) := by decide +kernel
theorem dX10_drawn_65 : decode cX10_drawn 65 = .ok (.ifCond .eq 16, 3) := by decide +kernel
theorem dX10_drawn_68 : decode cX10_drawn 68 = .ok (.aload_n 0, 1) := by decide +kernel
theorem dX10_drawn_69 : decode cX10_drawn 69 = .ok (.iload 4, 2) := by decide +kernel
theorem dX10_drawn_71 : decode cX10_drawn 71 = .ok (.invokevirtual 241, 3) := by decide +kernel
theorem dX10_drawn_74 : decode cX10_drawn 74 = .ok (.ifCond .lt 7, 3) := by decide +kernel
theorem dX10_drawn_77 : decode cX10_drawn 77 = .ok (.iconst 1, 1) := by decide +kernel
theorem dX10_drawn_78 : decode cX10_drawn 78 = .ok (.goto 4, 3) := by decide +kernel
theorem dX10_drawn_81 : decode cX10_drawn 81 = .ok (.iconst 0, 1) := by decide +kernel
theorem dX10_drawn_82 : decode cX10_drawn 82 = .ok (.istore_n 3, 1) := by decide +kernel
theorem dX10_drawn_83 : decode cX10_drawn 83 = .ok (.iinc 4 1, 3) := by decide +kernel
theorem dX10_drawn_86 : decode cX10_drawn 86 = .ok (.goto (-33), 3) := by decide +kernel
theorem dX10_drawn_89 : decode cX10_drawn 89 = .ok (.iconst 0, 1) := by decide +kernel
theorem dX10_drawn_90 : decode cX10_drawn 90 = .ok (.istore 4, 2) := by decide +kernel
theorem dX10_drawn_92 : decode cX10_drawn 92 = .ok (.iload 4, 2) := by decide +kernel
theorem dX10_drawn_94 : decode cX10_drawn 94 = .ok (.aload_n 0, 1) := by decide +kernel
theorem dX10_drawn_95 : decode cX10_drawn 95 = .ok (.getfield 18, 3) := by decide +kernel
theorem dX10_drawn_98 : decode cX10_drawn 98 = .ok (.if_icmp .ge 38, 3) := by decide +kernel
theorem dX10_drawn_101 : decode cX10_drawn 101 = .ok (.iload_n 3, 1) := by decide +kernel
theorem dX10_drawn_102 : decode cX10_drawn 102 = .ok (.ifCond .eq 34, 3) := by decide +kernel
theorem dX10_drawn_105 : decode cX10_drawn 105 = .ok (.aload_n 0, 1) := by decide +kernel
theorem dX10_drawn_106 : decode cX10_drawn 106 = .ok (.iload 4, 2) := by decide +kernel
theorem dX10_drawn_108 : decode cX10_drawn 108 = .ok (.invokevirtual 325, 3) := by decide +kernel
theorem dX10_drawn_111 : decode cX10_drawn 111 = .ok (.iconst 2, 1) := by decide +kernel
theorem dX10_drawn_112 : decode cX10_drawn 112 = .ok (.iconst 2, 1) := by decide +kernel
theorem dX10_drawn_113 : decode cX10_drawn 113 = .ok (.aload_n 0, 1) := by decide +kernel
theorem dX10_drawn_114 : decode cX10_drawn 114 = .ok (.getfield 41, 3) := by decide +kernel
theorem dX10_drawn_117 : decode cX10_drawn 117 = .ok (.iconst 0, 1) := by decide +kernel
theorem dX10_drawn_118 : decode cX10_drawn 118 = .ok (.iaload, 1) := by decide +kernel
theorem dX10_drawn_119 : decode cX10_drawn 119 = .ok (.imul, 1) := by decide +kernel
theorem dX10_drawn_120 : decode cX10_drawn 120 = .ok (.iadd, 1) := by decide +kernel
theorem dX10_drawn_121 : decode cX10_drawn 121 = .ok (.if_icmp .ge 7, 3) := by decide +kernel
theorem dX10_drawn_124 : decode cX10_drawn 124 = .ok (.iconst 1, 1) := by decide +kernel
theorem dX10_drawn_125 : decode cX10_drawn 125 = .ok (.goto 4, 3) := by decide +kernel
theorem dX10_drawn_128 : decode cX10_drawn 128 = .ok (.iconst 0, 1) := by decide +kernel
theorem dX10_drawn_129 : decode cX10_drawn 129 = .ok (.istore_n 3, 1) := by decide +kernel
theorem dX10_drawn_130 : decode cX10_drawn 130 = .ok (.iinc 4 1, 3) := by decide +kernel
theorem dX10_drawn_133 : decode cX10_drawn 133 = .ok (.goto (-41), 3) := by decide +kernel
theorem dX10_drawn_136 : decode cX10_drawn 136 = .ok (.iload_n 3, 1) := by decide +kernel
theorem dX10_drawn_137 : decode cX10_drawn 137 = .ok (.ifCond .ne 5, 3) := by decide +kernel
theorem dX10_drawn_140 : decode cX10_drawn 140 = .ok (.iconst 0, 1) := by decide +kernel
theorem dX10_drawn_141 : decode cX10_drawn 141 = .ok (.ireturn, 1) := by decide +kernel
theorem dX10_drawn_142 : decode cX10_drawn 142 = .ok (.aload_n 0, 1) := by decide +kernel
theorem dX10_drawn_143 : decode cX10_drawn 143 = .ok (.iload_n 2, 1) := by decide +kernel
theorem dX10_drawn_144 : decode cX10_drawn 144 = .ok (.putfield 348, 3) := by decide +kernel
theorem dX10_drawn_147 : decode cX10_drawn 147 = .ok (.iconst 0, 1) := by decide +kernel
theorem dX10_drawn_148 : decode cX10_drawn 148 = .ok (.istore 4, 2) := by decide +kernel
theorem dX10_drawn_150 : decode cX10_drawn 150 = .ok (.iload 4, 2) := by decide +kernel
theorem dX10_drawn_152 : decode cX10_drawn 152 = .ok (.iload_n 1, 1) := by decide +kernel
theorem dX10_drawn_153 : decode cX10_drawn 153 = .ok (.if_icmp .ge 211, 3) := by decide +kernel
theorem dX10_drawn_156 : decode cX10_drawn 156 = .ok (.aload_n 0, 1) := by decide +kernel
theorem dX10_drawn_157 : decode cX10_drawn 157 = .ok (.aload_n 0, 1) := by decide +kernel
theorem dX10_drawn_158 : decode cX10_drawn 158 = .ok (.getfield 41, 3) := by decide +kernel
theorem dX10_drawn_161 : decode cX10_drawn 161 = .ok (.iconst 1, 1) := by decide +kernel
theorem dX10_drawn_162 : decode cX10_drawn 162 = .ok (.iaload, 1) := by decide +kernel
theorem dX10_drawn_163 : decode cX10_drawn 163 = .ok (.invokevirtual 352, 3) := by decide +kernel
theorem dX10_drawn_166 : decode cX10_drawn 166 = .ok (.istore 5, 2) := by decide +kernel
theorem dX10_drawn_168 : decode cX10_drawn 168 = .ok (.aload_n 0, 1) := by decide +kernel
theorem dX10_drawn_169 : decode cX10_drawn 169 = .ok (.bipush 30, 2) := by decide +kernel
theorem dX10_drawn_171 : decode cX10_drawn 171 = .ok (.invokevirtual 352, 3) := by decide +kernel
theorem dX10_drawn_174 : decode cX10_drawn 174 = .ok (.istore 6, 2) := by decide +kernel
theorem dX10_drawn_176 : decode cX10_drawn 176 = .ok (.aload_n 0, 1) := by decide +kernel
theorem dX10_drawn_177 : decode cX10_drawn 177 = .ok (.iload 5, 2) := by decide +kernel
theorem dX10_drawn_179 : decode cX10_drawn 179 = .ok (.invokevirtual 325, 3) := by decide +kernel
theorem dX10_drawn_182 : decode cX10_drawn 182 = .ok (.istore 7, 2) := by decide +kernel
theorem dX10_drawn_184 : decode cX10_drawn 184 = .ok (.iload 7, 2) := by decide +kernel
theorem dX10_drawn_186 : decode cX10_drawn 186 = .ok (.iconst 1, 1) := by decide +kernel
theorem dX10_drawn_187 : decode cX10_drawn 187 = .ok (.if_icmp .ne 10, 3) := by decide +kernel
theorem dX10_drawn_190 : decode cX10_drawn 190 = .ok (.iload 6, 2) := by decide +kernel
theorem dX10_drawn_192 : decode cX10_drawn 192 = .ok (.iconst 1, 1) := by decide +kernel
theorem dX10_drawn_193 : decode cX10_drawn 193 = .ok (.isub, 1) := by decide +kernel
theorem dX10_drawn_194 : decode cX10_drawn 194 = .ok (.goto 5, 3) := by decide +kernel
theorem dX10_drawn_197 : decode cX10_drawn 197 = .ok (.iload 6, 2) := by decide +kernel
theorem dX10_drawn_199 : decode cX10_drawn 199 = .ok (.istore 8, 2) := by decide +kernel
theorem dX10_drawn_201 : decode cX10_drawn 201 = .ok (.iconst 0, 1) := by decide +kernel
theorem dX10_drawn_202 : decode cX10_drawn 202 = .ok (.istore 9, 2) := by decide +kernel
theorem dX10_drawn_204 : decode cX10_drawn 204 = .ok (.iconst 0, 1) := by decide +kernel
theorem dX10_drawn_205 : decode cX10_drawn 205 = .ok (.istore 10, 2) := by decide +kernel
theorem dX10_drawn_207 : decode cX10_drawn 207 = .ok (.iload 10, 2) := by decide +kernel
theorem dX10_drawn_209 : decode cX10_drawn 209 = .ok (.aload_n 0, 1) := by decide +kernel
theorem dX10_drawn_210 : decode cX10_drawn 210 = .ok (.getfield 41, 3) := by decide +kernel
theorem dX10_drawn_213 : decode cX10_drawn 213 = .ok (.iconst 0, 1) := by decide +kernel
theorem dX10_drawn_214 : decode cX10_drawn 214 = .ok (.iaload, 1) := by decide +kernel
theorem dX10_drawn_215 : decode cX10_drawn 215 = .ok (.if_icmp .ge 52, 3) := by decide +kernel
theorem dX10_drawn_218 : decode cX10_drawn 218 = .ok (.iload 9, 2) := by decide +kernel
theorem dX10_drawn_220 : decode cX10_drawn 220 = .ok (.iload 8, 2) := by decide +kernel
theorem dX10_drawn_222 : decode cX10_drawn 222 = .ok (.ifCond .lt 35, 3) := by decide +kernel
theorem dX10_drawn_225 : decode cX10_drawn 225 = .ok (.aload_n 0, 1) := by decide +kernel
theorem dX10_drawn_226 : decode cX10_drawn 226 = .ok (.getfield 61, 3) := by decide +kernel
theorem dX10_drawn_229 : decode cX10_drawn 229 = .ok (.bipush 36, 2) := by decide +kernel
theorem dX10_drawn_231 : decode cX10_drawn 231 = .ok (.iload 10, 2) := by decide +kernel
theorem dX10_drawn_233 : decode cX10_drawn 233 = .ok (.imul, 1) := by decide +kernel
theorem dX10_drawn_234 : decode cX10_drawn 234 = .ok (.aload_n 0, 1) := by decide +kernel
theorem dX10_drawn_235 : decode cX10_drawn 235 = .ok (.iload 10, 2) := by decide +kernel
theorem dX10_drawn_237 : decode cX10_drawn 237 = .ok (.invokevirtual 241, 3) := by decide +kernel
theorem dX10_drawn_240 : decode cX10_drawn 240 = .ok (.iadd, 1) := by decide +kernel
theorem dX10_drawn_241 : decode cX10_drawn 241 = .ok (.iaload, 1) := by decide +kernel
theorem dX10_drawn_242 : decode cX10_drawn 242 = .ok (.iload 8, 2) := by decide +kernel
theorem dX10_drawn_244 : decode cX10_drawn 244 = .ok (.invokestatic 213, 3) := by decide +kernel
theorem dX10_drawn_247 : decode cX10_drawn 247 = .ok (.ifCond .eq 10, 3) := by decide +kernel
theorem dX10_drawn_250 : decode cX10_drawn 250 = .ok (.iconst 1, 1) := by decide +kernel
theorem dX10_drawn_251 : decode cX10_drawn 251 = .ok (.iload 10, 2) := by decide +kernel
theorem dX10_drawn_253 : decode cX10_drawn 253 = .ok (.ishl, 1) := by decide +kernel
theorem dX10_drawn_254 : decode cX10_drawn 254 = .ok (.goto 4, 3) := by decide +kernel
theorem dX10_drawn_257 : decode cX10_drawn 257 = .ok (.iconst 0, 1) := by decide +kernel
theorem dX10_drawn_258 : decode cX10_drawn 258 = .ok (.ior, 1) := by decide +kernel
theorem dX10_drawn_259 : decode cX10_drawn 259 = .ok (.istore 9, 2) := by decide +kernel
theorem dX10_drawn_261 : decode cX10_drawn 261 = .ok (.iinc 10 1, 3) := by decide +kernel
theorem dX10_drawn_264 : decode cX10_drawn 264 = .ok (.goto (-57), 3) := by decide +kernel
theorem dX10_drawn_267 : decode cX10_drawn 267 = .ok (.iload 7, 2) := by decide +kernel
theorem dX10_drawn_269 : decode cX10_drawn 269 = .ok (.iconst 1, 1) := by decide +kernel
theorem dX10_drawn_270 : decode cX10_drawn 270 = .ok (.if_icmp .le 39, 3) := by decide +kernel
theorem dX10_drawn_273 : decode cX10_drawn 273 = .ok (.iload 7, 2) := by decide +kernel
theorem dX10_drawn_275 : decode cX10_drawn 275 = .ok (.iconst 2, 1) := by decide +kernel
theorem dX10_drawn_276 : decode cX10_drawn 276 = .ok (.irem, 1) := by decide +kernel
theorem dX10_drawn_277 : decode cX10_drawn 277 = .ok (.ifCond .ne 19, 3) := by decide +kernel
theorem dX10_drawn_280 : decode cX10_drawn 280 = .ok (.iload 9, 2) := by decide +kernel
theorem dX10_drawn_282 : decode cX10_drawn 282 = .ok (.iconst 1, 1) := by decide +kernel
theorem dX10_drawn_283 : decode cX10_drawn 283 = .ok (.iload 7, 2) := by decide +kernel
theorem dX10_drawn_285 : decode cX10_drawn 285 = .ok (.iconst 2, 1) := by decide +kernel
theorem dX10_drawn_286 : decode cX10_drawn 286 = .ok (.isub, 1) := by decide +kernel
theorem dX10_drawn_287 : decode cX10_drawn 287 = .ok (.iconst 2, 1) := by decide +kernel
theorem dX10_drawn_288 : decode cX10_drawn 288 = .ok (.idiv, 1) := by decide +kernel
theorem dX10_drawn_289 : decode cX10_drawn 289 = .ok (.ishl, 1) := by decide +kernel
theorem dX10_drawn_290 : decode cX10_drawn 290 = .ok (.iconst (-1), 1) := by decide +kernel
theorem dX10_drawn_291 : decode cX10_drawn 291 = .ok (.ixor, 1) := by decide +kernel
theorem dX10_drawn_292 : decode cX10_drawn 292 = .ok (.iand, 1) := by decide +kernel
theorem dX10_drawn_293 : decode cX10_drawn 293 = .ok (.goto 14, 3) := by decide +kernel
theorem dX10_drawn_296 : decode cX10_drawn 296 = .ok (.iload 9, 2) := by decide +kernel
theorem dX10_drawn_298 : decode cX10_drawn 298 = .ok (.iconst 1, 1) := by decide +kernel
theorem dX10_drawn_299 : decode cX10_drawn 299 = .ok (.iload 7, 2) := by decide +kernel
theorem dX10_drawn_301 : decode cX10_drawn 301 = .ok (.iconst 2, 1) := by decide +kernel
theorem dX10_drawn_302 : decode cX10_drawn 302 = .ok (.isub, 1) := by decide +kernel
theorem dX10_drawn_303 : decode cX10_drawn 303 = .ok (.iconst 2, 1) := by decide +kernel
theorem dX10_drawn_304 : decode cX10_drawn 304 = .ok (.idiv, 1) := by decide +kernel
theorem dX10_drawn_305 : decode cX10_drawn 305 = .ok (.ishl, 1) := by decide +kernel
theorem dX10_drawn_306 : decode cX10_drawn 306 = .ok (.ior, 1) := by decide +kernel
theorem dX10_drawn_307 : decode cX10_drawn 307 = .ok (.istore 9, 2) := by decide +kernel
theorem dX10_drawn_309 : decode cX10_drawn 309 = .ok (.aload_n 0, 1) := by decide +kernel
theorem dX10_drawn_310 : decode cX10_drawn 310 = .ok (.getfield 41, 3) := by decide +kernel
theorem dX10_drawn_313 : decode cX10_drawn 313 = .ok (.sipush 170, 3) := by decide +kernel
theorem dX10_drawn_316 : decode cX10_drawn 316 = .ok (.iconst 3, 1) := by decide +kernel
theorem dX10_drawn_317 : decode cX10_drawn 317 = .ok (.iload 4, 2) := by decide +kernel
theorem dX10_drawn_319 : decode cX10_drawn 319 = .ok (.imul, 1) := by decide +kernel
theorem dX10_drawn_320 : decode cX10_drawn 320 = .ok (.iadd, 1) := by decide +kernel
theorem dX10_drawn_321 : decode cX10_drawn 321 = .ok (.iload 5, 2) := by decide +kernel
theorem dX10_drawn_323 : decode cX10_drawn 323 = .ok (.iastore, 1) := by decide +kernel
theorem dX10_drawn_324 : decode cX10_drawn 324 = .ok (.aload_n 0, 1) := by decide +kernel
theorem dX10_drawn_325 : decode cX10_drawn 325 = .ok (.getfield 41, 3) := by decide +kernel
theorem dX10_drawn_328 : decode cX10_drawn 328 = .ok (.sipush 170, 3) := by decide +kernel
theorem dX10_drawn_331 : decode cX10_drawn 331 = .ok (.iconst 3, 1) := by decide +kernel
theorem dX10_drawn_332 : decode cX10_drawn 332 = .ok (.iload 4, 2) := by decide +kernel
theorem dX10_drawn_334 : decode cX10_drawn 334 = .ok (.imul, 1) := by decide +kernel
theorem dX10_drawn_335 : decode cX10_drawn 335 = .ok (.iadd, 1) := by decide +kernel
theorem dX10_drawn_336 : decode cX10_drawn 336 = .ok (.iconst 1, 1) := by decide +kernel
theorem dX10_drawn_337 : decode cX10_drawn 337 = .ok (.iadd, 1) := by decide +kernel
theorem dX10_drawn_338 : decode cX10_drawn 338 = .ok (.iload 6, 2) := by decide +kernel
theorem dX10_drawn_340 : decode cX10_drawn 340 = .ok (.iastore, 1) := by decide +kernel
theorem dX10_drawn_341 : decode cX10_drawn 341 = .ok (.aload_n 0, 1) := by decide +kernel
theorem dX10_drawn_342 : decode cX10_drawn 342 = .ok (.getfield 41, 3) := by decide +kernel
theorem dX10_drawn_345 : decode cX10_drawn 345 = .ok (.sipush 170, 3) := by decide +kernel
theorem dX10_drawn_348 : decode cX10_drawn 348 = .ok (.iconst 3, 1) := by decide +kernel
theorem dX10_drawn_349 : decode cX10_drawn 349 = .ok (.iload 4, 2) := by decide +kernel
theorem dX10_drawn_351 : decode cX10_drawn 351 = .ok (.imul, 1) := by decide +kernel
theorem dX10_drawn_352 : decode cX10_drawn 352 = .ok (.iadd, 1) := by decide +kernel
theorem dX10_drawn_353 : decode cX10_drawn 353 = .ok (.iconst 2, 1) := by decide +kernel
theorem dX10_drawn_354 : decode cX10_drawn 354 = .ok (.iadd, 1) := by decide +kernel
theorem dX10_drawn_355 : decode cX10_drawn 355 = .ok (.iload 9, 2) := by decide +kernel
theorem dX10_drawn_357 : decode cX10_drawn 357 = .ok (.iastore, 1) := by decide +kernel
theorem dX10_drawn_358 : decode cX10_drawn 358 = .ok (.iinc 4 1, 3) := by decide +kernel
theorem dX10_drawn_361 : decode cX10_drawn 361 = .ok (.goto (-211), 3) := by decide +kernel
theorem dX10_drawn_364 : decode cX10_drawn 364 = .ok (.aload_n 0, 1) := by decide +kernel
theorem dX10_drawn_365 : decode cX10_drawn 365 = .ok (.getfield 41, 3) := by decide +kernel
theorem dX10_drawn_368 : decode cX10_drawn 368 = .ok (.sipush 169, 3) := by decide +kernel
theorem dX10_drawn_371 : decode cX10_drawn 371 = .ok (.iload_n 1, 1) := by decide +kernel
theorem dX10_drawn_372 : decode cX10_drawn 372 = .ok (.iastore, 1) := by decide +kernel
theorem dX10_drawn_373 : decode cX10_drawn 373 = .ok (.iconst 1, 1) := by decide +kernel
theorem dX10_drawn_374 : decode cX10_drawn 374 = .ok (.ireturn, 1) := by decide +kernel
theorem dX10_image_0 : decode cX10_image 0 = .ok (.aload_n 0, 1) := by decide +kernel
theorem dX10_image_1 : decode cX10_image 1 = .ok (.iconst 0, 1) := by decide +kernel
theorem dX10_image_2 : decode cX10_image 2 = .ok (.putfield 1, 3) := by decide +kernel
theorem dX10_image_5 : decode cX10_image 5 = .ok (.iload_n 1, 1) := by decide +kernel
theorem dX10_image_6 : decode cX10_image 6 = .ok (.iconst 0, 1) := by decide +kernel
theorem dX10_image_7 : decode cX10_image 7 = .ok (.iconst 1, 1) := by decide +kernel
theorem dX10_image_8 : decode cX10_image 8 = .ok (.invokestatic 172, 3) := by decide +kernel
theorem dX10_image_11 : decode cX10_image 11 = .ok (.ifCond .ne 5, 3) := by decide +kernel
theorem dX10_image_14 : decode cX10_image 14 = .ok (.iconst 0, 1) := by decide +kernel
theorem dX10_image_15 : decode cX10_image 15 = .ok (.ireturn, 1) := by decide +kernel
theorem dX10_image_16 : decode cX10_image 16 = .ok (.iconst 0, 1) := by decide +kernel
theorem dX10_image_17 : decode cX10_image 17 = .ok (.istore_n 2, 1) := by decide +kernel
theorem dX10_image_18 : decode cX10_image 18 = .ok (.iload_n 2, 1) := by decide +kernel
theorem dX10_image_19 : decode cX10_image 19 = .ok (.sipush 290, 3) := by decide +kernel
theorem dX10_image_22 : decode cX10_image 22 = .ok (.if_icmp .ge 27, 3) := by decide +kernel
theorem dX10_image_25 : decode cX10_image 25 = .ok (.aload_n 0, 1) := by decide +kernel
theorem dX10_image_26 : decode cX10_image 26 = .ok (.getfield 101, 3) := by decide +kernel
theorem dX10_image_29 : decode cX10_image 29 = .ok (.sipush 290, 3) := by decide +kernel
theorem dX10_image_32 : decode cX10_image 32 = .ok (.iload_n 1, 1) := by decide +kernel
theorem dX10_image_33 : decode cX10_image 33 = .ok (.imul, 1) := by decide +kernel
theorem dX10_image_34 : decode cX10_image 34 = .ok (.iload_n 2, 1) := by decide +kernel
theorem dX10_image_35 : decode cX10_image 35 = .ok (.iadd, 1) := by decide +kernel
theorem dX10_image_36 : decode cX10_image 36 = .ok (.aload_n 0, 1) := by decide +kernel
theorem dX10_image_37 : decode cX10_image 37 = .ok (.getfield 41, 3) := by decide +kernel
theorem dX10_image_40 : decode cX10_image 40 = .ok (.iload_n 2, 1) := by decide +kernel
theorem dX10_image_41 : decode cX10_image 41 = .ok (.iaload, 1) := by decide +kernel
theorem dX10_image_42 : decode cX10_image 42 = .ok (.iastore, 1) := by decide +kernel
theorem dX10_image_43 : decode cX10_image 43 = .ok (.iinc 2 1, 3) := by decide +kernel
theorem dX10_image_46 : decode cX10_image 46 = .ok (.goto (-28), 3) := by decide +kernel
theorem dX10_image_49 : decode cX10_image 49 = .ok (.iconst 0, 1) := by decide +kernel
theorem dX10_image_50 : decode cX10_image 50 = .ok (.istore_n 2, 1) := by decide +kernel
theorem dX10_image_51 : decode cX10_image 51 = .ok (.iload_n 2, 1) := by decide +kernel
theorem dX10_image_52 : decode cX10_image 52 = .ok (.bipush 7, 2) := by decide +kernel
theorem dX10_image_54 : decode cX10_image 54 = .ok (.if_icmp .ge 26, 3) := by decide +kernel
theorem dX10_image_57 : decode cX10_image 57 = .ok (.aload_n 0, 1) := by decide +kernel
theorem dX10_image_58 : decode cX10_image 58 = .ok (.getfield 104, 3) := by decide +kernel
theorem dX10_image_61 : decode cX10_image 61 = .ok (.bipush 7, 2) := by decide +kernel
theorem dX10_image_63 : decode cX10_image 63 = .ok (.iload_n 1, 1) := by decide +kernel
theorem dX10_image_64 : decode cX10_image 64 = .ok (.imul, 1) := by decide +kernel
theorem dX10_image_65 : decode cX10_image 65 = .ok (.iload_n 2, 1) := by decide +kernel
theorem dX10_image_66 : decode cX10_image 66 = .ok (.iadd, 1) := by decide +kernel
theorem dX10_image_67 : decode cX10_image 67 = .ok (.aload_n 0, 1) := by decide +kernel
theorem dX10_image_68 : decode cX10_image 68 = .ok (.getfield 54, 3) := by decide +kernel
theorem dX10_image_71 : decode cX10_image 71 = .ok (.iload_n 2, 1) := by decide +kernel
theorem dX10_image_72 : decode cX10_image 72 = .ok (.laload, 1) := by decide +kernel
theorem dX10_image_73 : decode cX10_image 73 = .ok (.lastore, 1) := by decide +kernel
theorem dX10_image_74 : decode cX10_image 74 = .ok (.iinc 2 1, 3) := by decide +kernel
theorem dX10_image_77 : decode cX10_image 77 = .ok (.goto (-26), 3) := by decide +kernel
theorem dX10_image_80 : decode cX10_image 80 = .ok (.aload_n 0, 1) := by decide +kernel
theorem dX10_image_81 : decode cX10_image 81 = .ok (.getfield 107, 3) := by decide +kernel
theorem dX10_image_84 : decode cX10_image 84 = .ok (.iload_n 1, 1) := by decide +kernel
theorem dX10_image_85 : decode cX10_image 85 = .ok (.iconst 1, 1) := by decide +kernel
theorem dX10_image_86 : decode cX10_image 86 = .ok (.bastore, 1) := by decide +kernel
theorem dX10_image_87 : decode cX10_image 87 = .ok (.iconst 1, 1) := by decide +kernel
theorem dX10_image_88 : decode cX10_image 88 = .ok (.ireturn, 1) := by decide +kernel
theorem dX10_restore_0 : decode cX10_restore 0 = .ok (.aload_n 0, 1) := by decide +kernel
theorem dX10_restore_1 : decode cX10_restore 1 = .ok (.iconst 0, 1) := by decide +kernel
theorem dX10_restore_2 : decode cX10_restore 2 = .ok (.putfield 1, 3) := by decide +kernel
theorem dX10_restore_5 : decode cX10_restore 5 = .ok (.iload_n 1, 1) := by decide +kernel
theorem dX10_restore_6 : decode cX10_restore 6 = .ok (.iconst 0, 1) := by decide +kernel
theorem dX10_restore_7 : decode cX10_restore 7 = .ok (.iconst 1, 1) := by decide +kernel
theorem dX10_restore_8 : decode cX10_restore 8 = .ok (.invokestatic 172, 3) := by decide +kernel
theorem dX10_restore_11 : decode cX10_restore 11 = .ok (.ifCond .eq 12, 3) := by decide +kernel
theorem dX10_restore_14 : decode cX10_restore 14 = .ok (.aload_n 0, 1) := by decide +kernel
theorem dX10_restore_15 : decode cX10_restore 15 = .ok (.getfield 107, 3) := by decide +kernel
theorem dX10_restore_18 : decode cX10_restore 18 = .ok (.iload_n 1, 1) := by decide +kernel
theorem dX10_restore_19 : decode cX10_restore 19 = .ok (.baload, 1) := by decide +kernel
theorem dX10_restore_20 : decode cX10_restore 20 = .ok (.ifCond .ne 5, 3) := by decide +kernel
theorem dX10_restore_23 : decode cX10_restore 23 = .ok (.iconst 0, 1) := by decide +kernel
theorem dX10_restore_24 : decode cX10_restore 24 = .ok (.ireturn, 1) := by decide +kernel
theorem dX10_restore_25 : decode cX10_restore 25 = .ok (.iconst 0, 1) := by decide +kernel
theorem dX10_restore_26 : decode cX10_restore 26 = .ok (.istore_n 2, 1) := by decide +kernel
theorem dX10_restore_27 : decode cX10_restore 27 = .ok (.iload_n 2, 1) := by decide +kernel
theorem dX10_restore_28 : decode cX10_restore 28 = .ok (.sipush 290, 3) := by decide +kernel
theorem dX10_restore_31 : decode cX10_restore 31 = .ok (.if_icmp .ge 27, 3) := by decide +kernel
theorem dX10_restore_34 : decode cX10_restore 34 = .ok (.aload_n 0, 1) := by decide +kernel
theorem dX10_restore_35 : decode cX10_restore 35 = .ok (.getfield 41, 3) := by decide +kernel
theorem dX10_restore_38 : decode cX10_restore 38 = .ok (.iload_n 2, 1) := by decide +kernel
theorem dX10_restore_39 : decode cX10_restore 39 = .ok (.aload_n 0, 1) := by decide +kernel
theorem dX10_restore_40 : decode cX10_restore 40 = .ok (.getfield 101, 3) := by decide +kernel
theorem dX10_restore_43 : decode cX10_restore 43 = .ok (.sipush 290, 3) := by decide +kernel
theorem dX10_restore_46 : decode cX10_restore 46 = .ok (.iload_n 1, 1) := by decide +kernel
theorem dX10_restore_47 : decode cX10_restore 47 = .ok (.imul, 1) := by decide +kernel
theorem dX10_restore_48 : decode cX10_restore 48 = .ok (.iload_n 2, 1) := by decide +kernel
theorem dX10_restore_49 : decode cX10_restore 49 = .ok (.iadd, 1) := by decide +kernel
theorem dX10_restore_50 : decode cX10_restore 50 = .ok (.iaload, 1) := by decide +kernel
theorem dX10_restore_51 : decode cX10_restore 51 = .ok (.iastore, 1) := by decide +kernel
theorem dX10_restore_52 : decode cX10_restore 52 = .ok (.iinc 2 1, 3) := by decide +kernel
theorem dX10_restore_55 : decode cX10_restore 55 = .ok (.goto (-28), 3) := by decide +kernel
theorem dX10_restore_58 : decode cX10_restore 58 = .ok (.iconst 0, 1) := by decide +kernel
theorem dX10_restore_59 : decode cX10_restore 59 = .ok (.istore_n 2, 1) := by decide +kernel
theorem dX10_restore_60 : decode cX10_restore 60 = .ok (.iload_n 2, 1) := by decide +kernel
theorem dX10_restore_61 : decode cX10_restore 61 = .ok (.bipush 7, 2) := by decide +kernel
theorem dX10_restore_63 : decode cX10_restore 63 = .ok (.if_icmp .ge 26, 3) := by decide +kernel
theorem dX10_restore_66 : decode cX10_restore 66 = .ok (.aload_n 0, 1) := by decide +kernel
theorem dX10_restore_67 : decode cX10_restore 67 = .ok (.getfield 54, 3) := by decide +kernel
theorem dX10_restore_70 : decode cX10_restore 70 = .ok (.iload_n 2, 1) := by decide +kernel
theorem dX10_restore_71 : decode cX10_restore 71 = .ok (.aload_n 0, 1) := by decide +kernel
theorem dX10_restore_72 : decode cX10_restore 72 = .ok (.getfield 104, 3) := by decide +kernel
theorem dX10_restore_75 : decode cX10_restore 75 = .ok (.bipush 7, 2) := by decide +kernel
theorem dX10_restore_77 : decode cX10_restore 77 = .ok (.iload_n 1, 1) := by decide +kernel
theorem dX10_restore_78 : decode cX10_restore 78 = .ok (.imul, 1) := by decide +kernel
theorem dX10_restore_79 : decode cX10_restore 79 = .ok (.iload_n 2, 1) := by decide +kernel
theorem dX10_restore_80 : decode cX10_restore 80 = .ok (.iadd, 1) := by decide +kernel
theorem dX10_restore_81 : decode cX10_restore 81 = .ok (.laload, 1) := by decide +kernel
theorem dX10_restore_82 : decode cX10_restore 82 = .ok (.lastore, 1) := by decide +kernel
theorem dX10_restore_83 : decode cX10_restore 83 = .ok (.iinc 2 1, 3) := by decide +kernel
theorem dX10_restore_86 : decode cX10_restore 86 = .ok (.goto (-26), 3) := by decide +kernel
theorem dX10_restore_89 : decode cX10_restore 89 = .ok (.aload_n 0, 1) := by decide +kernel
theorem dX10_restore_90 : decode cX10_restore 90 = .ok (.invokevirtual 231, 3) := by decide +kernel
theorem dX10_restore_93 : decode cX10_restore 93 = .ok (.iconst 1, 1) := by decide +kernel
theorem dX10_restore_94 : decode cX10_restore 94 = .ok (.ireturn, 1) := by decide +kernel
theorem dX10_count_0 : decode cX10_count 0 = .ok (.aload_n 0, 1) := by decide +kernel
theorem dX10_count_1 : decode cX10_count 1 = .ok (.iconst 0, 1) := by decide +kernel
theorem dX10_count_2 : decode cX10_count 2 = .ok (.putfield 1, 3) := by decide +kernel
theorem dX10_count_5 : decode cX10_count 5 = .ok (.iconst 0, 1) := by decide +kernel
theorem dX10_count_6 : decode cX10_count 6 = .ok (.istore_n 2, 1) := by decide +kernel
theorem dX10_count_7 : decode cX10_count 7 = .ok (.iconst 0, 1) := by decide +kernel
theorem dX10_count_8 : decode cX10_count 8 = .ok (.istore_n 3, 1) := by decide +kernel
theorem dX10_count_9 : decode cX10_count 9 = .ok (.iload_n 3, 1) := by decide +kernel
theorem dX10_count_10 : decode cX10_count 10 = .ok (.bipush 30, 2) := by decide +kernel
theorem dX10_count_12 : decode cX10_count 12 = .ok (.if_icmp .ge 29, 3) := by decide +kernel
theorem dX10_count_15 : decode cX10_count 15 = .ok (.iload_n 2, 1) := by decide +kernel
theorem dX10_count_16 : decode cX10_count 16 = .ok (.aload_n 0, 1) := by decide +kernel
theorem dX10_count_17 : decode cX10_count 17 = .ok (.getfield 41, 3) := by decide +kernel
theorem dX10_count_20 : decode cX10_count 20 = .ok (.bipush 19, 2) := by decide +kernel
theorem dX10_count_22 : decode cX10_count 22 = .ok (.iload_n 3, 1) := by decide +kernel
theorem dX10_count_23 : decode cX10_count 23 = .ok (.iadd, 1) := by decide +kernel
theorem dX10_count_24 : decode cX10_count 24 = .ok (.iaload, 1) := by decide +kernel
theorem dX10_count_25 : decode cX10_count 25 = .ok (.ifCond .le 7, 3) := by decide +kernel
theorem dX10_count_28 : decode cX10_count 28 = .ok (.iconst 1, 1) := by decide +kernel
theorem dX10_count_29 : decode cX10_count 29 = .ok (.goto 4, 3) := by decide +kernel
theorem dX10_count_32 : decode cX10_count 32 = .ok (.iconst 0, 1) := by decide +kernel
theorem dX10_count_33 : decode cX10_count 33 = .ok (.iadd, 1) := by decide +kernel
theorem dX10_count_34 : decode cX10_count 34 = .ok (.istore_n 2, 1) := by decide +kernel
theorem dX10_count_35 : decode cX10_count 35 = .ok (.iinc 3 1, 3) := by decide +kernel
theorem dX10_count_38 : decode cX10_count 38 = .ok (.goto (-29), 3) := by decide +kernel
theorem dX10_count_41 : decode cX10_count 41 = .ok (.iload_n 1, 1) := by decide +kernel
theorem dX10_count_42 : decode cX10_count 42 = .ok (.tableswitch 64 0 4 #[34, 41, 48, 57, 59], 34) := by decide +kernel
theorem dX10_count_76 : decode cX10_count 76 = .ok (.aload_n 0, 1) := by decide +kernel
theorem dX10_count_77 : decode cX10_count 77 = .ok (.getfield 41, 3) := by decide +kernel
theorem dX10_count_80 : decode cX10_count 80 = .ok (.iconst 0, 1) := by decide +kernel
theorem dX10_count_81 : decode cX10_count 81 = .ok (.iaload, 1) := by decide +kernel
theorem dX10_count_82 : decode cX10_count 82 = .ok (.ireturn, 1) := by decide +kernel
theorem dX10_count_83 : decode cX10_count 83 = .ok (.aload_n 0, 1) := by decide +kernel
theorem dX10_count_84 : decode cX10_count 84 = .ok (.getfield 41, 3) := by decide +kernel
theorem dX10_count_87 : decode cX10_count 87 = .ok (.iconst 1, 1) := by decide +kernel
theorem dX10_count_88 : decode cX10_count 88 = .ok (.iaload, 1) := by decide +kernel
theorem dX10_count_89 : decode cX10_count 89 = .ok (.ireturn, 1) := by decide +kernel
theorem dX10_count_90 : decode cX10_count 90 = .ok (.aload_n 0, 1) := by decide +kernel
theorem dX10_count_91 : decode cX10_count 91 = .ok (.getfield 41, 3) := by decide +kernel
theorem dX10_count_94 : decode cX10_count 94 = .ok (.sipush 169, 3) := by decide +kernel
theorem dX10_count_97 : decode cX10_count 97 = .ok (.iaload, 1) := by decide +kernel
theorem dX10_count_98 : decode cX10_count 98 = .ok (.ireturn, 1) := by decide +kernel
theorem dX10_count_99 : decode cX10_count 99 = .ok (.iload_n 2, 1) := by decide +kernel
theorem dX10_count_100 : decode cX10_count 100 = .ok (.ireturn, 1) := by decide +kernel
theorem dX10_count_101 : decode cX10_count 101 = .ok (.aload_n 0, 1) := by decide +kernel
theorem dX10_count_102 : decode cX10_count 102 = .ok (.getfield 7, 3) := by decide +kernel
theorem dX10_count_105 : decode cX10_count 105 = .ok (.ireturn, 1) := by decide +kernel
theorem dX10_count_106 : decode cX10_count 106 = .ok (.iconst (-1), 1) := by decide +kernel
theorem dX10_count_107 : decode cX10_count 107 = .ok (.ireturn, 1) := by decide +kernel
