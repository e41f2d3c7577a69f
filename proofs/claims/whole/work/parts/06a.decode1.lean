theorem dX0_begin_0 : decode cX0_begin 0 = .ok (.aload_n 0, 1) := by decide +kernel
theorem dX0_begin_1 : decode cX0_begin 1 = .ok (.getfield 12, 3) := by decide +kernel
theorem dX0_begin_4 : decode cX0_begin 4 = .ok (.aload_n 1, 1) := by decide +kernel
theorem dX0_begin_5 : decode cX0_begin 5 = .ok (.iload_n 2, 1) := by decide +kernel
theorem dX0_begin_6 : decode cX0_begin 6 = .ok (.iload_n 3, 1) := by decide +kernel
theorem dX0_begin_7 : decode cX0_begin 7 = .ok (.invokevirtual 28, 3) := by decide +kernel
theorem dX0_begin_10 : decode cX0_begin 10 = .ok (.aload_n 0, 1) := by decide +kernel
theorem dX0_begin_11 : decode cX0_begin 11 = .ok (.iconst 0, 1) := by decide +kernel
theorem dX0_begin_12 : decode cX0_begin 12 = .ok (.putfield 18, 3) := by decide +kernel
theorem dX0_begin_15 : decode cX0_begin 15 = .ok (.aload_n 0, 1) := by decide +kernel
theorem dX0_begin_16 : decode cX0_begin 16 = .ok (.iconst 0, 1) := by decide +kernel
theorem dX0_begin_17 : decode cX0_begin 17 = .ok (.putfield 22, 3) := by decide +kernel
theorem dX0_begin_20 : decode cX0_begin 20 = .ok (.aload_n 0, 1) := by decide +kernel
theorem dX0_begin_21 : decode cX0_begin 21 = .ok (.iconst 0, 1) := by decide +kernel
theorem dX0_begin_22 : decode cX0_begin 22 = .ok (.putfield 25, 3) := by decide +kernel
theorem dX0_begin_25 : decode cX0_begin 25 = .ok (.return_, 1) := by decide +kernel
theorem dX0_sort_0 : decode cX0_sort 0 = .ok (.aload_n 0, 1) := by decide +kernel
theorem dX0_sort_1 : decode cX0_sort 1 = .ok (.getfield 12, 3) := by decide +kernel
theorem dX0_sort_4 : decode cX0_sort 4 = .ok (.getfield 32, 3) := by decide +kernel
theorem dX0_sort_7 : decode cX0_sort 7 = .ok (.aload_n 0, 1) := by decide +kernel
theorem dX0_sort_8 : decode cX0_sort 8 = .ok (.getfield 18, 3) := by decide +kernel
theorem dX0_sort_11 : decode cX0_sort 11 = .ok (.invokestatic 36, 3) := by decide +kernel
theorem dX0_sort_14 : decode cX0_sort 14 = .ok (.ireturn, 1) := by decide +kernel
theorem dX0_value_0 : decode cX0_value 0 = .ok (.aload_n 0, 1) := by decide +kernel
theorem dX0_value_1 : decode cX0_value 1 = .ok (.getfield 12, 3) := by decide +kernel
theorem dX0_value_4 : decode cX0_value 4 = .ok (.getfield 40, 3) := by decide +kernel
theorem dX0_value_7 : decode cX0_value 7 = .ok (.aload_n 0, 1) := by decide +kernel
theorem dX0_value_8 : decode cX0_value 8 = .ok (.getfield 18, 3) := by decide +kernel
theorem dX0_value_11 : decode cX0_value 11 = .ok (.invokestatic 44, 3) := by decide +kernel
theorem dX0_value_14 : decode cX0_value 14 = .ok (.lreturn, 1) := by decide +kernel
theorem dX0_refuse_0 : decode cX0_refuse 0 = .ok (.aload_n 0, 1) := by decide +kernel
theorem dX0_refuse_1 : decode cX0_refuse 1 = .ok (.iload_n 1, 1) := by decide +kernel
theorem dX0_refuse_2 : decode cX0_refuse 2 = .ok (.putfield 22, 3) := by decide +kernel
theorem dX0_refuse_5 : decode cX0_refuse 5 = .ok (.aload_n 0, 1) := by decide +kernel
theorem dX0_refuse_6 : decode cX0_refuse 6 = .ok (.aload_n 0, 1) := by decide +kernel
theorem dX0_refuse_7 : decode cX0_refuse 7 = .ok (.getfield 12, 3) := by decide +kernel
theorem dX0_refuse_10 : decode cX0_refuse 10 = .ok (.getfield 48, 3) := by decide +kernel
theorem dX0_refuse_13 : decode cX0_refuse 13 = .ok (.aload_n 0, 1) := by decide +kernel
theorem dX0_refuse_14 : decode cX0_refuse 14 = .ok (.getfield 18, 3) := by decide +kernel
theorem dX0_refuse_17 : decode cX0_refuse 17 = .ok (.invokestatic 36, 3) := by decide +kernel
theorem dX0_refuse_20 : decode cX0_refuse 20 = .ok (.putfield 25, 3) := by decide +kernel
theorem dX0_refuse_23 : decode cX0_refuse 23 = .ok (.iconst (-1), 1) := by decide +kernel
theorem dX0_refuse_24 : decode cX0_refuse 24 = .ok (.ireturn, 1) := by decide +kernel
theorem dX0_readSemicolon_0 : decode cX0_readSemicolon 0 = .ok (.aload_n 0, 1) := by decide +kernel
theorem dX0_readSemicolon_1 : decode cX0_readSemicolon 1 = .ok (.invokevirtual 51, 3) := by decide +kernel
theorem dX0_readSemicolon_4 : decode cX0_readSemicolon 4 = .ok (.iconst 2, 1) := by decide +kernel
theorem dX0_readSemicolon_5 : decode cX0_readSemicolon 5 = .ok (.if_icmp .eq 11, 3) := by decide +kernel
theorem dX0_readSemicolon_8 : decode cX0_readSemicolon 8 = .ok (.aload_n 0, 1) := by decide +kernel
theorem dX0_readSemicolon_9 : decode cX0_readSemicolon 9 = .ok (.iconst 1, 1) := by decide +kernel
theorem dX0_readSemicolon_10 : decode cX0_readSemicolon 10 = .ok (.invokevirtual 55, 3) := by decide +kernel
theorem dX0_readSemicolon_13 : decode cX0_readSemicolon 13 = .ok (.pop, 1) := by decide +kernel
theorem dX0_readSemicolon_14 : decode cX0_readSemicolon 14 = .ok (.iconst 0, 1) := by decide +kernel
theorem dX0_readSemicolon_15 : decode cX0_readSemicolon 15 = .ok (.ireturn, 1) := by decide +kernel
theorem dX0_readSemicolon_16 : decode cX0_readSemicolon 16 = .ok (.aload_n 0, 1) := by decide +kernel
theorem dX0_readSemicolon_17 : decode cX0_readSemicolon 17 = .ok (.dup, 1) := by decide +kernel
theorem dX0_readSemicolon_18 : decode cX0_readSemicolon 18 = .ok (.getfield 18, 3) := by decide +kernel
theorem dX0_readSemicolon_21 : decode cX0_readSemicolon 21 = .ok (.iconst 1, 1) := by decide +kernel
theorem dX0_readSemicolon_22 : decode cX0_readSemicolon 22 = .ok (.iadd, 1) := by decide +kernel
theorem dX0_readSemicolon_23 : decode cX0_readSemicolon 23 = .ok (.putfield 18, 3) := by decide +kernel
theorem dX0_readSemicolon_26 : decode cX0_readSemicolon 26 = .ok (.iconst 1, 1) := by decide +kernel
theorem dX0_readSemicolon_27 : decode cX0_readSemicolon 27 = .ok (.ireturn, 1) := by decide +kernel
theorem dX0_readNumber_0 : decode cX0_readNumber 0 = .ok (.aload_n 0, 1) := by decide +kernel
theorem dX0_readNumber_1 : decode cX0_readNumber 1 = .ok (.invokevirtual 51, 3) := by decide +kernel
theorem dX0_readNumber_4 : decode cX0_readNumber 4 = .ok (.iconst 3, 1) := by decide +kernel
theorem dX0_readNumber_5 : decode cX0_readNumber 5 = .ok (.if_icmp .eq 9, 3) := by decide +kernel
theorem dX0_readNumber_8 : decode cX0_readNumber 8 = .ok (.aload_n 0, 1) := by decide +kernel
theorem dX0_readNumber_9 : decode cX0_readNumber 9 = .ok (.iconst 1, 1) := by decide +kernel
theorem dX0_readNumber_10 : decode cX0_readNumber 10 = .ok (.invokevirtual 55, 3) := by decide +kernel
theorem dX0_readNumber_13 : decode cX0_readNumber 13 = .ok (.ireturn, 1) := by decide +kernel
theorem dX0_readNumber_14 : decode cX0_readNumber 14 = .ok (.aload_n 0, 1) := by decide +kernel
theorem dX0_readNumber_15 : decode cX0_readNumber 15 = .ok (.invokevirtual 59, 3) := by decide +kernel
theorem dX0_readNumber_18 : decode cX0_readNumber 18 = .ok (.l2i, 1) := by decide +kernel
theorem dX0_readNumber_19 : decode cX0_readNumber 19 = .ok (.istore_n 3, 1) := by decide +kernel
theorem dX0_readNumber_20 : decode cX0_readNumber 20 = .ok (.iload_n 3, 1) := by decide +kernel
theorem dX0_readNumber_21 : decode cX0_readNumber 21 = .ok (.iload_n 1, 1) := by decide +kernel
theorem dX0_readNumber_22 : decode cX0_readNumber 22 = .ok (.if_icmp .lt 8, 3) := by decide +kernel
theorem dX0_readNumber_25 : decode cX0_readNumber 25 = .ok (.iload_n 3, 1) := by decide +kernel
theorem dX0_readNumber_26 : decode cX0_readNumber 26 = .ok (.iload_n 2, 1) := by decide +kernel
theorem dX0_readNumber_27 : decode cX0_readNumber 27 = .ok (.if_icmp .le 9, 3) := by decide +kernel
theorem dX0_readNumber_30 : decode cX0_readNumber 30 = .ok (.aload_n 0, 1) := by decide +kernel
theorem dX0_readNumber_31 : decode cX0_readNumber 31 = .ok (.iconst 2, 1) := by decide +kernel
theorem dX0_readNumber_32 : decode cX0_readNumber 32 = .ok (.invokevirtual 55, 3) := by decide +kernel
theorem dX0_readNumber_35 : decode cX0_readNumber 35 = .ok (.ireturn, 1) := by decide +kernel
theorem dX0_readNumber_36 : decode cX0_readNumber 36 = .ok (.aload_n 0, 1) := by decide +kernel
theorem dX0_readNumber_37 : decode cX0_readNumber 37 = .ok (.dup, 1) := by decide +kernel
theorem dX0_readNumber_38 : decode cX0_readNumber 38 = .ok (.getfield 18, 3) := by decide +kernel
theorem dX0_readNumber_41 : decode cX0_readNumber 41 = .ok (.iconst 1, 1) := by decide +kernel
theorem dX0_readNumber_42 : decode cX0_readNumber 42 = .ok (.iadd, 1) := by decide +kernel
theorem dX0_readNumber_43 : decode cX0_readNumber 43 = .ok (.putfield 18, 3) := by decide +kernel
theorem dX0_readNumber_46 : decode cX0_readNumber 46 = .ok (.iload_n 3, 1) := by decide +kernel
theorem dX0_readNumber_47 : decode cX0_readNumber 47 = .ok (.ireturn, 1) := by decide +kernel
theorem dX0_peekPerson_0 : decode cX0_peekPerson 0 = .ok (.aload_n 0, 1) := by decide +kernel
theorem dX0_peekPerson_1 : decode cX0_peekPerson 1 = .ok (.invokevirtual 51, 3) := by decide +kernel
theorem dX0_peekPerson_4 : decode cX0_peekPerson 4 = .ok (.iconst 4, 1) := by decide +kernel
theorem dX0_peekPerson_5 : decode cX0_peekPerson 5 = .ok (.if_icmp .eq 9, 3) := by decide +kernel
theorem dX0_peekPerson_8 : decode cX0_peekPerson 8 = .ok (.aload_n 0, 1) := by decide +kernel
theorem dX0_peekPerson_9 : decode cX0_peekPerson 9 = .ok (.iconst 1, 1) := by decide +kernel
theorem dX0_peekPerson_10 : decode cX0_peekPerson 10 = .ok (.invokevirtual 55, 3) := by decide +kernel
theorem dX0_peekPerson_13 : decode cX0_peekPerson 13 = .ok (.ireturn, 1) := by decide +kernel
theorem dX0_peekPerson_14 : decode cX0_peekPerson 14 = .ok (.aload_n 1, 1) := by decide +kernel
theorem dX0_peekPerson_15 : decode cX0_peekPerson 15 = .ok (.aload_n 0, 1) := by decide +kernel
theorem dX0_peekPerson_16 : decode cX0_peekPerson 16 = .ok (.invokevirtual 59, 3) := by decide +kernel
theorem dX0_peekPerson_19 : decode cX0_peekPerson 19 = .ok (.invokevirtual 63, 3) := by decide +kernel
theorem dX0_peekPerson_22 : decode cX0_peekPerson 22 = .ok (.istore_n 2, 1) := by decide +kernel
theorem dX0_peekPerson_23 : decode cX0_peekPerson 23 = .ok (.iload_n 2, 1) := by decide +kernel
theorem dX0_peekPerson_24 : decode cX0_peekPerson 24 = .ok (.iconst (-1), 1) := by decide +kernel
theorem dX0_peekPerson_25 : decode cX0_peekPerson 25 = .ok (.if_icmp .ne 11, 3) := by decide +kernel
theorem dX0_peekPerson_28 : decode cX0_peekPerson 28 = .ok (.aload_n 0, 1) := by decide +kernel
theorem dX0_peekPerson_29 : decode cX0_peekPerson 29 = .ok (.iconst 3, 1) := by decide +kernel
theorem dX0_peekPerson_30 : decode cX0_peekPerson 30 = .ok (.invokevirtual 55, 3) := by decide +kernel
theorem dX0_peekPerson_33 : decode cX0_peekPerson 33 = .ok (.goto 4, 3) := by decide +kernel
theorem dX0_peekPerson_36 : decode cX0_peekPerson 36 = .ok (.iload_n 2, 1) := by decide +kernel
theorem dX0_peekPerson_37 : decode cX0_peekPerson 37 = .ok (.ireturn, 1) := by decide +kernel
theorem dX0_readPerson_0 : decode cX0_readPerson 0 = .ok (.aload_n 0, 1) := by decide +kernel
theorem dX0_readPerson_1 : decode cX0_readPerson 1 = .ok (.aload_n 1, 1) := by decide +kernel
theorem dX0_readPerson_2 : decode cX0_readPerson 2 = .ok (.invokevirtual 69, 3) := by decide +kernel
theorem dX0_readPerson_5 : decode cX0_readPerson 5 = .ok (.istore_n 2, 1) := by decide +kernel
theorem dX0_readPerson_6 : decode cX0_readPerson 6 = .ok (.iload_n 2, 1) := by decide +kernel
theorem dX0_readPerson_7 : decode cX0_readPerson 7 = .ok (.iconst (-1), 1) := by decide +kernel
theorem dX0_readPerson_8 : decode cX0_readPerson 8 = .ok (.if_icmp .eq 13, 3) := by decide +kernel
theorem dX0_readPerson_11 : decode cX0_readPerson 11 = .ok (.aload_n 0, 1) := by decide +kernel
theorem dX0_readPerson_12 : decode cX0_readPerson 12 = .ok (.dup, 1) := by decide +kernel
theorem dX0_readPerson_13 : decode cX0_readPerson 13 = .ok (.getfield 18, 3) := by decide +kernel
theorem dX0_readPerson_16 : decode cX0_readPerson 16 = .ok (.iconst 1, 1) := by decide +kernel
theorem dX0_readPerson_17 : decode cX0_readPerson 17 = .ok (.iadd, 1) := by decide +kernel
theorem dX0_readPerson_18 : decode cX0_readPerson 18 = .ok (.putfield 18, 3) := by decide +kernel
theorem dX0_readPerson_21 : decode cX0_readPerson 21 = .ok (.iload_n 2, 1) := by decide +kernel
theorem dX0_readPerson_22 : decode cX0_readPerson 22 = .ok (.ireturn, 1) := by decide +kernel
theorem dX0_peekKind_0 : decode cX0_peekKind 0 = .ok (.aload_n 0, 1) := by decide +kernel
theorem dX0_peekKind_1 : decode cX0_peekKind 1 = .ok (.invokevirtual 51, 3) := by decide +kernel
theorem dX0_peekKind_4 : decode cX0_peekKind 4 = .ok (.iconst 4, 1) := by decide +kernel
theorem dX0_peekKind_5 : decode cX0_peekKind 5 = .ok (.if_icmp .eq 9, 3) := by decide +kernel
theorem dX0_peekKind_8 : decode cX0_peekKind 8 = .ok (.aload_n 0, 1) := by decide +kernel
theorem dX0_peekKind_9 : decode cX0_peekKind 9 = .ok (.iconst 1, 1) := by decide +kernel
theorem dX0_peekKind_10 : decode cX0_peekKind 10 = .ok (.invokevirtual 55, 3) := by decide +kernel
theorem dX0_peekKind_13 : decode cX0_peekKind 13 = .ok (.ireturn, 1) := by decide +kernel
theorem dX0_peekKind_14 : decode cX0_peekKind 14 = .ok (.aload_n 1, 1) := by decide +kernel
theorem dX0_peekKind_15 : decode cX0_peekKind 15 = .ok (.aload_n 0, 1) := by decide +kernel
theorem dX0_peekKind_16 : decode cX0_peekKind 16 = .ok (.invokevirtual 59, 3) := by decide +kernel
theorem dX0_peekKind_19 : decode cX0_peekKind 19 = .ok (.invokevirtual 73, 3) := by decide +kernel
theorem dX0_peekKind_22 : decode cX0_peekKind 22 = .ok (.istore_n 2, 1) := by decide +kernel
theorem dX0_peekKind_23 : decode cX0_peekKind 23 = .ok (.iload_n 2, 1) := by decide +kernel
theorem dX0_peekKind_24 : decode cX0_peekKind 24 = .ok (.iconst (-1), 1) := by decide +kernel
theorem dX0_peekKind_25 : decode cX0_peekKind 25 = .ok (.if_icmp .ne 11, 3) := by decide +kernel
theorem dX0_peekKind_28 : decode cX0_peekKind 28 = .ok (.aload_n 0, 1) := by decide +kernel
theorem dX0_peekKind_29 : decode cX0_peekKind 29 = .ok (.iconst 3, 1) := by decide +kernel
theorem dX0_peekKind_30 : decode cX0_peekKind 30 = .ok (.invokevirtual 55, 3) := by decide +kernel
theorem dX0_peekKind_33 : decode cX0_peekKind 33 = .ok (.goto 4, 3) := by decide +kernel
theorem dX0_peekKind_36 : decode cX0_peekKind 36 = .ok (.iload_n 2, 1) := by decide +kernel
theorem dX0_peekKind_37 : decode cX0_peekKind 37 = .ok (.ireturn, 1) := by decide +kernel
theorem dX0_peekNewName_0 : decode cX0_peekNewName 0 = .ok (.aload_n 0, 1) := by decide +kernel
theorem dX0_peekNewName_1 : decode cX0_peekNewName 1 = .ok (.invokevirtual 51, 3) := by decide +kernel
theorem dX0_peekNewName_4 : decode cX0_peekNewName 4 = .ok (.iconst 4, 1) := by decide +kernel
theorem dX0_peekNewName_5 : decode cX0_peekNewName 5 = .ok (.if_icmp .eq 11, 3) := by decide +kernel
theorem dX0_peekNewName_8 : decode cX0_peekNewName 8 = .ok (.aload_n 0, 1) := by decide +kernel
theorem dX0_peekNewName_9 : decode cX0_peekNewName 9 = .ok (.iconst 1, 1) := by decide +kernel
theorem dX0_peekNewName_10 : decode cX0_peekNewName 10 = .ok (.invokevirtual 55, 3) := by decide +kernel
theorem dX0_peekNewName_13 : decode cX0_peekNewName 13 = .ok (.pop, 1) := by decide +kernel
theorem dX0_peekNewName_14 : decode cX0_peekNewName 14 = .ok (.iconst 0, 1) := by decide +kernel
theorem dX0_peekNewName_15 : decode cX0_peekNewName 15 = .ok (.ireturn, 1) := by decide +kernel
theorem dX0_peekNewName_16 : decode cX0_peekNewName 16 = .ok (.aload_n 1, 1) := by decide +kernel
theorem dX0_peekNewName_17 : decode cX0_peekNewName 17 = .ok (.aload_n 0, 1) := by decide +kernel
theorem dX0_peekNewName_18 : decode cX0_peekNewName 18 = .ok (.invokevirtual 59, 3) := by decide +kernel
theorem dX0_peekNewName_21 : decode cX0_peekNewName 21 = .ok (.invokevirtual 73, 3) := by decide +kernel
theorem dX0_peekNewName_24 : decode cX0_peekNewName 24 = .ok (.iconst (-1), 1) := by decide +kernel
theorem dX0_peekNewName_25 : decode cX0_peekNewName 25 = .ok (.if_icmp .ne 15, 3) := by decide +kernel
theorem dX0_peekNewName_28 : decode cX0_peekNewName 28 = .ok (.aload_n 1, 1) := by decide +kernel
theorem dX0_peekNewName_29 : decode cX0_peekNewName 29 = .ok (.aload_n 0, 1) := by decide +kernel
theorem dX0_peekNewName_30 : decode cX0_peekNewName 30 = .ok (.invokevirtual 59, 3) := by decide +kernel
theorem dX0_peekNewName_33 : decode cX0_peekNewName 33 = .ok (.invokevirtual 63, 3) := by decide +kernel
theorem dX0_peekNewName_36 : decode cX0_peekNewName 36 = .ok (.iconst (-1), 1) := by decide +kernel
theorem dX0_peekNewName_37 : decode cX0_peekNewName 37 = .ok (.if_icmp .eq 11, 3) := by decide +kernel
theorem dX0_peekNewName_40 : decode cX0_peekNewName 40 = .ok (.aload_n 0, 1) := by decide +kernel
theorem dX0_peekNewName_41 : decode cX0_peekNewName 41 = .ok (.iconst 3, 1) := by decide +kernel
theorem dX0_peekNewName_42 : decode cX0_peekNewName 42 = .ok (.invokevirtual 55, 3) := by decide +kernel
theorem dX0_peekNewName_45 : decode cX0_peekNewName 45 = .ok (.pop, 1) := by decide +kernel
theorem dX0_peekNewName_46 : decode cX0_peekNewName 46 = .ok (.iconst 0, 1) := by decide +kernel
theorem dX0_peekNewName_47 : decode cX0_peekNewName 47 = .ok (.ireturn, 1) := by decide +kernel
theorem dX0_peekNewName_48 : decode cX0_peekNewName 48 = .ok (.iconst 1, 1) := by decide +kernel
theorem dX0_peekNewName_49 : decode cX0_peekNewName 49 = .ok (.ireturn, 1) := by decide +kernel
theorem dX1_clear_0 : decode cX1_clear 0 = .ok (.aload_n 0, 1) := by decide +kernel
theorem dX1_clear_1 : decode cX1_clear 1 = .ok (.iconst 0, 1) := by decide +kernel
theorem dX1_clear_2 : decode cX1_clear 2 = .ok (.putfield 9, 3) := by decide +kernel
theorem dX1_clear_5 : decode cX1_clear 5 = .ok (.aload_n 0, 1) := by decide +kernel
theorem dX1_clear_6 : decode cX1_clear 6 = .ok (.iconst 0, 1) := by decide +kernel
theorem dX1_clear_7 : decode cX1_clear 7 = .ok (.putfield 15, 3) := by decide +kernel
theorem dX1_clear_10 : decode cX1_clear 10 = .ok (.aload_n 0, 1) := by decide +kernel
theorem dX1_clear_11 : decode cX1_clear 11 = .ok (.getfield 38, 3) := by decide +kernel
theorem dX1_clear_14 : decode cX1_clear 14 = .ok (.iconst 0, 1) := by decide +kernel
theorem dX1_clear_15 : decode cX1_clear 15 = .ok (.invokestatic 54, 3) := by decide +kernel
theorem dX1_clear_18 : decode cX1_clear 18 = .ok (.aload_n 0, 1) := by decide +kernel
theorem dX1_clear_19 : decode cX1_clear 19 = .ok (.getfield 41, 3) := by decide +kernel
theorem dX1_clear_22 : decode cX1_clear 22 = .ok (.iconst 0, 1) := by decide +kernel
theorem dX1_clear_23 : decode cX1_clear 23 = .ok (.invokestatic 54, 3) := by decide +kernel
theorem dX1_clear_26 : decode cX1_clear 26 = .ok (.aload_n 0, 1) := by decide +kernel
theorem dX1_clear_27 : decode cX1_clear 27 = .ok (.getfield 44, 3) := by decide +kernel
theorem dX1_clear_30 : decode cX1_clear 30 = .ok (.iconst (-1), 1) := by decide +kernel
theorem dX1_clear_31 : decode cX1_clear 31 = .ok (.invokestatic 54, 3) := by decide +kernel
theorem dX1_clear_34 : decode cX1_clear 34 = .ok (.aload_n 0, 1) := by decide +kernel
theorem dX1_clear_35 : decode cX1_clear 35 = .ok (.getfield 50, 3) := by decide +kernel
theorem dX1_clear_38 : decode cX1_clear 38 = .ok (.iconst 0, 1) := by decide +kernel
theorem dX1_clear_39 : decode cX1_clear 39 = .ok (.putfield 60, 3) := by decide +kernel
theorem dX1_clear_42 : decode cX1_clear 42 = .ok (.return_, 1) := by decide +kernel
theorem dX1_copyFrom_0 : decode cX1_copyFrom 0 = .ok (.aload_n 0, 1) := by decide +kernel
theorem dX1_copyFrom_1 : decode cX1_copyFrom 1 = .ok (.aload_n 1, 1) := by decide +kernel
theorem dX1_copyFrom_2 : decode cX1_copyFrom 2 = .ok (.getfield 9, 3) := by decide +kernel
theorem dX1_copyFrom_5 : decode cX1_copyFrom 5 = .ok (.putfield 9, 3) := by decide +kernel
theorem dX1_copyFrom_8 : decode cX1_copyFrom 8 = .ok (.aload_n 0, 1) := by decide +kernel
theorem dX1_copyFrom_9 : decode cX1_copyFrom 9 = .ok (.aload_n 1, 1) := by decide +kernel
theorem dX1_copyFrom_10 : decode cX1_copyFrom 10 = .ok (.getfield 15, 3) := by decide +kernel
theorem dX1_copyFrom_13 : decode cX1_copyFrom 13 = .ok (.putfield 15, 3) := by decide +kernel
theorem dX1_copyFrom_16 : decode cX1_copyFrom 16 = .ok (.aload_n 1, 1) := by decide +kernel
theorem dX1_copyFrom_17 : decode cX1_copyFrom 17 = .ok (.getfield 18, 3) := by decide +kernel
theorem dX1_copyFrom_20 : decode cX1_copyFrom 20 = .ok (.aload_n 0, 1) := by decide +kernel
theorem dX1_copyFrom_21 : decode cX1_copyFrom 21 = .ok (.getfield 18, 3) := by decide +kernel
theorem dX1_copyFrom_24 : decode cX1_copyFrom 24 = .ok (.invokestatic 63, 3) := by decide +kernel
theorem dX1_copyFrom_27 : decode cX1_copyFrom 27 = .ok (.aload_n 1, 1) := by decide +kernel
theorem dX1_copyFrom_28 : decode cX1_copyFrom 28 = .ok (.getfield 22, 3) := by decide +kernel
theorem dX1_copyFrom_31 : decode cX1_copyFrom 31 = .ok (.aload_n 0, 1) := by decide +kernel
theorem dX1_copyFrom_32 : decode cX1_copyFrom 32 = .ok (.getfield 22, 3) := by decide +kernel
theorem dX1_copyFrom_35 : decode cX1_copyFrom 35 = .ok (.invokestatic 67, 3) := by decide +kernel
theorem dX1_copyFrom_38 : decode cX1_copyFrom 38 = .ok (.aload_n 1, 1) := by decide +kernel
theorem dX1_copyFrom_39 : decode cX1_copyFrom 39 = .ok (.getfield 26, 3) := by decide +kernel
theorem dX1_copyFrom_42 : decode cX1_copyFrom 42 = .ok (.aload_n 0, 1) := by decide +kernel
theorem dX1_copyFrom_43 : decode cX1_copyFrom 43 = .ok (.getfield 26, 3) := by decide +kernel
theorem dX1_copyFrom_46 : decode cX1_copyFrom 46 = .ok (.invokestatic 67, 3) := by decide +kernel
theorem dX1_copyFrom_49 : decode cX1_copyFrom 49 = .ok (.aload_n 1, 1) := by decide +kernel
theorem dX1_copyFrom_50 : decode cX1_copyFrom 50 = .ok (.getfield 29, 3) := by decide +kernel
theorem dX1_copyFrom_53 : decode cX1_copyFrom 53 = .ok (.aload_n 0, 1) := by decide +kernel
theorem dX1_copyFrom_54 : decode cX1_copyFrom 54 = .ok (.getfield 29, 3) := by decide +kernel
theorem dX1_copyFrom_57 : decode cX1_copyFrom 57 = .ok (.invokestatic 67, 3) := by decide +kernel
theorem dX1_copyFrom_60 : decode cX1_copyFrom 60 = .ok (.aload_n 1, 1) := by decide +kernel
theorem dX1_copyFrom_61 : decode cX1_copyFrom 61 = .ok (.getfield 32, 3) := by decide +kernel
theorem dX1_copyFrom_64 : decode cX1_copyFrom 64 = .ok (.aload_n 0, 1) := by decide +kernel
theorem dX1_copyFrom_65 : decode cX1_copyFrom 65 = .ok (.getfield 32, 3) := by decide +kernel
theorem dX1_copyFrom_68 : decode cX1_copyFrom 68 = .ok (.invokestatic 63, 3) := by decide +kernel
theorem dX1_copyFrom_71 : decode cX1_copyFrom 71 = .ok (.aload_n 1, 1) := by decide +kernel
theorem dX1_copyFrom_72 : decode cX1_copyFrom 72 = .ok (.getfield 35, 3) := by decide +kernel
theorem dX1_copyFrom_75 : decode cX1_copyFrom 75 = .ok (.aload_n 0, 1) := by decide +kernel
theorem dX1_copyFrom_76 : decode cX1_copyFrom 76 = .ok (.getfield 35, 3) := by decide +kernel
theorem dX1_copyFrom_79 : decode cX1_copyFrom 79 = .ok (.invokestatic 67, 3) := by decide +kernel
theorem dX1_copyFrom_82 : decode cX1_copyFrom 82 = .ok (.aload_n 1, 1) := by decide +kernel
theorem dX1_copyFrom_83 : decode cX1_copyFrom 83 = .ok (.getfield 38, 3) := by decide +kernel
theorem dX1_copyFrom_86 : decode cX1_copyFrom 86 = .ok (.aload_n 0, 1) := by decide +kernel
theorem dX1_copyFrom_87 : decode cX1_copyFrom 87 = .ok (.getfield 38, 3) := by decide +kernel
theorem dX1_copyFrom_90 : decode cX1_copyFrom 90 = .ok (.invokestatic 67, 3) := by decide +kernel
theorem dX1_copyFrom_93 : decode cX1_copyFrom 93 = .ok (.aload_n 1, 1) := by decide +kernel
theorem dX1_copyFrom_94 : decode cX1_copyFrom 94 = .ok (.getfield 41, 3) := by decide +kernel
theorem dX1_copyFrom_97 : decode cX1_copyFrom 97 = .ok (.aload_n 0, 1) := by decide +kernel
theorem dX1_copyFrom_98 : decode cX1_copyFrom 98 = .ok (.getfield 41, 3) := by decide +kernel
theorem dX1_copyFrom_101 : decode cX1_copyFrom 101 = .ok (.invokestatic 67, 3) := by decide +kernel
theorem dX1_copyFrom_104 : decode cX1_copyFrom 104 = .ok (.aload_n 1, 1) := by decide +kernel
theorem dX1_copyFrom_105 : decode cX1_copyFrom 105 = .ok (.getfield 44, 3) := by decide +kernel
theorem dX1_copyFrom_108 : decode cX1_copyFrom 108 = .ok (.aload_n 0, 1) := by decide +kernel
theorem dX1_copyFrom_109 : decode cX1_copyFrom 109 = .ok (.getfield 44, 3) := by decide +kernel
theorem dX1_copyFrom_112 : decode cX1_copyFrom 112 = .ok (.invokestatic 67, 3) := by decide +kernel
theorem dX1_copyFrom_115 : decode cX1_copyFrom 115 = .ok (.aload_n 0, 1) := by decide +kernel
theorem dX1_copyFrom_116 : decode cX1_copyFrom 116 = .ok (.getfield 50, 3) := by decide +kernel
theorem dX1_copyFrom_119 : decode cX1_copyFrom 119 = .ok (.aload_n 1, 1) := by decide +kernel
theorem dX1_copyFrom_120 : decode cX1_copyFrom 120 = .ok (.getfield 50, 3) := by decide +kernel
theorem dX1_copyFrom_123 : decode cX1_copyFrom 123 = .ok (.invokevirtual 71, 3) := by decide +kernel
theorem dX1_copyFrom_126 : decode cX1_copyFrom 126 = .ok (.return_, 1) := by decide +kernel
theorem dX1_hasKind_0 : decode cX1_hasKind 0 = .ok (.iload_n 1, 1) := by decide +kernel
theorem dX1_hasKind_1 : decode cX1_hasKind 1 = .ok (.ifCond .lt 15, 3) := by decide +kernel
theorem dX1_hasKind_4 : decode cX1_hasKind 4 = .ok (.iload_n 1, 1) := by decide +kernel
theorem dX1_hasKind_5 : decode cX1_hasKind 5 = .ok (.aload_n 0, 1) := by decide +kernel
theorem dX1_hasKind_6 : decode cX1_hasKind 6 = .ok (.getfield 9, 3) := by decide +kernel
theorem dX1_hasKind_9 : decode cX1_hasKind 9 = .ok (.if_icmp .ge 7, 3) := by decide +kernel
theorem dX1_hasKind_12 : decode cX1_hasKind 12 = .ok (.iconst 1, 1) := by decide +kernel
theorem dX1_hasKind_13 : decode cX1_hasKind 13 = .ok (.goto 4, 3) := by decide +kernel
theorem dX1_hasKind_16 : decode cX1_hasKind 16 = .ok (.iconst 0, 1) := by decide +kernel
theorem dX1_hasKind_17 : decode cX1_hasKind 17 = .ok (.ireturn, 1) := by decide +kernel
theorem dX1_hasPerson_0 : decode cX1_hasPerson 0 = .ok (.iload_n 1, 1) := by decide +kernel
theorem dX1_hasPerson_1 : decode cX1_hasPerson 1 = .ok (.ifCond .lt 15, 3) := by decide +kernel
theorem dX1_hasPerson_4 : decode cX1_hasPerson 4 = .ok (.iload_n 1, 1) := by decide +kernel
theorem dX1_hasPerson_5 : decode cX1_hasPerson 5 = .ok (.aload_n 0, 1) := by decide +kernel
theorem dX1_hasPerson_6 : decode cX1_hasPerson 6 = .ok (.getfield 15, 3) := by decide +kernel
theorem dX1_hasPerson_9 : decode cX1_hasPerson 9 = .ok (.if_icmp .ge 7, 3) := by decide +kernel
theorem dX1_hasPerson_12 : decode cX1_hasPerson 12 = .ok (.iconst 1, 1) := by decide +kernel
theorem dX1_hasPerson_13 : decode cX1_hasPerson 13 = .ok (.goto 4, 3) := by decide +kernel
theorem dX1_hasPerson_16 : decode cX1_hasPerson 16 = .ok (.iconst 0, 1) := by decide +kernel
theorem dX1_hasPerson_17 : decode cX1_hasPerson 17 = .ok (.ireturn, 1) := by decide +kernel
theorem dX1_hasTimetable_0 : decode cX1_hasTimetable 0 = .ok (.iload_n 2, 1) := by decide +kernel
theorem dX1_hasTimetable_1 : decode cX1_hasTimetable 1 = .ok (.ifCond .lt 16, 3) := by decide +kernel
theorem dX1_hasTimetable_4 : decode cX1_hasTimetable 4 = .ok (.iload_n 2, 1) := by decide +kernel
theorem dX1_hasTimetable_5 : decode cX1_hasTimetable 5 = .ok (.aload_n 0, 1) := by decide +kernel
theorem dX1_hasTimetable_6 : decode cX1_hasTimetable 6 = .ok (.iload_n 1, 1) := by decide +kernel
theorem dX1_hasTimetable_7 : decode cX1_hasTimetable 7 = .ok (.invokevirtual 75, 3) := by decide +kernel
theorem dX1_hasTimetable_10 : decode cX1_hasTimetable 10 = .ok (.if_icmp .ge 7, 3) := by decide +kernel
theorem dX1_hasTimetable_13 : decode cX1_hasTimetable 13 = .ok (.iconst 1, 1) := by decide +kernel
theorem dX1_hasTimetable_14 : decode cX1_hasTimetable 14 = .ok (.goto 4, 3) := by decide +kernel
theorem dX1_hasTimetable_17 : decode cX1_hasTimetable 17 = .ok (.iconst 0, 1) := by decide +kernel
theorem dX1_hasTimetable_18 : decode cX1_hasTimetable 18 = .ok (.ireturn, 1) := by decide +kernel
theorem dX1_hasWay_0 : decode cX1_hasWay 0 = .ok (.iload_n 1, 1) := by decide +kernel
theorem dX1_hasWay_1 : decode cX1_hasWay 1 = .ok (.ifCond .lt 19, 3) := by decide +kernel
theorem dX1_hasWay_4 : decode cX1_hasWay 4 = .ok (.iload_n 1, 1) := by decide +kernel
theorem dX1_hasWay_5 : decode cX1_hasWay 5 = .ok (.iconst 2, 1) := by decide +kernel
theorem dX1_hasWay_6 : decode cX1_hasWay 6 = .ok (.iconst 2, 1) := by decide +kernel
theorem dX1_hasWay_7 : decode cX1_hasWay 7 = .ok (.aload_n 0, 1) := by decide +kernel
theorem dX1_hasWay_8 : decode cX1_hasWay 8 = .ok (.getfield 9, 3) := by decide +kernel
theorem dX1_hasWay_11 : decode cX1_hasWay 11 = .ok (.imul, 1) := by decide +kernel
theorem dX1_hasWay_12 : decode cX1_hasWay 12 = .ok (.iadd, 1) := by decide +kernel
theorem dX1_hasWay_13 : decode cX1_hasWay 13 = .ok (.if_icmp .ge 7, 3) := by decide +kernel
theorem dX1_hasWay_16 : decode cX1_hasWay 16 = .ok (.iconst 1, 1) := by decide +kernel
theorem dX1_hasWay_17 : decode cX1_hasWay 17 = .ok (.goto 4, 3) := by decide +kernel
theorem dX1_hasWay_20 : decode cX1_hasWay 20 = .ok (.iconst 0, 1) := by decide +kernel
theorem dX1_hasWay_21 : decode cX1_hasWay 21 = .ok (.ireturn, 1) := by decide +kernel
theorem dX1_hasSet_0 : decode cX1_hasSet 0 = .ok (.iload_n 1, 1) := by decide +kernel
theorem dX1_hasSet_1 : decode cX1_hasSet 1 = .ok (.ifCond .lt 17, 3) := by decide +kernel
theorem dX1_hasSet_4 : decode cX1_hasSet 4 = .ok (.iload_n 1, 1) := by decide +kernel
theorem dX1_hasSet_5 : decode cX1_hasSet 5 = .ok (.iconst 1, 1) := by decide +kernel
theorem dX1_hasSet_6 : decode cX1_hasSet 6 = .ok (.aload_n 0, 1) := by decide +kernel
theorem dX1_hasSet_7 : decode cX1_hasSet 7 = .ok (.getfield 9, 3) := by decide +kernel
theorem dX1_hasSet_10 : decode cX1_hasSet 10 = .ok (.ishl, 1) := by decide +kernel
theorem dX1_hasSet_11 : decode cX1_hasSet 11 = .ok (.if_icmp .ge 7, 3) := by decide +kernel
theorem dX1_hasSet_14 : decode cX1_hasSet 14 = .ok (.iconst 1, 1) := by decide +kernel
theorem dX1_hasSet_15 : decode cX1_hasSet 15 = .ok (.goto 4, 3) := by decide +kernel
theorem dX1_hasSet_18 : decode cX1_hasSet 18 = .ok (.iconst 0, 1) := by decide +kernel
theorem dX1_hasSet_19 : decode cX1_hasSet 19 = .ok (.ireturn, 1) := by decide +kernel
theorem dX1_hasAllTruths_0 : decode cX1_hasAllTruths 0 = .ok (.iconst 0, 1) := by decide +kernel
theorem dX1_hasAllTruths_1 : decode cX1_hasAllTruths 1 = .ok (.istore_n 1, 1) := by decide +kernel
theorem dX1_hasAllTruths_2 : decode cX1_hasAllTruths 2 = .ok (.iload_n 1, 1) := by decide +kernel
theorem dX1_hasAllTruths_3 : decode cX1_hasAllTruths 3 = .ok (.aload_n 0, 1) := by decide +kernel
theorem dX1_hasAllTruths_4 : decode cX1_hasAllTruths 4 = .ok (.getfield 9, 3) := by decide +kernel
theorem dX1_hasAllTruths_7 : decode cX1_hasAllTruths 7 = .ok (.if_icmp .ge 23, 3) := by decide +kernel
theorem dX1_hasAllTruths_10 : decode cX1_hasAllTruths 10 = .ok (.aload_n 0, 1) := by decide +kernel
theorem dX1_hasAllTruths_11 : decode cX1_hasAllTruths 11 = .ok (.getfield 29, 3) := by decide +kernel
theorem dX1_hasAllTruths_14 : decode cX1_hasAllTruths 14 = .ok (.iload_n 1, 1) := by decide +kernel
theorem dX1_hasAllTruths_15 : decode cX1_hasAllTruths 15 = .ok (.invokestatic 79, 3) := by decide +kernel
theorem dX1_hasAllTruths_18 : decode cX1_hasAllTruths 18 = .ok (.iconst (-1), 1) := by decide +kernel
theorem dX1_hasAllTruths_19 : decode cX1_hasAllTruths 19 = .ok (.if_icmp .ne 5, 3) := by decide +kernel
theorem dX1_hasAllTruths_22 : decode cX1_hasAllTruths 22 = .ok (.iconst 0, 1) := by decide +kernel
theorem dX1_hasAllTruths_23 : decode cX1_hasAllTruths 23 = .ok (.ireturn, 1) := by decide +kernel
theorem dX1_hasAllTruths_24 : decode cX1_hasAllTruths 24 = .ok (.iinc 1 1, 3) := by decide +kernel
theorem dX1_hasAllTruths_27 : decode cX1_hasAllTruths 27 = .ok (.goto (-25), 3) := by decide +kernel
theorem dX1_hasAllTruths_30 : decode cX1_hasAllTruths 30 = .ok (.iconst 1, 1) := by decide +kernel
theorem dX1_hasAllTruths_31 : decode cX1_hasAllTruths 31 = .ok (.ireturn, 1) := by decide +kernel
theorem dX1_kindOf_0 : decode cX1_kindOf 0 = .ok (.iconst 0, 1) := by decide +kernel
theorem dX1_kindOf_1 : decode cX1_kindOf 1 = .ok (.istore_n 3, 1) := by decide +kernel
theorem dX1_kindOf_2 : decode cX1_kindOf 2 = .ok (.iload_n 3, 1) := by decide +kernel
theorem dX1_kindOf_3 : decode cX1_kindOf 3 = .ok (.aload_n 0, 1) := by decide +kernel
theorem dX1_kindOf_4 : decode cX1_kindOf 4 = .ok (.getfield 9, 3) := by decide +kernel
theorem dX1_kindOf_7 : decode cX1_kindOf 7 = .ok (.if_icmp .ge 24, 3) := by decide +kernel
theorem dX1_kindOf_10 : decode cX1_kindOf 10 = .ok (.aload_n 0, 1) := by decide +kernel
theorem dX1_kindOf_11 : decode cX1_kindOf 11 = .ok (.getfield 18, 3) := by decide +kernel
theorem dX1_kindOf_14 : decode cX1_kindOf 14 = .ok (.iload_n 3, 1) := by decide +kernel
theorem dX1_kindOf_15 : decode cX1_kindOf 15 = .ok (.invokestatic 83, 3) := by decide +kernel
theorem dX1_kindOf_18 : decode cX1_kindOf 18 = .ok (.lload_n 1, 1) := by decide +kernel
theorem dX1_kindOf_19 : decode cX1_kindOf 19 = .ok (.lcmp, 1) := by decide +kernel
theorem dX1_kindOf_20 : decode cX1_kindOf 20 = .ok (.ifCond .ne 5, 3) := by decide +kernel
theorem dX1_kindOf_23 : decode cX1_kindOf 23 = .ok (.iload_n 3, 1) := by decide +kernel
theorem dX1_kindOf_24 : decode cX1_kindOf 24 = .ok (.ireturn, 1) := by decide +kernel
theorem dX1_kindOf_25 : decode cX1_kindOf 25 = .ok (.iinc 3 1, 3) := by decide +kernel
theorem dX1_kindOf_28 : decode cX1_kindOf 28 = .ok (.goto (-26), 3) := by decide +kernel
theorem dX1_kindOf_31 : decode cX1_kindOf 31 = .ok (.iconst (-1), 1) := by decide +kernel
theorem dX1_kindOf_32 : decode cX1_kindOf 32 = .ok (.ireturn, 1) := by decide +kernel
theorem dX1_personOf_0 : decode cX1_personOf 0 = .ok (.iconst 0, 1) := by decide +kernel
theorem dX1_personOf_1 : decode cX1_personOf 1 = .ok (.istore_n 3, 1) := by decide +kernel
theorem dX1_personOf_2 : decode cX1_personOf 2 = .ok (.iload_n 3, 1) := by decide +kernel
theorem dX1_personOf_3 : decode cX1_personOf 3 = .ok (.aload_n 0, 1) := by decide +kernel
theorem dX1_personOf_4 : decode cX1_personOf 4 = .ok (.getfield 15, 3) := by decide +kernel
theorem dX1_personOf_7 : decode cX1_personOf 7 = .ok (.if_icmp .ge 24, 3) := by decide +kernel
theorem dX1_personOf_10 : decode cX1_personOf 10 = .ok (.aload_n 0, 1) := by decide +kernel
theorem dX1_personOf_11 : decode cX1_personOf 11 = .ok (.getfield 32, 3) := by decide +kernel
theorem dX1_personOf_14 : decode cX1_personOf 14 = .ok (.iload_n 3, 1) := by decide +kernel
theorem dX1_personOf_15 : decode cX1_personOf 15 = .ok (.invokestatic 83, 3) := by decide +kernel
theorem dX1_personOf_18 : decode cX1_personOf 18 = .ok (.lload_n 1, 1) := by decide +kernel
theorem dX1_personOf_19 : decode cX1_personOf 19 = .ok (.lcmp, 1) := by decide +kernel
theorem dX1_personOf_20 : decode cX1_personOf 20 = .ok (.ifCond .ne 5, 3) := by decide +kernel
theorem dX1_personOf_23 : decode cX1_personOf 23 = .ok (.iload_n 3, 1) := by decide +kernel
theorem dX1_personOf_24 : decode cX1_personOf 24 = .ok (.ireturn, 1) := by decide +kernel
theorem dX1_personOf_25 : decode cX1_personOf 25 = .ok (.iinc 3 1, 3) := by decide +kernel
theorem dX1_personOf_28 : decode cX1_personOf 28 = .ok (.goto (-26), 3) := by decide +kernel
theorem dX1_personOf_31 : decode cX1_personOf 31 = .ok (.iconst (-1), 1) := by decide +kernel
theorem dX1_personOf_32 : decode cX1_personOf 32 = .ok (.ireturn, 1) := by decide +kernel
theorem dX1_timetablesOf_0 : decode cX1_timetablesOf 0 = .ok (.aload_n 0, 1) := by decide +kernel
theorem dX1_timetablesOf_1 : decode cX1_timetablesOf 1 = .ok (.getfield 22, 3) := by decide +kernel
theorem dX1_timetablesOf_4 : decode cX1_timetablesOf 4 = .ok (.iload_n 1, 1) := by decide +kernel
theorem dX1_timetablesOf_5 : decode cX1_timetablesOf 5 = .ok (.invokestatic 79, 3) := by decide +kernel
theorem dX1_timetablesOf_8 : decode cX1_timetablesOf 8 = .ok (.aload_n 0, 1) := by decide +kernel
theorem dX1_timetablesOf_9 : decode cX1_timetablesOf 9 = .ok (.getfield 26, 3) := by decide +kernel
theorem dX1_timetablesOf_12 : decode cX1_timetablesOf 12 = .ok (.iload_n 1, 1) := by decide +kernel
theorem dX1_timetablesOf_13 : decode cX1_timetablesOf 13 = .ok (.invokestatic 79, 3) := by decide +kernel
theorem dX1_timetablesOf_16 : decode cX1_timetablesOf 16 = .ok (.iconst 1, 1) := by decide +kernel
theorem dX1_timetablesOf_17 : decode cX1_timetablesOf 17 = .ok (.iadd, 1) := by decide +kernel
theorem dX1_timetablesOf_18 : decode cX1_timetablesOf 18 = .ok (.invokestatic 87, 3) := by decide +kernel
theorem dX1_timetablesOf_21 : decode cX1_timetablesOf 21 = .ok (.ireturn, 1) := by decide +kernel
theorem dX1_firstOf_0 : decode cX1_firstOf 0 = .ok (.iconst 0, 1) := by decide +kernel
theorem dX1_firstOf_1 : decode cX1_firstOf 1 = .ok (.istore_n 2, 1) := by decide +kernel
theorem dX1_firstOf_2 : decode cX1_firstOf 2 = .ok (.iconst 1, 1) := by decide +kernel
theorem dX1_firstOf_3 : decode cX1_firstOf 3 = .ok (.istore_n 3, 1) := by decide +kernel
theorem dX1_firstOf_4 : decode cX1_firstOf 4 = .ok (.iload_n 3, 1) := by decide +kernel
theorem dX1_firstOf_5 : decode cX1_firstOf 5 = .ok (.bipush 8, 2) := by decide +kernel
theorem dX1_firstOf_7 : decode cX1_firstOf 7 = .ok (.if_icmp .gt 23, 3) := by decide +kernel
theorem dX1_firstOf_10 : decode cX1_firstOf 10 = .ok (.iload_n 3, 1) := by decide +kernel
theorem dX1_firstOf_11 : decode cX1_firstOf 11 = .ok (.iload_n 0, 1) := by decide +kernel
theorem dX1_firstOf_12 : decode cX1_firstOf 12 = .ok (.if_icmp .lt 12, 3) := by decide +kernel
theorem dX1_firstOf_15 : decode cX1_firstOf 15 = .ok (.iload_n 3, 1) := by decide +kernel
theorem dX1_firstOf_16 : decode cX1_firstOf 16 = .ok (.iload_n 1, 1) := by decide +kernel
theorem dX1_firstOf_17 : decode cX1_firstOf 17 = .ok (.if_icmp .ge 7, 3) := by decide +kernel
theorem dX1_firstOf_20 : decode cX1_firstOf 20 = .ok (.iload_n 2, 1) := by decide +kernel
theorem dX1_firstOf_21 : decode cX1_firstOf 21 = .ok (.iload_n 3, 1) := by decide +kernel
theorem dX1_firstOf_22 : decode cX1_firstOf 22 = .ok (.iadd, 1) := by decide +kernel
theorem dX1_firstOf_23 : decode cX1_firstOf 23 = .ok (.istore_n 2, 1) := by decide +kernel
theorem dX1_firstOf_24 : decode cX1_firstOf 24 = .ok (.iinc 3 1, 3) := by decide +kernel
theorem dX1_firstOf_27 : decode cX1_firstOf 27 = .ok (.goto (-23), 3) := by decide +kernel
theorem dX1_firstOf_30 : decode cX1_firstOf 30 = .ok (.iload_n 2, 1) := by decide +kernel
theorem dX1_firstOf_31 : decode cX1_firstOf 31 = .ok (.ireturn, 1) := by decide +kernel
theorem dX1_passing_0 : decode cX1_passing 0 = .ok (.lconst 0, 1) := by decide +kernel
theorem dX1_passing_1 : decode cX1_passing 1 = .ok (.lstore_n 3, 1) := by decide +kernel
theorem dX1_passing_2 : decode cX1_passing 2 = .ok (.iload_n 2, 1) := by decide +kernel
theorem dX1_passing_3 : decode cX1_passing 3 = .ok (.ifCond .ge 5, 3) := by decide +kernel
theorem dX1_passing_6 : decode cX1_passing 6 = .ok (.lload_n 3, 1) := by decide +kernel
theorem dX1_passing_7 : decode cX1_passing 7 = .ok (.lreturn, 1) := by decide +kernel
theorem dX1_passing_8 : decode cX1_passing 8 = .ok (.aload_n 0, 1) := by decide +kernel
theorem dX1_passing_9 : decode cX1_passing 9 = .ok (.getfield 22, 3) := by decide +kernel
theorem dX1_passing_12 : decode cX1_passing 12 = .ok (.iload_n 1, 1) := by decide +kernel
theorem dX1_passing_13 : decode cX1_passing 13 = .ok (.invokestatic 79, 3) := by decide +kernel
theorem dX1_passing_16 : decode cX1_passing 16 = .ok (.istore 5, 2) := by decide +kernel
theorem dX1_passing_18 : decode cX1_passing 18 = .ok (.aload_n 0, 1) := by decide +kernel
theorem dX1_passing_19 : decode cX1_passing 19 = .ok (.getfield 26, 3) := by decide +kernel
theorem dX1_passing_22 : decode cX1_passing 22 = .ok (.iload_n 1, 1) := by decide +kernel
theorem dX1_passing_23 : decode cX1_passing 23 = .ok (.invokestatic 79, 3) := by decide +kernel
theorem dX1_passing_26 : decode cX1_passing 26 = .ok (.istore 6, 2) := by decide +kernel
theorem dX1_passing_28 : decode cX1_passing 28 = .ok (.iconst 0, 1) := by decide +kernel
theorem dX1_passing_29 : decode cX1_passing 29 = .ok (.istore 7, 2) := by decide +kernel
theorem dX1_passing_31 : decode cX1_passing 31 = .ok (.iconst 1, 1) := by decide +kernel
theorem dX1_passing_32 : decode cX1_passing 32 = .ok (.istore 8, 2) := by decide +kernel
theorem dX1_passing_34 : decode cX1_passing 34 = .ok (.iload 8, 2) := by decide +kernel
theorem dX1_passing_36 : decode cX1_passing 36 = .ok (.bipush 8, 2) := by decide +kernel
theorem dX1_passing_38 : decode cX1_passing 38 = .ok (.if_icmp .gt 42, 3) := by decide +kernel
theorem dX1_passing_41 : decode cX1_passing 41 = .ok (.iload 8, 2) := by decide +kernel
theorem dX1_passing_43 : decode cX1_passing 43 = .ok (.iload 5, 2) := by decide +kernel
theorem dX1_passing_45 : decode cX1_passing 45 = .ok (.if_icmp .lt 29, 3) := by decide +kernel
theorem dX1_passing_48 : decode cX1_passing 48 = .ok (.iload 8, 2) := by decide +kernel
theorem dX1_passing_50 : decode cX1_passing 50 = .ok (.iload 6, 2) := by decide +kernel
theorem dX1_passing_52 : decode cX1_passing 52 = .ok (.if_icmp .gt 22, 3) := by decide +kernel
theorem dX1_passing_55 : decode cX1_passing 55 = .ok (.lload_n 3, 1) := by decide +kernel
theorem dX1_passing_56 : decode cX1_passing 56 = .ok (.lconst 1, 1) := by decide +kernel
theorem dX1_passing_57 : decode cX1_passing 57 = .ok (.iload 7, 2) := by decide +kernel
theorem dX1_passing_59 : decode cX1_passing 59 = .ok (.iload_n 2, 1) := by decide +kernel
theorem dX1_passing_60 : decode cX1_passing 60 = .ok (.iload 8, 2) := by decide +kernel
theorem dX1_passing_62 : decode cX1_passing 62 = .ok (.irem, 1) := by decide +kernel
theorem dX1_passing_63 : decode cX1_passing 63 = .ok (.iadd, 1) := by decide +kernel
theorem dX1_passing_64 : decode cX1_passing 64 = .ok (.lshl, 1) := by decide +kernel
theorem dX1_passing_65 : decode cX1_passing 65 = .ok (.lor, 1) := by decide +kernel
theorem dX1_passing_66 : decode cX1_passing 66 = .ok (.lstore_n 3, 1) := by decide +kernel
theorem dX1_passing_67 : decode cX1_passing 67 = .ok (.iload 7, 2) := by decide +kernel
theorem dX1_passing_69 : decode cX1_passing 69 = .ok (.iload 8, 2) := by decide +kernel
theorem dX1_passing_71 : decode cX1_passing 71 = .ok (.iadd, 1) := by decide +kernel
theorem dX1_passing_72 : decode cX1_passing 72 = .ok (.istore 7, 2) := by decide +kernel
theorem dX1_passing_74 : decode cX1_passing 74 = .ok (.iinc 8 1, 3) := by decide +kernel
theorem dX1_passing_77 : decode cX1_passing 77 = .ok (.goto (-43), 3) := by decide +kernel
theorem dX1_passing_80 : decode cX1_passing 80 = .ok (.lload_n 3, 1) := by decide +kernel
theorem dX1_passing_81 : decode cX1_passing 81 = .ok (.lreturn, 1) := by decide +kernel
theorem dX1_trulyTold_0 : decode cX1_trulyTold 0 = .ok (.iconst 0, 1) := by decide +kernel
theorem dX1_trulyTold_1 : decode cX1_trulyTold 1 = .ok (.istore_n 3, 1) := by decide +kernel
theorem dX1_trulyTold_2 : decode cX1_trulyTold 2 = .ok (.iconst 0, 1) := by decide +kernel
theorem dX1_trulyTold_3 : decode cX1_trulyTold 3 = .ok (.istore 4, 2) := by decide +kernel
theorem dX1_trulyTold_5 : decode cX1_trulyTold 5 = .ok (.iload 4, 2) := by decide +kernel
theorem dX1_trulyTold_7 : decode cX1_trulyTold 7 = .ok (.aload_n 0, 1) := by decide +kernel
theorem dX1_trulyTold_8 : decode cX1_trulyTold 8 = .ok (.getfield 9, 3) := by decide +kernel
theorem dX1_trulyTold_11 : decode cX1_trulyTold 11 = .ok (.if_icmp .ge 55, 3) := by decide +kernel
theorem dX1_trulyTold_14 : decode cX1_trulyTold 14 = .ok (.aload_n 0, 1) := by decide +kernel
theorem dX1_trulyTold_15 : decode cX1_trulyTold 15 = .ok (.iload 4, 2) := by decide +kernel
theorem dX1_trulyTold_17 : decode cX1_trulyTold 17 = .ok (.iload_n 1, 1) := by decide +kernel
theorem dX1_trulyTold_18 : decode cX1_trulyTold 18 = .ok (.iconst 1, 1) := by decide +kernel
theorem dX1_trulyTold_19 : decode cX1_trulyTold 19 = .ok (.if_icmp .ne 9, 3) := by decide +kernel
theorem dX1_trulyTold_22 : decode cX1_trulyTold 22 = .ok (.iload_n 2, 1) := by decide +kernel
theorem dX1_trulyTold_23 : decode cX1_trulyTold 23 = .ok (.iconst 1, 1) := by decide +kernel
theorem dX1_trulyTold_24 : decode cX1_trulyTold 24 = .ok (.isub, 1) := by decide +kernel
theorem dX1_trulyTold_25 : decode cX1_trulyTold 25 = .ok (.goto 4, 3) := by decide +kernel
theorem dX1_trulyTold_28 : decode cX1_trulyTold 28 = .ok (.iload_n 2, 1) := by decide +kernel
theorem dX1_trulyTold_29 : decode cX1_trulyTold 29 = .ok (.invokevirtual 91, 3) := by decide +kernel
theorem dX1_trulyTold_32 : decode cX1_trulyTold 32 = .ok (.lstore 5, 2) := by decide +kernel
theorem dX1_trulyTold_34 : decode cX1_trulyTold 34 = .ok (.lload 5, 2) := by decide +kernel
theorem dX1_trulyTold_36 : decode cX1_trulyTold 36 = .ok (.aload_n 0, 1) := by decide +kernel
theorem dX1_trulyTold_37 : decode cX1_trulyTold 37 = .ok (.getfield 29, 3) := by decide +kernel
theorem dX1_trulyTold_40 : decode cX1_trulyTold 40 = .ok (.iload 4, 2) := by decide +kernel
theorem dX1_trulyTold_42 : decode cX1_trulyTold 42 = .ok (.invokestatic 79, 3) := by decide +kernel
theorem dX1_trulyTold_45 : decode cX1_trulyTold 45 = .ok (.lushr, 1) := by decide +kernel
theorem dX1_trulyTold_46 : decode cX1_trulyTold 46 = .ok (.lconst 1, 1) := by decide +kernel
theorem dX1_trulyTold_47 : decode cX1_trulyTold 47 = .ok (.land, 1) := by decide +kernel
theorem dX1_trulyTold_48 : decode cX1_trulyTold 48 = .ok (.lconst 1, 1) := by decide +kernel
theorem dX1_trulyTold_49 : decode cX1_trulyTold 49 = .ok (.lcmp, 1) := by decide +kernel
theorem dX1_trulyTold_50 : decode cX1_trulyTold 50 = .ok (.ifCond .ne 10, 3) := by decide +kernel
theorem dX1_trulyTold_53 : decode cX1_trulyTold 53 = .ok (.iload_n 3, 1) := by decide +kernel
theorem dX1_trulyTold_54 : decode cX1_trulyTold 54 = .ok (.iconst 1, 1) := by decide +kernel
theorem dX1_trulyTold_55 : decode cX1_trulyTold 55 = .ok (.iload 4, 2) := by decide +kernel
theorem dX1_trulyTold_57 : decode cX1_trulyTold 57 = .ok (.ishl, 1) := by decide +kernel
theorem dX1_trulyTold_58 : decode cX1_trulyTold 58 = .ok (.ior, 1) := by decide +kernel
theorem dX1_trulyTold_59 : decode cX1_trulyTold 59 = .ok (.istore_n 3, 1) := by decide +kernel
theorem dX1_trulyTold_60 : decode cX1_trulyTold 60 = .ok (.iinc 4 1, 3) := by decide +kernel
theorem dX1_trulyTold_63 : decode cX1_trulyTold 63 = .ok (.goto (-58), 3) := by decide +kernel
theorem dX1_trulyTold_66 : decode cX1_trulyTold 66 = .ok (.iload_n 1, 1) := by decide +kernel
theorem dX1_trulyTold_67 : decode cX1_trulyTold 67 = .ok (.iload_n 3, 1) := by decide +kernel
theorem dX1_trulyTold_68 : decode cX1_trulyTold 68 = .ok (.invokestatic 95, 3) := by decide +kernel
theorem dX1_trulyTold_71 : decode cX1_trulyTold 71 = .ok (.ireturn, 1) := by decide +kernel
theorem dX1_hoursWithTurns_0 : decode cX1_hoursWithTurns 0 = .ok (.iconst 0, 1) := by decide +kernel
theorem dX1_hoursWithTurns_1 : decode cX1_hoursWithTurns 1 = .ok (.istore_n 1, 1) := by decide +kernel
theorem dX1_hoursWithTurns_2 : decode cX1_hoursWithTurns 2 = .ok (.iconst 0, 1) := by decide +kernel
theorem dX1_hoursWithTurns_3 : decode cX1_hoursWithTurns 3 = .ok (.istore_n 2, 1) := by decide +kernel
theorem dX1_hoursWithTurns_4 : decode cX1_hoursWithTurns 4 = .ok (.iload_n 2, 1) := by decide +kernel
theorem dX1_hoursWithTurns_5 : decode cX1_hoursWithTurns 5 = .ok (.bipush 30, 2) := by decide +kernel
theorem dX1_hoursWithTurns_7 : decode cX1_hoursWithTurns 7 = .ok (.if_icmp .ge 24, 3) := by decide +kernel
theorem dX1_hoursWithTurns_10 : decode cX1_hoursWithTurns 10 = .ok (.aload_n 0, 1) := by decide +kernel
theorem dX1_hoursWithTurns_11 : decode cX1_hoursWithTurns 11 = .ok (.getfield 44, 3) := by decide +kernel
theorem dX1_hoursWithTurns_14 : decode cX1_hoursWithTurns 14 = .ok (.iload_n 2, 1) := by decide +kernel
theorem dX1_hoursWithTurns_15 : decode cX1_hoursWithTurns 15 = .ok (.invokestatic 79, 3) := by decide +kernel
theorem dX1_hoursWithTurns_18 : decode cX1_hoursWithTurns 18 = .ok (.iconst (-1), 1) := by decide +kernel
theorem dX1_hoursWithTurns_19 : decode cX1_hoursWithTurns 19 = .ok (.if_icmp .eq 6, 3) := by decide +kernel
theorem dX1_hoursWithTurns_22 : decode cX1_hoursWithTurns 22 = .ok (.iinc 1 1, 3) := by decide +kernel
theorem dX1_hoursWithTurns_25 : decode cX1_hoursWithTurns 25 = .ok (.iinc 2 1, 3) := by decide +kernel
theorem dX1_hoursWithTurns_28 : decode cX1_hoursWithTurns 28 = .ok (.goto (-24), 3) := by decide +kernel
theorem dX1_hoursWithTurns_31 : decode cX1_hoursWithTurns 31 = .ok (.iload_n 1, 1) := by decide +kernel
theorem dX1_hoursWithTurns_32 : decode cX1_hoursWithTurns 32 = .ok (.ireturn, 1) := by decide +kernel
theorem dX1_wantOf_0 : decode cX1_wantOf 0 = .ok (.aload_n 0, 1) := by decide +kernel
theorem dX1_wantOf_1 : decode cX1_wantOf 1 = .ok (.getfield 41, 3) := by decide +kernel
theorem dX1_wantOf_4 : decode cX1_wantOf 4 = .ok (.iload_n 1, 1) := by decide +kernel
theorem dX1_wantOf_5 : decode cX1_wantOf 5 = .ok (.bipush 30, 2) := by decide +kernel
theorem dX1_wantOf_7 : decode cX1_wantOf 7 = .ok (.imul, 1) := by decide +kernel
theorem dX1_wantOf_8 : decode cX1_wantOf 8 = .ok (.iload_n 2, 1) := by decide +kernel
theorem dX1_wantOf_9 : decode cX1_wantOf 9 = .ok (.iadd, 1) := by decide +kernel
theorem dX1_wantOf_10 : decode cX1_wantOf 10 = .ok (.invokestatic 79, 3) := by decide +kernel
theorem dX1_wantOf_13 : decode cX1_wantOf 13 = .ok (.ireturn, 1) := by decide +kernel
theorem dX1_contentOf_0 : decode cX1_contentOf 0 = .ok (.iconst 0, 1) := by decide +kernel
theorem dX1_contentOf_1 : decode cX1_contentOf 1 = .ok (.istore_n 2, 1) := by decide +kernel
theorem dX1_contentOf_2 : decode cX1_contentOf 2 = .ok (.iconst 0, 1) := by decide +kernel
theorem dX1_contentOf_3 : decode cX1_contentOf 3 = .ok (.istore_n 3, 1) := by decide +kernel
theorem dX1_contentOf_4 : decode cX1_contentOf 4 = .ok (.iload_n 3, 1) := by decide +kernel
theorem dX1_contentOf_5 : decode cX1_contentOf 5 = .ok (.bipush 30, 2) := by decide +kernel
theorem dX1_contentOf_7 : decode cX1_contentOf 7 = .ok (.if_icmp .ge 30, 3) := by decide +kernel
theorem dX1_contentOf_10 : decode cX1_contentOf 10 = .ok (.aload_n 0, 1) := by decide +kernel
theorem dX1_contentOf_11 : decode cX1_contentOf 11 = .ok (.getfield 44, 3) := by decide +kernel
theorem dX1_contentOf_14 : decode cX1_contentOf 14 = .ok (.iload_n 3, 1) := by decide +kernel
theorem dX1_contentOf_15 : decode cX1_contentOf 15 = .ok (.invokestatic 79, 3) := by decide +kernel
theorem dX1_contentOf_18 : decode cX1_contentOf 18 = .ok (.iload_n 1, 1) := by decide +kernel
theorem dX1_contentOf_19 : decode cX1_contentOf 19 = .ok (.if_icmp .ne 12, 3) := by decide +kernel
theorem dX1_contentOf_22 : decode cX1_contentOf 22 = .ok (.iload_n 2, 1) := by decide +kernel
theorem dX1_contentOf_23 : decode cX1_contentOf 23 = .ok (.aload_n 0, 1) := by decide +kernel
theorem dX1_contentOf_24 : decode cX1_contentOf 24 = .ok (.iload_n 1, 1) := by decide +kernel
theorem dX1_contentOf_25 : decode cX1_contentOf 25 = .ok (.iload_n 3, 1) := by decide +kernel
theorem dX1_contentOf_26 : decode cX1_contentOf 26 = .ok (.invokevirtual 98, 3) := by decide +kernel
theorem dX1_contentOf_29 : decode cX1_contentOf 29 = .ok (.iadd, 1) := by decide +kernel
theorem dX1_contentOf_30 : decode cX1_contentOf 30 = .ok (.istore_n 2, 1) := by decide +kernel
theorem dX1_contentOf_31 : decode cX1_contentOf 31 = .ok (.iinc 3 1, 3) := by decide +kernel
theorem dX1_contentOf_34 : decode cX1_contentOf 34 = .ok (.goto (-30), 3) := by decide +kernel
theorem dX1_contentOf_37 : decode cX1_contentOf 37 = .ok (.iload_n 2, 1) := by decide +kernel
theorem dX1_contentOf_38 : decode cX1_contentOf 38 = .ok (.ireturn, 1) := by decide +kernel
theorem dX1_tradeOnce_0 : decode cX1_tradeOnce 0 = .ok (.iconst 0, 1) := by decide +kernel
theorem dX1_tradeOnce_1 : decode cX1_tradeOnce 1 = .ok (.istore_n 1, 1) := by decide +kernel
theorem dX1_tradeOnce_2 : decode cX1_tradeOnce 2 = .ok (.iload_n 1, 1) := by decide +kernel
theorem dX1_tradeOnce_3 : decode cX1_tradeOnce 3 = .ok (.bipush 30, 2) := by decide +kernel
theorem dX1_tradeOnce_5 : decode cX1_tradeOnce 5 = .ok (.if_icmp .ge 94, 3) := by decide +kernel
theorem dX1_tradeOnce_8 : decode cX1_tradeOnce 8 = .ok (.iload_n 1, 1) := by decide +kernel
theorem dX1_tradeOnce_9 : decode cX1_tradeOnce 9 = .ok (.iconst 1, 1) := by decide +kernel
theorem dX1_tradeOnce_10 : decode cX1_tradeOnce 10 = .ok (.iadd, 1) := by decide +kernel
theorem dX1_tradeOnce_11 : decode cX1_tradeOnce 11 = .ok (.istore_n 2, 1) := by decide +kernel
theorem dX1_tradeOnce_12 : decode cX1_tradeOnce 12 = .ok (.iload_n 2, 1) := by decide +kernel
theorem dX1_tradeOnce_13 : decode cX1_tradeOnce 13 = .ok (.bipush 30, 2) := by decide +kernel
theorem dX1_tradeOnce_15 : decode cX1_tradeOnce 15 = .ok (.if_icmp .ge 78, 3) := by decide +kernel
theorem dX1_tradeOnce_18 : decode cX1_tradeOnce 18 = .ok (.aload_n 0, 1) := by decide +kernel
theorem dX1_tradeOnce_19 : decode cX1_tradeOnce 19 = .ok (.getfield 44, 3) := by decide +kernel
theorem dX1_tradeOnce_22 : decode cX1_tradeOnce 22 = .ok (.iload_n 1, 1) := by decide +kernel
theorem dX1_tradeOnce_23 : decode cX1_tradeOnce 23 = .ok (.invokestatic 79, 3) := by decide +kernel
theorem dX1_tradeOnce_26 : decode cX1_tradeOnce 26 = .ok (.istore_n 3, 1) := by decide +kernel
theorem dX1_tradeOnce_27 : decode cX1_tradeOnce 27 = .ok (.aload_n 0, 1) := by decide +kernel
theorem dX1_tradeOnce_28 : decode cX1_tradeOnce 28 = .ok (.getfield 44, 3) := by decide +kernel
theorem dX1_tradeOnce_31 : decode cX1_tradeOnce 31 = .ok (.iload_n 2, 1) := by decide +kernel
theorem dX1_tradeOnce_32 : decode cX1_tradeOnce 32 = .ok (.invokestatic 79, 3) := by decide +kernel
theorem dX1_tradeOnce_35 : decode cX1_tradeOnce 35 = .ok (.istore 4, 2) := by decide +kernel
theorem dX1_tradeOnce_37 : decode cX1_tradeOnce 37 = .ok (.iload_n 3, 1) := by decide +kernel
theorem dX1_tradeOnce_38 : decode cX1_tradeOnce 38 = .ok (.iconst (-1), 1) := by decide +kernel
theorem dX1_tradeOnce_39 : decode cX1_tradeOnce 39 = .ok (.if_icmp .eq 48, 3) := by decide +kernel
theorem dX1_tradeOnce_42 : decode cX1_tradeOnce 42 = .ok (.iload 4, 2) := by decide +kernel
theorem dX1_tradeOnce_44 : decode cX1_tradeOnce 44 = .ok (.iconst (-1), 1) := by decide +kernel
theorem dX1_tradeOnce_45 : decode cX1_tradeOnce 45 = .ok (.if_icmp .eq 42, 3) := by decide +kernel
theorem dX1_tradeOnce_48 : decode cX1_tradeOnce 48 = .ok (.iload_n 3, 1) := by decide +kernel
theorem dX1_tradeOnce_49 : decode cX1_tradeOnce 49 = .ok (.iload 4, 2) := by decide +kernel
theorem dX1_tradeOnce_51 : decode cX1_tradeOnce 51 = .ok (.if_icmp .eq 36, 3) := by decide +kernel
theorem dX1_tradeOnce_54 : decode cX1_tradeOnce 54 = .ok (.aload_n 0, 1) := by decide +kernel
theorem dX1_tradeOnce_55 : decode cX1_tradeOnce 55 = .ok (.iload_n 3, 1) := by decide +kernel
theorem dX1_tradeOnce_56 : decode cX1_tradeOnce 56 = .ok (.iload_n 1, 1) := by decide +kernel
theorem dX1_tradeOnce_57 : decode cX1_tradeOnce 57 = .ok (.iload 4, 2) := by decide +kernel
theorem dX1_tradeOnce_59 : decode cX1_tradeOnce 59 = .ok (.iload_n 2, 1) := by decide +kernel
theorem dX1_tradeOnce_60 : decode cX1_tradeOnce 60 = .ok (.invokevirtual 101, 3) := by decide +kernel
theorem dX1_tradeOnce_63 : decode cX1_tradeOnce 63 = .ok (.ifCond .eq 24, 3) := by decide +kernel
theorem dX1_tradeOnce_66 : decode cX1_tradeOnce 66 = .ok (.aload_n 0, 1) := by decide +kernel
theorem dX1_tradeOnce_67 : decode cX1_tradeOnce 67 = .ok (.getfield 44, 3) := by decide +kernel
theorem dX1_tradeOnce_70 : decode cX1_tradeOnce 70 = .ok (.iload_n 1, 1) := by decide +kernel
theorem dX1_tradeOnce_71 : decode cX1_tradeOnce 71 = .ok (.iload 4, 2) := by decide +kernel
theorem dX1_tradeOnce_73 : decode cX1_tradeOnce 73 = .ok (.invokestatic 105, 3) := by decide +kernel
theorem dX1_tradeOnce_76 : decode cX1_tradeOnce 76 = .ok (.aload_n 0, 1) := by decide +kernel
theorem dX1_tradeOnce_77 : decode cX1_tradeOnce 77 = .ok (.getfield 44, 3) := by decide +kernel
theorem dX1_tradeOnce_80 : decode cX1_tradeOnce 80 = .ok (.iload_n 2, 1) := by decide +kernel
theorem dX1_tradeOnce_81 : decode cX1_tradeOnce 81 = .ok (.iload_n 3, 1) := by decide +kernel
theorem dX1_tradeOnce_82 : decode cX1_tradeOnce 82 = .ok (.invokestatic 105, 3) := by decide +kernel
theorem dX1_tradeOnce_85 : decode cX1_tradeOnce 85 = .ok (.iconst 1, 1) := by decide +kernel
theorem dX1_tradeOnce_86 : decode cX1_tradeOnce 86 = .ok (.ireturn, 1) := by decide +kernel
theorem dX1_tradeOnce_87 : decode cX1_tradeOnce 87 = .ok (.iinc 2 1, 3) := by decide +kernel
theorem dX1_tradeOnce_90 : decode cX1_tradeOnce 90 = .ok (.goto (-78), 3) := by decide +kernel
theorem dX1_tradeOnce_93 : decode cX1_tradeOnce 93 = .ok (.iinc 1 1, 3) := by decide +kernel
theorem dX1_tradeOnce_96 : decode cX1_tradeOnce 96 = .ok (.goto (-94), 3) := by decide +kernel
theorem dX1_tradeOnce_99 : decode cX1_tradeOnce 99 = .ok (.iconst 0, 1) := by decide +kernel
theorem dX1_tradeOnce_100 : decode cX1_tradeOnce 100 = .ok (.ireturn, 1) := by decide +kernel
theorem dX1_isGain_0 : decode cX1_isGain 0 = .ok (.aload_n 0, 1) := by decide +kernel
theorem dX1_isGain_1 : decode cX1_isGain 1 = .ok (.iload_n 1, 1) := by decide +kernel
theorem dX1_isGain_2 : decode cX1_isGain 2 = .ok (.iload 4, 2) := by decide +kernel
theorem dX1_isGain_4 : decode cX1_isGain 4 = .ok (.invokevirtual 98, 3) := by decide +kernel
theorem dX1_isGain_7 : decode cX1_isGain 7 = .ok (.aload_n 0, 1) := by decide +kernel
theorem dX1_isGain_8 : decode cX1_isGain 8 = .ok (.iload_n 1, 1) := by decide +kernel
theorem dX1_isGain_9 : decode cX1_isGain 9 = .ok (.iload_n 2, 1) := by decide +kernel
theorem dX1_isGain_10 : decode cX1_isGain 10 = .ok (.invokevirtual 98, 3) := by decide +kernel
theorem dX1_isGain_13 : decode cX1_isGain 13 = .ok (.isub, 1) := by decide +kernel
theorem dX1_isGain_14 : decode cX1_isGain 14 = .ok (.istore 5, 2) := by decide +kernel
theorem dX1_isGain_16 : decode cX1_isGain 16 = .ok (.aload_n 0, 1) := by decide +kernel
theorem dX1_isGain_17 : decode cX1_isGain 17 = .ok (.iload_n 3, 1) := by decide +kernel
theorem dX1_isGain_18 : decode cX1_isGain 18 = .ok (.iload_n 2, 1) := by decide +kernel
theorem dX1_isGain_19 : decode cX1_isGain 19 = .ok (.invokevirtual 98, 3) := by decide +kernel
theorem dX1_isGain_22 : decode cX1_isGain 22 = .ok (.aload_n 0, 1) := by decide +kernel
theorem dX1_isGain_23 : decode cX1_isGain 23 = .ok (.iload_n 3, 1) := by decide +kernel
theorem dX1_isGain_24 : decode cX1_isGain 24 = .ok (.iload 4, 2) := by decide +kernel
theorem dX1_isGain_26 : decode cX1_isGain 26 = .ok (.invokevirtual 98, 3) := by decide +kernel
theorem dX1_isGain_29 : decode cX1_isGain 29 = .ok (.isub, 1) := by decide +kernel
theorem dX1_isGain_30 : decode cX1_isGain 30 = .ok (.istore 6, 2) := by decide +kernel
theorem dX1_isGain_32 : decode cX1_isGain 32 = .ok (.iload 5, 2) := by decide +kernel
theorem dX1_isGain_34 : decode cX1_isGain 34 = .ok (.ifCond .lt 20, 3) := by decide +kernel
theorem dX1_isGain_37 : decode cX1_isGain 37 = .ok (.iload 6, 2) := by decide +kernel
theorem dX1_isGain_39 : decode cX1_isGain 39 = .ok (.ifCond .lt 15, 3) := by decide +kernel
theorem dX1_isGain_42 : decode cX1_isGain 42 = .ok (.iload 5, 2) := by decide +kernel
theorem dX1_isGain_44 : decode cX1_isGain 44 = .ok (.iload 6, 2) := by decide +kernel
theorem dX1_isGain_46 : decode cX1_isGain 46 = .ok (.iadd, 1) := by decide +kernel
theorem dX1_isGain_47 : decode cX1_isGain 47 = .ok (.ifCond .le 7, 3) := by decide +kernel
theorem dX1_isGain_50 : decode cX1_isGain 50 = .ok (.iconst 1, 1) := by decide +kernel
theorem dX1_isGain_51 : decode cX1_isGain 51 = .ok (.goto 4, 3) := by decide +kernel
theorem dX1_isGain_54 : decode cX1_isGain 54 = .ok (.iconst 0, 1) := by decide +kernel
theorem dX1_isGain_55 : decode cX1_isGain 55 = .ok (.ireturn, 1) := by decide +kernel
theorem dX2_readAll_0 : decode cX2_readAll 0 = .ok (.aload_n 0, 1) := by decide +kernel
theorem dX2_readAll_1 : decode cX2_readAll 1 = .ok (.getfield 12, 3) := by decide +kernel
theorem dX2_readAll_4 : decode cX2_readAll 4 = .ok (.invokevirtual 26, 3) := by decide +kernel
theorem dX2_readAll_7 : decode cX2_readAll 7 = .ok (.aload_n 0, 1) := by decide +kernel
theorem dX2_readAll_8 : decode cX2_readAll 8 = .ok (.getfield 18, 3) := by decide +kernel
theorem dX2_readAll_11 : decode cX2_readAll 11 = .ok (.iconst 0, 1) := by decide +kernel
theorem dX2_readAll_12 : decode cX2_readAll 12 = .ok (.invokestatic 29, 3) := by decide +kernel
theorem dX2_readAll_15 : decode cX2_readAll 15 = .ok (.iconst 0, 1) := by decide +kernel
theorem dX2_readAll_16 : decode cX2_readAll 16 = .ok (.istore_n 1, 1) := by decide +kernel
theorem dX2_readAll_17 : decode cX2_readAll 17 = .ok (.iconst 0, 1) := by decide +kernel
theorem dX2_readAll_18 : decode cX2_readAll 18 = .ok (.istore_n 2, 1) := by decide +kernel
theorem dX2_readAll_19 : decode cX2_readAll 19 = .ok (.iload_n 2, 1) := by decide +kernel
theorem dX2_readAll_20 : decode cX2_readAll 20 = .ok (.sipush 940, 3) := by decide +kernel
theorem dX2_readAll_23 : decode cX2_readAll 23 = .ok (.if_icmp .ge 151, 3) := by decide +kernel
theorem dX2_readAll_26 : decode cX2_readAll 26 = .ok (.aload_n 0, 1) := by decide +kernel
theorem dX2_readAll_27 : decode cX2_readAll 27 = .ok (.getfield 22, 3) := by decide +kernel
theorem dX2_readAll_30 : decode cX2_readAll 30 = .ok (.invokevirtual 35, 3) := by decide +kernel
theorem dX2_readAll_33 : decode cX2_readAll 33 = .ok (.ifCond .eq 141, 3) := by decide +kernel
theorem dX2_readAll_36 : decode cX2_readAll 36 = .ok (.iconst 0, 1) := by decide +kernel
theorem dX2_readAll_37 : decode cX2_readAll 37 = .ok (.istore_n 3, 1) := by decide +kernel
theorem dX2_readAll_38 : decode cX2_readAll 38 = .ok (.aload_n 0, 1) := by decide +kernel
theorem dX2_readAll_39 : decode cX2_readAll 39 = .ok (.getfield 22, 3) := by decide +kernel
theorem dX2_readAll_42 : decode cX2_readAll 42 = .ok (.invokevirtual 35, 3) := by decide +kernel
theorem dX2_readAll_45 : decode cX2_readAll 45 = .ok (.tableswitch 95 5 14 #[55, 95, 63, 95, 95, 95, 95, 71, 79, 87], 55) := by decide +kernel
theorem dX2_readAll_100 : decode cX2_readAll 100 = .ok (.aload_n 0, 1) := by decide +kernel
theorem dX2_readAll_101 : decode cX2_readAll 101 = .ok (.invokevirtual 41, 3) := by decide +kernel
theorem dX2_readAll_104 : decode cX2_readAll 104 = .ok (.istore_n 3, 1) := by decide +kernel
theorem dX2_readAll_105 : decode cX2_readAll 105 = .ok (.goto 44, 3) := by decide +kernel
theorem dX2_readAll_108 : decode cX2_readAll 108 = .ok (.aload_n 0, 1) := by decide +kernel
theorem dX2_readAll_109 : decode cX2_readAll 109 = .ok (.invokevirtual 45, 3) := by decide +kernel
theorem dX2_readAll_112 : decode cX2_readAll 112 = .ok (.istore_n 3, 1) := by decide +kernel
theorem dX2_readAll_113 : decode cX2_readAll 113 = .ok (.goto 36, 3) := by decide +kernel
theorem dX2_readAll_116 : decode cX2_readAll 116 = .ok (.aload_n 0, 1) := by decide +kernel
theorem dX2_readAll_117 : decode cX2_readAll 117 = .ok (.invokevirtual 48, 3) := by decide +kernel
theorem dX2_readAll_120 : decode cX2_readAll 120 = .ok (.istore_n 3, 1) := by decide +kernel
theorem dX2_readAll_121 : decode cX2_readAll 121 = .ok (.goto 28, 3) := by decide +kernel
theorem dX2_readAll_124 : decode cX2_readAll 124 = .ok (.aload_n 0, 1) := by decide +kernel
theorem dX2_readAll_125 : decode cX2_readAll 125 = .ok (.invokevirtual 51, 3) := by decide +kernel
theorem dX2_readAll_128 : decode cX2_readAll 128 = .ok (.istore_n 3, 1) := by decide +kernel
theorem dX2_readAll_129 : decode cX2_readAll 129 = .ok (.goto 20, 3) := by decide +kernel
theorem dX2_readAll_132 : decode cX2_readAll 132 = .ok (.aload_n 0, 1) := by decide +kernel
theorem dX2_readAll_133 : decode cX2_readAll 133 = .ok (.invokevirtual 54, 3) := by decide +kernel
theorem dX2_readAll_136 : decode cX2_readAll 136 = .ok (.istore_n 3, 1) := by decide +kernel
theorem dX2_readAll_137 : decode cX2_readAll 137 = .ok (.goto 12, 3) := by decide +kernel
theorem dX2_readAll_140 : decode cX2_readAll 140 = .ok (.aload_n 0, 1) := by decide +kernel
theorem dX2_readAll_141 : decode cX2_readAll 141 = .ok (.getfield 22, 3) := by decide +kernel
theorem dX2_readAll_144 : decode cX2_readAll 144 = .ok (.iconst 1, 1) := by decide +kernel
theorem dX2_readAll_145 : decode cX2_readAll 145 = .ok (.invokevirtual 57, 3) := by decide +kernel
theorem dX2_readAll_148 : decode cX2_readAll 148 = .ok (.pop, 1) := by decide +kernel
theorem dX2_readAll_149 : decode cX2_readAll 149 = .ok (.iload_n 3, 1) := by decide +kernel
theorem dX2_readAll_150 : decode cX2_readAll 150 = .ok (.ifCond .eq 13, 3) := by decide +kernel
theorem dX2_readAll_153 : decode cX2_readAll 153 = .ok (.aload_n 0, 1) := by decide +kernel
theorem dX2_readAll_154 : decode cX2_readAll 154 = .ok (.getfield 22, 3) := by decide +kernel
theorem dX2_readAll_157 : decode cX2_readAll 157 = .ok (.invokevirtual 61, 3) := by decide +kernel
theorem dX2_readAll_160 : decode cX2_readAll 160 = .ok (.ifCond .ne 5, 3) := by decide +kernel
theorem dX2_readAll_163 : decode cX2_readAll 163 = .ok (.iconst (-1), 1) := by decide +kernel
theorem dX2_readAll_164 : decode cX2_readAll 164 = .ok (.ireturn, 1) := by decide +kernel
theorem dX2_readAll_165 : decode cX2_readAll 165 = .ok (.iinc 1 1, 3) := by decide +kernel
theorem dX2_readAll_168 : decode cX2_readAll 168 = .ok (.iinc 2 1, 3) := by decide +kernel
theorem dX2_readAll_171 : decode cX2_readAll 171 = .ok (.goto (-152), 3) := by decide +kernel
theorem dX2_readAll_174 : decode cX2_readAll 174 = .ok (.iload_n 1, 1) := by decide +kernel
theorem dX2_readAll_175 : decode cX2_readAll 175 = .ok (.ireturn, 1) := by decide +kernel
theorem dX2_readKindLine_0 : decode cX2_readKindLine 0 = .ok (.aload_n 0, 1) := by decide +kernel
theorem dX2_readKindLine_1 : decode cX2_readKindLine 1 = .ok (.getfield 12, 3) := by decide +kernel
theorem dX2_readKindLine_4 : decode cX2_readKindLine 4 = .ok (.getfield 64, 3) := by decide +kernel
theorem dX2_readKindLine_7 : decode cX2_readKindLine 7 = .ok (.ifCond .le 14, 3) := by decide +kernel
theorem dX2_readKindLine_10 : decode cX2_readKindLine 10 = .ok (.aload_n 0, 1) := by decide +kernel
theorem dX2_readKindLine_11 : decode cX2_readKindLine 11 = .ok (.getfield 22, 3) := by decide +kernel
theorem dX2_readKindLine_14 : decode cX2_readKindLine 14 = .ok (.iconst 3, 1) := by decide +kernel
theorem dX2_readKindLine_15 : decode cX2_readKindLine 15 = .ok (.invokevirtual 57, 3) := by decide +kernel
theorem dX2_readKindLine_18 : decode cX2_readKindLine 18 = .ok (.pop, 1) := by decide +kernel
theorem dX2_readKindLine_19 : decode cX2_readKindLine 19 = .ok (.iconst 0, 1) := by decide +kernel
theorem dX2_readKindLine_20 : decode cX2_readKindLine 20 = .ok (.ireturn, 1) := by decide +kernel
theorem dX2_readKindLine_21 : decode cX2_readKindLine 21 = .ok (.aload_n 0, 1) := by decide +kernel
theorem dX2_readKindLine_22 : decode cX2_readKindLine 22 = .ok (.getfield 12, 3) := by decide +kernel
theorem dX2_readKindLine_25 : decode cX2_readKindLine 25 = .ok (.getfield 68, 3) := by decide +kernel
theorem dX2_readKindLine_28 : decode cX2_readKindLine 28 = .ok (.iconst 3, 1) := by decide +kernel
theorem dX2_readKindLine_29 : decode cX2_readKindLine 29 = .ok (.if_icmp .lt 14, 3) := by decide +kernel
theorem dX2_readKindLine_32 : decode cX2_readKindLine 32 = .ok (.aload_n 0, 1) := by decide +kernel
theorem dX2_readKindLine_33 : decode cX2_readKindLine 33 = .ok (.getfield 22, 3) := by decide +kernel
theorem dX2_readKindLine_36 : decode cX2_readKindLine 36 = .ok (.iconst 4, 1) := by decide +kernel
theorem dX2_readKindLine_37 : decode cX2_readKindLine 37 = .ok (.invokevirtual 57, 3) := by decide +kernel
theorem dX2_readKindLine_40 : decode cX2_readKindLine 40 = .ok (.pop, 1) := by decide +kernel
theorem dX2_readKindLine_41 : decode cX2_readKindLine 41 = .ok (.iconst 0, 1) := by decide +kernel
theorem dX2_readKindLine_42 : decode cX2_readKindLine 42 = .ok (.ireturn, 1) := by decide +kernel
theorem dX2_readKindLine_43 : decode cX2_readKindLine 43 = .ok (.aload_n 0, 1) := by decide +kernel
theorem dX2_readKindLine_44 : decode cX2_readKindLine 44 = .ok (.getfield 22, 3) := by decide +kernel
theorem dX2_readKindLine_47 : decode cX2_readKindLine 47 = .ok (.dup, 1) := by decide +kernel
theorem dX2_readKindLine_48 : decode cX2_readKindLine 48 = .ok (.getfield 71, 3) := by decide +kernel
theorem dX2_readKindLine_51 : decode cX2_readKindLine 51 = .ok (.iconst 1, 1) := by decide +kernel
theorem dX2_readKindLine_52 : decode cX2_readKindLine 52 = .ok (.iadd, 1) := by decide +kernel
theorem dX2_readKindLine_53 : decode cX2_readKindLine 53 = .ok (.putfield 71, 3) := by decide +kernel
theorem dX2_readKindLine_56 : decode cX2_readKindLine 56 = .ok (.aload_n 0, 1) := by decide +kernel
theorem dX2_readKindLine_57 : decode cX2_readKindLine 57 = .ok (.getfield 22, 3) := by decide +kernel
theorem dX2_readKindLine_60 : decode cX2_readKindLine 60 = .ok (.aload_n 0, 1) := by decide +kernel
theorem dX2_readKindLine_61 : decode cX2_readKindLine 61 = .ok (.getfield 12, 3) := by decide +kernel
theorem dX2_readKindLine_64 : decode cX2_readKindLine 64 = .ok (.invokevirtual 74, 3) := by decide +kernel
theorem dX2_readKindLine_67 : decode cX2_readKindLine 67 = .ok (.ifCond .ne 5, 3) := by decide +kernel
theorem dX2_readKindLine_70 : decode cX2_readKindLine 70 = .ok (.iconst 0, 1) := by decide +kernel
theorem dX2_readKindLine_71 : decode cX2_readKindLine 71 = .ok (.ireturn, 1) := by decide +kernel
theorem dX2_readKindLine_72 : decode cX2_readKindLine 72 = .ok (.aload_n 0, 1) := by decide +kernel
theorem dX2_readKindLine_73 : decode cX2_readKindLine 73 = .ok (.getfield 22, 3) := by decide +kernel
theorem dX2_readKindLine_76 : decode cX2_readKindLine 76 = .ok (.invokevirtual 78, 3) := by decide +kernel
theorem dX2_readKindLine_79 : decode cX2_readKindLine 79 = .ok (.lstore_n 1, 1) := by decide +kernel
theorem dX2_readKindLine_80 : decode cX2_readKindLine 80 = .ok (.aload_n 0, 1) := by decide +kernel
theorem dX2_readKindLine_81 : decode cX2_readKindLine 81 = .ok (.getfield 22, 3) := by decide +kernel
theorem dX2_readKindLine_84 : decode cX2_readKindLine 84 = .ok (.dup, 1) := by decide +kernel
theorem dX2_readKindLine_85 : decode cX2_readKindLine 85 = .ok (.getfield 71, 3) := by decide +kernel
theorem dX2_readKindLine_88 : decode cX2_readKindLine 88 = .ok (.iconst 1, 1) := by decide +kernel
theorem dX2_readKindLine_89 : decode cX2_readKindLine 89 = .ok (.iadd, 1) := by decide +kernel
theorem dX2_readKindLine_90 : decode cX2_readKindLine 90 = .ok (.putfield 71, 3) := by decide +kernel
theorem dX2_readKindLine_93 : decode cX2_readKindLine 93 = .ok (.aload_n 0, 1) := by decide +kernel
theorem dX2_readKindLine_94 : decode cX2_readKindLine 94 = .ok (.getfield 22, 3) := by decide +kernel
theorem dX2_readKindLine_97 : decode cX2_readKindLine 97 = .ok (.iconst 1, 1) := by decide +kernel
theorem dX2_readKindLine_98 : decode cX2_readKindLine 98 = .ok (.bipush 8, 2) := by decide +kernel
theorem dX2_readKindLine_100 : decode cX2_readKindLine 100 = .ok (.invokevirtual 82, 3) := by decide +kernel
theorem dX2_readKindLine_103 : decode cX2_readKindLine 103 = .ok (.istore_n 3, 1) := by decide +kernel
theorem dX2_readKindLine_104 : decode cX2_readKindLine 104 = .ok (.iload_n 3, 1) := by decide +kernel
theorem dX2_readKindLine_105 : decode cX2_readKindLine 105 = .ok (.iconst (-1), 1) := by decide +kernel
theorem dX2_readKindLine_106 : decode cX2_readKindLine 106 = .ok (.if_icmp .ne 7, 3) := by decide +kernel
theorem dX2_readKindLine_109 : decode cX2_readKindLine 109 = .ok (.iconst (-1), 1) := by decide +kernel
theorem dX2_readKindLine_110 : decode cX2_readKindLine 110 = .ok (.goto 13, 3) := by decide +kernel
theorem dX2_readKindLine_113 : decode cX2_readKindLine 113 = .ok (.aload_n 0, 1) := by decide +kernel
theorem dX2_readKindLine_114 : decode cX2_readKindLine 114 = .ok (.getfield 22, 3) := by decide +kernel
theorem dX2_readKindLine_117 : decode cX2_readKindLine 117 = .ok (.iload_n 3, 1) := by decide +kernel
theorem dX2_readKindLine_118 : decode cX2_readKindLine 118 = .ok (.bipush 8, 2) := by decide +kernel
theorem dX2_readKindLine_120 : decode cX2_readKindLine 120 = .ok (.invokevirtual 82, 3) := by decide +kernel
theorem dX2_readKindLine_123 : decode cX2_readKindLine 123 = .ok (.istore 4, 2) := by decide +kernel
theorem dX2_readKindLine_125 : decode cX2_readKindLine 125 = .ok (.iload 4, 2) := by decide +kernel
theorem dX2_readKindLine_127 : decode cX2_readKindLine 127 = .ok (.iconst (-1), 1) := by decide +kernel
theorem dX2_readKindLine_128 : decode cX2_readKindLine 128 = .ok (.if_icmp .ne 5, 3) := by decide +kernel
theorem dX2_readKindLine_131 : decode cX2_readKindLine 131 = .ok (.iconst 0, 1) := by decide +kernel
theorem dX2_readKindLine_132 : decode cX2_readKindLine 132 = .ok (.ireturn, 1) := by decide +kernel
theorem dX2_readKindLine_133 : decode cX2_readKindLine 133 = .ok (.aload_n 0, 1) := by decide +kernel
theorem dX2_readKindLine_134 : decode cX2_readKindLine 134 = .ok (.getfield 12, 3) := by decide +kernel
theorem dX2_readKindLine_137 : decode cX2_readKindLine 137 = .ok (.getfield 68, 3) := by decide +kernel
theorem dX2_readKindLine_140 : decode cX2_readKindLine 140 = .ok (.istore 5, 2) := by decide +kernel
theorem dX2_readKindLine_142 : decode cX2_readKindLine 142 = .ok (.aload_n 0, 1) := by decide +kernel
theorem dX2_readKindLine_143 : decode cX2_readKindLine 143 = .ok (.getfield 12, 3) := by decide +kernel
theorem dX2_readKindLine_146 : decode cX2_readKindLine 146 = .ok (.getfield 86, 3) := by decide +kernel
theorem dX2_readKindLine_149 : decode cX2_readKindLine 149 = .ok (.iload 5, 2) := by decide +kernel
theorem dX2_readKindLine_151 : decode cX2_readKindLine 151 = .ok (.lload_n 1, 1) := by decide +kernel
theorem dX2_readKindLine_152 : decode cX2_readKindLine 152 = .ok (.invokestatic 90, 3) := by decide +kernel
theorem dX2_readKindLine_155 : decode cX2_readKindLine 155 = .ok (.aload_n 0, 1) := by decide +kernel
theorem dX2_readKindLine_156 : decode cX2_readKindLine 156 = .ok (.getfield 12, 3) := by decide +kernel
theorem dX2_readKindLine_159 : decode cX2_readKindLine 159 = .ok (.getfield 94, 3) := by decide +kernel
theorem dX2_readKindLine_162 : decode cX2_readKindLine 162 = .ok (.iload 5, 2) := by decide +kernel
theorem dX2_readKindLine_164 : decode cX2_readKindLine 164 = .ok (.iload_n 3, 1) := by decide +kernel
theorem dX2_readKindLine_165 : decode cX2_readKindLine 165 = .ok (.invokestatic 97, 3) := by decide +kernel
theorem dX2_readKindLine_168 : decode cX2_readKindLine 168 = .ok (.aload_n 0, 1) := by decide +kernel
theorem dX2_readKindLine_169 : decode cX2_readKindLine 169 = .ok (.getfield 12, 3) := by decide +kernel
theorem dX2_readKindLine_172 : decode cX2_readKindLine 172 = .ok (.getfield 101, 3) := by decide +kernel
theorem dX2_readKindLine_175 : decode cX2_readKindLine 175 = .ok (.iload 5, 2) := by decide +kernel
theorem dX2_readKindLine_177 : decode cX2_readKindLine 177 = .ok (.iload 4, 2) := by decide +kernel
theorem dX2_readKindLine_179 : decode cX2_readKindLine 179 = .ok (.invokestatic 97, 3) := by decide +kernel
theorem dX2_readKindLine_182 : decode cX2_readKindLine 182 = .ok (.aload_n 0, 1) := by decide +kernel
theorem dX2_readKindLine_183 : decode cX2_readKindLine 183 = .ok (.getfield 12, 3) := by decide +kernel
theorem dX2_readKindLine_186 : decode cX2_readKindLine 186 = .ok (.getfield 104, 3) := by decide +kernel
theorem dX2_readKindLine_189 : decode cX2_readKindLine 189 = .ok (.iload 5, 2) := by decide +kernel
theorem dX2_readKindLine_191 : decode cX2_readKindLine 191 = .ok (.iconst (-1), 1) := by decide +kernel
theorem dX2_readKindLine_192 : decode cX2_readKindLine 192 = .ok (.invokestatic 97, 3) := by decide +kernel
theorem dX2_readKindLine_195 : decode cX2_readKindLine 195 = .ok (.aload_n 0, 1) := by decide +kernel
theorem dX2_readKindLine_196 : decode cX2_readKindLine 196 = .ok (.getfield 12, 3) := by decide +kernel
theorem dX2_readKindLine_199 : decode cX2_readKindLine 199 = .ok (.dup, 1) := by decide +kernel
theorem dX2_readKindLine_200 : decode cX2_readKindLine 200 = .ok (.getfield 68, 3) := by decide +kernel
theorem dX2_readKindLine_203 : decode cX2_readKindLine 203 = .ok (.iconst 1, 1) := by decide +kernel
theorem dX2_readKindLine_204 : decode cX2_readKindLine 204 = .ok (.iadd, 1) := by decide +kernel
theorem dX2_readKindLine_205 : decode cX2_readKindLine 205 = .ok (.putfield 68, 3) := by decide +kernel
theorem dX2_readKindLine_208 : decode cX2_readKindLine 208 = .ok (.aload_n 0, 1) := by decide +kernel
theorem dX2_readKindLine_209 : decode cX2_readKindLine 209 = .ok (.getfield 22, 3) := by decide +kernel
theorem dX2_readKindLine_212 : decode cX2_readKindLine 212 = .ok (.invokevirtual 35, 3) := by decide +kernel
theorem dX2_readKindLine_215 : decode cX2_readKindLine 215 = .ok (.bipush 6, 2) := by decide +kernel
theorem dX2_readKindLine_217 : decode cX2_readKindLine 217 = .ok (.if_icmp .ne 15, 3) := by decide +kernel
theorem dX2_readKindLine_220 : decode cX2_readKindLine 220 = .ok (.aload_n 0, 1) := by decide +kernel
theorem dX2_readKindLine_221 : decode cX2_readKindLine 221 = .ok (.iload 5, 2) := by decide +kernel
theorem dX2_readKindLine_223 : decode cX2_readKindLine 223 = .ok (.iload_n 3, 1) := by decide +kernel
theorem dX2_readKindLine_224 : decode cX2_readKindLine 224 = .ok (.iload 4, 2) := by decide +kernel
theorem dX2_readKindLine_226 : decode cX2_readKindLine 226 = .ok (.invokevirtual 109, 3) := by decide +kernel
theorem dX2_readKindLine_229 : decode cX2_readKindLine 229 = .ok (.ifCond .eq 7, 3) := by decide +kernel
theorem dX2_readKindLine_232 : decode cX2_readKindLine 232 = .ok (.iconst 1, 1) := by decide +kernel
theorem dX2_readKindLine_233 : decode cX2_readKindLine 233 = .ok (.goto 4, 3) := by decide +kernel
theorem dX2_readKindLine_236 : decode cX2_readKindLine 236 = .ok (.iconst 0, 1) := by decide +kernel
theorem dX2_readKindLine_237 : decode cX2_readKindLine 237 = .ok (.ireturn, 1) := by decide +kernel
theorem dX2_readTruth_0 : decode cX2_readTruth 0 = .ok (.aload_n 0, 1) := by decide +kernel
theorem dX2_readTruth_1 : decode cX2_readTruth 1 = .ok (.getfield 22, 3) := by decide +kernel
theorem dX2_readTruth_4 : decode cX2_readTruth 4 = .ok (.dup, 1) := by decide +kernel
theorem dX2_readTruth_5 : decode cX2_readTruth 5 = .ok (.getfield 71, 3) := by decide +kernel
theorem dX2_readTruth_8 : decode cX2_readTruth 8 = .ok (.iconst 1, 1) := by decide +kernel
theorem dX2_readTruth_9 : decode cX2_readTruth 9 = .ok (.iadd, 1) := by decide +kernel
theorem dX2_readTruth_10 : decode cX2_readTruth 10 = .ok (.putfield 71, 3) := by decide +kernel
theorem dX2_readTruth_13 : decode cX2_readTruth 13 = .ok (.aload_n 0, 1) := by decide +kernel
theorem dX2_readTruth_14 : decode cX2_readTruth 14 = .ok (.getfield 22, 3) := by decide +kernel
theorem dX2_readTruth_17 : decode cX2_readTruth 17 = .ok (.iload_n 2, 1) := by decide +kernel
theorem dX2_readTruth_18 : decode cX2_readTruth 18 = .ok (.iload_n 3, 1) := by decide +kernel
theorem dX2_readTruth_19 : decode cX2_readTruth 19 = .ok (.invokevirtual 82, 3) := by decide +kernel
theorem dX2_readTruth_22 : decode cX2_readTruth 22 = .ok (.istore 4, 2) := by decide +kernel
theorem dX2_readTruth_24 : decode cX2_readTruth 24 = .ok (.iload 4, 2) := by decide +kernel
theorem dX2_readTruth_26 : decode cX2_readTruth 26 = .ok (.iconst (-1), 1) := by decide +kernel
theorem dX2_readTruth_27 : decode cX2_readTruth 27 = .ok (.if_icmp .ne 7, 3) := by decide +kernel
theorem dX2_readTruth_30 : decode cX2_readTruth 30 = .ok (.iconst (-1), 1) := by decide +kernel
theorem dX2_readTruth_31 : decode cX2_readTruth 31 = .ok (.goto 15, 3) := by decide +kernel
theorem dX2_readTruth_34 : decode cX2_readTruth 34 = .ok (.aload_n 0, 1) := by decide +kernel
theorem dX2_readTruth_35 : decode cX2_readTruth 35 = .ok (.getfield 22, 3) := by decide +kernel
theorem dX2_readTruth_38 : decode cX2_readTruth 38 = .ok (.iconst 0, 1) := by decide +kernel
theorem dX2_readTruth_39 : decode cX2_readTruth 39 = .ok (.iload 4, 2) := by decide +kernel
theorem dX2_readTruth_41 : decode cX2_readTruth 41 = .ok (.iconst 1, 1) := by decide +kernel
theorem dX2_readTruth_42 : decode cX2_readTruth 42 = .ok (.isub, 1) := by decide +kernel
theorem dX2_readTruth_43 : decode cX2_readTruth 43 = .ok (.invokevirtual 82, 3) := by decide +kernel
theorem dX2_readTruth_46 : decode cX2_readTruth 46 = .ok (.istore 5, 2) := by decide +kernel
theorem dX2_readTruth_48 : decode cX2_readTruth 48 = .ok (.iload 5, 2) := by decide +kernel
theorem dX2_readTruth_50 : decode cX2_readTruth 50 = .ok (.iconst (-1), 1) := by decide +kernel
theorem dX2_readTruth_51 : decode cX2_readTruth 51 = .ok (.if_icmp .ne 5, 3) := by decide +kernel
theorem dX2_readTruth_54 : decode cX2_readTruth 54 = .ok (.iconst 0, 1) := by decide +kernel
theorem dX2_readTruth_55 : decode cX2_readTruth 55 = .ok (.ireturn, 1) := by decide +kernel
theorem dX2_readTruth_56 : decode cX2_readTruth 56 = .ok (.aload_n 0, 1) := by decide +kernel
theorem dX2_readTruth_57 : decode cX2_readTruth 57 = .ok (.getfield 12, 3) := by decide +kernel
theorem dX2_readTruth_60 : decode cX2_readTruth 60 = .ok (.getfield 104, 3) := by decide +kernel
theorem dX2_readTruth_63 : decode cX2_readTruth 63 = .ok (.iload_n 1, 1) := by decide +kernel
theorem dX2_readTruth_64 : decode cX2_readTruth 64 = .ok (.iload_n 2, 1) := by decide +kernel
theorem dX2_readTruth_65 : decode cX2_readTruth 65 = .ok (.iload 4, 2) := by decide +kernel
theorem dX2_readTruth_67 : decode cX2_readTruth 67 = .ok (.invokestatic 113, 3) := by decide +kernel
theorem dX2_readTruth_70 : decode cX2_readTruth 70 = .ok (.iload 5, 2) := by decide +kernel
theorem dX2_readTruth_72 : decode cX2_readTruth 72 = .ok (.iadd, 1) := by decide +kernel
theorem dX2_readTruth_73 : decode cX2_readTruth 73 = .ok (.invokestatic 97, 3) := by decide +kernel
theorem dX2_readTruth_76 : decode cX2_readTruth 76 = .ok (.iconst 1, 1) := by decide +kernel
theorem dX2_readTruth_77 : decode cX2_readTruth 77 = .ok (.ireturn, 1) := by decide +kernel
theorem dX2_readPersonLine_0 : decode cX2_readPersonLine 0 = .ok (.aload_n 0, 1) := by decide +kernel
theorem dX2_readPersonLine_1 : decode cX2_readPersonLine 1 = .ok (.getfield 12, 3) := by decide +kernel
theorem dX2_readPersonLine_4 : decode cX2_readPersonLine 4 = .ok (.getfield 64, 3) := by decide +kernel
theorem dX2_readPersonLine_7 : decode cX2_readPersonLine 7 = .ok (.iconst 4, 1) := by decide +kernel
theorem dX2_readPersonLine_8 : decode cX2_readPersonLine 8 = .ok (.if_icmp .lt 14, 3) := by decide +kernel
theorem dX2_readPersonLine_11 : decode cX2_readPersonLine 11 = .ok (.aload_n 0, 1) := by decide +kernel
theorem dX2_readPersonLine_12 : decode cX2_readPersonLine 12 = .ok (.getfield 22, 3) := by decide +kernel
theorem dX2_readPersonLine_15 : decode cX2_readPersonLine 15 = .ok (.iconst 4, 1) := by decide +kernel
theorem dX2_readPersonLine_16 : decode cX2_readPersonLine 16 = .ok (.invokevirtual 57, 3) := by decide +kernel
theorem dX2_readPersonLine_19 : decode cX2_readPersonLine 19 = .ok (.pop, 1) := by decide +kernel
theorem dX2_readPersonLine_20 : decode cX2_readPersonLine 20 = .ok (.iconst 0, 1) := by decide +kernel
theorem dX2_readPersonLine_21 : decode cX2_readPersonLine 21 = .ok (.ireturn, 1) := by decide +kernel
theorem dX2_readPersonLine_22 : decode cX2_readPersonLine 22 = .ok (.aload_n 0, 1) := by decide +kernel
theorem dX2_readPersonLine_23 : decode cX2_readPersonLine 23 = .ok (.getfield 22, 3) := by decide +kernel
theorem dX2_readPersonLine_26 : decode cX2_readPersonLine 26 = .ok (.dup, 1) := by decide +kernel
theorem dX2_readPersonLine_27 : decode cX2_readPersonLine 27 = .ok (.getfield 71, 3) := by decide +kernel
theorem dX2_readPersonLine_30 : decode cX2_readPersonLine 30 = .ok (.iconst 1, 1) := by decide +kernel
theorem dX2_readPersonLine_31 : decode cX2_readPersonLine 31 = .ok (.iadd, 1) := by decide +kernel
theorem dX2_readPersonLine_32 : decode cX2_readPersonLine 32 = .ok (.putfield 71, 3) := by decide +kernel
theorem dX2_readPersonLine_35 : decode cX2_readPersonLine 35 = .ok (.aload_n 0, 1) := by decide +kernel
theorem dX2_readPersonLine_36 : decode cX2_readPersonLine 36 = .ok (.getfield 22, 3) := by decide +kernel
theorem dX2_readPersonLine_39 : decode cX2_readPersonLine 39 = .ok (.aload_n 0, 1) := by decide +kernel
theorem dX2_readPersonLine_40 : decode cX2_readPersonLine 40 = .ok (.getfield 12, 3) := by decide +kernel
theorem dX2_readPersonLine_43 : decode cX2_readPersonLine 43 = .ok (.invokevirtual 74, 3) := by decide +kernel
theorem dX2_readPersonLine_46 : decode cX2_readPersonLine 46 = .ok (.ifCond .ne 5, 3) := by decide +kernel
theorem dX2_readPersonLine_49 : decode cX2_readPersonLine 49 = .ok (.iconst 0, 1) := by decide +kernel
theorem dX2_readPersonLine_50 : decode cX2_readPersonLine 50 = .ok (.ireturn, 1) := by decide +kernel
theorem dX2_readPersonLine_51 : decode cX2_readPersonLine 51 = .ok (.aload_n 0, 1) := by decide +kernel
theorem dX2_readPersonLine_52 : decode cX2_readPersonLine 52 = .ok (.getfield 22, 3) := by decide +kernel
theorem dX2_readPersonLine_55 : decode cX2_readPersonLine 55 = .ok (.invokevirtual 78, 3) := by decide +kernel
theorem dX2_readPersonLine_58 : decode cX2_readPersonLine 58 = .ok (.lstore_n 1, 1) := by decide +kernel
theorem dX2_readPersonLine_59 : decode cX2_readPersonLine 59 = .ok (.aload_n 0, 1) := by decide +kernel
theorem dX2_readPersonLine_60 : decode cX2_readPersonLine 60 = .ok (.getfield 22, 3) := by decide +kernel
theorem dX2_readPersonLine_63 : decode cX2_readPersonLine 63 = .ok (.dup, 1) := by decide +kernel
theorem dX2_readPersonLine_64 : decode cX2_readPersonLine 64 = .ok (.getfield 71, 3) := by decide +kernel
theorem dX2_readPersonLine_67 : decode cX2_readPersonLine 67 = .ok (.iconst 1, 1) := by decide +kernel
theorem dX2_readPersonLine_68 : decode cX2_readPersonLine 68 = .ok (.iadd, 1) := by decide +kernel
theorem dX2_readPersonLine_69 : decode cX2_readPersonLine 69 = .ok (.putfield 71, 3) := by decide +kernel
theorem dX2_readPersonLine_72 : decode cX2_readPersonLine 72 = .ok (.iconst 0, 1) := by decide +kernel
theorem dX2_readPersonLine_73 : decode cX2_readPersonLine 73 = .ok (.istore_n 3, 1) := by decide +kernel
theorem dX2_readPersonLine_74 : decode cX2_readPersonLine 74 = .ok (.iconst 0, 1) := by decide +kernel
theorem dX2_readPersonLine_75 : decode cX2_readPersonLine 75 = .ok (.istore 4, 2) := by decide +kernel
theorem dX2_readPersonLine_77 : decode cX2_readPersonLine 77 = .ok (.iload 4, 2) := by decide +kernel
theorem dX2_readPersonLine_79 : decode cX2_readPersonLine 79 = .ok (.bipush 8, 2) := by decide +kernel
theorem dX2_readPersonLine_81 : decode cX2_readPersonLine 81 = .ok (.if_icmp .gt 42, 3) := by decide +kernel
theorem dX2_readPersonLine_84 : decode cX2_readPersonLine 84 = .ok (.aload_n 0, 1) := by decide +kernel
theorem dX2_readPersonLine_85 : decode cX2_readPersonLine 85 = .ok (.getfield 22, 3) := by decide +kernel
theorem dX2_readPersonLine_88 : decode cX2_readPersonLine 88 = .ok (.invokevirtual 35, 3) := by decide +kernel
theorem dX2_readPersonLine_91 : decode cX2_readPersonLine 91 = .ok (.iconst 2, 1) := by decide +kernel
theorem dX2_readPersonLine_92 : decode cX2_readPersonLine 92 = .ok (.if_icmp .eq 31, 3) := by decide +kernel
theorem dX2_readPersonLine_95 : decode cX2_readPersonLine 95 = .ok (.aload_n 0, 1) := by decide +kernel
theorem dX2_readPersonLine_96 : decode cX2_readPersonLine 96 = .ok (.iload_n 3, 1) := by decide +kernel
theorem dX2_readPersonLine_97 : decode cX2_readPersonLine 97 = .ok (.invokevirtual 116, 3) := by decide +kernel
theorem dX2_readPersonLine_100 : decode cX2_readPersonLine 100 = .ok (.istore 5, 2) := by decide +kernel
theorem dX2_readPersonLine_102 : decode cX2_readPersonLine 102 = .ok (.iload 5, 2) := by decide +kernel
theorem dX2_readPersonLine_104 : decode cX2_readPersonLine 104 = .ok (.iconst (-1), 1) := by decide +kernel
theorem dX2_readPersonLine_105 : decode cX2_readPersonLine 105 = .ok (.if_icmp .ne 5, 3) := by decide +kernel
theorem dX2_readPersonLine_108 : decode cX2_readPersonLine 108 = .ok (.iconst 0, 1) := by decide +kernel
theorem dX2_readPersonLine_109 : decode cX2_readPersonLine 109 = .ok (.ireturn, 1) := by decide +kernel
theorem dX2_readPersonLine_110 : decode cX2_readPersonLine 110 = .ok (.iload_n 3, 1) := by decide +kernel
theorem dX2_readPersonLine_111 : decode cX2_readPersonLine 111 = .ok (.iconst 1, 1) := by decide +kernel
theorem dX2_readPersonLine_112 : decode cX2_readPersonLine 112 = .ok (.iload 5, 2) := by decide +kernel
theorem dX2_readPersonLine_114 : decode cX2_readPersonLine 114 = .ok (.ishl, 1) := by decide +kernel
theorem dX2_readPersonLine_115 : decode cX2_readPersonLine 115 = .ok (.ior, 1) := by decide +kernel
theorem dX2_readPersonLine_116 : decode cX2_readPersonLine 116 = .ok (.istore_n 3, 1) := by decide +kernel
theorem dX2_readPersonLine_117 : decode cX2_readPersonLine 117 = .ok (.iinc 4 1, 3) := by decide +kernel
theorem dX2_readPersonLine_120 : decode cX2_readPersonLine 120 = .ok (.goto (-43), 3) := by decide +kernel
theorem dX2_readPersonLine_123 : decode cX2_readPersonLine 123 = .ok (.aload_n 0, 1) := by decide +kernel
theorem dX2_readPersonLine_124 : decode cX2_readPersonLine 124 = .ok (.getfield 12, 3) := by decide +kernel
theorem dX2_readPersonLine_127 : decode cX2_readPersonLine 127 = .ok (.getfield 64, 3) := by decide +kernel
theorem dX2_readPersonLine_130 : decode cX2_readPersonLine 130 = .ok (.istore 4, 2) := by decide +kernel
theorem dX2_readPersonLine_132 : decode cX2_readPersonLine 132 = .ok (.aload_n 0, 1) := by decide +kernel
theorem dX2_readPersonLine_133 : decode cX2_readPersonLine 133 = .ok (.getfield 12, 3) := by decide +kernel
theorem dX2_readPersonLine_136 : decode cX2_readPersonLine 136 = .ok (.getfield 119, 3) := by decide +kernel
theorem dX2_readPersonLine_139 : decode cX2_readPersonLine 139 = .ok (.iload 4, 2) := by decide +kernel
theorem dX2_readPersonLine_141 : decode cX2_readPersonLine 141 = .ok (.lload_n 1, 1) := by decide +kernel
theorem dX2_readPersonLine_142 : decode cX2_readPersonLine 142 = .ok (.invokestatic 90, 3) := by decide +kernel
theorem dX2_readPersonLine_145 : decode cX2_readPersonLine 145 = .ok (.aload_n 0, 1) := by decide +kernel
theorem dX2_readPersonLine_146 : decode cX2_readPersonLine 146 = .ok (.getfield 12, 3) := by decide +kernel
theorem dX2_readPersonLine_149 : decode cX2_readPersonLine 149 = .ok (.getfield 122, 3) := by decide +kernel
theorem dX2_readPersonLine_152 : decode cX2_readPersonLine 152 = .ok (.iload 4, 2) := by decide +kernel
theorem dX2_readPersonLine_154 : decode cX2_readPersonLine 154 = .ok (.iload_n 3, 1) := by decide +kernel
theorem dX2_readPersonLine_155 : decode cX2_readPersonLine 155 = .ok (.ifCond .ne 21, 3) := by decide +kernel
theorem dX2_readPersonLine_158 : decode cX2_readPersonLine 158 = .ok (.iconst 1, 1) := by decide +kernel
theorem dX2_readPersonLine_159 : decode cX2_readPersonLine 159 = .ok (.iconst 2, 1) := by decide +kernel
theorem dX2_readPersonLine_160 : decode cX2_readPersonLine 160 = .ok (.iconst 2, 1) := by decide +kernel
theorem dX2_readPersonLine_161 : decode cX2_readPersonLine 161 = .ok (.aload_n 0, 1) := by decide +kernel
theorem dX2_readPersonLine_162 : decode cX2_readPersonLine 162 = .ok (.getfield 12, 3) := by decide +kernel
theorem dX2_readPersonLine_165 : decode cX2_readPersonLine 165 = .ok (.getfield 68, 3) := by decide +kernel
theorem dX2_readPersonLine_168 : decode cX2_readPersonLine 168 = .ok (.imul, 1) := by decide +kernel
theorem dX2_readPersonLine_169 : decode cX2_readPersonLine 169 = .ok (.iadd, 1) := by decide +kernel
theorem dX2_readPersonLine_170 : decode cX2_readPersonLine 170 = .ok (.ishl, 1) := by decide +kernel
theorem dX2_readPersonLine_171 : decode cX2_readPersonLine 171 = .ok (.iconst 1, 1) := by decide +kernel
theorem dX2_readPersonLine_172 : decode cX2_readPersonLine 172 = .ok (.isub, 1) := by decide +kernel
theorem dX2_readPersonLine_173 : decode cX2_readPersonLine 173 = .ok (.goto 4, 3) := by decide +kernel
theorem dX2_readPersonLine_176 : decode cX2_readPersonLine 176 = .ok (.iload_n 3, 1) := by decide +kernel
theorem dX2_readPersonLine_177 : decode cX2_readPersonLine 177 = .ok (.invokestatic 97, 3) := by decide +kernel
theorem dX2_readPersonLine_180 : decode cX2_readPersonLine 180 = .ok (.aload_n 0, 1) := by decide +kernel
theorem dX2_readPersonLine_181 : decode cX2_readPersonLine 181 = .ok (.getfield 12, 3) := by decide +kernel
theorem dX2_readPersonLine_184 : decode cX2_readPersonLine 184 = .ok (.dup, 1) := by decide +kernel
theorem dX2_readPersonLine_185 : decode cX2_readPersonLine 185 = .ok (.getfield 64, 3) := by decide +kernel
theorem dX2_readPersonLine_188 : decode cX2_readPersonLine 188 = .ok (.iconst 1, 1) := by decide +kernel
theorem dX2_readPersonLine_189 : decode cX2_readPersonLine 189 = .ok (.iadd, 1) := by decide +kernel
theorem dX2_readPersonLine_190 : decode cX2_readPersonLine 190 = .ok (.putfield 64, 3) := by decide +kernel
theorem dX2_readPersonLine_193 : decode cX2_readPersonLine 193 = .ok (.iconst 1, 1) := by decide +kernel
theorem dX2_readPersonLine_194 : decode cX2_readPersonLine 194 = .ok (.ireturn, 1) := by decide +kernel
theorem dX2_readWay_0 : decode cX2_readWay 0 = .ok (.aload_n 0, 1) := by decide +kernel
theorem dX2_readWay_1 : decode cX2_readWay 1 = .ok (.getfield 22, 3) := by decide +kernel
theorem dX2_readWay_4 : decode cX2_readWay 4 = .ok (.invokevirtual 35, 3) := by decide +kernel
theorem dX2_readWay_7 : decode cX2_readWay 7 = .ok (.istore_n 2, 1) := by decide +kernel
theorem dX2_readWay_8 : decode cX2_readWay 8 = .ok (.iload_n 2, 1) := by decide +kernel
theorem dX2_readWay_9 : decode cX2_readWay 9 = .ok (.bipush 9, 2) := by decide +kernel
theorem dX2_readWay_11 : decode cX2_readWay 11 = .ok (.if_icmp .ne 7, 3) := by decide +kernel
theorem dX2_readWay_14 : decode cX2_readWay 14 = .ok (.iconst 1, 1) := by decide +kernel
theorem dX2_readWay_15 : decode cX2_readWay 15 = .ok (.goto 4, 3) := by decide +kernel
theorem dX2_readWay_18 : decode cX2_readWay 18 = .ok (.iconst 0, 1) := by decide +kernel
theorem dX2_readWay_19 : decode cX2_readWay 19 = .ok (.istore_n 3, 1) := by decide +kernel
theorem dX2_readWay_20 : decode cX2_readWay 20 = .ok (.iload_n 2, 1) := by decide +kernel
theorem dX2_readWay_21 : decode cX2_readWay 21 = .ok (.bipush 10, 2) := by decide +kernel
theorem dX2_readWay_23 : decode cX2_readWay 23 = .ok (.if_icmp .eq 9, 3) := by decide +kernel
theorem dX2_readWay_26 : decode cX2_readWay 26 = .ok (.iload_n 2, 1) := by decide +kernel
theorem dX2_readWay_27 : decode cX2_readWay 27 = .ok (.bipush 11, 2) := by decide +kernel
theorem dX2_readWay_29 : decode cX2_readWay 29 = .ok (.if_icmp .ne 59, 3) := by decide +kernel
theorem dX2_readWay_32 : decode cX2_readWay 32 = .ok (.aload_n 0, 1) := by decide +kernel
theorem dX2_readWay_33 : decode cX2_readWay 33 = .ok (.getfield 22, 3) := by decide +kernel
theorem dX2_readWay_36 : decode cX2_readWay 36 = .ok (.dup, 1) := by decide +kernel
theorem dX2_readWay_37 : decode cX2_readWay 37 = .ok (.getfield 71, 3) := by decide +kernel
theorem dX2_readWay_40 : decode cX2_readWay 40 = .ok (.iconst 1, 1) := by decide +kernel
theorem dX2_readWay_41 : decode cX2_readWay 41 = .ok (.iadd, 1) := by decide +kernel
theorem dX2_readWay_42 : decode cX2_readWay 42 = .ok (.putfield 71, 3) := by decide +kernel
theorem dX2_readWay_45 : decode cX2_readWay 45 = .ok (.aload_n 0, 1) := by decide +kernel
theorem dX2_readWay_46 : decode cX2_readWay 46 = .ok (.getfield 22, 3) := by decide +kernel
theorem dX2_readWay_49 : decode cX2_readWay 49 = .ok (.aload_n 0, 1) := by decide +kernel
theorem dX2_readWay_50 : decode cX2_readWay 50 = .ok (.getfield 12, 3) := by decide +kernel
theorem dX2_readWay_53 : decode cX2_readWay 53 = .ok (.invokevirtual 125, 3) := by decide +kernel
theorem dX2_readWay_56 : decode cX2_readWay 56 = .ok (.istore 4, 2) := by decide +kernel
theorem dX2_readWay_58 : decode cX2_readWay 58 = .ok (.iload 4, 2) := by decide +kernel
theorem dX2_readWay_60 : decode cX2_readWay 60 = .ok (.iconst (-1), 1) := by decide +kernel
theorem dX2_readWay_61 : decode cX2_readWay 61 = .ok (.if_icmp .ne 5, 3) := by decide +kernel
theorem dX2_readWay_64 : decode cX2_readWay 64 = .ok (.iconst (-1), 1) := by decide +kernel
theorem dX2_readWay_65 : decode cX2_readWay 65 = .ok (.ireturn, 1) := by decide +kernel
theorem dX2_readWay_66 : decode cX2_readWay 66 = .ok (.iconst 2, 1) := by decide +kernel
theorem dX2_readWay_67 : decode cX2_readWay 67 = .ok (.iconst 2, 1) := by decide +kernel
theorem dX2_readWay_68 : decode cX2_readWay 68 = .ok (.iload 4, 2) := by decide +kernel
theorem dX2_readWay_70 : decode cX2_readWay 70 = .ok (.imul, 1) := by decide +kernel
theorem dX2_readWay_71 : decode cX2_readWay 71 = .ok (.iadd, 1) := by decide +kernel
theorem dX2_readWay_72 : decode cX2_readWay 72 = .ok (.iload_n 2, 1) := by decide +kernel
theorem dX2_readWay_73 : decode cX2_readWay 73 = .ok (.bipush 11, 2) := by decide +kernel
theorem dX2_readWay_75 : decode cX2_readWay 75 = .ok (.if_icmp .ne 7, 3) := by decide +kernel
theorem dX2_readWay_78 : decode cX2_readWay 78 = .ok (.iconst 1, 1) := by decide +kernel
theorem dX2_readWay_79 : decode cX2_readWay 79 = .ok (.goto 4, 3) := by decide +kernel
theorem dX2_readWay_82 : decode cX2_readWay 82 = .ok (.iconst 0, 1) := by decide +kernel
theorem dX2_readWay_83 : decode cX2_readWay 83 = .ok (.iadd, 1) := by decide +kernel
theorem dX2_readWay_84 : decode cX2_readWay 84 = .ok (.istore_n 3, 1) := by decide +kernel
theorem dX2_readWay_85 : decode cX2_readWay 85 = .ok (.goto 24, 3) := by decide +kernel
theorem dX2_readWay_88 : decode cX2_readWay 88 = .ok (.iload_n 2, 1) := by decide +kernel
theorem dX2_readWay_89 : decode cX2_readWay 89 = .ok (.bipush 8, 2) := by decide +kernel
theorem dX2_readWay_91 : decode cX2_readWay 91 = .ok (.if_icmp .eq 18, 3) := by decide +kernel
theorem dX2_readWay_94 : decode cX2_readWay 94 = .ok (.iload_n 2, 1) := by decide +kernel
theorem dX2_readWay_95 : decode cX2_readWay 95 = .ok (.bipush 9, 2) := by decide +kernel
theorem dX2_readWay_97 : decode cX2_readWay 97 = .ok (.if_icmp .eq 12, 3) := by decide +kernel
theorem dX2_readWay_100 : decode cX2_readWay 100 = .ok (.aload_n 0, 1) := by decide +kernel
theorem dX2_readWay_101 : decode cX2_readWay 101 = .ok (.getfield 22, 3) := by decide +kernel
theorem dX2_readWay_104 : decode cX2_readWay 104 = .ok (.iconst 1, 1) := by decide +kernel
theorem dX2_readWay_105 : decode cX2_readWay 105 = .ok (.invokevirtual 57, 3) := by decide +kernel
theorem dX2_readWay_108 : decode cX2_readWay 108 = .ok (.ireturn, 1) := by decide +kernel
theorem dX2_readWay_109 : decode cX2_readWay 109 = .ok (.iload_n 1, 1) := by decide +kernel
theorem dX2_readWay_110 : decode cX2_readWay 110 = .ok (.iload_n 3, 1) := by decide +kernel
theorem dX2_readWay_111 : decode cX2_readWay 111 = .ok (.iushr, 1) := by decide +kernel
theorem dX2_readWay_112 : decode cX2_readWay 112 = .ok (.iconst 1, 1) := by decide +kernel
theorem dX2_readWay_113 : decode cX2_readWay 113 = .ok (.iand, 1) := by decide +kernel
theorem dX2_readWay_114 : decode cX2_readWay 114 = .ok (.iconst 1, 1) := by decide +kernel
theorem dX2_readWay_115 : decode cX2_readWay 115 = .ok (.if_icmp .ne 12, 3) := by decide +kernel
theorem dX2_readWay_118 : decode cX2_readWay 118 = .ok (.aload_n 0, 1) := by decide +kernel
theorem dX2_readWay_119 : decode cX2_readWay 119 = .ok (.getfield 22, 3) := by decide +kernel
theorem dX2_readWay_122 : decode cX2_readWay 122 = .ok (.iconst 3, 1) := by decide +kernel
theorem dX2_readWay_123 : decode cX2_readWay 123 = .ok (.invokevirtual 57, 3) := by decide +kernel
theorem dX2_readWay_126 : decode cX2_readWay 126 = .ok (.ireturn, 1) := by decide +kernel
theorem dX2_readWay_127 : decode cX2_readWay 127 = .ok (.aload_n 0, 1) := by decide +kernel
theorem dX2_readWay_128 : decode cX2_readWay 128 = .ok (.getfield 22, 3) := by decide +kernel
theorem dX2_readWay_131 : decode cX2_readWay 131 = .ok (.dup, 1) := by decide +kernel
theorem dX2_readWay_132 : decode cX2_readWay 132 = .ok (.getfield 71, 3) := by decide +kernel
theorem dX2_readWay_135 : decode cX2_readWay 135 = .ok (.iconst 1, 1) := by decide +kernel
theorem dX2_readWay_136 : decode cX2_readWay 136 = .ok (.iadd, 1) := by decide +kernel
theorem dX2_readWay_137 : decode cX2_readWay 137 = .ok (.putfield 71, 3) := by decide +kernel
theorem dX2_readWay_140 : decode cX2_readWay 140 = .ok (.iload_n 3, 1) := by decide +kernel
theorem dX2_readWay_141 : decode cX2_readWay 141 = .ok (.ireturn, 1) := by decide +kernel
theorem dX2_readLooksLine_0 : decode cX2_readLooksLine 0 = .ok (.aload_n 0, 1) := by decide +kernel
theorem dX2_readLooksLine_1 : decode cX2_readLooksLine 1 = .ok (.getfield 22, 3) := by decide +kernel
theorem dX2_readLooksLine_4 : decode cX2_readLooksLine 4 = .ok (.dup, 1) := by decide +kernel
theorem dX2_readLooksLine_5 : decode cX2_readLooksLine 5 = .ok (.getfield 71, 3) := by decide +kernel
theorem dX2_readLooksLine_8 : decode cX2_readLooksLine 8 = .ok (.iconst 1, 1) := by decide +kernel
theorem dX2_readLooksLine_9 : decode cX2_readLooksLine 9 = .ok (.iadd, 1) := by decide +kernel
theorem dX2_readLooksLine_10 : decode cX2_readLooksLine 10 = .ok (.putfield 71, 3) := by decide +kernel
theorem dX2_readLooksLine_13 : decode cX2_readLooksLine 13 = .ok (.aload_n 0, 1) := by decide +kernel
theorem dX2_readLooksLine_14 : decode cX2_readLooksLine 14 = .ok (.getfield 22, 3) := by decide +kernel
theorem dX2_readLooksLine_17 : decode cX2_readLooksLine 17 = .ok (.aload_n 0, 1) := by decide +kernel
theorem dX2_readLooksLine_18 : decode cX2_readLooksLine 18 = .ok (.getfield 12, 3) := by decide +kernel
theorem dX2_readLooksLine_21 : decode cX2_readLooksLine 21 = .ok (.invokevirtual 129, 3) := by decide +kernel
theorem dX2_readLooksLine_24 : decode cX2_readLooksLine 24 = .ok (.istore_n 1, 1) := by decide +kernel
theorem dX2_readLooksLine_25 : decode cX2_readLooksLine 25 = .ok (.iload_n 1, 1) := by decide +kernel
theorem dX2_readLooksLine_26 : decode cX2_readLooksLine 26 = .ok (.iconst (-1), 1) := by decide +kernel
theorem dX2_readLooksLine_27 : decode cX2_readLooksLine 27 = .ok (.if_icmp .eq 23, 3) := by decide +kernel
theorem dX2_readLooksLine_30 : decode cX2_readLooksLine 30 = .ok (.aload_n 0, 1) := by decide +kernel
theorem dX2_readLooksLine_31 : decode cX2_readLooksLine 31 = .ok (.aload_n 0, 1) := by decide +kernel
theorem dX2_readLooksLine_32 : decode cX2_readLooksLine 32 = .ok (.getfield 12, 3) := by decide +kernel
theorem dX2_readLooksLine_35 : decode cX2_readLooksLine 35 = .ok (.getfield 132, 3) := by decide +kernel
theorem dX2_readLooksLine_38 : decode cX2_readLooksLine 38 = .ok (.iload_n 1, 1) := by decide +kernel
theorem dX2_readLooksLine_39 : decode cX2_readLooksLine 39 = .ok (.invokevirtual 135, 3) := by decide +kernel
theorem dX2_readLooksLine_42 : decode cX2_readLooksLine 42 = .ok (.iconst (-1), 1) := by decide +kernel
theorem dX2_readLooksLine_43 : decode cX2_readLooksLine 43 = .ok (.if_icmp .eq 7, 3) := by decide +kernel
theorem dX2_readLooksLine_46 : decode cX2_readLooksLine 46 = .ok (.iconst 1, 1) := by decide +kernel
theorem dX2_readLooksLine_47 : decode cX2_readLooksLine 47 = .ok (.goto 4, 3) := by decide +kernel
theorem dX2_readLooksLine_50 : decode cX2_readLooksLine 50 = .ok (.iconst 0, 1) := by decide +kernel
theorem dX2_readLooksLine_51 : decode cX2_readLooksLine 51 = .ok (.ireturn, 1) := by decide +kernel
theorem dX2_readNewHour_0 : decode cX2_readNewHour 0 = .ok (.aload_n 0, 1) := by decide +kernel
theorem dX2_readNewHour_1 : decode cX2_readNewHour 1 = .ok (.getfield 22, 3) := by decide +kernel
theorem dX2_readNewHour_4 : decode cX2_readNewHour 4 = .ok (.iconst 0, 1) := by decide +kernel
theorem dX2_readNewHour_5 : decode cX2_readNewHour 5 = .ok (.bipush 29, 2) := by decide +kernel
theorem dX2_readNewHour_7 : decode cX2_readNewHour 7 = .ok (.invokevirtual 82, 3) := by decide +kernel
theorem dX2_readNewHour_10 : decode cX2_readNewHour 10 = .ok (.istore_n 3, 1) := by decide +kernel
theorem dX2_readNewHour_11 : decode cX2_readNewHour 11 = .ok (.iload_n 3, 1) := by decide +kernel
theorem dX2_readNewHour_12 : decode cX2_readNewHour 12 = .ok (.iconst (-1), 1) := by decide +kernel
theorem dX2_readNewHour_13 : decode cX2_readNewHour 13 = .ok (.if_icmp .ne 5, 3) := by decide +kernel
theorem dX2_readNewHour_16 : decode cX2_readNewHour 16 = .ok (.iconst (-1), 1) := by decide +kernel
theorem dX2_readNewHour_17 : decode cX2_readNewHour 17 = .ok (.ireturn, 1) := by decide +kernel
theorem dX2_readNewHour_18 : decode cX2_readNewHour 18 = .ok (.aload_n 1, 1) := by decide +kernel
theorem dX2_readNewHour_19 : decode cX2_readNewHour 19 = .ok (.iload_n 2, 1) := by decide +kernel
theorem dX2_readNewHour_20 : decode cX2_readNewHour 20 = .ok (.invokestatic 139, 3) := by decide +kernel
theorem dX2_readNewHour_23 : decode cX2_readNewHour 23 = .ok (.istore 4, 2) := by decide +kernel
theorem dX2_readNewHour_25 : decode cX2_readNewHour 25 = .ok (.iload 4, 2) := by decide +kernel
theorem dX2_readNewHour_27 : decode cX2_readNewHour 27 = .ok (.iload_n 3, 1) := by decide +kernel
theorem dX2_readNewHour_28 : decode cX2_readNewHour 28 = .ok (.iushr, 1) := by decide +kernel
theorem dX2_readNewHour_29 : decode cX2_readNewHour 29 = .ok (.iconst 1, 1) := by decide +kernel
theorem dX2_readNewHour_30 : decode cX2_readNewHour 30 = .ok (.iand, 1) := by decide +kernel
theorem dX2_readNewHour_31 : decode cX2_readNewHour 31 = .ok (.iconst 1, 1) := by decide +kernel
theorem dX2_readNewHour_32 : decode cX2_readNewHour 32 = .ok (.if_icmp .ne 25, 3) := by decide +kernel
theorem dX2_readNewHour_35 : decode cX2_readNewHour 35 = .ok (.aload_n 0, 1) := by decide +kernel
theorem dX2_readNewHour_36 : decode cX2_readNewHour 36 = .ok (.getfield 22, 3) := by decide +kernel
theorem dX2_readNewHour_39 : decode cX2_readNewHour 39 = .ok (.dup, 1) := by decide +kernel
theorem dX2_readNewHour_40 : decode cX2_readNewHour 40 = .ok (.getfield 71, 3) := by decide +kernel
theorem dX2_readNewHour_43 : decode cX2_readNewHour 43 = .ok (.iconst 1, 1) := by decide +kernel
theorem dX2_readNewHour_44 : decode cX2_readNewHour 44 = .ok (.isub, 1) := by decide +kernel
theorem dX2_readNewHour_45 : decode cX2_readNewHour 45 = .ok (.putfield 71, 3) := by decide +kernel
theorem dX2_readNewHour_48 : decode cX2_readNewHour 48 = .ok (.aload_n 0, 1) := by decide +kernel
theorem dX2_readNewHour_49 : decode cX2_readNewHour 49 = .ok (.getfield 22, 3) := by decide +kernel
theorem dX2_readNewHour_52 : decode cX2_readNewHour 52 = .ok (.iconst 3, 1) := by decide +kernel
theorem dX2_readNewHour_53 : decode cX2_readNewHour 53 = .ok (.invokevirtual 57, 3) := by decide +kernel
theorem dX2_readNewHour_56 : decode cX2_readNewHour 56 = .ok (.ireturn, 1) := by decide +kernel
theorem dX2_readNewHour_57 : decode cX2_readNewHour 57 = .ok (.aload_n 1, 1) := by decide +kernel
theorem dX2_readNewHour_58 : decode cX2_readNewHour 58 = .ok (.iload_n 2, 1) := by decide +kernel
theorem dX2_readNewHour_59 : decode cX2_readNewHour 59 = .ok (.iload 4, 2) := by decide +kernel
theorem dX2_readNewHour_61 : decode cX2_readNewHour 61 = .ok (.iconst 1, 1) := by decide +kernel
theorem dX2_readNewHour_62 : decode cX2_readNewHour 62 = .ok (.iload_n 3, 1) := by decide +kernel
theorem dX2_readNewHour_63 : decode cX2_readNewHour 63 = .ok (.ishl, 1) := by decide +kernel
theorem dX2_readNewHour_64 : decode cX2_readNewHour 64 = .ok (.ior, 1) := by decide +kernel
theorem dX2_readNewHour_65 : decode cX2_readNewHour 65 = .ok (.invokestatic 97, 3) := by decide +kernel
theorem dX2_readNewHour_68 : decode cX2_readNewHour 68 = .ok (.iload_n 3, 1) := by decide +kernel
theorem dX2_readNewHour_69 : decode cX2_readNewHour 69 = .ok (.ireturn, 1) := by decide +kernel
theorem dX2_readTurnLine_0 : decode cX2_readTurnLine 0 = .ok (.aload_n 0, 1) := by decide +kernel
theorem dX2_readTurnLine_1 : decode cX2_readTurnLine 1 = .ok (.getfield 22, 3) := by decide +kernel
theorem dX2_readTurnLine_4 : decode cX2_readTurnLine 4 = .ok (.dup, 1) := by decide +kernel
theorem dX2_readTurnLine_5 : decode cX2_readTurnLine 5 = .ok (.getfield 71, 3) := by decide +kernel
theorem dX2_readTurnLine_8 : decode cX2_readTurnLine 8 = .ok (.iconst 1, 1) := by decide +kernel
theorem dX2_readTurnLine_9 : decode cX2_readTurnLine 9 = .ok (.iadd, 1) := by decide +kernel
theorem dX2_readTurnLine_10 : decode cX2_readTurnLine 10 = .ok (.putfield 71, 3) := by decide +kernel
theorem dX2_readTurnLine_13 : decode cX2_readTurnLine 13 = .ok (.aload_n 0, 1) := by decide +kernel
theorem dX2_readTurnLine_14 : decode cX2_readTurnLine 14 = .ok (.getfield 22, 3) := by decide +kernel
theorem dX2_readTurnLine_17 : decode cX2_readTurnLine 17 = .ok (.iconst 0, 1) := by decide +kernel
theorem dX2_readTurnLine_18 : decode cX2_readTurnLine 18 = .ok (.bipush 29, 2) := by decide +kernel
theorem dX2_readTurnLine_20 : decode cX2_readTurnLine 20 = .ok (.invokevirtual 82, 3) := by decide +kernel
theorem dX2_readTurnLine_23 : decode cX2_readTurnLine 23 = .ok (.istore_n 1, 1) := by decide +kernel
theorem dX2_readTurnLine_24 : decode cX2_readTurnLine 24 = .ok (.iload_n 1, 1) := by decide +kernel
theorem dX2_readTurnLine_25 : decode cX2_readTurnLine 25 = .ok (.iconst (-1), 1) := by decide +kernel
theorem dX2_readTurnLine_26 : decode cX2_readTurnLine 26 = .ok (.if_icmp .ne 5, 3) := by decide +kernel
theorem dX2_readTurnLine_29 : decode cX2_readTurnLine 29 = .ok (.iconst 0, 1) := by decide +kernel
theorem dX2_readTurnLine_30 : decode cX2_readTurnLine 30 = .ok (.ireturn, 1) := by decide +kernel
theorem dX2_readTurnLine_31 : decode cX2_readTurnLine 31 = .ok (.aload_n 0, 1) := by decide +kernel
theorem dX2_readTurnLine_32 : decode cX2_readTurnLine 32 = .ok (.getfield 12, 3) := by decide +kernel
theorem dX2_readTurnLine_35 : decode cX2_readTurnLine 35 = .ok (.getfield 142, 3) := by decide +kernel
theorem dX2_readTurnLine_38 : decode cX2_readTurnLine 38 = .ok (.iload_n 1, 1) := by decide +kernel
theorem dX2_readTurnLine_39 : decode cX2_readTurnLine 39 = .ok (.invokestatic 139, 3) := by decide +kernel
theorem dX2_readTurnLine_42 : decode cX2_readTurnLine 42 = .ok (.iconst (-1), 1) := by decide +kernel
theorem dX2_readTurnLine_43 : decode cX2_readTurnLine 43 = .ok (.if_icmp .eq 27, 3) := by decide +kernel
theorem dX2_readTurnLine_46 : decode cX2_readTurnLine 46 = .ok (.aload_n 0, 1) := by decide +kernel
theorem dX2_readTurnLine_47 : decode cX2_readTurnLine 47 = .ok (.getfield 22, 3) := by decide +kernel
theorem dX2_readTurnLine_50 : decode cX2_readTurnLine 50 = .ok (.dup, 1) := by decide +kernel
theorem dX2_readTurnLine_51 : decode cX2_readTurnLine 51 = .ok (.getfield 71, 3) := by decide +kernel
theorem dX2_readTurnLine_54 : decode cX2_readTurnLine 54 = .ok (.iconst 1, 1) := by decide +kernel
theorem dX2_readTurnLine_55 : decode cX2_readTurnLine 55 = .ok (.isub, 1) := by decide +kernel
theorem dX2_readTurnLine_56 : decode cX2_readTurnLine 56 = .ok (.putfield 71, 3) := by decide +kernel
theorem dX2_readTurnLine_59 : decode cX2_readTurnLine 59 = .ok (.aload_n 0, 1) := by decide +kernel
theorem dX2_readTurnLine_60 : decode cX2_readTurnLine 60 = .ok (.getfield 22, 3) := by decide +kernel
theorem dX2_readTurnLine_63 : decode cX2_readTurnLine 63 = .ok (.iconst 3, 1) := by decide +kernel
theorem dX2_readTurnLine_64 : decode cX2_readTurnLine 64 = .ok (.invokevirtual 57, 3) := by decide +kernel
theorem dX2_readTurnLine_67 : decode cX2_readTurnLine 67 = .ok (.pop, 1) := by decide +kernel
theorem dX2_readTurnLine_68 : decode cX2_readTurnLine 68 = .ok (.iconst 0, 1) := by decide +kernel
theorem dX2_readTurnLine_69 : decode cX2_readTurnLine 69 = .ok (.ireturn, 1) := by decide +kernel
theorem dX2_readTurnLine_70 : decode cX2_readTurnLine 70 = .ok (.aload_n 0, 1) := by decide +kernel
theorem dX2_readTurnLine_71 : decode cX2_readTurnLine 71 = .ok (.getfield 22, 3) := by decide +kernel
theorem dX2_readTurnLine_74 : decode cX2_readTurnLine 74 = .ok (.aload_n 0, 1) := by decide +kernel
theorem dX2_readTurnLine_75 : decode cX2_readTurnLine 75 = .ok (.getfield 12, 3) := by decide +kernel
theorem dX2_readTurnLine_78 : decode cX2_readTurnLine 78 = .ok (.invokevirtual 129, 3) := by decide +kernel
theorem dX2_readTurnLine_81 : decode cX2_readTurnLine 81 = .ok (.istore_n 2, 1) := by decide +kernel
theorem dX2_readTurnLine_82 : decode cX2_readTurnLine 82 = .ok (.aload_n 0, 1) := by decide +kernel
theorem dX2_readTurnLine_83 : decode cX2_readTurnLine 83 = .ok (.getfield 12, 3) := by decide +kernel
theorem dX2_readTurnLine_86 : decode cX2_readTurnLine 86 = .ok (.getfield 142, 3) := by decide +kernel
theorem dX2_readTurnLine_89 : decode cX2_readTurnLine 89 = .ok (.iload_n 1, 1) := by decide +kernel
theorem dX2_readTurnLine_90 : decode cX2_readTurnLine 90 = .ok (.iload_n 2, 1) := by decide +kernel
theorem dX2_readTurnLine_91 : decode cX2_readTurnLine 91 = .ok (.invokestatic 97, 3) := by decide +kernel
theorem dX2_readTurnLine_94 : decode cX2_readTurnLine 94 = .ok (.iload_n 2, 1) := by decide +kernel
theorem dX2_readTurnLine_95 : decode cX2_readTurnLine 95 = .ok (.iconst (-1), 1) := by decide +kernel
theorem dX2_readTurnLine_96 : decode cX2_readTurnLine 96 = .ok (.if_icmp .eq 7, 3) := by decide +kernel
theorem dX2_readTurnLine_99 : decode cX2_readTurnLine 99 = .ok (.iconst 1, 1) := by decide +kernel
theorem dX2_readTurnLine_100 : decode cX2_readTurnLine 100 = .ok (.goto 4, 3) := by decide +kernel
theorem dX2_readTurnLine_103 : decode cX2_readTurnLine 103 = .ok (.iconst 0, 1) := by decide +kernel
theorem dX2_readTurnLine_104 : decode cX2_readTurnLine 104 = .ok (.ireturn, 1) := by decide +kernel
theorem dX2_readWantsLine_0 : decode cX2_readWantsLine 0 = .ok (.aload_n 0, 1) := by decide +kernel
theorem dX2_readWantsLine_1 : decode cX2_readWantsLine 1 = .ok (.getfield 22, 3) := by decide +kernel
theorem dX2_readWantsLine_4 : decode cX2_readWantsLine 4 = .ok (.dup, 1) := by decide +kernel
theorem dX2_readWantsLine_5 : decode cX2_readWantsLine 5 = .ok (.getfield 71, 3) := by decide +kernel
theorem dX2_readWantsLine_8 : decode cX2_readWantsLine 8 = .ok (.iconst 1, 1) := by decide +kernel
theorem dX2_readWantsLine_9 : decode cX2_readWantsLine 9 = .ok (.iadd, 1) := by decide +kernel
theorem dX2_readWantsLine_10 : decode cX2_readWantsLine 10 = .ok (.putfield 71, 3) := by decide +kernel
theorem dX2_readWantsLine_13 : decode cX2_readWantsLine 13 = .ok (.aload_n 0, 1) := by decide +kernel
theorem dX2_readWantsLine_14 : decode cX2_readWantsLine 14 = .ok (.getfield 22, 3) := by decide +kernel
theorem dX2_readWantsLine_17 : decode cX2_readWantsLine 17 = .ok (.aload_n 0, 1) := by decide +kernel
theorem dX2_readWantsLine_18 : decode cX2_readWantsLine 18 = .ok (.getfield 12, 3) := by decide +kernel
theorem dX2_readWantsLine_21 : decode cX2_readWantsLine 21 = .ok (.invokevirtual 129, 3) := by decide +kernel
theorem dX2_readWantsLine_24 : decode cX2_readWantsLine 24 = .ok (.istore_n 1, 1) := by decide +kernel
theorem dX2_readWantsLine_25 : decode cX2_readWantsLine 25 = .ok (.iload_n 1, 1) := by decide +kernel
theorem dX2_readWantsLine_26 : decode cX2_readWantsLine 26 = .ok (.iconst (-1), 1) := by decide +kernel
theorem dX2_readWantsLine_27 : decode cX2_readWantsLine 27 = .ok (.if_icmp .ne 7, 3) := by decide +kernel
theorem dX2_readWantsLine_30 : decode cX2_readWantsLine 30 = .ok (.iconst (-1), 1) := by decide +kernel
theorem dX2_readWantsLine_31 : decode cX2_readWantsLine 31 = .ok (.goto 12, 3) := by decide +kernel
theorem dX2_readWantsLine_34 : decode cX2_readWantsLine 34 = .ok (.aload_n 0, 1) := by decide +kernel
theorem dX2_readWantsLine_35 : decode cX2_readWantsLine 35 = .ok (.aload_n 0, 1) := by decide +kernel
theorem dX2_readWantsLine_36 : decode cX2_readWantsLine 36 = .ok (.getfield 18, 3) := by decide +kernel
theorem dX2_readWantsLine_39 : decode cX2_readWantsLine 39 = .ok (.iload_n 1, 1) := by decide +kernel
theorem dX2_readWantsLine_40 : decode cX2_readWantsLine 40 = .ok (.invokevirtual 135, 3) := by decide +kernel
theorem dX2_readWantsLine_43 : decode cX2_readWantsLine 43 = .ok (.istore_n 2, 1) := by decide +kernel
theorem dX2_readWantsLine_44 : decode cX2_readWantsLine 44 = .ok (.iload_n 2, 1) := by decide +kernel
theorem dX2_readWantsLine_45 : decode cX2_readWantsLine 45 = .ok (.iconst (-1), 1) := by decide +kernel
theorem dX2_readWantsLine_46 : decode cX2_readWantsLine 46 = .ok (.if_icmp .ne 7, 3) := by decide +kernel
theorem dX2_readWantsLine_49 : decode cX2_readWantsLine 49 = .ok (.iconst (-1), 1) := by decide +kernel
theorem dX2_readWantsLine_50 : decode cX2_readWantsLine 50 = .ok (.goto 13, 3) := by decide +kernel
theorem dX2_readWantsLine_53 : decode cX2_readWantsLine 53 = .ok (.aload_n 0, 1) := by decide +kernel
theorem dX2_readWantsLine_54 : decode cX2_readWantsLine 54 = .ok (.getfield 22, 3) := by decide +kernel
theorem dX2_readWantsLine_57 : decode cX2_readWantsLine 57 = .ok (.iconst 0, 1) := by decide +kernel
theorem dX2_readWantsLine_58 : decode cX2_readWantsLine 58 = .ok (.bipush 99, 2) := by decide +kernel
theorem dX2_readWantsLine_60 : decode cX2_readWantsLine 60 = .ok (.invokevirtual 82, 3) := by decide +kernel
theorem dX2_readWantsLine_63 : decode cX2_readWantsLine 63 = .ok (.istore_n 3, 1) := by decide +kernel
theorem dX2_readWantsLine_64 : decode cX2_readWantsLine 64 = .ok (.iload_n 3, 1) := by decide +kernel
theorem dX2_readWantsLine_65 : decode cX2_readWantsLine 65 = .ok (.iconst (-1), 1) := by decide +kernel
theorem dX2_readWantsLine_66 : decode cX2_readWantsLine 66 = .ok (.if_icmp .ne 5, 3) := by decide +kernel
theorem dX2_readWantsLine_69 : decode cX2_readWantsLine 69 = .ok (.iconst 0, 1) := by decide +kernel
theorem dX2_readWantsLine_70 : decode cX2_readWantsLine 70 = .ok (.ireturn, 1) := by decide +kernel
theorem dX2_readWantsLine_71 : decode cX2_readWantsLine 71 = .ok (.aload_n 0, 1) := by decide +kernel
theorem dX2_readWantsLine_72 : decode cX2_readWantsLine 72 = .ok (.getfield 12, 3) := by decide +kernel
theorem dX2_readWantsLine_75 : decode cX2_readWantsLine 75 = .ok (.getfield 145, 3) := by decide +kernel
theorem dX2_readWantsLine_78 : decode cX2_readWantsLine 78 = .ok (.iload_n 1, 1) := by decide +kernel
theorem dX2_readWantsLine_79 : decode cX2_readWantsLine 79 = .ok (.bipush 30, 2) := by decide +kernel
theorem dX2_readWantsLine_81 : decode cX2_readWantsLine 81 = .ok (.imul, 1) := by decide +kernel
theorem dX2_readWantsLine_82 : decode cX2_readWantsLine 82 = .ok (.iload_n 2, 1) := by decide +kernel
theorem dX2_readWantsLine_83 : decode cX2_readWantsLine 83 = .ok (.iadd, 1) := by decide +kernel
theorem dX2_readWantsLine_84 : decode cX2_readWantsLine 84 = .ok (.iload_n 3, 1) := by decide +kernel
theorem dX2_readWantsLine_85 : decode cX2_readWantsLine 85 = .ok (.invokestatic 97, 3) := by decide +kernel
theorem dX2_readWantsLine_88 : decode cX2_readWantsLine 88 = .ok (.iconst 1, 1) := by decide +kernel
theorem dX2_readWantsLine_89 : decode cX2_readWantsLine 89 = .ok (.ireturn, 1) := by decide +kernel
theorem dX3_readAll_0 : decode cX3_readAll 0 = .ok (.aload_n 0, 1) := by decide +kernel
theorem dX3_readAll_1 : decode cX3_readAll 1 = .ok (.getfield 9, 3) := by decide +kernel
theorem dX3_readAll_4 : decode cX3_readAll 4 = .ok (.iconst (-1), 1) := by decide +kernel
theorem dX3_readAll_5 : decode cX3_readAll 5 = .ok (.invokestatic 19, 3) := by decide +kernel
theorem dX3_readAll_8 : decode cX3_readAll 8 = .ok (.iconst 0, 1) := by decide +kernel
theorem dX3_readAll_9 : decode cX3_readAll 9 = .ok (.istore_n 2, 1) := by decide +kernel
theorem dX3_readAll_10 : decode cX3_readAll 10 = .ok (.iconst 0, 1) := by decide +kernel
theorem dX3_readAll_11 : decode cX3_readAll 11 = .ok (.istore_n 3, 1) := by decide +kernel
theorem dX3_readAll_12 : decode cX3_readAll 12 = .ok (.iload_n 3, 1) := by decide +kernel
theorem dX3_readAll_13 : decode cX3_readAll 13 = .ok (.sipush 940, 3) := by decide +kernel
theorem dX3_readAll_16 : decode cX3_readAll 16 = .ok (.if_icmp .ge 32, 3) := by decide +kernel
theorem dX3_readAll_19 : decode cX3_readAll 19 = .ok (.aload_n 0, 1) := by decide +kernel
theorem dX3_readAll_20 : decode cX3_readAll 20 = .ok (.getfield 15, 3) := by decide +kernel
theorem dX3_readAll_23 : decode cX3_readAll 23 = .ok (.invokevirtual 25, 3) := by decide +kernel
theorem dX3_readAll_26 : decode cX3_readAll 26 = .ok (.ifCond .eq 22, 3) := by decide +kernel
theorem dX3_readAll_29 : decode cX3_readAll 29 = .ok (.aload_n 0, 1) := by decide +kernel
theorem dX3_readAll_30 : decode cX3_readAll 30 = .ok (.aload_n 1, 1) := by decide +kernel
theorem dX3_readAll_31 : decode cX3_readAll 31 = .ok (.invokevirtual 31, 3) := by decide +kernel
theorem dX3_readAll_34 : decode cX3_readAll 34 = .ok (.ifCond .ne 5, 3) := by decide +kernel
theorem dX3_readAll_37 : decode cX3_readAll 37 = .ok (.iconst (-1), 1) := by decide +kernel
theorem dX3_readAll_38 : decode cX3_readAll 38 = .ok (.ireturn, 1) := by decide +kernel
theorem dX3_readAll_39 : decode cX3_readAll 39 = .ok (.iinc 2 1, 3) := by decide +kernel
theorem dX3_readAll_42 : decode cX3_readAll 42 = .ok (.iinc 3 1, 3) := by decide +kernel
theorem dX3_readAll_45 : decode cX3_readAll 45 = .ok (.goto (-33), 3) := by decide +kernel
theorem dX3_readAll_48 : decode cX3_readAll 48 = .ok (.iload_n 2, 1) := by decide +kernel
theorem dX3_readAll_49 : decode cX3_readAll 49 = .ok (.ireturn, 1) := by decide +kernel
theorem dX3_readLine_0 : decode cX3_readLine 0 = .ok (.aload_n 0, 1) := by decide +kernel
theorem dX3_readLine_1 : decode cX3_readLine 1 = .ok (.getfield 15, 3) := by decide +kernel
theorem dX3_readLine_4 : decode cX3_readLine 4 = .ok (.aload_n 1, 1) := by decide +kernel
theorem dX3_readLine_5 : decode cX3_readLine 5 = .ok (.invokevirtual 35, 3) := by decide +kernel
theorem dX3_readLine_8 : decode cX3_readLine 8 = .ok (.istore_n 2, 1) := by decide +kernel
theorem dX3_readLine_9 : decode cX3_readLine 9 = .ok (.iload_n 2, 1) := by decide +kernel
theorem dX3_readLine_10 : decode cX3_readLine 10 = .ok (.iconst (-1), 1) := by decide +kernel
theorem dX3_readLine_11 : decode cX3_readLine 11 = .ok (.if_icmp .ne 7, 3) := by decide +kernel
theorem dX3_readLine_14 : decode cX3_readLine 14 = .ok (.iconst (-1), 1) := by decide +kernel
theorem dX3_readLine_15 : decode cX3_readLine 15 = .ok (.goto 13, 3) := by decide +kernel
theorem dX3_readLine_18 : decode cX3_readLine 18 = .ok (.aload_n 0, 1) := by decide +kernel
theorem dX3_readLine_19 : decode cX3_readLine 19 = .ok (.getfield 15, 3) := by decide +kernel
theorem dX3_readLine_22 : decode cX3_readLine 22 = .ok (.iconst 0, 1) := by decide +kernel
theorem dX3_readLine_23 : decode cX3_readLine 23 = .ok (.bipush 29, 2) := by decide +kernel
theorem dX3_readLine_25 : decode cX3_readLine 25 = .ok (.invokevirtual 39, 3) := by decide +kernel
theorem dX3_readLine_28 : decode cX3_readLine 28 = .ok (.istore_n 3, 1) := by decide +kernel
theorem dX3_readLine_29 : decode cX3_readLine 29 = .ok (.iload_n 3, 1) := by decide +kernel
theorem dX3_readLine_30 : decode cX3_readLine 30 = .ok (.iconst (-1), 1) := by decide +kernel
theorem dX3_readLine_31 : decode cX3_readLine 31 = .ok (.if_icmp .ne 7, 3) := by decide +kernel
theorem dX3_readLine_34 : decode cX3_readLine 34 = .ok (.iconst (-1), 1) := by decide +kernel
theorem dX3_readLine_35 : decode cX3_readLine 35 = .ok (.goto 13, 3) := by decide +kernel
theorem dX3_readLine_38 : decode cX3_readLine 38 = .ok (.aload_n 0, 1) := by decide +kernel
theorem dX3_readLine_39 : decode cX3_readLine 39 = .ok (.getfield 15, 3) := by decide +kernel
theorem dX3_readLine_42 : decode cX3_readLine 42 = .ok (.iload_n 3, 1) := by decide +kernel
theorem dX3_readLine_43 : decode cX3_readLine 43 = .ok (.bipush 29, 2) := by decide +kernel
theorem dX3_readLine_45 : decode cX3_readLine 45 = .ok (.invokevirtual 39, 3) := by decide +kernel
theorem dX3_readLine_48 : decode cX3_readLine 48 = .ok (.istore 4, 2) := by decide +kernel
theorem dX3_readLine_50 : decode cX3_readLine 50 = .ok (.iload 4, 2) := by decide +kernel
theorem dX3_readLine_52 : decode cX3_readLine 52 = .ok (.iconst (-1), 1) := by decide +kernel
theorem dX3_readLine_53 : decode cX3_readLine 53 = .ok (.if_icmp .ne 7, 3) := by decide +kernel
theorem dX3_readLine_56 : decode cX3_readLine 56 = .ok (.iconst (-1), 1) := by decide +kernel
theorem dX3_readLine_57 : decode cX3_readLine 57 = .ok (.goto 13, 3) := by decide +kernel
theorem dX3_readLine_60 : decode cX3_readLine 60 = .ok (.aload_n 0, 1) := by decide +kernel
theorem dX3_readLine_61 : decode cX3_readLine 61 = .ok (.getfield 15, 3) := by decide +kernel
theorem dX3_readLine_64 : decode cX3_readLine 64 = .ok (.iconst 1, 1) := by decide +kernel
theorem dX3_readLine_65 : decode cX3_readLine 65 = .ok (.bipush 30, 2) := by decide +kernel
theorem dX3_readLine_67 : decode cX3_readLine 67 = .ok (.invokevirtual 39, 3) := by decide +kernel
theorem dX3_readLine_70 : decode cX3_readLine 70 = .ok (.istore 5, 2) := by decide +kernel
theorem dX3_readLine_72 : decode cX3_readLine 72 = .ok (.iload 5, 2) := by decide +kernel
theorem dX3_readLine_74 : decode cX3_readLine 74 = .ok (.iconst (-1), 1) := by decide +kernel
theorem dX3_readLine_75 : decode cX3_readLine 75 = .ok (.if_icmp .eq 13, 3) := by decide +kernel
theorem dX3_readLine_78 : decode cX3_readLine 78 = .ok (.aload_n 0, 1) := by decide +kernel
theorem dX3_readLine_79 : decode cX3_readLine 79 = .ok (.getfield 15, 3) := by decide +kernel
theorem dX3_readLine_82 : decode cX3_readLine 82 = .ok (.invokevirtual 43, 3) := by decide +kernel
theorem dX3_readLine_85 : decode cX3_readLine 85 = .ok (.ifCond .ne 5, 3) := by decide +kernel
theorem dX3_readLine_88 : decode cX3_readLine 88 = .ok (.iconst 0, 1) := by decide +kernel
theorem dX3_readLine_89 : decode cX3_readLine 89 = .ok (.ireturn, 1) := by decide +kernel
theorem dX3_readLine_90 : decode cX3_readLine 90 = .ok (.iload_n 3, 1) := by decide +kernel
theorem dX3_readLine_91 : decode cX3_readLine 91 = .ok (.istore 6, 2) := by decide +kernel
theorem dX3_readLine_93 : decode cX3_readLine 93 = .ok (.iconst 0, 1) := by decide +kernel
theorem dX3_readLine_94 : decode cX3_readLine 94 = .ok (.istore 7, 2) := by decide +kernel
theorem dX3_readLine_96 : decode cX3_readLine 96 = .ok (.iload 7, 2) := by decide +kernel
theorem dX3_readLine_98 : decode cX3_readLine 98 = .ok (.bipush 30, 2) := by decide +kernel
theorem dX3_readLine_100 : decode cX3_readLine 100 = .ok (.if_icmp .ge 46, 3) := by decide +kernel
theorem dX3_readLine_103 : decode cX3_readLine 103 = .ok (.iload 6, 2) := by decide +kernel
theorem dX3_readLine_105 : decode cX3_readLine 105 = .ok (.iload 4, 2) := by decide +kernel
theorem dX3_readLine_107 : decode cX3_readLine 107 = .ok (.if_icmp .gt 39, 3) := by decide +kernel
theorem dX3_readLine_110 : decode cX3_readLine 110 = .ok (.aload_n 0, 1) := by decide +kernel
theorem dX3_readLine_111 : decode cX3_readLine 111 = .ok (.getfield 9, 3) := by decide +kernel
theorem dX3_readLine_114 : decode cX3_readLine 114 = .ok (.iload 6, 2) := by decide +kernel
theorem dX3_readLine_116 : decode cX3_readLine 116 = .ok (.invokestatic 47, 3) := by decide +kernel
theorem dX3_readLine_119 : decode cX3_readLine 119 = .ok (.iconst (-1), 1) := by decide +kernel
theorem dX3_readLine_120 : decode cX3_readLine 120 = .ok (.if_icmp .ne 13, 3) := by decide +kernel
theorem dX3_readLine_123 : decode cX3_readLine 123 = .ok (.aload_n 0, 1) := by decide +kernel
theorem dX3_readLine_124 : decode cX3_readLine 124 = .ok (.getfield 9, 3) := by decide +kernel
theorem dX3_readLine_127 : decode cX3_readLine 127 = .ok (.iload 6, 2) := by decide +kernel
theorem dX3_readLine_129 : decode cX3_readLine 129 = .ok (.iload_n 2, 1) := by decide +kernel
theorem dX3_readLine_130 : decode cX3_readLine 130 = .ok (.invokestatic 51, 3) := by decide +kernel
theorem dX3_readLine_133 : decode cX3_readLine 133 = .ok (.iload 6, 2) := by decide +kernel
theorem dX3_readLine_135 : decode cX3_readLine 135 = .ok (.iload 5, 2) := by decide +kernel
theorem dX3_readLine_137 : decode cX3_readLine 137 = .ok (.iadd, 1) := by decide +kernel
theorem dX3_readLine_138 : decode cX3_readLine 138 = .ok (.istore 6, 2) := by decide +kernel
theorem dX3_readLine_140 : decode cX3_readLine 140 = .ok (.iinc 7 1, 3) := by decide +kernel
theorem dX3_readLine_143 : decode cX3_readLine 143 = .ok (.goto (-47), 3) := by decide +kernel
theorem dX3_readLine_146 : decode cX3_readLine 146 = .ok (.iconst 1, 1) := by decide +kernel
theorem dX3_readLine_147 : decode cX3_readLine 147 = .ok (.ireturn, 1) := by decide +kernel
theorem dX4_hold_0 : decode cX4_hold 0 = .ok (.aload_n 0, 1) := by decide +kernel
theorem dX4_hold_1 : decode cX4_hold 1 = .ok (.aload_n 1, 1) := by decide +kernel
theorem dX4_hold_2 : decode cX4_hold 2 = .ok (.getfield 31, 3) := by decide +kernel
theorem dX4_hold_5 : decode cX4_hold 5 = .ok (.iload_n 2, 1) := by decide +kernel
theorem dX4_hold_6 : decode cX4_hold 6 = .ok (.invokestatic 36, 3) := by decide +kernel
theorem dX4_hold_9 : decode cX4_hold 9 = .ok (.aload_n 1, 1) := by decide +kernel
theorem dX4_hold_10 : decode cX4_hold 10 = .ok (.getfield 40, 3) := by decide +kernel
theorem dX4_hold_13 : decode cX4_hold 13 = .ok (.iload_n 2, 1) := by decide +kernel
theorem dX4_hold_14 : decode cX4_hold 14 = .ok (.invokestatic 36, 3) := by decide +kernel
theorem dX4_hold_17 : decode cX4_hold 17 = .ok (.invokevirtual 43, 3) := by decide +kernel
theorem dX4_hold_20 : decode cX4_hold 20 = .ok (.aload_n 1, 1) := by decide +kernel
theorem dX4_hold_21 : decode cX4_hold 21 = .ok (.getfield 47, 3) := by decide +kernel
theorem dX4_hold_24 : decode cX4_hold 24 = .ok (.iload_n 2, 1) := by decide +kernel
theorem dX4_hold_25 : decode cX4_hold 25 = .ok (.invokestatic 36, 3) := by decide +kernel
theorem dX4_hold_28 : decode cX4_hold 28 = .ok (.istore 5, 2) := by decide +kernel
theorem dX4_hold_30 : decode cX4_hold 30 = .ok (.lconst 1, 1) := by decide +kernel
theorem dX4_hold_31 : decode cX4_hold 31 = .ok (.aload_n 0, 1) := by decide +kernel
theorem dX4_hold_32 : decode cX4_hold 32 = .ok (.getfield 25, 3) := by decide +kernel
theorem dX4_hold_35 : decode cX4_hold 35 = .ok (.lshl, 1) := by decide +kernel
theorem dX4_hold_36 : decode cX4_hold 36 = .ok (.lconst 1, 1) := by decide +kernel
theorem dX4_hold_37 : decode cX4_hold 37 = .ok (.lsub, 1) := by decide +kernel
theorem dX4_hold_38 : decode cX4_hold 38 = .ok (.lstore 6, 2) := by decide +kernel
theorem dX4_hold_40 : decode cX4_hold 40 = .ok (.iconst 1, 1) := by decide +kernel
theorem dX4_hold_41 : decode cX4_hold 41 = .ok (.istore 8, 2) := by decide +kernel
theorem dX4_hold_43 : decode cX4_hold 43 = .ok (.aload_n 0, 1) := by decide +kernel
theorem dX4_hold_44 : decode cX4_hold 44 = .ok (.iconst 0, 1) := by decide +kernel
theorem dX4_hold_45 : decode cX4_hold 45 = .ok (.putfield 9, 3) := by decide +kernel
theorem dX4_hold_48 : decode cX4_hold 48 = .ok (.iconst 0, 1) := by decide +kernel
theorem dX4_hold_49 : decode cX4_hold 49 = .ok (.istore 9, 2) := by decide +kernel
theorem dX4_hold_51 : decode cX4_hold 51 = .ok (.iload 9, 2) := by decide +kernel
theorem dX4_hold_53 : decode cX4_hold 53 = .ok (.bipush 37, 2) := by decide +kernel
theorem dX4_hold_55 : decode cX4_hold 55 = .ok (.if_icmp .ge 72, 3) := by decide +kernel
theorem dX4_hold_58 : decode cX4_hold 58 = .ok (.iload 8, 2) := by decide +kernel
theorem dX4_hold_60 : decode cX4_hold 60 = .ok (.ifCond .eq 67, 3) := by decide +kernel
theorem dX4_hold_63 : decode cX4_hold 63 = .ok (.lload 6, 2) := by decide +kernel
theorem dX4_hold_65 : decode cX4_hold 65 = .ok (.lstore 10, 2) := by decide +kernel
theorem dX4_hold_67 : decode cX4_hold 67 = .ok (.iconst 0, 1) := by decide +kernel
theorem dX4_hold_68 : decode cX4_hold 68 = .ok (.istore 12, 2) := by decide +kernel
theorem dX4_hold_70 : decode cX4_hold 70 = .ok (.iload 12, 2) := by decide +kernel
theorem dX4_hold_72 : decode cX4_hold 72 = .ok (.iload 4, 2) := by decide +kernel
theorem dX4_hold_74 : decode cX4_hold 74 = .ok (.if_icmp .ge 32, 3) := by decide +kernel
theorem dX4_hold_77 : decode cX4_hold 77 = .ok (.aload_n 0, 1) := by decide +kernel
theorem dX4_hold_78 : decode cX4_hold 78 = .ok (.lload 6, 2) := by decide +kernel
theorem dX4_hold_80 : decode cX4_hold 80 = .ok (.iload 5, 2) := by decide +kernel
theorem dX4_hold_82 : decode cX4_hold 82 = .ok (.aload_n 1, 1) := by decide +kernel
theorem dX4_hold_83 : decode cX4_hold 83 = .ok (.getfield 50, 3) := by decide +kernel
theorem dX4_hold_86 : decode cX4_hold 86 = .ok (.aload_n 3, 1) := by decide +kernel
theorem dX4_hold_87 : decode cX4_hold 87 = .ok (.iload 12, 2) := by decide +kernel
theorem dX4_hold_89 : decode cX4_hold 89 = .ok (.invokestatic 36, 3) := by decide +kernel
theorem dX4_hold_92 : decode cX4_hold 92 = .ok (.invokestatic 36, 3) := by decide +kernel
theorem dX4_hold_95 : decode cX4_hold 95 = .ok (.invokevirtual 53, 3) := by decide +kernel
theorem dX4_hold_98 : decode cX4_hold 98 = .ok (.lstore 6, 2) := by decide +kernel
theorem dX4_hold_100 : decode cX4_hold 100 = .ok (.iinc 12 1, 3) := by decide +kernel
theorem dX4_hold_103 : decode cX4_hold 103 = .ok (.goto (-33), 3) := by decide +kernel
theorem dX4_hold_106 : decode cX4_hold 106 = .ok (.lload 6, 2) := by decide +kernel
theorem dX4_hold_108 : decode cX4_hold 108 = .ok (.lload 10, 2) := by decide +kernel
theorem dX4_hold_110 : decode cX4_hold 110 = .ok (.lcmp, 1) := by decide +kernel
theorem dX4_hold_111 : decode cX4_hold 111 = .ok (.ifCond .eq 7, 3) := by decide +kernel
theorem dX4_hold_114 : decode cX4_hold 114 = .ok (.iconst 1, 1) := by decide +kernel
theorem dX4_hold_115 : decode cX4_hold 115 = .ok (.goto 4, 3) := by decide +kernel
theorem dX4_hold_118 : decode cX4_hold 118 = .ok (.iconst 0, 1) := by decide +kernel
theorem dX4_hold_119 : decode cX4_hold 119 = .ok (.istore 8, 2) := by decide +kernel
theorem dX4_hold_121 : decode cX4_hold 121 = .ok (.iinc 9 1, 3) := by decide +kernel
theorem dX4_hold_124 : decode cX4_hold 124 = .ok (.goto (-73), 3) := by decide +kernel
theorem dX4_hold_127 : decode cX4_hold 127 = .ok (.aload_n 0, 1) := by decide +kernel
theorem dX4_hold_128 : decode cX4_hold 128 = .ok (.lload 6, 2) := by decide +kernel
theorem dX4_hold_130 : decode cX4_hold 130 = .ok (.invokestatic 57, 3) := by decide +kernel
theorem dX4_hold_133 : decode cX4_hold 133 = .ok (.putfield 15, 3) := by decide +kernel
theorem dX4_hold_136 : decode cX4_hold 136 = .ok (.aload_n 0, 1) := by decide +kernel
theorem dX4_hold_137 : decode cX4_hold 137 = .ok (.iconst 0, 1) := by decide +kernel
theorem dX4_hold_138 : decode cX4_hold 138 = .ok (.putfield 18, 3) := by decide +kernel
theorem dX4_hold_141 : decode cX4_hold 141 = .ok (.iconst 0, 1) := by decide +kernel
theorem dX4_hold_142 : decode cX4_hold 142 = .ok (.istore 9, 2) := by decide +kernel
theorem dX4_hold_144 : decode cX4_hold 144 = .ok (.iload 9, 2) := by decide +kernel
theorem dX4_hold_146 : decode cX4_hold 146 = .ok (.iload 4, 2) := by decide +kernel
theorem dX4_hold_148 : decode cX4_hold 148 = .ok (.if_icmp .ge 50, 3) := by decide +kernel
theorem dX4_hold_151 : decode cX4_hold 151 = .ok (.aload_n 3, 1) := by decide +kernel
theorem dX4_hold_152 : decode cX4_hold 152 = .ok (.iload 9, 2) := by decide +kernel
theorem dX4_hold_154 : decode cX4_hold 154 = .ok (.invokestatic 36, 3) := by decide +kernel
theorem dX4_hold_157 : decode cX4_hold 157 = .ok (.istore 10, 2) := by decide +kernel
theorem dX4_hold_159 : decode cX4_hold 159 = .ok (.aload_n 0, 1) := by decide +kernel
theorem dX4_hold_160 : decode cX4_hold 160 = .ok (.lload 6, 2) := by decide +kernel
theorem dX4_hold_162 : decode cX4_hold 162 = .ok (.iload 5, 2) := by decide +kernel
theorem dX4_hold_164 : decode cX4_hold 164 = .ok (.aload_n 1, 1) := by decide +kernel
theorem dX4_hold_165 : decode cX4_hold 165 = .ok (.getfield 50, 3) := by decide +kernel
theorem dX4_hold_168 : decode cX4_hold 168 = .ok (.iload 10, 2) := by decide +kernel
theorem dX4_hold_170 : decode cX4_hold 170 = .ok (.invokestatic 36, 3) := by decide +kernel
theorem dX4_hold_173 : decode cX4_hold 173 = .ok (.invokevirtual 63, 3) := by decide +kernel
theorem dX4_hold_176 : decode cX4_hold 176 = .ok (.ifCond .eq 16, 3) := by decide +kernel
theorem dX4_hold_179 : decode cX4_hold 179 = .ok (.aload_n 0, 1) := by decide +kernel
theorem dX4_hold_180 : decode cX4_hold 180 = .ok (.dup, 1) := by decide +kernel
theorem dX4_hold_181 : decode cX4_hold 181 = .ok (.getfield 18, 3) := by decide +kernel
theorem dX4_hold_184 : decode cX4_hold 184 = .ok (.iconst 1, 1) := by decide +kernel
theorem dX4_hold_185 : decode cX4_hold 185 = .ok (.iload 10, 2) := by decide +kernel
theorem dX4_hold_187 : decode cX4_hold 187 = .ok (.ishl, 1) := by decide +kernel
theorem dX4_hold_188 : decode cX4_hold 188 = .ok (.ior, 1) := by decide +kernel
theorem dX4_hold_189 : decode cX4_hold 189 = .ok (.putfield 18, 3) := by decide +kernel
theorem dX4_hold_192 : decode cX4_hold 192 = .ok (.iinc 9 1, 3) := by decide +kernel
theorem dX4_hold_195 : decode cX4_hold 195 = .ok (.goto (-51), 3) := by decide +kernel
theorem dX4_hold_198 : decode cX4_hold 198 = .ok (.return_, 1) := by decide +kernel
theorem dX4_noteHours_0 : decode cX4_noteHours 0 = .ok (.aload_n 0, 1) := by decide +kernel
theorem dX4_noteHours_1 : decode cX4_noteHours 1 = .ok (.iconst 0, 1) := by decide +kernel
theorem dX4_noteHours_2 : decode cX4_noteHours 2 = .ok (.putfield 25, 3) := by decide +kernel
theorem dX4_noteHours_5 : decode cX4_noteHours 5 = .ok (.iconst 1, 1) := by decide +kernel
theorem dX4_noteHours_6 : decode cX4_noteHours 6 = .ok (.istore_n 3, 1) := by decide +kernel
theorem dX4_noteHours_7 : decode cX4_noteHours 7 = .ok (.iload_n 3, 1) := by decide +kernel
theorem dX4_noteHours_8 : decode cX4_noteHours 8 = .ok (.bipush 8, 2) := by decide +kernel
theorem dX4_noteHours_10 : decode cX4_noteHours 10 = .ok (.if_icmp .gt 89, 3) := by decide +kernel
theorem dX4_noteHours_13 : decode cX4_noteHours 13 = .ok (.iconst 0, 1) := by decide +kernel
theorem dX4_noteHours_14 : decode cX4_noteHours 14 = .ok (.istore 4, 2) := by decide +kernel
theorem dX4_noteHours_16 : decode cX4_noteHours 16 = .ok (.iload 4, 2) := by decide +kernel
theorem dX4_noteHours_18 : decode cX4_noteHours 18 = .ok (.iload_n 3, 1) := by decide +kernel
theorem dX4_noteHours_19 : decode cX4_noteHours 19 = .ok (.if_icmp .ge 74, 3) := by decide +kernel
theorem dX4_noteHours_22 : decode cX4_noteHours 22 = .ok (.iload_n 3, 1) := by decide +kernel
theorem dX4_noteHours_23 : decode cX4_noteHours 23 = .ok (.iload_n 1, 1) := by decide +kernel
theorem dX4_noteHours_24 : decode cX4_noteHours 24 = .ok (.if_icmp .lt 69, 3) := by decide +kernel
theorem dX4_noteHours_27 : decode cX4_noteHours 27 = .ok (.iload_n 3, 1) := by decide +kernel
theorem dX4_noteHours_28 : decode cX4_noteHours 28 = .ok (.iload_n 2, 1) := by decide +kernel
theorem dX4_noteHours_29 : decode cX4_noteHours 29 = .ok (.if_icmp .gt 64, 3) := by decide +kernel
theorem dX4_noteHours_32 : decode cX4_noteHours 32 = .ok (.iconst 0, 1) := by decide +kernel
theorem dX4_noteHours_33 : decode cX4_noteHours 33 = .ok (.istore 5, 2) := by decide +kernel
theorem dX4_noteHours_35 : decode cX4_noteHours 35 = .ok (.iload 4, 2) := by decide +kernel
theorem dX4_noteHours_37 : decode cX4_noteHours 37 = .ok (.istore 6, 2) := by decide +kernel
theorem dX4_noteHours_39 : decode cX4_noteHours 39 = .ok (.iload 6, 2) := by decide +kernel
theorem dX4_noteHours_41 : decode cX4_noteHours 41 = .ok (.bipush 30, 2) := by decide +kernel
theorem dX4_noteHours_43 : decode cX4_noteHours 43 = .ok (.if_icmp .ge 21, 3) := by decide +kernel
theorem dX4_noteHours_46 : decode cX4_noteHours 46 = .ok (.iload 5, 2) := by decide +kernel
theorem dX4_noteHours_48 : decode cX4_noteHours 48 = .ok (.iconst 1, 1) := by decide +kernel
theorem dX4_noteHours_49 : decode cX4_noteHours 49 = .ok (.iload 6, 2) := by decide +kernel
theorem dX4_noteHours_51 : decode cX4_noteHours 51 = .ok (.ishl, 1) := by decide +kernel
theorem dX4_noteHours_52 : decode cX4_noteHours 52 = .ok (.ior, 1) := by decide +kernel
theorem dX4_noteHours_53 : decode cX4_noteHours 53 = .ok (.istore 5, 2) := by decide +kernel
theorem dX4_noteHours_55 : decode cX4_noteHours 55 = .ok (.iload 6, 2) := by decide +kernel
theorem dX4_noteHours_57 : decode cX4_noteHours 57 = .ok (.iload_n 3, 1) := by decide +kernel
theorem dX4_noteHours_58 : decode cX4_noteHours 58 = .ok (.iadd, 1) := by decide +kernel
theorem dX4_noteHours_59 : decode cX4_noteHours 59 = .ok (.istore 6, 2) := by decide +kernel
theorem dX4_noteHours_61 : decode cX4_noteHours 61 = .ok (.goto (-22), 3) := by decide +kernel
theorem dX4_noteHours_64 : decode cX4_noteHours 64 = .ok (.aload_n 0, 1) := by decide +kernel
theorem dX4_noteHours_65 : decode cX4_noteHours 65 = .ok (.getfield 28, 3) := by decide +kernel
theorem dX4_noteHours_68 : decode cX4_noteHours 68 = .ok (.aload_n 0, 1) := by decide +kernel
theorem dX4_noteHours_69 : decode cX4_noteHours 69 = .ok (.getfield 25, 3) := by decide +kernel
theorem dX4_noteHours_72 : decode cX4_noteHours 72 = .ok (.iload 5, 2) := by decide +kernel
theorem dX4_noteHours_74 : decode cX4_noteHours 74 = .ok (.invokestatic 67, 3) := by decide +kernel
theorem dX4_noteHours_77 : decode cX4_noteHours 77 = .ok (.aload_n 0, 1) := by decide +kernel
theorem dX4_noteHours_78 : decode cX4_noteHours 78 = .ok (.dup, 1) := by decide +kernel
theorem dX4_noteHours_79 : decode cX4_noteHours 79 = .ok (.getfield 25, 3) := by decide +kernel
theorem dX4_noteHours_82 : decode cX4_noteHours 82 = .ok (.iconst 1, 1) := by decide +kernel
theorem dX4_noteHours_83 : decode cX4_noteHours 83 = .ok (.iadd, 1) := by decide +kernel
theorem dX4_noteHours_84 : decode cX4_noteHours 84 = .ok (.putfield 25, 3) := by decide +kernel
theorem dX4_noteHours_87 : decode cX4_noteHours 87 = .ok (.iinc 4 1, 3) := by decide +kernel
theorem dX4_noteHours_90 : decode cX4_noteHours 90 = .ok (.goto (-74), 3) := by decide +kernel
theorem dX4_noteHours_93 : decode cX4_noteHours 93 = .ok (.iinc 3 1, 3) := by decide +kernel
theorem dX4_noteHours_96 : decode cX4_noteHours 96 = .ok (.goto (-89), 3) := by decide +kernel
theorem dX4_noteHours_99 : decode cX4_noteHours 99 = .ok (.return_, 1) := by decide +kernel
theorem dX4_say_0 : decode cX4_say 0 = .ok (.aload_n 0, 1) := by decide +kernel
theorem dX4_say_1 : decode cX4_say 1 = .ok (.lload_n 1, 1) := by decide +kernel
theorem dX4_say_2 : decode cX4_say 2 = .ok (.iload_n 3, 1) := by decide +kernel
theorem dX4_say_3 : decode cX4_say 3 = .ok (.iload 4, 2) := by decide +kernel
theorem dX4_say_5 : decode cX4_say 5 = .ok (.invokevirtual 63, 3) := by decide +kernel
theorem dX4_say_8 : decode cX4_say 8 = .ok (.istore 5, 2) := by decide +kernel
theorem dX4_say_10 : decode cX4_say 10 = .ok (.aload_n 0, 1) := by decide +kernel
theorem dX4_say_11 : decode cX4_say 11 = .ok (.getfield 21, 3) := by decide +kernel
theorem dX4_say_14 : decode cX4_say 14 = .ok (.aload_n 0, 1) := by decide +kernel
theorem dX4_say_15 : decode cX4_say 15 = .ok (.getfield 9, 3) := by decide +kernel
theorem dX4_say_18 : decode cX4_say 18 = .ok (.iload 5, 2) := by decide +kernel
theorem dX4_say_20 : decode cX4_say 20 = .ok (.ifCond .eq 7, 3) := by decide +kernel
theorem dX4_say_23 : decode cX4_say 23 = .ok (.iconst 1, 1) := by decide +kernel
theorem dX4_say_24 : decode cX4_say 24 = .ok (.goto 4, 3) := by decide +kernel
theorem dX4_say_27 : decode cX4_say 27 = .ok (.iconst 0, 1) := by decide +kernel
theorem dX4_say_28 : decode cX4_say 28 = .ok (.invokestatic 67, 3) := by decide +kernel
theorem dX4_say_31 : decode cX4_say 31 = .ok (.aload_n 0, 1) := by decide +kernel
theorem dX4_say_32 : decode cX4_say 32 = .ok (.dup, 1) := by decide +kernel
theorem dX4_say_33 : decode cX4_say 33 = .ok (.getfield 9, 3) := by decide +kernel
theorem dX4_say_36 : decode cX4_say 36 = .ok (.iconst 1, 1) := by decide +kernel
theorem dX4_say_37 : decode cX4_say 37 = .ok (.iadd, 1) := by decide +kernel
theorem dX4_say_38 : decode cX4_say 38 = .ok (.putfield 9, 3) := by decide +kernel
theorem dX4_say_41 : decode cX4_say 41 = .ok (.lconst 0, 1) := by decide +kernel
theorem dX4_say_42 : decode cX4_say 42 = .ok (.lstore 6, 2) := by decide +kernel
theorem dX4_say_44 : decode cX4_say 44 = .ok (.iconst 0, 1) := by decide +kernel
theorem dX4_say_45 : decode cX4_say 45 = .ok (.istore 8, 2) := by decide +kernel
theorem dX4_say_47 : decode cX4_say 47 = .ok (.iload 8, 2) := by decide +kernel
theorem dX4_say_49 : decode cX4_say 49 = .ok (.aload_n 0, 1) := by decide +kernel
theorem dX4_say_50 : decode cX4_say 50 = .ok (.getfield 25, 3) := by decide +kernel
theorem dX4_say_53 : decode cX4_say 53 = .ok (.if_icmp .ge 43, 3) := by decide +kernel
theorem dX4_say_56 : decode cX4_say 56 = .ok (.lload_n 1, 1) := by decide +kernel
theorem dX4_say_57 : decode cX4_say 57 = .ok (.iload 8, 2) := by decide +kernel
theorem dX4_say_59 : decode cX4_say 59 = .ok (.lushr, 1) := by decide +kernel
theorem dX4_say_60 : decode cX4_say 60 = .ok (.lconst 1, 1) := by decide +kernel
theorem dX4_say_61 : decode cX4_say 61 = .ok (.land, 1) := by decide +kernel
theorem dX4_say_62 : decode cX4_say 62 = .ok (.lconst 1, 1) := by decide +kernel
theorem dX4_say_63 : decode cX4_say 63 = .ok (.lcmp, 1) := by decide +kernel
theorem dX4_say_64 : decode cX4_say 64 = .ok (.ifCond .ne 26, 3) := by decide +kernel
theorem dX4_say_67 : decode cX4_say 67 = .ok (.aload_n 0, 1) := by decide +kernel
theorem dX4_say_68 : decode cX4_say 68 = .ok (.lload_n 1, 1) := by decide +kernel
theorem dX4_say_69 : decode cX4_say 69 = .ok (.iload 8, 2) := by decide +kernel
theorem dX4_say_71 : decode cX4_say 71 = .ok (.iload 4, 2) := by decide +kernel
theorem dX4_say_73 : decode cX4_say 73 = .ok (.invokevirtual 63, 3) := by decide +kernel
theorem dX4_say_76 : decode cX4_say 76 = .ok (.iload 5, 2) := by decide +kernel
theorem dX4_say_78 : decode cX4_say 78 = .ok (.if_icmp .ne 12, 3) := by decide +kernel
theorem dX4_say_81 : decode cX4_say 81 = .ok (.lload 6, 2) := by decide +kernel
theorem dX4_say_83 : decode cX4_say 83 = .ok (.lconst 1, 1) := by decide +kernel
theorem dX4_say_84 : decode cX4_say 84 = .ok (.iload 8, 2) := by decide +kernel
theorem dX4_say_86 : decode cX4_say 86 = .ok (.lshl, 1) := by decide +kernel
theorem dX4_say_87 : decode cX4_say 87 = .ok (.lor, 1) := by decide +kernel
theorem dX4_say_88 : decode cX4_say 88 = .ok (.lstore 6, 2) := by decide +kernel
theorem dX4_say_90 : decode cX4_say 90 = .ok (.iinc 8 1, 3) := by decide +kernel
theorem dX4_say_93 : decode cX4_say 93 = .ok (.goto (-46), 3) := by decide +kernel
theorem dX4_say_96 : decode cX4_say 96 = .ok (.lload 6, 2) := by decide +kernel
theorem dX4_say_98 : decode cX4_say 98 = .ok (.lreturn, 1) := by decide +kernel
theorem dX4_isAlone_0 : decode cX4_isAlone 0 = .ok (.iconst 0, 1) := by decide +kernel
theorem dX4_isAlone_1 : decode cX4_isAlone 1 = .ok (.istore 5, 2) := by decide +kernel
theorem dX4_isAlone_3 : decode cX4_isAlone 3 = .ok (.iconst 0, 1) := by decide +kernel
theorem dX4_isAlone_4 : decode cX4_isAlone 4 = .ok (.istore 6, 2) := by decide +kernel
theorem dX4_isAlone_6 : decode cX4_isAlone 6 = .ok (.iload 6, 2) := by decide +kernel
theorem dX4_isAlone_8 : decode cX4_isAlone 8 = .ok (.aload_n 0, 1) := by decide +kernel
theorem dX4_isAlone_9 : decode cX4_isAlone 9 = .ok (.getfield 25, 3) := by decide +kernel
theorem dX4_isAlone_12 : decode cX4_isAlone 12 = .ok (.if_icmp .ge 57, 3) := by decide +kernel
theorem dX4_isAlone_15 : decode cX4_isAlone 15 = .ok (.iload 5, 2) := by decide +kernel
theorem dX4_isAlone_17 : decode cX4_isAlone 17 = .ok (.iconst 2, 1) := by decide +kernel
theorem dX4_isAlone_18 : decode cX4_isAlone 18 = .ok (.if_icmp .ge 51, 3) := by decide +kernel
theorem dX4_isAlone_21 : decode cX4_isAlone 21 = .ok (.aload_n 0, 1) := by decide +kernel
theorem dX4_isAlone_22 : decode cX4_isAlone 22 = .ok (.getfield 28, 3) := by decide +kernel
theorem dX4_isAlone_25 : decode cX4_isAlone 25 = .ok (.iload 6, 2) := by decide +kernel
theorem dX4_isAlone_27 : decode cX4_isAlone 27 = .ok (.invokestatic 36, 3) := by decide +kernel
theorem dX4_isAlone_30 : decode cX4_isAlone 30 = .ok (.aload_n 0, 1) := by decide +kernel
theorem dX4_isAlone_31 : decode cX4_isAlone 31 = .ok (.getfield 28, 3) := by decide +kernel
theorem dX4_isAlone_34 : decode cX4_isAlone 34 = .ok (.iload_n 3, 1) := by decide +kernel
theorem dX4_isAlone_35 : decode cX4_isAlone 35 = .ok (.invokestatic 36, 3) := by decide +kernel
theorem dX4_isAlone_38 : decode cX4_isAlone 38 = .ok (.ixor, 1) := by decide +kernel
theorem dX4_isAlone_39 : decode cX4_isAlone 39 = .ok (.iload 4, 2) := by decide +kernel
theorem dX4_isAlone_41 : decode cX4_isAlone 41 = .ok (.iand, 1) := by decide +kernel
theorem dX4_isAlone_42 : decode cX4_isAlone 42 = .ok (.istore 7, 2) := by decide +kernel
theorem dX4_isAlone_44 : decode cX4_isAlone 44 = .ok (.lload_n 1, 1) := by decide +kernel
theorem dX4_isAlone_45 : decode cX4_isAlone 45 = .ok (.iload 6, 2) := by decide +kernel
theorem dX4_isAlone_47 : decode cX4_isAlone 47 = .ok (.lushr, 1) := by decide +kernel
theorem dX4_isAlone_48 : decode cX4_isAlone 48 = .ok (.lconst 1, 1) := by decide +kernel
theorem dX4_isAlone_49 : decode cX4_isAlone 49 = .ok (.land, 1) := by decide +kernel
theorem dX4_isAlone_50 : decode cX4_isAlone 50 = .ok (.lconst 1, 1) := by decide +kernel
theorem dX4_isAlone_51 : decode cX4_isAlone 51 = .ok (.lcmp, 1) := by decide +kernel
theorem dX4_isAlone_52 : decode cX4_isAlone 52 = .ok (.ifCond .ne 11, 3) := by decide +kernel
theorem dX4_isAlone_55 : decode cX4_isAlone 55 = .ok (.iload 7, 2) := by decide +kernel
theorem dX4_isAlone_57 : decode cX4_isAlone 57 = .ok (.ifCond .ne 6, 3) := by decide +kernel
theorem dX4_isAlone_60 : decode cX4_isAlone 60 = .ok (.iinc 5 1, 3) := by decide +kernel
theorem dX4_isAlone_63 : decode cX4_isAlone 63 = .ok (.iinc 6 1, 3) := by decide +kernel
theorem dX4_isAlone_66 : decode cX4_isAlone 66 = .ok (.goto (-60), 3) := by decide +kernel
theorem dX4_isAlone_69 : decode cX4_isAlone 69 = .ok (.iload 5, 2) := by decide +kernel
theorem dX4_isAlone_71 : decode cX4_isAlone 71 = .ok (.iconst 1, 1) := by decide +kernel
theorem dX4_isAlone_72 : decode cX4_isAlone 72 = .ok (.if_icmp .ne 7, 3) := by decide +kernel
theorem dX4_isAlone_75 : decode cX4_isAlone 75 = .ok (.iconst 1, 1) := by decide +kernel
theorem dX4_isAlone_76 : decode cX4_isAlone 76 = .ok (.goto 4, 3) := by decide +kernel
theorem dX4_isAlone_79 : decode cX4_isAlone 79 = .ok (.iconst 0, 1) := by decide +kernel
theorem dX4_isAlone_80 : decode cX4_isAlone 80 = .ok (.ireturn, 1) := by decide +kernel
theorem dX5_add_0 : decode cX5_add 0 = .ok (.aload_n 0, 1) := by decide +kernel
theorem dX5_add_1 : decode cX5_add 1 = .ok (.getfield 9, 3) := by decide +kernel
theorem dX5_add_4 : decode cX5_add 4 = .ok (.bipush 40, 2) := by decide +kernel
theorem dX5_add_6 : decode cX5_add 6 = .ok (.if_icmp .lt 5, 3) := by decide +kernel
theorem dX5_add_9 : decode cX5_add 9 = .ok (.iconst 0, 1) := by decide +kernel
theorem dX5_add_10 : decode cX5_add 10 = .ok (.ireturn, 1) := by decide +kernel
theorem dX5_add_11 : decode cX5_add 11 = .ok (.aload_n 0, 1) := by decide +kernel
theorem dX5_add_12 : decode cX5_add 12 = .ok (.getfield 15, 3) := by decide +kernel
theorem dX5_add_15 : decode cX5_add 15 = .ok (.aload_n 0, 1) := by decide +kernel
theorem dX5_add_16 : decode cX5_add 16 = .ok (.getfield 9, 3) := by decide +kernel
theorem dX5_add_19 : decode cX5_add 19 = .ok (.iload_n 1, 1) := by decide +kernel
theorem dX5_add_20 : decode cX5_add 20 = .ok (.invokestatic 25, 3) := by decide +kernel
theorem dX5_add_23 : decode cX5_add 23 = .ok (.aload_n 0, 1) := by decide +kernel
theorem dX5_add_24 : decode cX5_add 24 = .ok (.getfield 19, 3) := by decide +kernel
theorem dX5_add_27 : decode cX5_add 27 = .ok (.aload_n 0, 1) := by decide +kernel
theorem dX5_add_28 : decode cX5_add 28 = .ok (.getfield 9, 3) := by decide +kernel
theorem dX5_add_31 : decode cX5_add 31 = .ok (.iload_n 2, 1) := by decide +kernel
theorem dX5_add_32 : decode cX5_add 32 = .ok (.invokestatic 25, 3) := by decide +kernel
theorem dX5_add_35 : decode cX5_add 35 = .ok (.aload_n 0, 1) := by decide +kernel
theorem dX5_add_36 : decode cX5_add 36 = .ok (.getfield 22, 3) := by decide +kernel
theorem dX5_add_39 : decode cX5_add 39 = .ok (.aload_n 0, 1) := by decide +kernel
theorem dX5_add_40 : decode cX5_add 40 = .ok (.getfield 9, 3) := by decide +kernel
theorem dX5_add_43 : decode cX5_add 43 = .ok (.iload_n 3, 1) := by decide +kernel
theorem dX5_add_44 : decode cX5_add 44 = .ok (.invokestatic 25, 3) := by decide +kernel
theorem dX5_add_47 : decode cX5_add 47 = .ok (.aload_n 0, 1) := by decide +kernel
theorem dX5_add_48 : decode cX5_add 48 = .ok (.dup, 1) := by decide +kernel
theorem dX5_add_49 : decode cX5_add 49 = .ok (.getfield 9, 3) := by decide +kernel
theorem dX5_add_52 : decode cX5_add 52 = .ok (.iconst 1, 1) := by decide +kernel
theorem dX5_add_53 : decode cX5_add 53 = .ok (.iadd, 1) := by decide +kernel
theorem dX5_add_54 : decode cX5_add 54 = .ok (.putfield 9, 3) := by decide +kernel
theorem dX5_add_57 : decode cX5_add 57 = .ok (.iconst 1, 1) := by decide +kernel
theorem dX5_add_58 : decode cX5_add 58 = .ok (.ireturn, 1) := by decide +kernel
theorem dX5_copyFrom_0 : decode cX5_copyFrom 0 = .ok (.aload_n 0, 1) := by decide +kernel
theorem dX5_copyFrom_1 : decode cX5_copyFrom 1 = .ok (.aload_n 1, 1) := by decide +kernel
theorem dX5_copyFrom_2 : decode cX5_copyFrom 2 = .ok (.getfield 9, 3) := by decide +kernel
theorem dX5_copyFrom_5 : decode cX5_copyFrom 5 = .ok (.putfield 9, 3) := by decide +kernel
theorem dX5_copyFrom_8 : decode cX5_copyFrom 8 = .ok (.aload_n 1, 1) := by decide +kernel
theorem dX5_copyFrom_9 : decode cX5_copyFrom 9 = .ok (.getfield 15, 3) := by decide +kernel
theorem dX5_copyFrom_12 : decode cX5_copyFrom 12 = .ok (.aload_n 0, 1) := by decide +kernel
theorem dX5_copyFrom_13 : decode cX5_copyFrom 13 = .ok (.getfield 15, 3) := by decide +kernel
theorem dX5_copyFrom_16 : decode cX5_copyFrom 16 = .ok (.invokestatic 29, 3) := by decide +kernel
theorem dX5_copyFrom_19 : decode cX5_copyFrom 19 = .ok (.aload_n 1, 1) := by decide +kernel
theorem dX5_copyFrom_20 : decode cX5_copyFrom 20 = .ok (.getfield 19, 3) := by decide +kernel
theorem dX5_copyFrom_23 : decode cX5_copyFrom 23 = .ok (.aload_n 0, 1) := by decide +kernel
theorem dX5_copyFrom_24 : decode cX5_copyFrom 24 = .ok (.getfield 19, 3) := by decide +kernel
theorem dX5_copyFrom_27 : decode cX5_copyFrom 27 = .ok (.invokestatic 29, 3) := by decide +kernel
theorem dX5_copyFrom_30 : decode cX5_copyFrom 30 = .ok (.aload_n 1, 1) := by decide +kernel
theorem dX5_copyFrom_31 : decode cX5_copyFrom 31 = .ok (.getfield 22, 3) := by decide +kernel
theorem dX5_copyFrom_34 : decode cX5_copyFrom 34 = .ok (.aload_n 0, 1) := by decide +kernel
theorem dX5_copyFrom_35 : decode cX5_copyFrom 35 = .ok (.getfield 22, 3) := by decide +kernel
theorem dX5_copyFrom_38 : decode cX5_copyFrom 38 = .ok (.invokestatic 29, 3) := by decide +kernel
theorem dX5_copyFrom_41 : decode cX5_copyFrom 41 = .ok (.return_, 1) := by decide +kernel
theorem dX6_readAll_0 : decode cX6_readAll 0 = .ok (.aload_n 0, 1) := by decide +kernel
theorem dX6_readAll_1 : decode cX6_readAll 1 = .ok (.getfield 12, 3) := by decide +kernel
theorem dX6_readAll_4 : decode cX6_readAll 4 = .ok (.iconst 0, 1) := by decide +kernel
theorem dX6_readAll_5 : decode cX6_readAll 5 = .ok (.putfield 22, 3) := by decide +kernel
theorem dX6_readAll_8 : decode cX6_readAll 8 = .ok (.iconst 0, 1) := by decide +kernel
theorem dX6_readAll_9 : decode cX6_readAll 9 = .ok (.istore_n 2, 1) := by decide +kernel
theorem dX6_readAll_10 : decode cX6_readAll 10 = .ok (.iload_n 2, 1) := by decide +kernel
theorem dX6_readAll_11 : decode cX6_readAll 11 = .ok (.sipush 940, 3) := by decide +kernel
theorem dX6_readAll_14 : decode cX6_readAll 14 = .ok (.if_icmp .ge 29, 3) := by decide +kernel
theorem dX6_readAll_17 : decode cX6_readAll 17 = .ok (.aload_n 0, 1) := by decide +kernel
theorem dX6_readAll_18 : decode cX6_readAll 18 = .ok (.getfield 18, 3) := by decide +kernel
theorem dX6_readAll_21 : decode cX6_readAll 21 = .ok (.invokevirtual 26, 3) := by decide +kernel
theorem dX6_readAll_24 : decode cX6_readAll 24 = .ok (.ifCond .eq 19, 3) := by decide +kernel
theorem dX6_readAll_27 : decode cX6_readAll 27 = .ok (.aload_n 0, 1) := by decide +kernel
theorem dX6_readAll_28 : decode cX6_readAll 28 = .ok (.aload_n 1, 1) := by decide +kernel
theorem dX6_readAll_29 : decode cX6_readAll 29 = .ok (.invokevirtual 32, 3) := by decide +kernel
theorem dX6_readAll_32 : decode cX6_readAll 32 = .ok (.ifCond .ne 5, 3) := by decide +kernel
theorem dX6_readAll_35 : decode cX6_readAll 35 = .ok (.iconst (-1), 1) := by decide +kernel
theorem dX6_readAll_36 : decode cX6_readAll 36 = .ok (.ireturn, 1) := by decide +kernel
theorem dX6_readAll_37 : decode cX6_readAll 37 = .ok (.iinc 2 1, 3) := by decide +kernel
theorem dX6_readAll_40 : decode cX6_readAll 40 = .ok (.goto (-30), 3) := by decide +kernel
theorem dX6_readAll_43 : decode cX6_readAll 43 = .ok (.aload_n 0, 1) := by decide +kernel
theorem dX6_readAll_44 : decode cX6_readAll 44 = .ok (.getfield 12, 3) := by decide +kernel
theorem dX6_readAll_47 : decode cX6_readAll 47 = .ok (.getfield 22, 3) := by decide +kernel
theorem dX6_readAll_50 : decode cX6_readAll 50 = .ok (.ireturn, 1) := by decide +kernel
theorem dX6_readLine_0 : decode cX6_readLine 0 = .ok (.aload_n 0, 1) := by decide +kernel
theorem dX6_readLine_1 : decode cX6_readLine 1 = .ok (.getfield 18, 3) := by decide +kernel
theorem dX6_readLine_4 : decode cX6_readLine 4 = .ok (.aload_n 1, 1) := by decide +kernel
theorem dX6_readLine_5 : decode cX6_readLine 5 = .ok (.invokevirtual 36, 3) := by decide +kernel
theorem dX6_readLine_8 : decode cX6_readLine 8 = .ok (.istore_n 2, 1) := by decide +kernel
theorem dX6_readLine_9 : decode cX6_readLine 9 = .ok (.iload_n 2, 1) := by decide +kernel
theorem dX6_readLine_10 : decode cX6_readLine 10 = .ok (.iconst (-1), 1) := by decide +kernel
theorem dX6_readLine_11 : decode cX6_readLine 11 = .ok (.if_icmp .ne 5, 3) := by decide +kernel
theorem dX6_readLine_14 : decode cX6_readLine 14 = .ok (.iconst 0, 1) := by decide +kernel
theorem dX6_readLine_15 : decode cX6_readLine 15 = .ok (.ireturn, 1) := by decide +kernel
theorem dX6_readLine_16 : decode cX6_readLine 16 = .ok (.aload_n 0, 1) := by decide +kernel
theorem dX6_readLine_17 : decode cX6_readLine 17 = .ok (.getfield 12, 3) := by decide +kernel
theorem dX6_readLine_20 : decode cX6_readLine 20 = .ok (.getfield 22, 3) := by decide +kernel
theorem dX6_readLine_23 : decode cX6_readLine 23 = .ok (.bipush 40, 2) := by decide +kernel
theorem dX6_readLine_25 : decode cX6_readLine 25 = .ok (.if_icmp .lt 14, 3) := by decide +kernel
theorem dX6_readLine_28 : decode cX6_readLine 28 = .ok (.aload_n 0, 1) := by decide +kernel
theorem dX6_readLine_29 : decode cX6_readLine 29 = .ok (.getfield 18, 3) := by decide +kernel
theorem dX6_readLine_32 : decode cX6_readLine 32 = .ok (.iconst 4, 1) := by decide +kernel
theorem dX6_readLine_33 : decode cX6_readLine 33 = .ok (.invokevirtual 40, 3) := by decide +kernel
theorem dX6_readLine_36 : decode cX6_readLine 36 = .ok (.pop, 1) := by decide +kernel
theorem dX6_readLine_37 : decode cX6_readLine 37 = .ok (.iconst 0, 1) := by decide +kernel
theorem dX6_readLine_38 : decode cX6_readLine 38 = .ok (.ireturn, 1) := by decide +kernel
theorem dX6_readLine_39 : decode cX6_readLine 39 = .ok (.aload_n 0, 1) := by decide +kernel
theorem dX6_readLine_40 : decode cX6_readLine 40 = .ok (.getfield 18, 3) := by decide +kernel
theorem dX6_readLine_43 : decode cX6_readLine 43 = .ok (.dup, 1) := by decide +kernel
theorem dX6_readLine_44 : decode cX6_readLine 44 = .ok (.getfield 44, 3) := by decide +kernel
theorem dX6_readLine_47 : decode cX6_readLine 47 = .ok (.iconst 1, 1) := by decide +kernel
theorem dX6_readLine_48 : decode cX6_readLine 48 = .ok (.iadd, 1) := by decide +kernel
theorem dX6_readLine_49 : decode cX6_readLine 49 = .ok (.putfield 44, 3) := by decide +kernel
theorem dX6_readLine_52 : decode cX6_readLine 52 = .ok (.aload_n 0, 1) := by decide +kernel
theorem dX6_readLine_53 : decode cX6_readLine 53 = .ok (.getfield 18, 3) := by decide +kernel
theorem dX6_readLine_56 : decode cX6_readLine 56 = .ok (.iconst 0, 1) := by decide +kernel
theorem dX6_readLine_57 : decode cX6_readLine 57 = .ok (.bipush 29, 2) := by decide +kernel
theorem dX6_readLine_59 : decode cX6_readLine 59 = .ok (.invokevirtual 47, 3) := by decide +kernel
theorem dX6_readLine_62 : decode cX6_readLine 62 = .ok (.istore_n 3, 1) := by decide +kernel
theorem dX6_readLine_63 : decode cX6_readLine 63 = .ok (.iload_n 3, 1) := by decide +kernel
theorem dX6_readLine_64 : decode cX6_readLine 64 = .ok (.iconst (-1), 1) := by decide +kernel
theorem dX6_readLine_65 : decode cX6_readLine 65 = .ok (.if_icmp .ne 7, 3) := by decide +kernel
theorem dX6_readLine_68 : decode cX6_readLine 68 = .ok (.iconst (-1), 1) := by decide +kernel
theorem dX6_readLine_69 : decode cX6_readLine 69 = .ok (.goto 8, 3) := by decide +kernel
theorem dX6_readLine_72 : decode cX6_readLine 72 = .ok (.aload_n 0, 1) := by decide +kernel
theorem dX6_readLine_73 : decode cX6_readLine 73 = .ok (.aload_n 1, 1) := by decide +kernel
theorem dX6_readLine_74 : decode cX6_readLine 74 = .ok (.invokevirtual 51, 3) := by decide +kernel
theorem dX6_readLine_77 : decode cX6_readLine 77 = .ok (.istore 4, 2) := by decide +kernel
theorem dX6_readLine_79 : decode cX6_readLine 79 = .ok (.iload 4, 2) := by decide +kernel
theorem dX6_readLine_81 : decode cX6_readLine 81 = .ok (.iconst (-1), 1) := by decide +kernel
theorem dX6_readLine_82 : decode cX6_readLine 82 = .ok (.if_icmp .eq 31, 3) := by decide +kernel
theorem dX6_readLine_85 : decode cX6_readLine 85 = .ok (.aload_n 0, 1) := by decide +kernel
theorem dX6_readLine_86 : decode cX6_readLine 86 = .ok (.getfield 18, 3) := by decide +kernel
theorem dX6_readLine_89 : decode cX6_readLine 89 = .ok (.invokevirtual 54, 3) := by decide +kernel
theorem dX6_readLine_92 : decode cX6_readLine 92 = .ok (.ifCond .eq 21, 3) := by decide +kernel
theorem dX6_readLine_95 : decode cX6_readLine 95 = .ok (.aload_n 0, 1) := by decide +kernel
theorem dX6_readLine_96 : decode cX6_readLine 96 = .ok (.getfield 12, 3) := by decide +kernel
theorem dX6_readLine_99 : decode cX6_readLine 99 = .ok (.iload_n 2, 1) := by decide +kernel
theorem dX6_readLine_100 : decode cX6_readLine 100 = .ok (.iload_n 3, 1) := by decide +kernel
theorem dX6_readLine_101 : decode cX6_readLine 101 = .ok (.iload 4, 2) := by decide +kernel
theorem dX6_readLine_103 : decode cX6_readLine 103 = .ok (.invokevirtual 58, 3) := by decide +kernel
theorem dX6_readLine_106 : decode cX6_readLine 106 = .ok (.ifCond .eq 7, 3) := by decide +kernel
theorem dX6_readLine_109 : decode cX6_readLine 109 = .ok (.iconst 1, 1) := by decide +kernel
theorem dX6_readLine_110 : decode cX6_readLine 110 = .ok (.goto 4, 3) := by decide +kernel
theorem dX6_readLine_113 : decode cX6_readLine 113 = .ok (.iconst 0, 1) := by decide +kernel
theorem dX6_readLine_114 : decode cX6_readLine 114 = .ok (.ireturn, 1) := by decide +kernel
theorem dX6_readKinds_0 : decode cX6_readKinds 0 = .ok (.iconst 0, 1) := by decide +kernel
theorem dX6_readKinds_1 : decode cX6_readKinds 1 = .ok (.istore_n 2, 1) := by decide +kernel
theorem dX6_readKinds_2 : decode cX6_readKinds 2 = .ok (.iconst 0, 1) := by decide +kernel
theorem dX6_readKinds_3 : decode cX6_readKinds 3 = .ok (.istore_n 3, 1) := by decide +kernel
theorem dX6_readKinds_4 : decode cX6_readKinds 4 = .ok (.iload_n 3, 1) := by decide +kernel
theorem dX6_readKinds_5 : decode cX6_readKinds 5 = .ok (.iconst 3, 1) := by decide +kernel
theorem dX6_readKinds_6 : decode cX6_readKinds 6 = .ok (.if_icmp .gt 77, 3) := by decide +kernel
theorem dX6_readKinds_9 : decode cX6_readKinds 9 = .ok (.aload_n 0, 1) := by decide +kernel
theorem dX6_readKinds_10 : decode cX6_readKinds 10 = .ok (.getfield 18, 3) := by decide +kernel
theorem dX6_readKinds_13 : decode cX6_readKinds 13 = .ok (.invokevirtual 26, 3) := by decide +kernel
theorem dX6_readKinds_16 : decode cX6_readKinds 16 = .ok (.iconst 2, 1) := by decide +kernel
theorem dX6_readKinds_17 : decode cX6_readKinds 17 = .ok (.if_icmp .eq 66, 3) := by decide +kernel
theorem dX6_readKinds_20 : decode cX6_readKinds 20 = .ok (.aload_n 0, 1) := by decide +kernel
theorem dX6_readKinds_21 : decode cX6_readKinds 21 = .ok (.getfield 18, 3) := by decide +kernel
theorem dX6_readKinds_24 : decode cX6_readKinds 24 = .ok (.aload_n 1, 1) := by decide +kernel
theorem dX6_readKinds_25 : decode cX6_readKinds 25 = .ok (.invokevirtual 64, 3) := by decide +kernel
theorem dX6_readKinds_28 : decode cX6_readKinds 28 = .ok (.istore 4, 2) := by decide +kernel
theorem dX6_readKinds_30 : decode cX6_readKinds 30 = .ok (.iload 4, 2) := by decide +kernel
theorem dX6_readKinds_32 : decode cX6_readKinds 32 = .ok (.iconst (-1), 1) := by decide +kernel
theorem dX6_readKinds_33 : decode cX6_readKinds 33 = .ok (.if_icmp .ne 5, 3) := by decide +kernel
theorem dX6_readKinds_36 : decode cX6_readKinds 36 = .ok (.iconst (-1), 1) := by decide +kernel
theorem dX6_readKinds_37 : decode cX6_readKinds 37 = .ok (.ireturn, 1) := by decide +kernel
theorem dX6_readKinds_38 : decode cX6_readKinds 38 = .ok (.iload_n 2, 1) := by decide +kernel
theorem dX6_readKinds_39 : decode cX6_readKinds 39 = .ok (.iload 4, 2) := by decide +kernel
theorem dX6_readKinds_41 : decode cX6_readKinds 41 = .ok (.iushr, 1) := by decide +kernel
theorem dX6_readKinds_42 : decode cX6_readKinds 42 = .ok (.iconst 1, 1) := by decide +kernel
theorem dX6_readKinds_43 : decode cX6_readKinds 43 = .ok (.iand, 1) := by decide +kernel
theorem dX6_readKinds_44 : decode cX6_readKinds 44 = .ok (.iconst 1, 1) := by decide +kernel
theorem dX6_readKinds_45 : decode cX6_readKinds 45 = .ok (.if_icmp .ne 12, 3) := by decide +kernel
theorem dX6_readKinds_48 : decode cX6_readKinds 48 = .ok (.aload_n 0, 1) := by decide +kernel
theorem dX6_readKinds_49 : decode cX6_readKinds 49 = .ok (.getfield 18, 3) := by decide +kernel
theorem dX6_readKinds_52 : decode cX6_readKinds 52 = .ok (.iconst 3, 1) := by decide +kernel
theorem dX6_readKinds_53 : decode cX6_readKinds 53 = .ok (.invokevirtual 40, 3) := by decide +kernel
theorem dX6_readKinds_56 : decode cX6_readKinds 56 = .ok (.ireturn, 1) := by decide +kernel
theorem dX6_readKinds_57 : decode cX6_readKinds 57 = .ok (.iload_n 2, 1) := by decide +kernel
theorem dX6_readKinds_58 : decode cX6_readKinds 58 = .ok (.iconst 1, 1) := by decide +kernel
theorem dX6_readKinds_59 : decode cX6_readKinds 59 = .ok (.iload 4, 2) := by decide +kernel
theorem dX6_readKinds_61 : decode cX6_readKinds 61 = .ok (.ishl, 1) := by decide +kernel
theorem dX6_readKinds_62 : decode cX6_readKinds 62 = .ok (.ior, 1) := by decide +kernel
theorem dX6_readKinds_63 : decode cX6_readKinds 63 = .ok (.istore_n 2, 1) := by decide +kernel
theorem dX6_readKinds_64 : decode cX6_readKinds 64 = .ok (.aload_n 0, 1) := by decide +kernel
theorem dX6_readKinds_65 : decode cX6_readKinds 65 = .ok (.getfield 18, 3) := by decide +kernel
theorem dX6_readKinds_68 : decode cX6_readKinds 68 = .ok (.dup, 1) := by decide +kernel
theorem dX6_readKinds_69 : decode cX6_readKinds 69 = .ok (.getfield 44, 3) := by decide +kernel
theorem dX6_readKinds_72 : decode cX6_readKinds 72 = .ok (.iconst 1, 1) := by decide +kernel
theorem dX6_readKinds_73 : decode cX6_readKinds 73 = .ok (.iadd, 1) := by decide +kernel
theorem dX6_readKinds_74 : decode cX6_readKinds 74 = .ok (.putfield 44, 3) := by decide +kernel
theorem dX6_readKinds_77 : decode cX6_readKinds 77 = .ok (.iinc 3 1, 3) := by decide +kernel
theorem dX6_readKinds_80 : decode cX6_readKinds 80 = .ok (.goto (-76), 3) := by decide +kernel
theorem dX6_readKinds_83 : decode cX6_readKinds 83 = .ok (.iload_n 2, 1) := by decide +kernel
theorem dX6_readKinds_84 : decode cX6_readKinds 84 = .ok (.ireturn, 1) := by decide +kernel
theorem dX7_scan_0 : decode cX7_scan 0 = .ok (.aload_n 0, 1) := by decide +kernel
theorem dX7_scan_1 : decode cX7_scan 1 = .ok (.iconst 0, 1) := by decide +kernel
theorem dX7_scan_2 : decode cX7_scan 2 = .ok (.putfield 9, 3) := by decide +kernel
theorem dX7_scan_5 : decode cX7_scan 5 = .ok (.iload_n 2, 1) := by decide +kernel
theorem dX7_scan_6 : decode cX7_scan 6 = .ok (.iload_n 3, 1) := by decide +kernel
theorem dX7_scan_7 : decode cX7_scan 7 = .ok (.invokestatic 26, 3) := by decide +kernel
theorem dX7_scan_10 : decode cX7_scan 10 = .ok (.istore 4, 2) := by decide +kernel
theorem dX7_scan_12 : decode cX7_scan 12 = .ok (.iconst 0, 1) := by decide +kernel
theorem dX7_scan_13 : decode cX7_scan 13 = .ok (.istore 5, 2) := by decide +kernel
theorem dX7_scan_15 : decode cX7_scan 15 = .ok (.iconst 0, 1) := by decide +kernel
theorem dX7_scan_16 : decode cX7_scan 16 = .ok (.istore 6, 2) := by decide +kernel
theorem dX7_scan_18 : decode cX7_scan 18 = .ok (.iload 6, 2) := by decide +kernel
theorem dX7_scan_20 : decode cX7_scan 20 = .ok (.sipush 940, 3) := by decide +kernel
theorem dX7_scan_23 : decode cX7_scan 23 = .ok (.if_icmp .ge 88, 3) := by decide +kernel
theorem dX7_scan_26 : decode cX7_scan 26 = .ok (.iload 5, 2) := by decide +kernel
theorem dX7_scan_28 : decode cX7_scan 28 = .ok (.iload 4, 2) := by decide +kernel
theorem dX7_scan_30 : decode cX7_scan 30 = .ok (.if_icmp .ge 81, 3) := by decide +kernel
theorem dX7_scan_33 : decode cX7_scan 33 = .ok (.aload_n 1, 1) := by decide +kernel
theorem dX7_scan_34 : decode cX7_scan 34 = .ok (.iload 5, 2) := by decide +kernel
theorem dX7_scan_36 : decode cX7_scan 36 = .ok (.invokestatic 32, 3) := by decide +kernel
theorem dX7_scan_39 : decode cX7_scan 39 = .ok (.istore 7, 2) := by decide +kernel
theorem dX7_scan_41 : decode cX7_scan 41 = .ok (.iload 7, 2) := by decide +kernel
theorem dX7_scan_43 : decode cX7_scan 43 = .ok (.bipush 59, 2) := by decide +kernel
theorem dX7_scan_45 : decode cX7_scan 45 = .ok (.if_icmp .ne 14, 3) := by decide +kernel
theorem dX7_scan_48 : decode cX7_scan 48 = .ok (.aload_n 0, 1) := by decide +kernel
theorem dX7_scan_49 : decode cX7_scan 49 = .ok (.iconst 2, 1) := by decide +kernel
theorem dX7_scan_50 : decode cX7_scan 50 = .ok (.iload 5, 2) := by decide +kernel
theorem dX7_scan_52 : decode cX7_scan 52 = .ok (.lconst 0, 1) := by decide +kernel
theorem dX7_scan_53 : decode cX7_scan 53 = .ok (.invokevirtual 36, 3) := by decide +kernel
theorem dX7_scan_56 : decode cX7_scan 56 = .ok (.goto 46, 3) := by decide +kernel
theorem dX7_scan_59 : decode cX7_scan 59 = .ok (.iload 7, 2) := by decide +kernel
theorem dX7_scan_61 : decode cX7_scan 61 = .ok (.bipush 32, 2) := by decide +kernel
theorem dX7_scan_63 : decode cX7_scan 63 = .ok (.if_icmp .eq 39, 3) := by decide +kernel
theorem dX7_scan_66 : decode cX7_scan 66 = .ok (.iload 7, 2) := by decide +kernel
theorem dX7_scan_68 : decode cX7_scan 68 = .ok (.bipush 10, 2) := by decide +kernel
theorem dX7_scan_70 : decode cX7_scan 70 = .ok (.if_icmp .eq 32, 3) := by decide +kernel
theorem dX7_scan_73 : decode cX7_scan 73 = .ok (.aload_n 1, 1) := by decide +kernel
theorem dX7_scan_74 : decode cX7_scan 74 = .ok (.iload 5, 2) := by decide +kernel
theorem dX7_scan_76 : decode cX7_scan 76 = .ok (.iload_n 2, 1) := by decide +kernel
theorem dX7_scan_77 : decode cX7_scan 77 = .ok (.invokestatic 40, 3) := by decide +kernel
theorem dX7_scan_80 : decode cX7_scan 80 = .ok (.istore 8, 2) := by decide +kernel
theorem dX7_scan_82 : decode cX7_scan 82 = .ok (.aload_n 0, 1) := by decide +kernel
theorem dX7_scan_83 : decode cX7_scan 83 = .ok (.aload_n 1, 1) := by decide +kernel
theorem dX7_scan_84 : decode cX7_scan 84 = .ok (.iload 5, 2) := by decide +kernel
theorem dX7_scan_86 : decode cX7_scan 86 = .ok (.iload 8, 2) := by decide +kernel
theorem dX7_scan_88 : decode cX7_scan 88 = .ok (.invokevirtual 44, 3) := by decide +kernel
theorem dX7_scan_91 : decode cX7_scan 91 = .ok (.iload 5, 2) := by decide +kernel
theorem dX7_scan_93 : decode cX7_scan 93 = .ok (.iload 8, 2) := by decide +kernel
theorem dX7_scan_95 : decode cX7_scan 95 = .ok (.iconst 1, 1) := by decide +kernel
theorem dX7_scan_96 : decode cX7_scan 96 = .ok (.isub, 1) := by decide +kernel
theorem dX7_scan_97 : decode cX7_scan 97 = .ok (.invokestatic 48, 3) := by decide +kernel
theorem dX7_scan_100 : decode cX7_scan 100 = .ok (.istore 5, 2) := by decide +kernel
theorem dX7_scan_102 : decode cX7_scan 102 = .ok (.iinc 5 1, 3) := by decide +kernel
theorem dX7_scan_105 : decode cX7_scan 105 = .ok (.iinc 6 1, 3) := by decide +kernel
theorem dX7_scan_108 : decode cX7_scan 108 = .ok (.goto (-90), 3) := by decide +kernel
theorem dX7_scan_111 : decode cX7_scan 111 = .ok (.aload_n 0, 1) := by decide +kernel
theorem dX7_scan_112 : decode cX7_scan 112 = .ok (.iload_n 2, 1) := by decide +kernel
theorem dX7_scan_113 : decode cX7_scan 113 = .ok (.iload_n 3, 1) := by decide +kernel
theorem dX7_scan_114 : decode cX7_scan 114 = .ok (.if_icmp .le 7, 3) := by decide +kernel
theorem dX7_scan_117 : decode cX7_scan 117 = .ok (.iconst 1, 1) := by decide +kernel
theorem dX7_scan_118 : decode cX7_scan 118 = .ok (.goto 4, 3) := by decide +kernel
theorem dX7_scan_121 : decode cX7_scan 121 = .ok (.iconst 0, 1) := by decide +kernel
theorem dX7_scan_122 : decode cX7_scan 122 = .ok (.iload 4, 2) := by decide +kernel
theorem dX7_scan_124 : decode cX7_scan 124 = .ok (.lconst 0, 1) := by decide +kernel
theorem dX7_scan_125 : decode cX7_scan 125 = .ok (.invokevirtual 36, 3) := by decide +kernel
theorem dX7_scan_128 : decode cX7_scan 128 = .ok (.return_, 1) := by decide +kernel
theorem dX7_addToken_0 : decode cX7_addToken 0 = .ok (.aload_n 0, 1) := by decide +kernel
theorem dX7_addToken_1 : decode cX7_addToken 1 = .ok (.getfield 15, 3) := by decide +kernel
theorem dX7_addToken_4 : decode cX7_addToken 4 = .ok (.aload_n 0, 1) := by decide +kernel
theorem dX7_addToken_5 : decode cX7_addToken 5 = .ok (.getfield 9, 3) := by decide +kernel
theorem dX7_addToken_8 : decode cX7_addToken 8 = .ok (.iload_n 1, 1) := by decide +kernel
theorem dX7_addToken_9 : decode cX7_addToken 9 = .ok (.invokestatic 51, 3) := by decide +kernel
theorem dX7_addToken_12 : decode cX7_addToken 12 = .ok (.aload_n 0, 1) := by decide +kernel
theorem dX7_addToken_13 : decode cX7_addToken 13 = .ok (.getfield 19, 3) := by decide +kernel
theorem dX7_addToken_16 : decode cX7_addToken 16 = .ok (.aload_n 0, 1) := by decide +kernel
theorem dX7_addToken_17 : decode cX7_addToken 17 = .ok (.getfield 9, 3) := by decide +kernel
theorem dX7_addToken_20 : decode cX7_addToken 20 = .ok (.iload_n 2, 1) := by decide +kernel
theorem dX7_addToken_21 : decode cX7_addToken 21 = .ok (.invokestatic 51, 3) := by decide +kernel
theorem dX7_addToken_24 : decode cX7_addToken 24 = .ok (.aload_n 0, 1) := by decide +kernel
theorem dX7_addToken_25 : decode cX7_addToken 25 = .ok (.getfield 22, 3) := by decide +kernel
theorem dX7_addToken_28 : decode cX7_addToken 28 = .ok (.aload_n 0, 1) := by decide +kernel
theorem dX7_addToken_29 : decode cX7_addToken 29 = .ok (.getfield 9, 3) := by decide +kernel
theorem dX7_addToken_32 : decode cX7_addToken 32 = .ok (.lload_n 3, 1) := by decide +kernel
theorem dX7_addToken_33 : decode cX7_addToken 33 = .ok (.invokestatic 54, 3) := by decide +kernel
theorem dX7_addToken_36 : decode cX7_addToken 36 = .ok (.aload_n 0, 1) := by decide +kernel
theorem dX7_addToken_37 : decode cX7_addToken 37 = .ok (.dup, 1) := by decide +kernel
theorem dX7_addToken_38 : decode cX7_addToken 38 = .ok (.getfield 9, 3) := by decide +kernel
theorem dX7_addToken_41 : decode cX7_addToken 41 = .ok (.iconst 1, 1) := by decide +kernel
theorem dX7_addToken_42 : decode cX7_addToken 42 = .ok (.iadd, 1) := by decide +kernel
theorem dX7_addToken_43 : decode cX7_addToken 43 = .ok (.putfield 9, 3) := by decide +kernel
theorem dX7_addToken_46 : decode cX7_addToken 46 = .ok (.return_, 1) := by decide +kernel
theorem dX7_isLetter_0 : decode cX7_isLetter 0 = .ok (.iload_n 0, 1) := by decide +kernel
theorem dX7_isLetter_1 : decode cX7_isLetter 1 = .ok (.bipush 97, 2) := by decide +kernel
theorem dX7_isLetter_3 : decode cX7_isLetter 3 = .ok (.if_icmp .lt 13, 3) := by decide +kernel
theorem dX7_isLetter_6 : decode cX7_isLetter 6 = .ok (.iload_n 0, 1) := by decide +kernel
theorem dX7_isLetter_7 : decode cX7_isLetter 7 = .ok (.bipush 122, 2) := by decide +kernel
theorem dX7_isLetter_9 : decode cX7_isLetter 9 = .ok (.if_icmp .gt 7, 3) := by decide +kernel
theorem dX7_isLetter_12 : decode cX7_isLetter 12 = .ok (.iconst 1, 1) := by decide +kernel
theorem dX7_isLetter_13 : decode cX7_isLetter 13 = .ok (.goto 4, 3) := by decide +kernel
theorem dX7_isLetter_16 : decode cX7_isLetter 16 = .ok (.iconst 0, 1) := by decide +kernel
theorem dX7_isLetter_17 : decode cX7_isLetter 17 = .ok (.ireturn, 1) := by decide +kernel
theorem dX7_isDigit_0 : decode cX7_isDigit 0 = .ok (.iload_n 0, 1) := by decide +kernel
theorem dX7_isDigit_1 : decode cX7_isDigit 1 = .ok (.bipush 48, 2) := by decide +kernel
theorem dX7_isDigit_3 : decode cX7_isDigit 3 = .ok (.if_icmp .lt 13, 3) := by decide +kernel
theorem dX7_isDigit_6 : decode cX7_isDigit 6 = .ok (.iload_n 0, 1) := by decide +kernel
theorem dX7_isDigit_7 : decode cX7_isDigit 7 = .ok (.bipush 57, 2) := by decide +kernel
theorem dX7_isDigit_9 : decode cX7_isDigit 9 = .ok (.if_icmp .gt 7, 3) := by decide +kernel
theorem dX7_isDigit_12 : decode cX7_isDigit 12 = .ok (.iconst 1, 1) := by decide +kernel
theorem dX7_isDigit_13 : decode cX7_isDigit 13 = .ok (.goto 4, 3) := by decide +kernel
theorem dX7_isDigit_16 : decode cX7_isDigit 16 = .ok (.iconst 0, 1) := by decide +kernel
theorem dX7_isDigit_17 : decode cX7_isDigit 17 = .ok (.ireturn, 1) := by decide +kernel
theorem dX7_runEnd_0 : decode cX7_runEnd 0 = .ok (.iload_n 1, 1) := by decide +kernel
theorem dX7_runEnd_1 : decode cX7_runEnd 1 = .ok (.istore_n 3, 1) := by decide +kernel
theorem dX7_runEnd_2 : decode cX7_runEnd 2 = .ok (.iload_n 1, 1) := by decide +kernel
theorem dX7_runEnd_3 : decode cX7_runEnd 3 = .ok (.istore 4, 2) := by decide +kernel
theorem dX7_runEnd_5 : decode cX7_runEnd 5 = .ok (.iload 4, 2) := by decide +kernel
theorem dX7_runEnd_7 : decode cX7_runEnd 7 = .ok (.iload_n 2, 1) := by decide +kernel
theorem dX7_runEnd_8 : decode cX7_runEnd 8 = .ok (.if_icmp .ge 38, 3) := by decide +kernel
theorem dX7_runEnd_11 : decode cX7_runEnd 11 = .ok (.aload_n 0, 1) := by decide +kernel
theorem dX7_runEnd_12 : decode cX7_runEnd 12 = .ok (.iload 4, 2) := by decide +kernel
theorem dX7_runEnd_14 : decode cX7_runEnd 14 = .ok (.invokestatic 32, 3) := by decide +kernel
theorem dX7_runEnd_17 : decode cX7_runEnd 17 = .ok (.invokestatic 58, 3) := by decide +kernel
theorem dX7_runEnd_20 : decode cX7_runEnd 20 = .ok (.ifCond .ne 17, 3) := by decide +kernel
theorem dX7_runEnd_23 : decode cX7_runEnd 23 = .ok (.aload_n 0, 1) := by decide +kernel
theorem dX7_runEnd_24 : decode cX7_runEnd 24 = .ok (.iload 4, 2) := by decide +kernel
theorem dX7_runEnd_26 : decode cX7_runEnd 26 = .ok (.invokestatic 32, 3) := by decide +kernel
theorem dX7_runEnd_29 : decode cX7_runEnd 29 = .ok (.invokestatic 62, 3) := by decide +kernel
theorem dX7_runEnd_32 : decode cX7_runEnd 32 = .ok (.ifCond .ne 5, 3) := by decide +kernel
theorem dX7_runEnd_35 : decode cX7_runEnd 35 = .ok (.iload_n 3, 1) := by decide +kernel
theorem dX7_runEnd_36 : decode cX7_runEnd 36 = .ok (.ireturn, 1) := by decide +kernel
theorem dX7_runEnd_37 : decode cX7_runEnd 37 = .ok (.iinc 3 1, 3) := by decide +kernel
theorem dX7_runEnd_40 : decode cX7_runEnd 40 = .ok (.iinc 4 1, 3) := by decide +kernel
theorem dX7_runEnd_43 : decode cX7_runEnd 43 = .ok (.goto (-38), 3) := by decide +kernel
theorem dX7_runEnd_46 : decode cX7_runEnd 46 = .ok (.iload_n 3, 1) := by decide +kernel
theorem dX7_runEnd_47 : decode cX7_runEnd 47 = .ok (.ireturn, 1) := by decide +kernel
theorem dX7_addRun_0 : decode cX7_addRun 0 = .ok (.iconst 0, 1) := by decide +kernel
theorem dX7_addRun_1 : decode cX7_addRun 1 = .ok (.istore 4, 2) := by decide +kernel
theorem dX7_addRun_3 : decode cX7_addRun 3 = .ok (.iconst 0, 1) := by decide +kernel
theorem dX7_addRun_4 : decode cX7_addRun 4 = .ok (.istore 5, 2) := by decide +kernel
theorem dX7_addRun_6 : decode cX7_addRun 6 = .ok (.lconst 0, 1) := by decide +kernel
theorem dX7_addRun_7 : decode cX7_addRun 7 = .ok (.lstore 6, 2) := by decide +kernel
theorem dX7_addRun_9 : decode cX7_addRun 9 = .ok (.lconst 0, 1) := by decide +kernel
theorem dX7_addRun_10 : decode cX7_addRun 10 = .ok (.lstore 8, 2) := by decide +kernel
theorem dX7_addRun_12 : decode cX7_addRun 12 = .ok (.iload_n 2, 1) := by decide +kernel
theorem dX7_addRun_13 : decode cX7_addRun 13 = .ok (.istore 10, 2) := by decide +kernel
theorem dX7_addRun_15 : decode cX7_addRun 15 = .ok (.iload 10, 2) := by decide +kernel
theorem dX7_addRun_17 : decode cX7_addRun 17 = .ok (.iload_n 3, 1) := by decide +kernel
theorem dX7_addRun_18 : decode cX7_addRun 18 = .ok (.if_icmp .ge 61, 3) := by decide +kernel
theorem dX7_addRun_21 : decode cX7_addRun 21 = .ok (.aload_n 1, 1) := by decide +kernel
theorem dX7_addRun_22 : decode cX7_addRun 22 = .ok (.iload 10, 2) := by decide +kernel
theorem dX7_addRun_24 : decode cX7_addRun 24 = .ok (.invokestatic 32, 3) := by decide +kernel
theorem dX7_addRun_27 : decode cX7_addRun 27 = .ok (.istore 11, 2) := by decide +kernel
theorem dX7_addRun_29 : decode cX7_addRun 29 = .ok (.lload 6, 2) := by decide +kernel
theorem dX7_addRun_31 : decode cX7_addRun 31 = .ok (.bipush 8, 2) := by decide +kernel
theorem dX7_addRun_33 : decode cX7_addRun 33 = .ok (.lshl, 1) := by decide +kernel
theorem dX7_addRun_34 : decode cX7_addRun 34 = .ok (.iload 11, 2) := by decide +kernel
theorem dX7_addRun_36 : decode cX7_addRun 36 = .ok (.i2l, 1) := by decide +kernel
theorem dX7_addRun_37 : decode cX7_addRun 37 = .ok (.lor, 1) := by decide +kernel
theorem dX7_addRun_38 : decode cX7_addRun 38 = .ok (.lstore 6, 2) := by decide +kernel
theorem dX7_addRun_40 : decode cX7_addRun 40 = .ok (.iload 11, 2) := by decide +kernel
theorem dX7_addRun_42 : decode cX7_addRun 42 = .ok (.invokestatic 62, 3) := by decide +kernel
theorem dX7_addRun_45 : decode cX7_addRun 45 = .ok (.ifCond .eq 25, 3) := by decide +kernel
theorem dX7_addRun_48 : decode cX7_addRun 48 = .ok (.iinc 5 1, 3) := by decide +kernel
theorem dX7_addRun_51 : decode cX7_addRun 51 = .ok (.lload 8, 2) := by decide +kernel
theorem dX7_addRun_53 : decode cX7_addRun 53 = .ok (.ldc2_w 65, 3) := by decide +kernel
theorem dX7_addRun_56 : decode cX7_addRun 56 = .ok (.lmul, 1) := by decide +kernel
theorem dX7_addRun_57 : decode cX7_addRun 57 = .ok (.iload 11, 2) := by decide +kernel
theorem dX7_addRun_59 : decode cX7_addRun 59 = .ok (.i2l, 1) := by decide +kernel
theorem dX7_addRun_60 : decode cX7_addRun 60 = .ok (.ladd, 1) := by decide +kernel
theorem dX7_addRun_61 : decode cX7_addRun 61 = .ok (.ldc2_w 67, 3) := by decide +kernel
theorem dX7_addRun_64 : decode cX7_addRun 64 = .ok (.lsub, 1) := by decide +kernel
theorem dX7_addRun_65 : decode cX7_addRun 65 = .ok (.lstore 8, 2) := by decide +kernel
theorem dX7_addRun_67 : decode cX7_addRun 67 = .ok (.goto 6, 3) := by decide +kernel
theorem dX7_addRun_70 : decode cX7_addRun 70 = .ok (.iinc 4 1, 3) := by decide +kernel
theorem dX7_addRun_73 : decode cX7_addRun 73 = .ok (.iinc 10 1, 3) := by decide +kernel
theorem dX7_addRun_76 : decode cX7_addRun 76 = .ok (.goto (-61), 3) := by decide +kernel
theorem dX7_addRun_79 : decode cX7_addRun 79 = .ok (.iload 5, 2) := by decide +kernel
theorem dX7_addRun_81 : decode cX7_addRun 81 = .ok (.ifCond .ne 31, 3) := by decide +kernel
theorem dX7_addRun_84 : decode cX7_addRun 84 = .ok (.iload 4, 2) := by decide +kernel
theorem dX7_addRun_86 : decode cX7_addRun 86 = .ok (.iconst 1, 1) := by decide +kernel
theorem dX7_addRun_87 : decode cX7_addRun 87 = .ok (.if_icmp .lt 25, 3) := by decide +kernel
theorem dX7_addRun_90 : decode cX7_addRun 90 = .ok (.iload 4, 2) := by decide +kernel
theorem dX7_addRun_92 : decode cX7_addRun 92 = .ok (.bipush 6, 2) := by decide +kernel
theorem dX7_addRun_94 : decode cX7_addRun 94 = .ok (.if_icmp .gt 18, 3) := by decide +kernel
theorem dX7_addRun_97 : decode cX7_addRun 97 = .ok (.aload_n 0, 1) := by decide +kernel
theorem dX7_addRun_98 : decode cX7_addRun 98 = .ok (.lload 6, 2) := by decide +kernel
theorem dX7_addRun_100 : decode cX7_addRun 100 = .ok (.invokestatic 69, 3) := by decide +kernel
theorem dX7_addRun_103 : decode cX7_addRun 103 = .ok (.iload_n 2, 1) := by decide +kernel
theorem dX7_addRun_104 : decode cX7_addRun 104 = .ok (.lload 6, 2) := by decide +kernel
theorem dX7_addRun_106 : decode cX7_addRun 106 = .ok (.invokevirtual 36, 3) := by decide +kernel
theorem dX7_addRun_109 : decode cX7_addRun 109 = .ok (.goto 38, 3) := by decide +kernel
theorem dX7_addRun_112 : decode cX7_addRun 112 = .ok (.iload 4, 2) := by decide +kernel
theorem dX7_addRun_114 : decode cX7_addRun 114 = .ok (.ifCond .ne 26, 3) := by decide +kernel
theorem dX7_addRun_117 : decode cX7_addRun 117 = .ok (.iload 5, 2) := by decide +kernel
theorem dX7_addRun_119 : decode cX7_addRun 119 = .ok (.iconst 1, 1) := by decide +kernel
theorem dX7_addRun_120 : decode cX7_addRun 120 = .ok (.if_icmp .lt 20, 3) := by decide +kernel
theorem dX7_addRun_123 : decode cX7_addRun 123 = .ok (.iload 5, 2) := by decide +kernel
theorem dX7_addRun_125 : decode cX7_addRun 125 = .ok (.iconst 2, 1) := by decide +kernel
theorem dX7_addRun_126 : decode cX7_addRun 126 = .ok (.if_icmp .gt 14, 3) := by decide +kernel
theorem dX7_addRun_129 : decode cX7_addRun 129 = .ok (.aload_n 0, 1) := by decide +kernel
theorem dX7_addRun_130 : decode cX7_addRun 130 = .ok (.iconst 3, 1) := by decide +kernel
theorem dX7_addRun_131 : decode cX7_addRun 131 = .ok (.iload_n 2, 1) := by decide +kernel
theorem dX7_addRun_132 : decode cX7_addRun 132 = .ok (.lload 8, 2) := by decide +kernel
theorem dX7_addRun_134 : decode cX7_addRun 134 = .ok (.invokevirtual 36, 3) := by decide +kernel
theorem dX7_addRun_137 : decode cX7_addRun 137 = .ok (.goto 10, 3) := by decide +kernel
theorem dX7_addRun_140 : decode cX7_addRun 140 = .ok (.aload_n 0, 1) := by decide +kernel
theorem dX7_addRun_141 : decode cX7_addRun 141 = .ok (.iconst 1, 1) := by decide +kernel
theorem dX7_addRun_142 : decode cX7_addRun 142 = .ok (.iload_n 2, 1) := by decide +kernel
theorem dX7_addRun_143 : decode cX7_addRun 143 = .ok (.lconst 0, 1) := by decide +kernel
theorem dX7_addRun_144 : decode cX7_addRun 144 = .ok (.invokevirtual 36, 3) := by decide +kernel
theorem dX7_addRun_147 : decode cX7_addRun 147 = .ok (.return_, 1) := by decide +kernel
theorem dX7_sortOf_0 : decode cX7_sortOf 0 = .ok (.lload_n 0, 1) := by decide +kernel
theorem dX7_sortOf_1 : decode cX7_sortOf 1 = .ok (.ldc2_w 73, 3) := by decide +kernel
theorem dX7_sortOf_4 : decode cX7_sortOf 4 = .ok (.lcmp, 1) := by decide +kernel
theorem dX7_sortOf_5 : decode cX7_sortOf 5 = .ok (.ifCond .ne 5, 3) := by decide +kernel
theorem dX7_sortOf_8 : decode cX7_sortOf 8 = .ok (.iconst 5, 1) := by decide +kernel
theorem dX7_sortOf_9 : decode cX7_sortOf 9 = .ok (.ireturn, 1) := by decide +kernel
theorem dX7_sortOf_10 : decode cX7_sortOf 10 = .ok (.lload_n 0, 1) := by decide +kernel
theorem dX7_sortOf_11 : decode cX7_sortOf 11 = .ok (.ldc2_w 75, 3) := by decide +kernel
theorem dX7_sortOf_14 : decode cX7_sortOf 14 = .ok (.lcmp, 1) := by decide +kernel
theorem dX7_sortOf_15 : decode cX7_sortOf 15 = .ok (.ifCond .ne 6, 3) := by decide +kernel
theorem dX7_sortOf_18 : decode cX7_sortOf 18 = .ok (.bipush 6, 2) := by decide +kernel
theorem dX7_sortOf_20 : decode cX7_sortOf 20 = .ok (.ireturn, 1) := by decide +kernel
theorem dX7_sortOf_21 : decode cX7_sortOf 21 = .ok (.lload_n 0, 1) := by decide +kernel
theorem dX7_sortOf_22 : decode cX7_sortOf 22 = .ok (.ldc2_w 77, 3) := by decide +kernel
theorem dX7_sortOf_25 : decode cX7_sortOf 25 = .ok (.lcmp, 1) := by decide +kernel
theorem dX7_sortOf_26 : decode cX7_sortOf 26 = .ok (.ifCond .ne 6, 3) := by decide +kernel
theorem dX7_sortOf_29 : decode cX7_sortOf 29 = .ok (.bipush 7, 2) := by decide +kernel
theorem dX7_sortOf_31 : decode cX7_sortOf 31 = .ok (.ireturn, 1) := by decide +kernel
theorem dX7_sortOf_32 : decode cX7_sortOf 32 = .ok (.lload_n 0, 1) := by decide +kernel
theorem dX7_sortOf_33 : decode cX7_sortOf 33 = .ok (.ldc2_w 79, 3) := by decide +kernel
theorem dX7_sortOf_36 : decode cX7_sortOf 36 = .ok (.lcmp, 1) := by decide +kernel
theorem dX7_sortOf_37 : decode cX7_sortOf 37 = .ok (.ifCond .ne 6, 3) := by decide +kernel
theorem dX7_sortOf_40 : decode cX7_sortOf 40 = .ok (.bipush 8, 2) := by decide +kernel
theorem dX7_sortOf_42 : decode cX7_sortOf 42 = .ok (.ireturn, 1) := by decide +kernel
theorem dX7_sortOf_43 : decode cX7_sortOf 43 = .ok (.lload_n 0, 1) := by decide +kernel
theorem dX7_sortOf_44 : decode cX7_sortOf 44 = .ok (.ldc2_w 81, 3) := by decide +kernel
theorem dX7_sortOf_47 : decode cX7_sortOf 47 = .ok (.lcmp, 1) := by decide +kernel
theorem dX7_sortOf_48 : decode cX7_sortOf 48 = .ok (.ifCond .ne 6, 3) := by decide +kernel
theorem dX7_sortOf_51 : decode cX7_sortOf 51 = .ok (.bipush 9, 2) := by decide +kernel
theorem dX7_sortOf_53 : decode cX7_sortOf 53 = .ok (.ireturn, 1) := by decide +kernel
theorem dX7_sortOf_54 : decode cX7_sortOf 54 = .ok (.lload_n 0, 1) := by decide +kernel
theorem dX7_sortOf_55 : decode cX7_sortOf 55 = .ok (.ldc2_w 83, 3) := by decide +kernel
theorem dX7_sortOf_58 : decode cX7_sortOf 58 = .ok (.lcmp, 1) := by decide +kernel
theorem dX7_sortOf_59 : decode cX7_sortOf 59 = .ok (.ifCond .ne 6, 3) := by decide +kernel
theorem dX7_sortOf_62 : decode cX7_sortOf 62 = .ok (.bipush 10, 2) := by decide +kernel
theorem dX7_sortOf_64 : decode cX7_sortOf 64 = .ok (.ireturn, 1) := by decide +kernel
theorem dX7_sortOf_65 : decode cX7_sortOf 65 = .ok (.lload_n 0, 1) := by decide +kernel
theorem dX7_sortOf_66 : decode cX7_sortOf 66 = .ok (.ldc2_w 85, 3) := by decide +kernel
theorem dX7_sortOf_69 : decode cX7_sortOf 69 = .ok (.lcmp, 1) := by decide +kernel
theorem dX7_sortOf_70 : decode cX7_sortOf 70 = .ok (.ifCond .ne 6, 3) := by decide +kernel
theorem dX7_sortOf_73 : decode cX7_sortOf 73 = .ok (.bipush 11, 2) := by decide +kernel
theorem dX7_sortOf_75 : decode cX7_sortOf 75 = .ok (.ireturn, 1) := by decide +kernel
theorem dX7_sortOf_76 : decode cX7_sortOf 76 = .ok (.lload_n 0, 1) := by decide +kernel
theorem dX7_sortOf_77 : decode cX7_sortOf 77 = .ok (.ldc2_w 87, 3) := by decide +kernel
theorem dX7_sortOf_80 : decode cX7_sortOf 80 = .ok (.lcmp, 1) := by decide +kernel
theorem dX7_sortOf_81 : decode cX7_sortOf 81 = .ok (.ifCond .ne 6, 3) := by decide +kernel
theorem dX7_sortOf_84 : decode cX7_sortOf 84 = .ok (.bipush 12, 2) := by decide +kernel
theorem dX7_sortOf_86 : decode cX7_sortOf 86 = .ok (.ireturn, 1) := by decide +kernel
theorem dX7_sortOf_87 : decode cX7_sortOf 87 = .ok (.lload_n 0, 1) := by decide +kernel
theorem dX7_sortOf_88 : decode cX7_sortOf 88 = .ok (.ldc2_w 89, 3) := by decide +kernel
theorem dX7_sortOf_91 : decode cX7_sortOf 91 = .ok (.lcmp, 1) := by decide +kernel
theorem dX7_sortOf_92 : decode cX7_sortOf 92 = .ok (.ifCond .ne 6, 3) := by decide +kernel
theorem dX7_sortOf_95 : decode cX7_sortOf 95 = .ok (.bipush 13, 2) := by decide +kernel
theorem dX7_sortOf_97 : decode cX7_sortOf 97 = .ok (.ireturn, 1) := by decide +kernel
theorem dX7_sortOf_98 : decode cX7_sortOf 98 = .ok (.lload_n 0, 1) := by decide +kernel
theorem dX7_sortOf_99 : decode cX7_sortOf 99 = .ok (.ldc2_w 91, 3) := by decide +kernel
theorem dX7_sortOf_102 : decode cX7_sortOf 102 = .ok (.lcmp, 1) := by decide +kernel
theorem dX7_sortOf_103 : decode cX7_sortOf 103 = .ok (.ifCond .ne 8, 3) := by decide +kernel
theorem dX7_sortOf_106 : decode cX7_sortOf 106 = .ok (.bipush 14, 2) := by decide +kernel
theorem dX7_sortOf_108 : decode cX7_sortOf 108 = .ok (.goto 4, 3) := by decide +kernel
theorem dX7_sortOf_111 : decode cX7_sortOf 111 = .ok (.iconst 4, 1) := by decide +kernel
theorem dX7_sortOf_112 : decode cX7_sortOf 112 = .ok (.ireturn, 1) := by decide +kernel
theorem dX8_gatherAll_0 : decode cX8_gatherAll 0 = .ok (.aload_n 0, 1) := by decide +kernel
theorem dX8_gatherAll_1 : decode cX8_gatherAll 1 = .ok (.aload_n 0, 1) := by decide +kernel
theorem dX8_gatherAll_2 : decode cX8_gatherAll 2 = .ok (.getfield 53, 3) := by decide +kernel
theorem dX8_gatherAll_5 : decode cX8_gatherAll 5 = .ok (.getfield 57, 3) := by decide +kernel
theorem dX8_gatherAll_8 : decode cX8_gatherAll 8 = .ok (.getfield 63, 3) := by decide +kernel
theorem dX8_gatherAll_11 : decode cX8_gatherAll 11 = .ok (.invokevirtual 68, 3) := by decide +kernel
theorem dX8_gatherAll_14 : decode cX8_gatherAll 14 = .ok (.return_, 1) := by decide +kernel
theorem dX8_gather_0 : decode cX8_gather 0 = .ok (.aload_n 0, 1) := by decide +kernel
theorem dX8_gather_1 : decode cX8_gather 1 = .ok (.getfield 11, 3) := by decide +kernel
theorem dX8_gather_4 : decode cX8_gather 4 = .ok (.ldc2_w 72, 3) := by decide +kernel
theorem dX8_gather_7 : decode cX8_gather 7 = .ok (.invokestatic 74, 3) := by decide +kernel
theorem dX8_gather_10 : decode cX8_gather 10 = .ok (.iconst 0, 1) := by decide +kernel
theorem dX8_gather_11 : decode cX8_gather 11 = .ok (.istore_n 2, 1) := by decide +kernel
theorem dX8_gather_12 : decode cX8_gather 12 = .ok (.iload_n 2, 1) := by decide +kernel
theorem dX8_gather_13 : decode cX8_gather 13 = .ok (.iload_n 1, 1) := by decide +kernel
theorem dX8_gather_14 : decode cX8_gather 14 = .ok (.if_icmp .ge 20, 3) := by decide +kernel
theorem dX8_gather_17 : decode cX8_gather 17 = .ok (.iload_n 2, 1) := by decide +kernel
theorem dX8_gather_18 : decode cX8_gather 18 = .ok (.bipush 40, 2) := by decide +kernel
theorem dX8_gather_20 : decode cX8_gather 20 = .ok (.if_icmp .ge 14, 3) := by decide +kernel
theorem dX8_gather_23 : decode cX8_gather 23 = .ok (.aload_n 0, 1) := by decide +kernel
theorem dX8_gather_24 : decode cX8_gather 24 = .ok (.iload_n 2, 1) := by decide +kernel
theorem dX8_gather_25 : decode cX8_gather 25 = .ok (.invokevirtual 80, 3) := by decide +kernel
theorem dX8_gather_28 : decode cX8_gather 28 = .ok (.iinc 2 1, 3) := by decide +kernel
theorem dX8_gather_31 : decode cX8_gather 31 = .ok (.goto (-19), 3) := by decide +kernel
theorem dX8_gather_34 : decode cX8_gather 34 = .ok (.aload_n 0, 1) := by decide +kernel
theorem dX8_gather_35 : decode cX8_gather 35 = .ok (.invokevirtual 83, 3) := by decide +kernel
theorem dX8_gather_38 : decode cX8_gather 38 = .ok (.iconst 0, 1) := by decide +kernel
theorem dX8_gather_39 : decode cX8_gather 39 = .ok (.istore_n 2, 1) := by decide +kernel
theorem dX8_gather_40 : decode cX8_gather 40 = .ok (.iload_n 2, 1) := by decide +kernel
theorem dX8_gather_41 : decode cX8_gather 41 = .ok (.aload_n 0, 1) := by decide +kernel
theorem dX8_gather_42 : decode cX8_gather 42 = .ok (.getfield 53, 3) := by decide +kernel
theorem dX8_gather_45 : decode cX8_gather 45 = .ok (.getfield 86, 3) := by decide +kernel
theorem dX8_gather_48 : decode cX8_gather 48 = .ok (.if_icmp .ge 19, 3) := by decide +kernel
theorem dX8_gather_51 : decode cX8_gather 51 = .ok (.aload_n 0, 1) := by decide +kernel
theorem dX8_gather_52 : decode cX8_gather 52 = .ok (.iload_n 2, 1) := by decide +kernel
theorem dX8_gather_53 : decode cX8_gather 53 = .ok (.invokevirtual 89, 3) := by decide +kernel
theorem dX8_gather_56 : decode cX8_gather 56 = .ok (.aload_n 0, 1) := by decide +kernel
theorem dX8_gather_57 : decode cX8_gather 57 = .ok (.iload_n 2, 1) := by decide +kernel
theorem dX8_gather_58 : decode cX8_gather 58 = .ok (.invokevirtual 92, 3) := by decide +kernel
theorem dX8_gather_61 : decode cX8_gather 61 = .ok (.iinc 2 1, 3) := by decide +kernel
theorem dX8_gather_64 : decode cX8_gather 64 = .ok (.goto (-24), 3) := by decide +kernel
theorem dX8_gather_67 : decode cX8_gather 67 = .ok (.return_, 1) := by decide +kernel
theorem dX8_fittingIndex_0 : decode cX8_fittingIndex 0 = .ok (.iload_n 0, 1) := by decide +kernel
theorem dX8_fittingIndex_1 : decode cX8_fittingIndex 1 = .ok (.iconst 4, 1) := by decide +kernel
theorem dX8_fittingIndex_2 : decode cX8_fittingIndex 2 = .ok (.imul, 1) := by decide +kernel
theorem dX8_fittingIndex_3 : decode cX8_fittingIndex 3 = .ok (.iload_n 1, 1) := by decide +kernel
theorem dX8_fittingIndex_4 : decode cX8_fittingIndex 4 = .ok (.iadd, 1) := by decide +kernel
theorem dX8_fittingIndex_5 : decode cX8_fittingIndex 5 = .ok (.iconst 3, 1) := by decide +kernel
theorem dX8_fittingIndex_6 : decode cX8_fittingIndex 6 = .ok (.imul, 1) := by decide +kernel
theorem dX8_fittingIndex_7 : decode cX8_fittingIndex 7 = .ok (.iload_n 2, 1) := by decide +kernel
theorem dX8_fittingIndex_8 : decode cX8_fittingIndex 8 = .ok (.iadd, 1) := by decide +kernel
theorem dX8_fittingIndex_9 : decode cX8_fittingIndex 9 = .ok (.ireturn, 1) := by decide +kernel
theorem dX8_heed_0 : decode cX8_heed 0 = .ok (.aload_n 0, 1) := by decide +kernel
theorem dX8_heed_1 : decode cX8_heed 1 = .ok (.getfield 53, 3) := by decide +kernel
theorem dX8_heed_4 : decode cX8_heed 4 = .ok (.getfield 57, 3) := by decide +kernel
theorem dX8_heed_7 : decode cX8_heed 7 = .ok (.getfield 95, 3) := by decide +kernel
theorem dX8_heed_10 : decode cX8_heed 10 = .ok (.iload_n 1, 1) := by decide +kernel
theorem dX8_heed_11 : decode cX8_heed 11 = .ok (.invokestatic 98, 3) := by decide +kernel
theorem dX8_heed_14 : decode cX8_heed 14 = .ok (.istore_n 2, 1) := by decide +kernel
theorem dX8_heed_15 : decode cX8_heed 15 = .ok (.aload_n 0, 1) := by decide +kernel
theorem dX8_heed_16 : decode cX8_heed 16 = .ok (.getfield 53, 3) := by decide +kernel
theorem dX8_heed_19 : decode cX8_heed 19 = .ok (.getfield 57, 3) := by decide +kernel
theorem dX8_heed_22 : decode cX8_heed 22 = .ok (.getfield 102, 3) := by decide +kernel
theorem dX8_heed_25 : decode cX8_heed 25 = .ok (.iload_n 1, 1) := by decide +kernel
theorem dX8_heed_26 : decode cX8_heed 26 = .ok (.invokestatic 98, 3) := by decide +kernel
theorem dX8_heed_29 : decode cX8_heed 29 = .ok (.istore_n 3, 1) := by decide +kernel
theorem dX8_heed_30 : decode cX8_heed 30 = .ok (.aload_n 0, 1) := by decide +kernel
theorem dX8_heed_31 : decode cX8_heed 31 = .ok (.getfield 53, 3) := by decide +kernel
theorem dX8_heed_34 : decode cX8_heed 34 = .ok (.getfield 57, 3) := by decide +kernel
theorem dX8_heed_37 : decode cX8_heed 37 = .ok (.getfield 105, 3) := by decide +kernel
theorem dX8_heed_40 : decode cX8_heed 40 = .ok (.iload_n 1, 1) := by decide +kernel
theorem dX8_heed_41 : decode cX8_heed 41 = .ok (.invokestatic 98, 3) := by decide +kernel
theorem dX8_heed_44 : decode cX8_heed 44 = .ok (.istore 4, 2) := by decide +kernel
theorem dX8_heed_46 : decode cX8_heed 46 = .ok (.iconst 0, 1) := by decide +kernel
theorem dX8_heed_47 : decode cX8_heed 47 = .ok (.istore 5, 2) := by decide +kernel
theorem dX8_heed_49 : decode cX8_heed 49 = .ok (.iload 5, 2) := by decide +kernel
theorem dX8_heed_51 : decode cX8_heed 51 = .ok (.aload_n 0, 1) := by decide +kernel
theorem dX8_heed_52 : decode cX8_heed 52 = .ok (.getfield 53, 3) := by decide +kernel
theorem dX8_heed_55 : decode cX8_heed 55 = .ok (.getfield 108, 3) := by decide +kernel
theorem dX8_heed_58 : decode cX8_heed 58 = .ok (.if_icmp .ge 128, 3) := by decide +kernel
theorem dX8_heed_61 : decode cX8_heed 61 = .ok (.iload 4, 2) := by decide +kernel
theorem dX8_heed_63 : decode cX8_heed 63 = .ok (.iload 5, 2) := by decide +kernel
theorem dX8_heed_65 : decode cX8_heed 65 = .ok (.iushr, 1) := by decide +kernel
theorem dX8_heed_66 : decode cX8_heed 66 = .ok (.iconst 1, 1) := by decide +kernel
theorem dX8_heed_67 : decode cX8_heed 67 = .ok (.iand, 1) := by decide +kernel
theorem dX8_heed_68 : decode cX8_heed 68 = .ok (.iconst 1, 1) := by decide +kernel
theorem dX8_heed_69 : decode cX8_heed 69 = .ok (.if_icmp .ne 7, 3) := by decide +kernel
theorem dX8_heed_72 : decode cX8_heed 72 = .ok (.iconst 1, 1) := by decide +kernel
theorem dX8_heed_73 : decode cX8_heed 73 = .ok (.goto 4, 3) := by decide +kernel
theorem dX8_heed_76 : decode cX8_heed 76 = .ok (.iconst 0, 1) := by decide +kernel
theorem dX8_heed_77 : decode cX8_heed 77 = .ok (.istore 6, 2) := by decide +kernel
theorem dX8_heed_79 : decode cX8_heed 79 = .ok (.aload_n 0, 1) := by decide +kernel
theorem dX8_heed_80 : decode cX8_heed 80 = .ok (.getfield 53, 3) := by decide +kernel
theorem dX8_heed_83 : decode cX8_heed 83 = .ok (.iload 5, 2) := by decide +kernel
theorem dX8_heed_85 : decode cX8_heed 85 = .ok (.iload_n 3, 1) := by decide +kernel
theorem dX8_heed_86 : decode cX8_heed 86 = .ok (.invokevirtual 111, 3) := by decide +kernel
theorem dX8_heed_89 : decode cX8_heed 89 = .ok (.lstore 7, 2) := by decide +kernel
theorem dX8_heed_91 : decode cX8_heed 91 = .ok (.aload_n 0, 1) := by decide +kernel
theorem dX8_heed_92 : decode cX8_heed 92 = .ok (.getfield 53, 3) := by decide +kernel
theorem dX8_heed_95 : decode cX8_heed 95 = .ok (.iload 5, 2) := by decide +kernel
theorem dX8_heed_97 : decode cX8_heed 97 = .ok (.iload_n 3, 1) := by decide +kernel
theorem dX8_heed_98 : decode cX8_heed 98 = .ok (.iconst 1, 1) := by decide +kernel
theorem dX8_heed_99 : decode cX8_heed 99 = .ok (.isub, 1) := by decide +kernel
theorem dX8_heed_100 : decode cX8_heed 100 = .ok (.invokevirtual 111, 3) := by decide +kernel
theorem dX8_heed_103 : decode cX8_heed 103 = .ok (.lstore 9, 2) := by decide +kernel
theorem dX8_heed_105 : decode cX8_heed 105 = .ok (.aload_n 0, 1) := by decide +kernel
theorem dX8_heed_106 : decode cX8_heed 106 = .ok (.iload_n 2, 1) := by decide +kernel
theorem dX8_heed_107 : decode cX8_heed 107 = .ok (.iconst 0, 1) := by decide +kernel
theorem dX8_heed_108 : decode cX8_heed 108 = .ok (.iload 5, 2) := by decide +kernel
theorem dX8_heed_110 : decode cX8_heed 110 = .ok (.invokestatic 115, 3) := by decide +kernel
theorem dX8_heed_113 : decode cX8_heed 113 = .ok (.iload 6, 2) := by decide +kernel
theorem dX8_heed_115 : decode cX8_heed 115 = .ok (.ifCond .eq 8, 3) := by decide +kernel
theorem dX8_heed_118 : decode cX8_heed 118 = .ok (.lload 7, 2) := by decide +kernel
theorem dX8_heed_120 : decode cX8_heed 120 = .ok (.goto 9, 3) := by decide +kernel
theorem dX8_heed_123 : decode cX8_heed 123 = .ok (.lload 7, 2) := by decide +kernel
theorem dX8_heed_125 : decode cX8_heed 125 = .ok (.ldc2_w 72, 3) := by decide +kernel
theorem dX8_heed_128 : decode cX8_heed 128 = .ok (.lxor, 1) := by decide +kernel
theorem dX8_heed_129 : decode cX8_heed 129 = .ok (.invokevirtual 119, 3) := by decide +kernel
theorem dX8_heed_132 : decode cX8_heed 132 = .ok (.aload_n 0, 1) := by decide +kernel
theorem dX8_heed_133 : decode cX8_heed 133 = .ok (.iload_n 2, 1) := by decide +kernel
theorem dX8_heed_134 : decode cX8_heed 134 = .ok (.iconst 1, 1) := by decide +kernel
theorem dX8_heed_135 : decode cX8_heed 135 = .ok (.iload 5, 2) := by decide +kernel
theorem dX8_heed_137 : decode cX8_heed 137 = .ok (.invokestatic 115, 3) := by decide +kernel
theorem dX8_heed_140 : decode cX8_heed 140 = .ok (.iload 6, 2) := by decide +kernel
theorem dX8_heed_142 : decode cX8_heed 142 = .ok (.ifCond .eq 8, 3) := by decide +kernel
theorem dX8_heed_145 : decode cX8_heed 145 = .ok (.lload 9, 2) := by decide +kernel
theorem dX8_heed_147 : decode cX8_heed 147 = .ok (.goto 9, 3) := by decide +kernel
theorem dX8_heed_150 : decode cX8_heed 150 = .ok (.lload 9, 2) := by decide +kernel
theorem dX8_heed_152 : decode cX8_heed 152 = .ok (.ldc2_w 72, 3) := by decide +kernel
theorem dX8_heed_155 : decode cX8_heed 155 = .ok (.lxor, 1) := by decide +kernel
theorem dX8_heed_156 : decode cX8_heed 156 = .ok (.invokevirtual 119, 3) := by decide +kernel
theorem dX8_heed_159 : decode cX8_heed 159 = .ok (.aload_n 0, 1) := by decide +kernel
theorem dX8_heed_160 : decode cX8_heed 160 = .ok (.iload_n 2, 1) := by decide +kernel
theorem dX8_heed_161 : decode cX8_heed 161 = .ok (.iload 6, 2) := by decide +kernel
theorem dX8_heed_163 : decode cX8_heed 163 = .ok (.ifCond .eq 7, 3) := by decide +kernel
theorem dX8_heed_166 : decode cX8_heed 166 = .ok (.iconst 2, 1) := by decide +kernel
theorem dX8_heed_167 : decode cX8_heed 167 = .ok (.goto 4, 3) := by decide +kernel
theorem dX8_heed_170 : decode cX8_heed 170 = .ok (.iconst 3, 1) := by decide +kernel
theorem dX8_heed_171 : decode cX8_heed 171 = .ok (.iload 5, 2) := by decide +kernel
theorem dX8_heed_173 : decode cX8_heed 173 = .ok (.invokestatic 115, 3) := by decide +kernel
theorem dX8_heed_176 : decode cX8_heed 176 = .ok (.lconst 0, 1) := by decide +kernel
theorem dX8_heed_177 : decode cX8_heed 177 = .ok (.invokevirtual 119, 3) := by decide +kernel
theorem dX8_heed_180 : decode cX8_heed 180 = .ok (.iinc 5 1, 3) := by decide +kernel
theorem dX8_heed_183 : decode cX8_heed 183 = .ok (.goto (-134), 3) := by decide +kernel
theorem dX8_heed_186 : decode cX8_heed 186 = .ok (.return_, 1) := by decide +kernel
theorem dX8_narrow_0 : decode cX8_narrow 0 = .ok (.aload_n 0, 1) := by decide +kernel
theorem dX8_narrow_1 : decode cX8_narrow 1 = .ok (.getfield 11, 3) := by decide +kernel
theorem dX8_narrow_4 : decode cX8_narrow 4 = .ok (.iload_n 1, 1) := by decide +kernel
theorem dX8_narrow_5 : decode cX8_narrow 5 = .ok (.aload_n 0, 1) := by decide +kernel
theorem dX8_narrow_6 : decode cX8_narrow 6 = .ok (.getfield 11, 3) := by decide +kernel
theorem dX8_narrow_9 : decode cX8_narrow 9 = .ok (.iload_n 1, 1) := by decide +kernel
theorem dX8_narrow_10 : decode cX8_narrow 10 = .ok (.invokestatic 123, 3) := by decide +kernel
theorem dX8_narrow_13 : decode cX8_narrow 13 = .ok (.lload_n 2, 1) := by decide +kernel
theorem dX8_narrow_14 : decode cX8_narrow 14 = .ok (.land, 1) := by decide +kernel
theorem dX8_narrow_15 : decode cX8_narrow 15 = .ok (.invokestatic 127, 3) := by decide +kernel
theorem dX8_narrow_18 : decode cX8_narrow 18 = .ok (.return_, 1) := by decide +kernel
theorem dX8_startBranches_0 : decode cX8_startBranches 0 = .ok (.aload_n 0, 1) := by decide +kernel
theorem dX8_startBranches_1 : decode cX8_startBranches 1 = .ok (.iconst 0, 1) := by decide +kernel
theorem dX8_startBranches_2 : decode cX8_startBranches 2 = .ok (.putfield 26, 3) := by decide +kernel
theorem dX8_startBranches_5 : decode cX8_startBranches 5 = .ok (.aload_n 0, 1) := by decide +kernel
theorem dX8_startBranches_6 : decode cX8_startBranches 6 = .ok (.iconst 1, 1) := by decide +kernel
theorem dX8_startBranches_7 : decode cX8_startBranches 7 = .ok (.putfield 29, 3) := by decide +kernel
theorem dX8_startBranches_10 : decode cX8_startBranches 10 = .ok (.aload_n 0, 1) := by decide +kernel
theorem dX8_startBranches_11 : decode cX8_startBranches 11 = .ok (.getfield 32, 3) := by decide +kernel
theorem dX8_startBranches_14 : decode cX8_startBranches 14 = .ok (.iconst 0, 1) := by decide +kernel
theorem dX8_startBranches_15 : decode cX8_startBranches 15 = .ok (.iconst 0, 1) := by decide +kernel
theorem dX8_startBranches_16 : decode cX8_startBranches 16 = .ok (.invokestatic 131, 3) := by decide +kernel
theorem dX8_startBranches_19 : decode cX8_startBranches 19 = .ok (.iconst 0, 1) := by decide +kernel
theorem dX8_startBranches_20 : decode cX8_startBranches 20 = .ok (.istore_n 1, 1) := by decide +kernel
theorem dX8_startBranches_21 : decode cX8_startBranches 21 = .ok (.iload_n 1, 1) := by decide +kernel
theorem dX8_startBranches_22 : decode cX8_startBranches 22 = .ok (.iconst 3, 1) := by decide +kernel
theorem dX8_startBranches_23 : decode cX8_startBranches 23 = .ok (.if_icmp .ge 54, 3) := by decide +kernel
theorem dX8_startBranches_26 : decode cX8_startBranches 26 = .ok (.iload_n 1, 1) := by decide +kernel
theorem dX8_startBranches_27 : decode cX8_startBranches 27 = .ok (.aload_n 0, 1) := by decide +kernel
theorem dX8_startBranches_28 : decode cX8_startBranches 28 = .ok (.getfield 53, 3) := by decide +kernel
theorem dX8_startBranches_31 : decode cX8_startBranches 31 = .ok (.getfield 108, 3) := by decide +kernel
theorem dX8_startBranches_34 : decode cX8_startBranches 34 = .ok (.if_icmp .ge 7, 3) := by decide +kernel
theorem dX8_startBranches_37 : decode cX8_startBranches 37 = .ok (.iconst 1, 1) := by decide +kernel
theorem dX8_startBranches_38 : decode cX8_startBranches 38 = .ok (.goto 4, 3) := by decide +kernel
theorem dX8_startBranches_41 : decode cX8_startBranches 41 = .ok (.iconst 0, 1) := by decide +kernel
theorem dX8_startBranches_42 : decode cX8_startBranches 42 = .ok (.istore_n 2, 1) := by decide +kernel
theorem dX8_startBranches_43 : decode cX8_startBranches 43 = .ok (.aload_n 0, 1) := by decide +kernel
theorem dX8_startBranches_44 : decode cX8_startBranches 44 = .ok (.getfield 35, 3) := by decide +kernel
theorem dX8_startBranches_47 : decode cX8_startBranches 47 = .ok (.iload_n 1, 1) := by decide +kernel
theorem dX8_startBranches_48 : decode cX8_startBranches 48 = .ok (.iload_n 2, 1) := by decide +kernel
theorem dX8_startBranches_49 : decode cX8_startBranches 49 = .ok (.ifCond .eq 18, 3) := by decide +kernel
theorem dX8_startBranches_52 : decode cX8_startBranches 52 = .ok (.lconst 1, 1) := by decide +kernel
theorem dX8_startBranches_53 : decode cX8_startBranches 53 = .ok (.aload_n 0, 1) := by decide +kernel
theorem dX8_startBranches_54 : decode cX8_startBranches 54 = .ok (.getfield 53, 3) := by decide +kernel
theorem dX8_startBranches_57 : decode cX8_startBranches 57 = .ok (.iload_n 1, 1) := by decide +kernel
theorem dX8_startBranches_58 : decode cX8_startBranches 58 = .ok (.invokevirtual 135, 3) := by decide +kernel
theorem dX8_startBranches_61 : decode cX8_startBranches 61 = .ok (.lshl, 1) := by decide +kernel
theorem dX8_startBranches_62 : decode cX8_startBranches 62 = .ok (.lconst 1, 1) := by decide +kernel
theorem dX8_startBranches_63 : decode cX8_startBranches 63 = .ok (.lsub, 1) := by decide +kernel
theorem dX8_startBranches_64 : decode cX8_startBranches 64 = .ok (.goto 4, 3) := by decide +kernel
theorem dX8_startBranches_67 : decode cX8_startBranches 67 = .ok (.lconst 1, 1) := by decide +kernel
theorem dX8_startBranches_68 : decode cX8_startBranches 68 = .ok (.invokestatic 127, 3) := by decide +kernel
theorem dX8_startBranches_71 : decode cX8_startBranches 71 = .ok (.iinc 1 1, 3) := by decide +kernel
theorem dX8_startBranches_74 : decode cX8_startBranches 74 = .ok (.goto (-53), 3) := by decide +kernel
theorem dX8_startBranches_77 : decode cX8_startBranches 77 = .ok (.return_, 1) := by decide +kernel
theorem dX8_findChoices_0 : decode cX8_findChoices 0 = .ok (.aload_n 0, 1) := by decide +kernel
theorem dX8_findChoices_1 : decode cX8_findChoices 1 = .ok (.iconst 0, 1) := by decide +kernel
theorem dX8_findChoices_2 : decode cX8_findChoices 2 = .ok (.putfield 15, 3) := by decide +kernel
theorem dX8_findChoices_5 : decode cX8_findChoices 5 = .ok (.iconst 0, 1) := by decide +kernel
theorem dX8_findChoices_6 : decode cX8_findChoices 6 = .ok (.istore_n 2, 1) := by decide +kernel
theorem dX8_findChoices_7 : decode cX8_findChoices 7 = .ok (.iload_n 2, 1) := by decide +kernel
theorem dX8_findChoices_8 : decode cX8_findChoices 8 = .ok (.bipush 8, 2) := by decide +kernel
theorem dX8_findChoices_10 : decode cX8_findChoices 10 = .ok (.if_icmp .ge 55, 3) := by decide +kernel
theorem dX8_findChoices_13 : decode cX8_findChoices 13 = .ok (.aload_n 0, 1) := by decide +kernel
theorem dX8_findChoices_14 : decode cX8_findChoices 14 = .ok (.getfield 53, 3) := by decide +kernel
theorem dX8_findChoices_17 : decode cX8_findChoices 17 = .ok (.getfield 139, 3) := by decide +kernel
theorem dX8_findChoices_20 : decode cX8_findChoices 20 = .ok (.iload_n 1, 1) := by decide +kernel
theorem dX8_findChoices_21 : decode cX8_findChoices 21 = .ok (.invokestatic 98, 3) := by decide +kernel
theorem dX8_findChoices_24 : decode cX8_findChoices 24 = .ok (.iload_n 2, 1) := by decide +kernel
theorem dX8_findChoices_25 : decode cX8_findChoices 25 = .ok (.iushr, 1) := by decide +kernel
theorem dX8_findChoices_26 : decode cX8_findChoices 26 = .ok (.iconst 1, 1) := by decide +kernel
theorem dX8_findChoices_27 : decode cX8_findChoices 27 = .ok (.iand, 1) := by decide +kernel
theorem dX8_findChoices_28 : decode cX8_findChoices 28 = .ok (.iconst 1, 1) := by decide +kernel
theorem dX8_findChoices_29 : decode cX8_findChoices 29 = .ok (.if_icmp .ne 30, 3) := by decide +kernel
theorem dX8_findChoices_32 : decode cX8_findChoices 32 = .ok (.aload_n 0, 1) := by decide +kernel
theorem dX8_findChoices_33 : decode cX8_findChoices 33 = .ok (.iload_n 1, 1) := by decide +kernel
theorem dX8_findChoices_34 : decode cX8_findChoices 34 = .ok (.iload_n 2, 1) := by decide +kernel
theorem dX8_findChoices_35 : decode cX8_findChoices 35 = .ok (.invokevirtual 142, 3) := by decide +kernel
theorem dX8_findChoices_38 : decode cX8_findChoices 38 = .ok (.istore_n 3, 1) := by decide +kernel
theorem dX8_findChoices_39 : decode cX8_findChoices 39 = .ok (.aload_n 0, 1) := by decide +kernel
theorem dX8_findChoices_40 : decode cX8_findChoices 40 = .ok (.getfield 19, 3) := by decide +kernel
theorem dX8_findChoices_43 : decode cX8_findChoices 43 = .ok (.iload_n 3, 1) := by decide +kernel
theorem dX8_findChoices_44 : decode cX8_findChoices 44 = .ok (.aload_n 0, 1) := by decide +kernel
theorem dX8_findChoices_45 : decode cX8_findChoices 45 = .ok (.getfield 19, 3) := by decide +kernel
theorem dX8_findChoices_48 : decode cX8_findChoices 48 = .ok (.iload_n 3, 1) := by decide +kernel
theorem dX8_findChoices_49 : decode cX8_findChoices 49 = .ok (.invokestatic 98, 3) := by decide +kernel
theorem dX8_findChoices_52 : decode cX8_findChoices 52 = .ok (.iconst 1, 1) := by decide +kernel
theorem dX8_findChoices_53 : decode cX8_findChoices 53 = .ok (.iload_n 2, 1) := by decide +kernel
theorem dX8_findChoices_54 : decode cX8_findChoices 54 = .ok (.ishl, 1) := by decide +kernel
theorem dX8_findChoices_55 : decode cX8_findChoices 55 = .ok (.ior, 1) := by decide +kernel
theorem dX8_findChoices_56 : decode cX8_findChoices 56 = .ok (.invokestatic 131, 3) := by decide +kernel
theorem dX8_findChoices_59 : decode cX8_findChoices 59 = .ok (.iinc 2 1, 3) := by decide +kernel
theorem dX8_findChoices_62 : decode cX8_findChoices 62 = .ok (.goto (-55), 3) := by decide +kernel
theorem dX8_findChoices_65 : decode cX8_findChoices 65 = .ok (.return_, 1) := by decide +kernel
theorem dX8_findChoice_0 : decode cX8_findChoice 0 = .ok (.iconst 0, 1) := by decide +kernel
theorem dX8_findChoice_1 : decode cX8_findChoice 1 = .ok (.istore_n 3, 1) := by decide +kernel
theorem dX8_findChoice_2 : decode cX8_findChoice 2 = .ok (.iload_n 3, 1) := by decide +kernel
theorem dX8_findChoice_3 : decode cX8_findChoice 3 = .ok (.iconst 3, 1) := by decide +kernel
theorem dX8_findChoice_4 : decode cX8_findChoice 4 = .ok (.if_icmp .ge 31, 3) := by decide +kernel
theorem dX8_findChoice_7 : decode cX8_findChoice 7 = .ok (.aload_n 0, 1) := by decide +kernel
theorem dX8_findChoice_8 : decode cX8_findChoice 8 = .ok (.getfield 23, 3) := by decide +kernel
theorem dX8_findChoice_11 : decode cX8_findChoice 11 = .ok (.aload_n 0, 1) := by decide +kernel
theorem dX8_findChoice_12 : decode cX8_findChoice 12 = .ok (.getfield 15, 3) := by decide +kernel
theorem dX8_findChoice_15 : decode cX8_findChoice 15 = .ok (.iconst 3, 1) := by decide +kernel
theorem dX8_findChoice_16 : decode cX8_findChoice 16 = .ok (.imul, 1) := by decide +kernel
theorem dX8_findChoice_17 : decode cX8_findChoice 17 = .ok (.iload_n 3, 1) := by decide +kernel
theorem dX8_findChoice_18 : decode cX8_findChoice 18 = .ok (.iadd, 1) := by decide +kernel
theorem dX8_findChoice_19 : decode cX8_findChoice 19 = .ok (.aload_n 0, 1) := by decide +kernel
theorem dX8_findChoice_20 : decode cX8_findChoice 20 = .ok (.iload_n 1, 1) := by decide +kernel
theorem dX8_findChoice_21 : decode cX8_findChoice 21 = .ok (.iload_n 2, 1) := by decide +kernel
theorem dX8_findChoice_22 : decode cX8_findChoice 22 = .ok (.iload_n 3, 1) := by decide +kernel
theorem dX8_findChoice_23 : decode cX8_findChoice 23 = .ok (.invokevirtual 146, 3) := by decide +kernel
theorem dX8_findChoice_26 : decode cX8_findChoice 26 = .ok (.invokestatic 127, 3) := by decide +kernel
theorem dX8_findChoice_29 : decode cX8_findChoice 29 = .ok (.iinc 3 1, 3) := by decide +kernel
theorem dX8_findChoice_32 : decode cX8_findChoice 32 = .ok (.goto (-30), 3) := by decide +kernel
theorem dX8_findChoice_35 : decode cX8_findChoice 35 = .ok (.iconst 0, 1) := by decide +kernel
theorem dX8_findChoice_36 : decode cX8_findChoice 36 = .ok (.istore_n 3, 1) := by decide +kernel
theorem dX8_findChoice_37 : decode cX8_findChoice 37 = .ok (.iload_n 3, 1) := by decide +kernel
theorem dX8_findChoice_38 : decode cX8_findChoice 38 = .ok (.aload_n 0, 1) := by decide +kernel
theorem dX8_findChoice_39 : decode cX8_findChoice 39 = .ok (.getfield 15, 3) := by decide +kernel
theorem dX8_findChoice_42 : decode cX8_findChoice 42 = .ok (.if_icmp .ge 19, 3) := by decide +kernel
theorem dX8_findChoice_45 : decode cX8_findChoice 45 = .ok (.aload_n 0, 1) := by decide +kernel
theorem dX8_findChoice_46 : decode cX8_findChoice 46 = .ok (.iload_n 3, 1) := by decide +kernel
theorem dX8_findChoice_47 : decode cX8_findChoice 47 = .ok (.invokevirtual 150, 3) := by decide +kernel
theorem dX8_findChoice_50 : decode cX8_findChoice 50 = .ok (.ifCond .eq 5, 3) := by decide +kernel
theorem dX8_findChoice_53 : decode cX8_findChoice 53 = .ok (.iload_n 3, 1) := by decide +kernel
theorem dX8_findChoice_54 : decode cX8_findChoice 54 = .ok (.ireturn, 1) := by decide +kernel
theorem dX8_findChoice_55 : decode cX8_findChoice 55 = .ok (.iinc 3 1, 3) := by decide +kernel
theorem dX8_findChoice_58 : decode cX8_findChoice 58 = .ok (.goto (-21), 3) := by decide +kernel
theorem dX8_findChoice_61 : decode cX8_findChoice 61 = .ok (.aload_n 0, 1) := by decide +kernel
theorem dX8_findChoice_62 : decode cX8_findChoice 62 = .ok (.getfield 19, 3) := by decide +kernel
theorem dX8_findChoice_65 : decode cX8_findChoice 65 = .ok (.aload_n 0, 1) := by decide +kernel
theorem dX8_findChoice_66 : decode cX8_findChoice 66 = .ok (.getfield 15, 3) := by decide +kernel
theorem dX8_findChoice_69 : decode cX8_findChoice 69 = .ok (.iconst 0, 1) := by decide +kernel
theorem dX8_findChoice_70 : decode cX8_findChoice 70 = .ok (.invokestatic 131, 3) := by decide +kernel
theorem dX8_findChoice_73 : decode cX8_findChoice 73 = .ok (.aload_n 0, 1) := by decide +kernel
theorem dX8_findChoice_74 : decode cX8_findChoice 74 = .ok (.dup, 1) := by decide +kernel
theorem dX8_findChoice_75 : decode cX8_findChoice 75 = .ok (.getfield 15, 3) := by decide +kernel
theorem dX8_findChoice_78 : decode cX8_findChoice 78 = .ok (.iconst 1, 1) := by decide +kernel
theorem dX8_findChoice_79 : decode cX8_findChoice 79 = .ok (.iadd, 1) := by decide +kernel
theorem dX8_findChoice_80 : decode cX8_findChoice 80 = .ok (.putfield 15, 3) := by decide +kernel
theorem dX8_findChoice_83 : decode cX8_findChoice 83 = .ok (.aload_n 0, 1) := by decide +kernel
theorem dX8_findChoice_84 : decode cX8_findChoice 84 = .ok (.getfield 15, 3) := by decide +kernel
theorem dX8_findChoice_87 : decode cX8_findChoice 87 = .ok (.iconst 1, 1) := by decide +kernel
theorem dX8_findChoice_88 : decode cX8_findChoice 88 = .ok (.isub, 1) := by decide +kernel
theorem dX8_findChoice_89 : decode cX8_findChoice 89 = .ok (.ireturn, 1) := by decide +kernel
theorem dX8_isLikeNew_0 : decode cX8_isLikeNew 0 = .ok (.iconst 0, 1) := by decide +kernel
theorem dX8_isLikeNew_1 : decode cX8_isLikeNew 1 = .ok (.istore_n 2, 1) := by decide +kernel
theorem dX8_isLikeNew_2 : decode cX8_isLikeNew 2 = .ok (.iload_n 2, 1) := by decide +kernel
theorem dX8_isLikeNew_3 : decode cX8_isLikeNew 3 = .ok (.iconst 3, 1) := by decide +kernel
theorem dX8_isLikeNew_4 : decode cX8_isLikeNew 4 = .ok (.if_icmp .ge 44, 3) := by decide +kernel
theorem dX8_isLikeNew_7 : decode cX8_isLikeNew 7 = .ok (.iload_n 1, 1) := by decide +kernel
theorem dX8_isLikeNew_8 : decode cX8_isLikeNew 8 = .ok (.iconst 3, 1) := by decide +kernel
theorem dX8_isLikeNew_9 : decode cX8_isLikeNew 9 = .ok (.imul, 1) := by decide +kernel
theorem dX8_isLikeNew_10 : decode cX8_isLikeNew 10 = .ok (.iload_n 2, 1) := by decide +kernel
theorem dX8_isLikeNew_11 : decode cX8_isLikeNew 11 = .ok (.iadd, 1) := by decide +kernel
theorem dX8_isLikeNew_12 : decode cX8_isLikeNew 12 = .ok (.istore_n 3, 1) := by decide +kernel
theorem dX8_isLikeNew_13 : decode cX8_isLikeNew 13 = .ok (.aload_n 0, 1) := by decide +kernel
theorem dX8_isLikeNew_14 : decode cX8_isLikeNew 14 = .ok (.getfield 23, 3) := by decide +kernel
theorem dX8_isLikeNew_17 : decode cX8_isLikeNew 17 = .ok (.iload_n 3, 1) := by decide +kernel
theorem dX8_isLikeNew_18 : decode cX8_isLikeNew 18 = .ok (.invokestatic 123, 3) := by decide +kernel
theorem dX8_isLikeNew_21 : decode cX8_isLikeNew 21 = .ok (.aload_n 0, 1) := by decide +kernel
theorem dX8_isLikeNew_22 : decode cX8_isLikeNew 22 = .ok (.getfield 23, 3) := by decide +kernel
theorem dX8_isLikeNew_25 : decode cX8_isLikeNew 25 = .ok (.aload_n 0, 1) := by decide +kernel
theorem dX8_isLikeNew_26 : decode cX8_isLikeNew 26 = .ok (.getfield 15, 3) := by decide +kernel
theorem dX8_isLikeNew_29 : decode cX8_isLikeNew 29 = .ok (.iconst 3, 1) := by decide +kernel
theorem dX8_isLikeNew_30 : decode cX8_isLikeNew 30 = .ok (.imul, 1) := by decide +kernel
theorem dX8_isLikeNew_31 : decode cX8_isLikeNew 31 = .ok (.iload_n 2, 1) := by decide +kernel
theorem dX8_isLikeNew_32 : decode cX8_isLikeNew 32 = .ok (.iadd, 1) := by decide +kernel
theorem dX8_isLikeNew_33 : decode cX8_isLikeNew 33 = .ok (.invokestatic 123, 3) := by decide +kernel
theorem dX8_isLikeNew_36 : decode cX8_isLikeNew 36 = .ok (.lcmp, 1) := by decide +kernel
theorem dX8_isLikeNew_37 : decode cX8_isLikeNew 37 = .ok (.ifCond .eq 5, 3) := by decide +kernel
theorem dX8_isLikeNew_40 : decode cX8_isLikeNew 40 = .ok (.iconst 0, 1) := by decide +kernel
theorem dX8_isLikeNew_41 : decode cX8_isLikeNew 41 = .ok (.ireturn, 1) := by decide +kernel
theorem dX8_isLikeNew_42 : decode cX8_isLikeNew 42 = .ok (.iinc 2 1, 3) := by decide +kernel
theorem dX8_isLikeNew_45 : decode cX8_isLikeNew 45 = .ok (.goto (-43), 3) := by decide +kernel
theorem dX8_isLikeNew_48 : decode cX8_isLikeNew 48 = .ok (.iconst 1, 1) := by decide +kernel
theorem dX8_isLikeNew_49 : decode cX8_isLikeNew 49 = .ok (.ireturn, 1) := by decide +kernel
theorem dX8_fittingBy_0 : decode cX8_fittingBy 0 = .ok (.aload_n 0, 1) := by decide +kernel
theorem dX8_fittingBy_1 : decode cX8_fittingBy 1 = .ok (.getfield 11, 3) := by decide +kernel
theorem dX8_fittingBy_4 : decode cX8_fittingBy 4 = .ok (.iload_n 1, 1) := by decide +kernel
theorem dX8_fittingBy_5 : decode cX8_fittingBy 5 = .ok (.iload_n 2, 1) := by decide +kernel
theorem dX8_fittingBy_6 : decode cX8_fittingBy 6 = .ok (.iload_n 3, 1) := by decide +kernel
theorem dX8_fittingBy_7 : decode cX8_fittingBy 7 = .ok (.invokestatic 154, 3) := by decide +kernel
theorem dX8_fittingBy_10 : decode cX8_fittingBy 10 = .ok (.iload_n 3, 1) := by decide +kernel
theorem dX8_fittingBy_11 : decode cX8_fittingBy 11 = .ok (.invokestatic 115, 3) := by decide +kernel
theorem dX8_fittingBy_14 : decode cX8_fittingBy 14 = .ok (.invokestatic 123, 3) := by decide +kernel
theorem dX8_fittingBy_17 : decode cX8_fittingBy 17 = .ok (.lreturn, 1) := by decide +kernel
theorem dX8_modeOf_0 : decode cX8_modeOf 0 = .ok (.iload_n 0, 1) := by decide +kernel
theorem dX8_modeOf_1 : decode cX8_modeOf 1 = .ok (.iconst 1, 1) := by decide +kernel
theorem dX8_modeOf_2 : decode cX8_modeOf 2 = .ok (.if_icmp .ne 5, 3) := by decide +kernel
theorem dX8_modeOf_5 : decode cX8_modeOf 5 = .ok (.iconst 1, 1) := by decide +kernel
theorem dX8_modeOf_6 : decode cX8_modeOf 6 = .ok (.ireturn, 1) := by decide +kernel
theorem dX8_modeOf_7 : decode cX8_modeOf 7 = .ok (.iload_n 0, 1) := by decide +kernel
theorem dX8_modeOf_8 : decode cX8_modeOf 8 = .ok (.iconst 2, 1) := by decide +kernel
theorem dX8_modeOf_9 : decode cX8_modeOf 9 = .ok (.iconst 2, 1) := by decide +kernel
theorem dX8_modeOf_10 : decode cX8_modeOf 10 = .ok (.iload_n 1, 1) := by decide +kernel
theorem dX8_modeOf_11 : decode cX8_modeOf 11 = .ok (.imul, 1) := by decide +kernel
theorem dX8_modeOf_12 : decode cX8_modeOf 12 = .ok (.iadd, 1) := by decide +kernel
theorem dX8_modeOf_13 : decode cX8_modeOf 13 = .ok (.if_icmp .ne 5, 3) := by decide +kernel
theorem dX8_modeOf_16 : decode cX8_modeOf 16 = .ok (.iconst 2, 1) := by decide +kernel
theorem dX8_modeOf_17 : decode cX8_modeOf 17 = .ok (.ireturn, 1) := by decide +kernel
theorem dX8_modeOf_18 : decode cX8_modeOf 18 = .ok (.iload_n 0, 1) := by decide +kernel
theorem dX8_modeOf_19 : decode cX8_modeOf 19 = .ok (.iconst 3, 1) := by decide +kernel
theorem dX8_modeOf_20 : decode cX8_modeOf 20 = .ok (.iconst 2, 1) := by decide +kernel
theorem dX8_modeOf_21 : decode cX8_modeOf 21 = .ok (.iload_n 1, 1) := by decide +kernel
theorem dX8_modeOf_22 : decode cX8_modeOf 22 = .ok (.imul, 1) := by decide +kernel
theorem dX8_modeOf_23 : decode cX8_modeOf 23 = .ok (.iadd, 1) := by decide +kernel
theorem dX8_modeOf_24 : decode cX8_modeOf 24 = .ok (.if_icmp .ne 7, 3) := by decide +kernel
theorem dX8_modeOf_27 : decode cX8_modeOf 27 = .ok (.iconst 3, 1) := by decide +kernel
theorem dX8_modeOf_28 : decode cX8_modeOf 28 = .ok (.goto 4, 3) := by decide +kernel
theorem dX8_modeOf_31 : decode cX8_modeOf 31 = .ok (.iconst 0, 1) := by decide +kernel
theorem dX8_modeOf_32 : decode cX8_modeOf 32 = .ok (.ireturn, 1) := by decide +kernel
theorem dX8_branchOut_0 : decode cX8_branchOut 0 = .ok (.aload_n 0, 1) := by decide +kernel
theorem dX8_branchOut_1 : decode cX8_branchOut 1 = .ok (.getfield 29, 3) := by decide +kernel
theorem dX8_branchOut_4 : decode cX8_branchOut 4 = .ok (.istore_n 2, 1) := by decide +kernel
theorem dX8_branchOut_5 : decode cX8_branchOut 5 = .ok (.aload_n 0, 1) := by decide +kernel
theorem dX8_branchOut_6 : decode cX8_branchOut 6 = .ok (.getfield 26, 3) := by decide +kernel
theorem dX8_branchOut_9 : decode cX8_branchOut 9 = .ok (.istore_n 3, 1) := by decide +kernel
theorem dX8_branchOut_10 : decode cX8_branchOut 10 = .ok (.iload_n 3, 1) := by decide +kernel
theorem dX8_branchOut_11 : decode cX8_branchOut 11 = .ok (.iload_n 2, 1) := by decide +kernel
theorem dX8_branchOut_12 : decode cX8_branchOut 12 = .ok (.if_icmp .ge 35, 3) := by decide +kernel
theorem dX8_branchOut_15 : decode cX8_branchOut 15 = .ok (.iconst 0, 1) := by decide +kernel
theorem dX8_branchOut_16 : decode cX8_branchOut 16 = .ok (.istore 4, 2) := by decide +kernel
theorem dX8_branchOut_18 : decode cX8_branchOut 18 = .ok (.iload 4, 2) := by decide +kernel
theorem dX8_branchOut_20 : decode cX8_branchOut 20 = .ok (.aload_n 0, 1) := by decide +kernel
theorem dX8_branchOut_21 : decode cX8_branchOut 21 = .ok (.getfield 15, 3) := by decide +kernel
theorem dX8_branchOut_24 : decode cX8_branchOut 24 = .ok (.if_icmp .ge 17, 3) := by decide +kernel
theorem dX8_branchOut_27 : decode cX8_branchOut 27 = .ok (.aload_n 0, 1) := by decide +kernel
theorem dX8_branchOut_28 : decode cX8_branchOut 28 = .ok (.iload_n 3, 1) := by decide +kernel
theorem dX8_branchOut_29 : decode cX8_branchOut 29 = .ok (.iload 4, 2) := by decide +kernel
theorem dX8_branchOut_31 : decode cX8_branchOut 31 = .ok (.iload_n 1, 1) := by decide +kernel
theorem dX8_branchOut_32 : decode cX8_branchOut 32 = .ok (.invokevirtual 157, 3) := by decide +kernel
theorem dX8_branchOut_35 : decode cX8_branchOut 35 = .ok (.iinc 4 1, 3) := by decide +kernel
theorem dX8_branchOut_38 : decode cX8_branchOut 38 = .ok (.goto (-20), 3) := by decide +kernel
theorem dX8_branchOut_41 : decode cX8_branchOut 41 = .ok (.iinc 3 1, 3) := by decide +kernel
theorem dX8_branchOut_44 : decode cX8_branchOut 44 = .ok (.goto (-34), 3) := by decide +kernel
theorem dX8_branchOut_47 : decode cX8_branchOut 47 = .ok (.aload_n 0, 1) := by decide +kernel
theorem dX8_branchOut_48 : decode cX8_branchOut 48 = .ok (.iload_n 2, 1) := by decide +kernel
theorem dX8_branchOut_49 : decode cX8_branchOut 49 = .ok (.putfield 26, 3) := by decide +kernel
theorem dX8_branchOut_52 : decode cX8_branchOut 52 = .ok (.return_, 1) := by decide +kernel
theorem dX8_addBranch_0 : decode cX8_addBranch 0 = .ok (.aload_n 0, 1) := by decide +kernel
theorem dX8_addBranch_1 : decode cX8_addBranch 1 = .ok (.getfield 29, 3) := by decide +kernel
theorem dX8_addBranch_4 : decode cX8_addBranch 4 = .ok (.sipush 781, 3) := by decide +kernel
theorem dX8_addBranch_7 : decode cX8_addBranch 7 = .ok (.if_icmp .lt 4, 3) := by decide +kernel
theorem dX8_addBranch_10 : decode cX8_addBranch 10 = .ok (.return_, 1) := by decide +kernel
theorem dX8_addBranch_11 : decode cX8_addBranch 11 = .ok (.iconst 0, 1) := by decide +kernel
theorem dX8_addBranch_12 : decode cX8_addBranch 12 = .ok (.istore 4, 2) := by decide +kernel
theorem dX8_addBranch_14 : decode cX8_addBranch 14 = .ok (.iload 4, 2) := by decide +kernel
theorem dX8_addBranch_16 : decode cX8_addBranch 16 = .ok (.iconst 3, 1) := by decide +kernel
theorem dX8_addBranch_17 : decode cX8_addBranch 17 = .ok (.if_icmp .ge 58, 3) := by decide +kernel
theorem dX8_addBranch_20 : decode cX8_addBranch 20 = .ok (.aload_n 0, 1) := by decide +kernel
theorem dX8_addBranch_21 : decode cX8_addBranch 21 = .ok (.iload_n 1, 1) := by decide +kernel
theorem dX8_addBranch_22 : decode cX8_addBranch 22 = .ok (.iload 4, 2) := by decide +kernel
theorem dX8_addBranch_24 : decode cX8_addBranch 24 = .ok (.invokevirtual 161, 3) := by decide +kernel
theorem dX8_addBranch_27 : decode cX8_addBranch 27 = .ok (.aload_n 0, 1) := by decide +kernel
theorem dX8_addBranch_28 : decode cX8_addBranch 28 = .ok (.getfield 23, 3) := by decide +kernel
theorem dX8_addBranch_31 : decode cX8_addBranch 31 = .ok (.iload_n 2, 1) := by decide +kernel
theorem dX8_addBranch_32 : decode cX8_addBranch 32 = .ok (.iconst 3, 1) := by decide +kernel
theorem dX8_addBranch_33 : decode cX8_addBranch 33 = .ok (.imul, 1) := by decide +kernel
theorem dX8_addBranch_34 : decode cX8_addBranch 34 = .ok (.iload 4, 2) := by decide +kernel
theorem dX8_addBranch_36 : decode cX8_addBranch 36 = .ok (.iadd, 1) := by decide +kernel
theorem dX8_addBranch_37 : decode cX8_addBranch 37 = .ok (.invokestatic 123, 3) := by decide +kernel
theorem dX8_addBranch_40 : decode cX8_addBranch 40 = .ok (.land, 1) := by decide +kernel
theorem dX8_addBranch_41 : decode cX8_addBranch 41 = .ok (.lstore 5, 2) := by decide +kernel
theorem dX8_addBranch_43 : decode cX8_addBranch 43 = .ok (.lload 5, 2) := by decide +kernel
theorem dX8_addBranch_45 : decode cX8_addBranch 45 = .ok (.lconst 0, 1) := by decide +kernel
theorem dX8_addBranch_46 : decode cX8_addBranch 46 = .ok (.lcmp, 1) := by decide +kernel
theorem dX8_addBranch_47 : decode cX8_addBranch 47 = .ok (.ifCond .ne 4, 3) := by decide +kernel
theorem dX8_addBranch_50 : decode cX8_addBranch 50 = .ok (.return_, 1) := by decide +kernel
theorem dX8_addBranch_51 : decode cX8_addBranch 51 = .ok (.aload_n 0, 1) := by decide +kernel
theorem dX8_addBranch_52 : decode cX8_addBranch 52 = .ok (.getfield 35, 3) := by decide +kernel
theorem dX8_addBranch_55 : decode cX8_addBranch 55 = .ok (.aload_n 0, 1) := by decide +kernel
theorem dX8_addBranch_56 : decode cX8_addBranch 56 = .ok (.getfield 29, 3) := by decide +kernel
theorem dX8_addBranch_59 : decode cX8_addBranch 59 = .ok (.iconst 3, 1) := by decide +kernel
theorem dX8_addBranch_60 : decode cX8_addBranch 60 = .ok (.imul, 1) := by decide +kernel
theorem dX8_addBranch_61 : decode cX8_addBranch 61 = .ok (.iload 4, 2) := by decide +kernel
theorem dX8_addBranch_63 : decode cX8_addBranch 63 = .ok (.iadd, 1) := by decide +kernel
theorem dX8_addBranch_64 : decode cX8_addBranch 64 = .ok (.lload 5, 2) := by decide +kernel
theorem dX8_addBranch_66 : decode cX8_addBranch 66 = .ok (.invokestatic 127, 3) := by decide +kernel
theorem dX8_addBranch_69 : decode cX8_addBranch 69 = .ok (.iinc 4 1, 3) := by decide +kernel
theorem dX8_addBranch_72 : decode cX8_addBranch 72 = .ok (.goto (-58), 3) := by decide +kernel
theorem dX8_addBranch_75 : decode cX8_addBranch 75 = .ok (.aload_n 0, 1) := by decide +kernel
theorem dX8_addBranch_76 : decode cX8_addBranch 76 = .ok (.getfield 32, 3) := by decide +kernel
theorem dX8_addBranch_79 : decode cX8_addBranch 79 = .ok (.aload_n 0, 1) := by decide +kernel
theorem dX8_addBranch_80 : decode cX8_addBranch 80 = .ok (.getfield 29, 3) := by decide +kernel
theorem dX8_addBranch_83 : decode cX8_addBranch 83 = .ok (.aload_n 0, 1) := by decide +kernel
theorem dX8_addBranch_84 : decode cX8_addBranch 84 = .ok (.getfield 32, 3) := by decide +kernel
theorem dX8_addBranch_87 : decode cX8_addBranch 87 = .ok (.iload_n 1, 1) := by decide +kernel
theorem dX8_addBranch_88 : decode cX8_addBranch 88 = .ok (.invokestatic 98, 3) := by decide +kernel
theorem dX8_addBranch_91 : decode cX8_addBranch 91 = .ok (.aload_n 0, 1) := by decide +kernel
theorem dX8_addBranch_92 : decode cX8_addBranch 92 = .ok (.getfield 19, 3) := by decide +kernel
theorem dX8_addBranch_95 : decode cX8_addBranch 95 = .ok (.iload_n 2, 1) := by decide +kernel
theorem dX8_addBranch_96 : decode cX8_addBranch 96 = .ok (.invokestatic 98, 3) := by decide +kernel
theorem dX8_addBranch_99 : decode cX8_addBranch 99 = .ok (.bipush 8, 2) := by decide +kernel
theorem dX8_addBranch_101 : decode cX8_addBranch 101 = .ok (.iload_n 3, 1) := by decide +kernel
theorem dX8_addBranch_102 : decode cX8_addBranch 102 = .ok (.imul, 1) := by decide +kernel
theorem dX8_addBranch_103 : decode cX8_addBranch 103 = .ok (.ishl, 1) := by decide +kernel
theorem dX8_addBranch_104 : decode cX8_addBranch 104 = .ok (.ior, 1) := by decide +kernel
theorem dX8_addBranch_105 : decode cX8_addBranch 105 = .ok (.invokestatic 131, 3) := by decide +kernel
theorem dX8_addBranch_108 : decode cX8_addBranch 108 = .ok (.aload_n 0, 1) := by decide +kernel
theorem dX8_addBranch_109 : decode cX8_addBranch 109 = .ok (.dup, 1) := by decide +kernel
theorem dX8_addBranch_110 : decode cX8_addBranch 110 = .ok (.getfield 29, 3) := by decide +kernel
theorem dX8_addBranch_113 : decode cX8_addBranch 113 = .ok (.iconst 1, 1) := by decide +kernel
theorem dX8_addBranch_114 : decode cX8_addBranch 114 = .ok (.iadd, 1) := by decide +kernel
theorem dX8_addBranch_115 : decode cX8_addBranch 115 = .ok (.putfield 29, 3) := by decide +kernel
theorem dX8_addBranch_118 : decode cX8_addBranch 118 = .ok (.return_, 1) := by decide +kernel
theorem dX8_branchTime_0 : decode cX8_branchTime 0 = .ok (.aload_n 0, 1) := by decide +kernel
theorem dX8_branchTime_1 : decode cX8_branchTime 1 = .ok (.getfield 35, 3) := by decide +kernel
theorem dX8_branchTime_4 : decode cX8_branchTime 4 = .ok (.iload_n 1, 1) := by decide +kernel
theorem dX8_branchTime_5 : decode cX8_branchTime 5 = .ok (.iconst 3, 1) := by decide +kernel
theorem dX8_branchTime_6 : decode cX8_branchTime 6 = .ok (.imul, 1) := by decide +kernel
theorem dX8_branchTime_7 : decode cX8_branchTime 7 = .ok (.iload_n 2, 1) := by decide +kernel
theorem dX8_branchTime_8 : decode cX8_branchTime 8 = .ok (.iadd, 1) := by decide +kernel
theorem dX8_branchTime_9 : decode cX8_branchTime 9 = .ok (.invokestatic 123, 3) := by decide +kernel
theorem dX8_branchTime_12 : decode cX8_branchTime 12 = .ok (.lreturn, 1) := by decide +kernel
theorem dX8_waysIn_0 : decode cX8_waysIn 0 = .ok (.aload_n 0, 1) := by decide +kernel
theorem dX8_waysIn_1 : decode cX8_waysIn 1 = .ok (.getfield 32, 3) := by decide +kernel
theorem dX8_waysIn_4 : decode cX8_waysIn 4 = .ok (.iload_n 1, 1) := by decide +kernel
theorem dX8_waysIn_5 : decode cX8_waysIn 5 = .ok (.invokestatic 98, 3) := by decide +kernel
theorem dX8_waysIn_8 : decode cX8_waysIn 8 = .ok (.bipush 8, 2) := by decide +kernel
theorem dX8_waysIn_10 : decode cX8_waysIn 10 = .ok (.iload_n 2, 1) := by decide +kernel
theorem dX8_waysIn_11 : decode cX8_waysIn 11 = .ok (.imul, 1) := by decide +kernel
theorem dX8_waysIn_12 : decode cX8_waysIn 12 = .ok (.iushr, 1) := by decide +kernel
theorem dX8_waysIn_13 : decode cX8_waysIn 13 = .ok (.sipush 255, 3) := by decide +kernel
theorem dX8_waysIn_16 : decode cX8_waysIn 16 = .ok (.iand, 1) := by decide +kernel
theorem dX8_waysIn_17 : decode cX8_waysIn 17 = .ok (.ireturn, 1) := by decide +kernel
theorem dX8_isEmpty_0 : decode cX8_isEmpty 0 = .ok (.aload_n 0, 1) := by decide +kernel
theorem dX8_isEmpty_1 : decode cX8_isEmpty 1 = .ok (.getfield 26, 3) := by decide +kernel
theorem dX8_isEmpty_4 : decode cX8_isEmpty 4 = .ok (.aload_n 0, 1) := by decide +kernel
theorem dX8_isEmpty_5 : decode cX8_isEmpty 5 = .ok (.getfield 29, 3) := by decide +kernel
theorem dX8_isEmpty_8 : decode cX8_isEmpty 8 = .ok (.if_icmp .lt 7, 3) := by decide +kernel
theorem dX8_isEmpty_11 : decode cX8_isEmpty 11 = .ok (.iconst 1, 1) := by decide +kernel
theorem dX8_isEmpty_12 : decode cX8_isEmpty 12 = .ok (.goto 4, 3) := by decide +kernel
theorem dX8_isEmpty_15 : decode cX8_isEmpty 15 = .ok (.iconst 0, 1) := by decide +kernel
theorem dX8_isEmpty_16 : decode cX8_isEmpty 16 = .ok (.ireturn, 1) := by decide +kernel
theorem dX8_waysBut_0 : decode cX8_waysBut 0 = .ok (.lconst 1, 1) := by decide +kernel
theorem dX8_waysBut_1 : decode cX8_waysBut 1 = .ok (.lstore_n 3, 1) := by decide +kernel
theorem dX8_waysBut_2 : decode cX8_waysBut 2 = .ok (.iconst 0, 1) := by decide +kernel
theorem dX8_waysBut_3 : decode cX8_waysBut 3 = .ok (.istore 5, 2) := by decide +kernel
theorem dX8_waysBut_5 : decode cX8_waysBut 5 = .ok (.iload 5, 2) := by decide +kernel
theorem dX8_waysBut_7 : decode cX8_waysBut 7 = .ok (.aload_n 0, 1) := by decide +kernel
theorem dX8_waysBut_8 : decode cX8_waysBut 8 = .ok (.getfield 53, 3) := by decide +kernel
theorem dX8_waysBut_11 : decode cX8_waysBut 11 = .ok (.getfield 86, 3) := by decide +kernel
theorem dX8_waysBut_14 : decode cX8_waysBut 14 = .ok (.if_icmp .ge 29, 3) := by decide +kernel
theorem dX8_waysBut_17 : decode cX8_waysBut 17 = .ok (.iload 5, 2) := by decide +kernel
theorem dX8_waysBut_19 : decode cX8_waysBut 19 = .ok (.iload_n 2, 1) := by decide +kernel
theorem dX8_waysBut_20 : decode cX8_waysBut 20 = .ok (.if_icmp .eq 17, 3) := by decide +kernel
theorem dX8_waysBut_23 : decode cX8_waysBut 23 = .ok (.lload_n 3, 1) := by decide +kernel
theorem dX8_waysBut_24 : decode cX8_waysBut 24 = .ok (.aload_n 0, 1) := by decide +kernel
theorem dX8_waysBut_25 : decode cX8_waysBut 25 = .ok (.iload_n 1, 1) := by decide +kernel
theorem dX8_waysBut_26 : decode cX8_waysBut 26 = .ok (.iload 5, 2) := by decide +kernel
theorem dX8_waysBut_28 : decode cX8_waysBut 28 = .ok (.invokevirtual 164, 3) := by decide +kernel
theorem dX8_waysBut_31 : decode cX8_waysBut 31 = .ok (.invokestatic 167, 3) := by decide +kernel
theorem dX8_waysBut_34 : decode cX8_waysBut 34 = .ok (.i2l, 1) := by decide +kernel
theorem dX8_waysBut_35 : decode cX8_waysBut 35 = .ok (.lmul, 1) := by decide +kernel
theorem dX8_waysBut_36 : decode cX8_waysBut 36 = .ok (.lstore_n 3, 1) := by decide +kernel
theorem dX8_waysBut_37 : decode cX8_waysBut 37 = .ok (.iinc 5 1, 3) := by decide +kernel
theorem dX8_waysBut_40 : decode cX8_waysBut 40 = .ok (.goto (-35), 3) := by decide +kernel
theorem dX8_waysBut_43 : decode cX8_waysBut 43 = .ok (.lload_n 3, 1) := by decide +kernel
theorem dX8_waysBut_44 : decode cX8_waysBut 44 = .ok (.lreturn, 1) := by decide +kernel
theorem dX8_timesPicked_0 : decode cX8_timesPicked 0 = .ok (.lconst 1, 1) := by decide +kernel
theorem dX8_timesPicked_1 : decode cX8_timesPicked 1 = .ok (.lstore_n 2, 1) := by decide +kernel
theorem dX8_timesPicked_2 : decode cX8_timesPicked 2 = .ok (.iconst 0, 1) := by decide +kernel
theorem dX8_timesPicked_3 : decode cX8_timesPicked 3 = .ok (.istore 4, 2) := by decide +kernel
theorem dX8_timesPicked_5 : decode cX8_timesPicked 5 = .ok (.iload 4, 2) := by decide +kernel
theorem dX8_timesPicked_7 : decode cX8_timesPicked 7 = .ok (.iconst 3, 1) := by decide +kernel
theorem dX8_timesPicked_8 : decode cX8_timesPicked 8 = .ok (.if_icmp .ge 33, 3) := by decide +kernel
theorem dX8_timesPicked_11 : decode cX8_timesPicked 11 = .ok (.lload_n 2, 1) := by decide +kernel
theorem dX8_timesPicked_12 : decode cX8_timesPicked 12 = .ok (.aload_n 0, 1) := by decide +kernel
theorem dX8_timesPicked_13 : decode cX8_timesPicked 13 = .ok (.iload_n 1, 1) := by decide +kernel
theorem dX8_timesPicked_14 : decode cX8_timesPicked 14 = .ok (.iload 4, 2) := by decide +kernel
theorem dX8_timesPicked_16 : decode cX8_timesPicked 16 = .ok (.invokevirtual 161, 3) := by decide +kernel
theorem dX8_timesPicked_19 : decode cX8_timesPicked 19 = .ok (.aload_n 0, 1) := by decide +kernel
theorem dX8_timesPicked_20 : decode cX8_timesPicked 20 = .ok (.getfield 38, 3) := by decide +kernel
theorem dX8_timesPicked_23 : decode cX8_timesPicked 23 = .ok (.iload 4, 2) := by decide +kernel
theorem dX8_timesPicked_25 : decode cX8_timesPicked 25 = .ok (.invokestatic 123, 3) := by decide +kernel
theorem dX8_timesPicked_28 : decode cX8_timesPicked 28 = .ok (.land, 1) := by decide +kernel
theorem dX8_timesPicked_29 : decode cX8_timesPicked 29 = .ok (.invokestatic 172, 3) := by decide +kernel
theorem dX8_timesPicked_32 : decode cX8_timesPicked 32 = .ok (.i2l, 1) := by decide +kernel
theorem dX8_timesPicked_33 : decode cX8_timesPicked 33 = .ok (.lmul, 1) := by decide +kernel
theorem dX8_timesPicked_34 : decode cX8_timesPicked 34 = .ok (.lstore_n 2, 1) := by decide +kernel
theorem dX8_timesPicked_35 : decode cX8_timesPicked 35 = .ok (.iinc 4 1, 3) := by decide +kernel
theorem dX8_timesPicked_38 : decode cX8_timesPicked 38 = .ok (.goto (-33), 3) := by decide +kernel
theorem dX8_timesPicked_41 : decode cX8_timesPicked 41 = .ok (.lload_n 2, 1) := by decide +kernel
theorem dX8_timesPicked_42 : decode cX8_timesPicked 42 = .ok (.lreturn, 1) := by decide +kernel
theorem dX8_pickAny_0 : decode cX8_pickAny 0 = .ok (.aload_n 0, 1) := by decide +kernel
theorem dX8_pickAny_1 : decode cX8_pickAny 1 = .ok (.getfield 38, 3) := by decide +kernel
theorem dX8_pickAny_4 : decode cX8_pickAny 4 = .ok (.ldc2_w 72, 3) := by decide +kernel
theorem dX8_pickAny_7 : decode cX8_pickAny 7 = .ok (.invokestatic 74, 3) := by decide +kernel
theorem dX8_pickAny_10 : decode cX8_pickAny 10 = .ok (.return_, 1) := by decide +kernel
theorem dX8_pick_0 : decode cX8_pick 0 = .ok (.aload_n 0, 1) := by decide +kernel
theorem dX8_pick_1 : decode cX8_pick 1 = .ok (.getfield 38, 3) := by decide +kernel
theorem dX8_pick_4 : decode cX8_pick 4 = .ok (.iload_n 1, 1) := by decide +kernel
theorem dX8_pick_5 : decode cX8_pick 5 = .ok (.lload_n 2, 1) := by decide +kernel
theorem dX8_pick_6 : decode cX8_pick 6 = .ok (.invokestatic 127, 3) := by decide +kernel
theorem dX8_pick_9 : decode cX8_pick 9 = .ok (.return_, 1) := by decide +kernel
theorem dX8_picked_0 : decode cX8_picked 0 = .ok (.lconst 0, 1) := by decide +kernel
theorem dX8_picked_1 : decode cX8_picked 1 = .ok (.lstore_n 1, 1) := by decide +kernel
theorem dX8_picked_2 : decode cX8_picked 2 = .ok (.aload_n 0, 1) := by decide +kernel
theorem dX8_picked_3 : decode cX8_picked 3 = .ok (.getfield 26, 3) := by decide +kernel
theorem dX8_picked_6 : decode cX8_picked 6 = .ok (.istore_n 3, 1) := by decide +kernel
theorem dX8_picked_7 : decode cX8_picked 7 = .ok (.iload_n 3, 1) := by decide +kernel
theorem dX8_picked_8 : decode cX8_picked 8 = .ok (.aload_n 0, 1) := by decide +kernel
theorem dX8_picked_9 : decode cX8_picked 9 = .ok (.getfield 29, 3) := by decide +kernel
theorem dX8_picked_12 : decode cX8_picked 12 = .ok (.if_icmp .ge 24, 3) := by decide +kernel
theorem dX8_picked_15 : decode cX8_picked 15 = .ok (.lload_n 1, 1) := by decide +kernel
theorem dX8_picked_16 : decode cX8_picked 16 = .ok (.aload_n 0, 1) := by decide +kernel
theorem dX8_picked_17 : decode cX8_picked 17 = .ok (.iload_n 3, 1) := by decide +kernel
theorem dX8_picked_18 : decode cX8_picked 18 = .ok (.iconst (-1), 1) := by decide +kernel
theorem dX8_picked_19 : decode cX8_picked 19 = .ok (.invokevirtual 177, 3) := by decide +kernel
theorem dX8_picked_22 : decode cX8_picked 22 = .ok (.aload_n 0, 1) := by decide +kernel
theorem dX8_picked_23 : decode cX8_picked 23 = .ok (.iload_n 3, 1) := by decide +kernel
theorem dX8_picked_24 : decode cX8_picked 24 = .ok (.invokevirtual 180, 3) := by decide +kernel
theorem dX8_picked_27 : decode cX8_picked 27 = .ok (.lmul, 1) := by decide +kernel
theorem dX8_picked_28 : decode cX8_picked 28 = .ok (.ladd, 1) := by decide +kernel
theorem dX8_picked_29 : decode cX8_picked 29 = .ok (.lstore_n 1, 1) := by decide +kernel
theorem dX8_picked_30 : decode cX8_picked 30 = .ok (.iinc 3 1, 3) := by decide +kernel
theorem dX8_picked_33 : decode cX8_picked 33 = .ok (.goto (-26), 3) := by decide +kernel
theorem dX8_picked_36 : decode cX8_picked 36 = .ok (.lload_n 1, 1) := by decide +kernel
theorem dX8_picked_37 : decode cX8_picked 37 = .ok (.lreturn, 1) := by decide +kernel
theorem dX8_total_0 : decode cX8_total 0 = .ok (.aload_n 0, 1) := by decide +kernel
theorem dX8_total_1 : decode cX8_total 1 = .ok (.invokevirtual 184, 3) := by decide +kernel
theorem dX8_total_4 : decode cX8_total 4 = .ok (.aload_n 0, 1) := by decide +kernel
theorem dX8_total_5 : decode cX8_total 5 = .ok (.invokevirtual 187, 3) := by decide +kernel
theorem dX8_total_8 : decode cX8_total 8 = .ok (.lreturn, 1) := by decide +kernel
theorem dX8_withWay_0 : decode cX8_withWay 0 = .ok (.aload_n 0, 1) := by decide +kernel
theorem dX8_withWay_1 : decode cX8_withWay 1 = .ok (.invokevirtual 184, 3) := by decide +kernel
theorem dX8_withWay_4 : decode cX8_withWay 4 = .ok (.lconst 0, 1) := by decide +kernel
theorem dX8_withWay_5 : decode cX8_withWay 5 = .ok (.lstore_n 3, 1) := by decide +kernel
theorem dX8_withWay_6 : decode cX8_withWay 6 = .ok (.aload_n 0, 1) := by decide +kernel
theorem dX8_withWay_7 : decode cX8_withWay 7 = .ok (.getfield 26, 3) := by decide +kernel
theorem dX8_withWay_10 : decode cX8_withWay 10 = .ok (.istore 5, 2) := by decide +kernel
theorem dX8_withWay_12 : decode cX8_withWay 12 = .ok (.iload 5, 2) := by decide +kernel
theorem dX8_withWay_14 : decode cX8_withWay 14 = .ok (.aload_n 0, 1) := by decide +kernel
theorem dX8_withWay_15 : decode cX8_withWay 15 = .ok (.getfield 29, 3) := by decide +kernel
theorem dX8_withWay_18 : decode cX8_withWay 18 = .ok (.if_icmp .ge 41, 3) := by decide +kernel
theorem dX8_withWay_21 : decode cX8_withWay 21 = .ok (.aload_n 0, 1) := by decide +kernel
theorem dX8_withWay_22 : decode cX8_withWay 22 = .ok (.iload 5, 2) := by decide +kernel
theorem dX8_withWay_24 : decode cX8_withWay 24 = .ok (.iload_n 1, 1) := by decide +kernel
theorem dX8_withWay_25 : decode cX8_withWay 25 = .ok (.invokevirtual 164, 3) := by decide +kernel
theorem dX8_withWay_28 : decode cX8_withWay 28 = .ok (.iload_n 2, 1) := by decide +kernel
theorem dX8_withWay_29 : decode cX8_withWay 29 = .ok (.iushr, 1) := by decide +kernel
theorem dX8_withWay_30 : decode cX8_withWay 30 = .ok (.iconst 1, 1) := by decide +kernel
theorem dX8_withWay_31 : decode cX8_withWay 31 = .ok (.iand, 1) := by decide +kernel
theorem dX8_withWay_32 : decode cX8_withWay 32 = .ok (.iconst 1, 1) := by decide +kernel
theorem dX8_withWay_33 : decode cX8_withWay 33 = .ok (.if_icmp .ne 20, 3) := by decide +kernel
theorem dX8_withWay_36 : decode cX8_withWay 36 = .ok (.lload_n 3, 1) := by decide +kernel
theorem dX8_withWay_37 : decode cX8_withWay 37 = .ok (.aload_n 0, 1) := by decide +kernel
theorem dX8_withWay_38 : decode cX8_withWay 38 = .ok (.iload 5, 2) := by decide +kernel
theorem dX8_withWay_40 : decode cX8_withWay 40 = .ok (.iload_n 1, 1) := by decide +kernel
theorem dX8_withWay_41 : decode cX8_withWay 41 = .ok (.invokevirtual 177, 3) := by decide +kernel
theorem dX8_withWay_44 : decode cX8_withWay 44 = .ok (.aload_n 0, 1) := by decide +kernel
theorem dX8_withWay_45 : decode cX8_withWay 45 = .ok (.iload 5, 2) := by decide +kernel
theorem dX8_withWay_47 : decode cX8_withWay 47 = .ok (.invokevirtual 180, 3) := by decide +kernel
theorem dX8_withWay_50 : decode cX8_withWay 50 = .ok (.lmul, 1) := by decide +kernel
theorem dX8_withWay_51 : decode cX8_withWay 51 = .ok (.ladd, 1) := by decide +kernel
theorem dX8_withWay_52 : decode cX8_withWay 52 = .ok (.lstore_n 3, 1) := by decide +kernel
theorem dX8_withWay_53 : decode cX8_withWay 53 = .ok (.iinc 5 1, 3) := by decide +kernel
theorem dX8_withWay_56 : decode cX8_withWay 56 = .ok (.goto (-44), 3) := by decide +kernel
theorem dX8_withWay_59 : decode cX8_withWay 59 = .ok (.lload_n 3, 1) := by decide +kernel
theorem dX8_withWay_60 : decode cX8_withWay 60 = .ok (.lreturn, 1) := by decide +kernel
theorem dX8_possible_0 : decode cX8_possible 0 = .ok (.lconst 0, 1) := by decide +kernel
theorem dX8_possible_1 : decode cX8_possible 1 = .ok (.lstore_n 2, 1) := by decide +kernel
theorem dX8_possible_2 : decode cX8_possible 2 = .ok (.aload_n 0, 1) := by decide +kernel
theorem dX8_possible_3 : decode cX8_possible 3 = .ok (.getfield 26, 3) := by decide +kernel
theorem dX8_possible_6 : decode cX8_possible 6 = .ok (.istore 4, 2) := by decide +kernel
theorem dX8_possible_8 : decode cX8_possible 8 = .ok (.iload 4, 2) := by decide +kernel
theorem dX8_possible_10 : decode cX8_possible 10 = .ok (.aload_n 0, 1) := by decide +kernel
theorem dX8_possible_11 : decode cX8_possible 11 = .ok (.getfield 29, 3) := by decide +kernel
theorem dX8_possible_14 : decode cX8_possible 14 = .ok (.if_icmp .ge 19, 3) := by decide +kernel
theorem dX8_possible_17 : decode cX8_possible 17 = .ok (.lload_n 2, 1) := by decide +kernel
theorem dX8_possible_18 : decode cX8_possible 18 = .ok (.aload_n 0, 1) := by decide +kernel
theorem dX8_possible_19 : decode cX8_possible 19 = .ok (.iload 4, 2) := by decide +kernel
theorem dX8_possible_21 : decode cX8_possible 21 = .ok (.iload_n 1, 1) := by decide +kernel
theorem dX8_possible_22 : decode cX8_possible 22 = .ok (.invokevirtual 161, 3) := by decide +kernel
theorem dX8_possible_25 : decode cX8_possible 25 = .ok (.lor, 1) := by decide +kernel
theorem dX8_possible_26 : decode cX8_possible 26 = .ok (.lstore_n 2, 1) := by decide +kernel
theorem dX8_possible_27 : decode cX8_possible 27 = .ok (.iinc 4 1, 3) := by decide +kernel
theorem dX8_possible_30 : decode cX8_possible 30 = .ok (.goto (-22), 3) := by decide +kernel
theorem dX8_possible_33 : decode cX8_possible 33 = .ok (.lload_n 2, 1) := by decide +kernel
theorem dX8_possible_34 : decode cX8_possible 34 = .ok (.lreturn, 1) := by decide +kernel
theorem dX8_possibleWays_0 : decode cX8_possibleWays 0 = .ok (.iconst 0, 1) := by decide +kernel
theorem dX8_possibleWays_1 : decode cX8_possibleWays 1 = .ok (.istore_n 2, 1) := by decide +kernel
theorem dX8_possibleWays_2 : decode cX8_possibleWays 2 = .ok (.aload_n 0, 1) := by decide +kernel
theorem dX8_possibleWays_3 : decode cX8_possibleWays 3 = .ok (.getfield 26, 3) := by decide +kernel
theorem dX8_possibleWays_6 : decode cX8_possibleWays 6 = .ok (.istore_n 3, 1) := by decide +kernel
theorem dX8_possibleWays_7 : decode cX8_possibleWays 7 = .ok (.iload_n 3, 1) := by decide +kernel
theorem dX8_possibleWays_8 : decode cX8_possibleWays 8 = .ok (.aload_n 0, 1) := by decide +kernel
theorem dX8_possibleWays_9 : decode cX8_possibleWays 9 = .ok (.getfield 29, 3) := by decide +kernel
theorem dX8_possibleWays_12 : decode cX8_possibleWays 12 = .ok (.if_icmp .ge 18, 3) := by decide +kernel
theorem dX8_possibleWays_15 : decode cX8_possibleWays 15 = .ok (.iload_n 2, 1) := by decide +kernel
theorem dX8_possibleWays_16 : decode cX8_possibleWays 16 = .ok (.aload_n 0, 1) := by decide +kernel
theorem dX8_possibleWays_17 : decode cX8_possibleWays 17 = .ok (.iload_n 3, 1) := by decide +kernel
theorem dX8_possibleWays_18 : decode cX8_possibleWays 18 = .ok (.iload_n 1, 1) := by decide +kernel
theorem dX8_possibleWays_19 : decode cX8_possibleWays 19 = .ok (.invokevirtual 164, 3) := by decide +kernel
theorem dX8_possibleWays_22 : decode cX8_possibleWays 22 = .ok (.ior, 1) := by decide +kernel
theorem dX8_possibleWays_23 : decode cX8_possibleWays 23 = .ok (.istore_n 2, 1) := by decide +kernel
theorem dX8_possibleWays_24 : decode cX8_possibleWays 24 = .ok (.iinc 3 1, 3) := by decide +kernel
theorem dX8_possibleWays_27 : decode cX8_possibleWays 27 = .ok (.goto (-20), 3) := by decide +kernel
theorem dX8_possibleWays_30 : decode cX8_possibleWays 30 = .ok (.iload_n 2, 1) := by decide +kernel
theorem dX8_possibleWays_31 : decode cX8_possibleWays 31 = .ok (.ireturn, 1) := by decide +kernel
theorem dX8_ahead_0 : decode cX8_ahead 0 = .ok (.lconst 0, 1) := by decide +kernel
theorem dX8_ahead_1 : decode cX8_ahead 1 = .ok (.lstore_n 3, 1) := by decide +kernel
theorem dX8_ahead_2 : decode cX8_ahead 2 = .ok (.aload_n 0, 1) := by decide +kernel
theorem dX8_ahead_3 : decode cX8_ahead 3 = .ok (.getfield 41, 3) := by decide +kernel
theorem dX8_ahead_6 : decode cX8_ahead 6 = .ok (.lconst 0, 1) := by decide +kernel
theorem dX8_ahead_7 : decode cX8_ahead 7 = .ok (.invokestatic 74, 3) := by decide +kernel
theorem dX8_ahead_10 : decode cX8_ahead 10 = .ok (.iload_n 2, 1) := by decide +kernel
theorem dX8_ahead_11 : decode cX8_ahead 11 = .ok (.istore 5, 2) := by decide +kernel
theorem dX8_ahead_13 : decode cX8_ahead 13 = .ok (.iload 5, 2) := by decide +kernel
theorem dX8_ahead_15 : decode cX8_ahead 15 = .ok (.bipush 30, 2) := by decide +kernel
theorem dX8_ahead_17 : decode cX8_ahead 17 = .ok (.if_icmp .ge 131, 3) := by decide +kernel
theorem dX8_ahead_20 : decode cX8_ahead 20 = .ok (.iconst 0, 1) := by decide +kernel
theorem dX8_ahead_21 : decode cX8_ahead 21 = .ok (.istore 6, 2) := by decide +kernel
theorem dX8_ahead_23 : decode cX8_ahead 23 = .ok (.iload 6, 2) := by decide +kernel
theorem dX8_ahead_25 : decode cX8_ahead 25 = .ok (.iconst 3, 1) := by decide +kernel
theorem dX8_ahead_26 : decode cX8_ahead 26 = .ok (.if_icmp .ge 96, 3) := by decide +kernel
theorem dX8_ahead_29 : decode cX8_ahead 29 = .ok (.aload_n 0, 1) := by decide +kernel
theorem dX8_ahead_30 : decode cX8_ahead 30 = .ok (.getfield 41, 3) := by decide +kernel
theorem dX8_ahead_33 : decode cX8_ahead 33 = .ok (.iload 6, 2) := by decide +kernel
theorem dX8_ahead_35 : decode cX8_ahead 35 = .ok (.invokestatic 123, 3) := by decide +kernel
theorem dX8_ahead_38 : decode cX8_ahead 38 = .ok (.lstore 7, 2) := by decide +kernel
theorem dX8_ahead_40 : decode cX8_ahead 40 = .ok (.iload 6, 2) := by decide +kernel
theorem dX8_ahead_42 : decode cX8_ahead 42 = .ok (.aload_n 0, 1) := by decide +kernel
theorem dX8_ahead_43 : decode cX8_ahead 43 = .ok (.getfield 53, 3) := by decide +kernel
theorem dX8_ahead_46 : decode cX8_ahead 46 = .ok (.getfield 108, 3) := by decide +kernel
theorem dX8_ahead_49 : decode cX8_ahead 49 = .ok (.if_icmp .ge 17, 3) := by decide +kernel
theorem dX8_ahead_52 : decode cX8_ahead 52 = .ok (.aload_n 0, 1) := by decide +kernel
theorem dX8_ahead_53 : decode cX8_ahead 53 = .ok (.getfield 53, 3) := by decide +kernel
theorem dX8_ahead_56 : decode cX8_ahead 56 = .ok (.iload 6, 2) := by decide +kernel
theorem dX8_ahead_58 : decode cX8_ahead 58 = .ok (.iload 5, 2) := by decide +kernel
theorem dX8_ahead_60 : decode cX8_ahead 60 = .ok (.invokevirtual 111, 3) := by decide +kernel
theorem dX8_ahead_63 : decode cX8_ahead 63 = .ok (.goto 4, 3) := by decide +kernel
theorem dX8_ahead_66 : decode cX8_ahead 66 = .ok (.lconst 0, 1) := by decide +kernel
theorem dX8_ahead_67 : decode cX8_ahead 67 = .ok (.lstore 9, 2) := by decide +kernel
theorem dX8_ahead_69 : decode cX8_ahead 69 = .ok (.aload_n 0, 1) := by decide +kernel
theorem dX8_ahead_70 : decode cX8_ahead 70 = .ok (.iload 6, 2) := by decide +kernel
theorem dX8_ahead_72 : decode cX8_ahead 72 = .ok (.iload 6, 2) := by decide +kernel
theorem dX8_ahead_74 : decode cX8_ahead 74 = .ok (.iload_n 1, 1) := by decide +kernel
theorem dX8_ahead_75 : decode cX8_ahead 75 = .ok (.if_icmp .ne 15, 3) := by decide +kernel
theorem dX8_ahead_78 : decode cX8_ahead 78 = .ok (.lload 9, 2) := by decide +kernel
theorem dX8_ahead_80 : decode cX8_ahead 80 = .ok (.lload 7, 2) := by decide +kernel
theorem dX8_ahead_82 : decode cX8_ahead 82 = .ok (.ldc2_w 72, 3) := by decide +kernel
theorem dX8_ahead_85 : decode cX8_ahead 85 = .ok (.lxor, 1) := by decide +kernel
theorem dX8_ahead_86 : decode cX8_ahead 86 = .ok (.land, 1) := by decide +kernel
theorem dX8_ahead_87 : decode cX8_ahead 87 = .ok (.goto 12, 3) := by decide +kernel
theorem dX8_ahead_90 : decode cX8_ahead 90 = .ok (.lload 9, 2) := by decide +kernel
theorem dX8_ahead_92 : decode cX8_ahead 92 = .ok (.lload 7, 2) := by decide +kernel
theorem dX8_ahead_94 : decode cX8_ahead 94 = .ok (.lor, 1) := by decide +kernel
theorem dX8_ahead_95 : decode cX8_ahead 95 = .ok (.ldc2_w 72, 3) := by decide +kernel
theorem dX8_ahead_98 : decode cX8_ahead 98 = .ok (.lxor, 1) := by decide +kernel
theorem dX8_ahead_99 : decode cX8_ahead 99 = .ok (.invokevirtual 191, 3) := by decide +kernel
theorem dX8_ahead_102 : decode cX8_ahead 102 = .ok (.aload_n 0, 1) := by decide +kernel
theorem dX8_ahead_103 : decode cX8_ahead 103 = .ok (.getfield 41, 3) := by decide +kernel
theorem dX8_ahead_106 : decode cX8_ahead 106 = .ok (.iload 6, 2) := by decide +kernel
theorem dX8_ahead_108 : decode cX8_ahead 108 = .ok (.lload 9, 2) := by decide +kernel
theorem dX8_ahead_110 : decode cX8_ahead 110 = .ok (.lload 7, 2) := by decide +kernel
theorem dX8_ahead_112 : decode cX8_ahead 112 = .ok (.lor, 1) := by decide +kernel
theorem dX8_ahead_113 : decode cX8_ahead 113 = .ok (.invokestatic 127, 3) := by decide +kernel
theorem dX8_ahead_116 : decode cX8_ahead 116 = .ok (.iinc 6 1, 3) := by decide +kernel
theorem dX8_ahead_119 : decode cX8_ahead 119 = .ok (.goto (-96), 3) := by decide +kernel
theorem dX8_ahead_122 : decode cX8_ahead 122 = .ok (.aload_n 0, 1) := by decide +kernel
theorem dX8_ahead_123 : decode cX8_ahead 123 = .ok (.getfield 38, 3) := by decide +kernel
theorem dX8_ahead_126 : decode cX8_ahead 126 = .ok (.iload_n 1, 1) := by decide +kernel
theorem dX8_ahead_127 : decode cX8_ahead 127 = .ok (.invokestatic 123, 3) := by decide +kernel
theorem dX8_ahead_130 : decode cX8_ahead 130 = .ok (.lconst 0, 1) := by decide +kernel
theorem dX8_ahead_131 : decode cX8_ahead 131 = .ok (.lcmp, 1) := by decide +kernel
theorem dX8_ahead_132 : decode cX8_ahead 132 = .ok (.ifCond .eq 10, 3) := by decide +kernel
theorem dX8_ahead_135 : decode cX8_ahead 135 = .ok (.lload_n 3, 1) := by decide +kernel
theorem dX8_ahead_136 : decode cX8_ahead 136 = .ok (.aload_n 0, 1) := by decide +kernel
theorem dX8_ahead_137 : decode cX8_ahead 137 = .ok (.invokevirtual 187, 3) := by decide +kernel
theorem dX8_ahead_140 : decode cX8_ahead 140 = .ok (.ladd, 1) := by decide +kernel
theorem dX8_ahead_141 : decode cX8_ahead 141 = .ok (.lstore_n 3, 1) := by decide +kernel
theorem dX8_ahead_142 : decode cX8_ahead 142 = .ok (.iinc 5 1, 3) := by decide +kernel
theorem dX8_ahead_145 : decode cX8_ahead 145 = .ok (.goto (-132), 3) := by decide +kernel
theorem dX8_ahead_148 : decode cX8_ahead 148 = .ok (.lload_n 3, 1) := by decide +kernel
theorem dX8_ahead_149 : decode cX8_ahead 149 = .ok (.lreturn, 1) := by decide +kernel
theorem dX8_liarSets_0 : decode cX8_liarSets 0 = .ok (.iconst 0, 1) := by decide +kernel
theorem dX8_liarSets_1 : decode cX8_liarSets 1 = .ok (.istore_n 1, 1) := by decide +kernel
theorem dX8_liarSets_2 : decode cX8_liarSets 2 = .ok (.aload_n 0, 1) := by decide +kernel
theorem dX8_liarSets_3 : decode cX8_liarSets 3 = .ok (.getfield 26, 3) := by decide +kernel
theorem dX8_liarSets_6 : decode cX8_liarSets 6 = .ok (.istore_n 2, 1) := by decide +kernel
theorem dX8_liarSets_7 : decode cX8_liarSets 7 = .ok (.iload_n 2, 1) := by decide +kernel
theorem dX8_liarSets_8 : decode cX8_liarSets 8 = .ok (.aload_n 0, 1) := by decide +kernel
theorem dX8_liarSets_9 : decode cX8_liarSets 9 = .ok (.getfield 29, 3) := by decide +kernel
theorem dX8_liarSets_12 : decode cX8_liarSets 12 = .ok (.if_icmp .ge 57, 3) := by decide +kernel
theorem dX8_liarSets_15 : decode cX8_liarSets 15 = .ok (.iconst 0, 1) := by decide +kernel
theorem dX8_liarSets_16 : decode cX8_liarSets 16 = .ok (.istore_n 3, 1) := by decide +kernel
theorem dX8_liarSets_17 : decode cX8_liarSets 17 = .ok (.iconst 0, 1) := by decide +kernel
theorem dX8_liarSets_18 : decode cX8_liarSets 18 = .ok (.istore 4, 2) := by decide +kernel
theorem dX8_liarSets_20 : decode cX8_liarSets 20 = .ok (.iload 4, 2) := by decide +kernel
theorem dX8_liarSets_22 : decode cX8_liarSets 22 = .ok (.aload_n 0, 1) := by decide +kernel
theorem dX8_liarSets_23 : decode cX8_liarSets 23 = .ok (.getfield 53, 3) := by decide +kernel
theorem dX8_liarSets_26 : decode cX8_liarSets 26 = .ok (.getfield 86, 3) := by decide +kernel
theorem dX8_liarSets_29 : decode cX8_liarSets 29 = .ok (.if_icmp .ge 28, 3) := by decide +kernel
theorem dX8_liarSets_32 : decode cX8_liarSets 32 = .ok (.aload_n 0, 1) := by decide +kernel
theorem dX8_liarSets_33 : decode cX8_liarSets 33 = .ok (.iload_n 2, 1) := by decide +kernel
theorem dX8_liarSets_34 : decode cX8_liarSets 34 = .ok (.iload 4, 2) := by decide +kernel
theorem dX8_liarSets_36 : decode cX8_liarSets 36 = .ok (.invokevirtual 164, 3) := by decide +kernel
theorem dX8_liarSets_39 : decode cX8_liarSets 39 = .ok (.iconst 1, 1) := by decide +kernel
theorem dX8_liarSets_40 : decode cX8_liarSets 40 = .ok (.iand, 1) := by decide +kernel
theorem dX8_liarSets_41 : decode cX8_liarSets 41 = .ok (.ifCond .ne 10, 3) := by decide +kernel
theorem dX8_liarSets_44 : decode cX8_liarSets 44 = .ok (.iload_n 3, 1) := by decide +kernel
theorem dX8_liarSets_45 : decode cX8_liarSets 45 = .ok (.iconst 1, 1) := by decide +kernel
theorem dX8_liarSets_46 : decode cX8_liarSets 46 = .ok (.iload 4, 2) := by decide +kernel
theorem dX8_liarSets_48 : decode cX8_liarSets 48 = .ok (.ishl, 1) := by decide +kernel
theorem dX8_liarSets_49 : decode cX8_liarSets 49 = .ok (.ior, 1) := by decide +kernel
theorem dX8_liarSets_50 : decode cX8_liarSets 50 = .ok (.istore_n 3, 1) := by decide +kernel
theorem dX8_liarSets_51 : decode cX8_liarSets 51 = .ok (.iinc 4 1, 3) := by decide +kernel
theorem dX8_liarSets_54 : decode cX8_liarSets 54 = .ok (.goto (-34), 3) := by decide +kernel
theorem dX8_liarSets_57 : decode cX8_liarSets 57 = .ok (.iload_n 1, 1) := by decide +kernel
theorem dX8_liarSets_58 : decode cX8_liarSets 58 = .ok (.iconst 1, 1) := by decide +kernel
theorem dX8_liarSets_59 : decode cX8_liarSets 59 = .ok (.iload_n 3, 1) := by decide +kernel
theorem dX8_liarSets_60 : decode cX8_liarSets 60 = .ok (.ishl, 1) := by decide +kernel
theorem dX8_liarSets_61 : decode cX8_liarSets 61 = .ok (.ior, 1) := by decide +kernel
theorem dX8_liarSets_62 : decode cX8_liarSets 62 = .ok (.istore_n 1, 1) := by decide +kernel
theorem dX8_liarSets_63 : decode cX8_liarSets 63 = .ok (.iinc 2 1, 3) := by decide +kernel
theorem dX8_liarSets_66 : decode cX8_liarSets 66 = .ok (.goto (-59), 3) := by decide +kernel
theorem dX8_liarSets_69 : decode cX8_liarSets 69 = .ok (.iload_n 1, 1) := by decide +kernel
theorem dX8_liarSets_70 : decode cX8_liarSets 70 = .ok (.ireturn, 1) := by decide +kernel
theorem dX8_spread_0 : decode cX8_spread 0 = .ok (.aload_n 0, 1) := by decide +kernel
theorem dX8_spread_1 : decode cX8_spread 1 = .ok (.getfield 50, 3) := by decide +kernel
theorem dX8_spread_4 : decode cX8_spread 4 = .ok (.lconst 0, 1) := by decide +kernel
theorem dX8_spread_5 : decode cX8_spread 5 = .ok (.invokestatic 74, 3) := by decide +kernel
theorem dX8_spread_8 : decode cX8_spread 8 = .ok (.iconst 0, 1) := by decide +kernel
theorem dX8_spread_9 : decode cX8_spread 9 = .ok (.istore_n 3, 1) := by decide +kernel
theorem dX8_spread_10 : decode cX8_spread 10 = .ok (.iload_n 3, 1) := by decide +kernel
theorem dX8_spread_11 : decode cX8_spread 11 = .ok (.aload_n 0, 1) := by decide +kernel
theorem dX8_spread_12 : decode cX8_spread 12 = .ok (.getfield 53, 3) := by decide +kernel
theorem dX8_spread_15 : decode cX8_spread 15 = .ok (.getfield 108, 3) := by decide +kernel
theorem dX8_spread_18 : decode cX8_spread 18 = .ok (.if_icmp .ge 45, 3) := by decide +kernel
theorem dX8_spread_21 : decode cX8_spread 21 = .ok (.aload_n 0, 1) := by decide +kernel
theorem dX8_spread_22 : decode cX8_spread 22 = .ok (.getfield 41, 3) := by decide +kernel
theorem dX8_spread_25 : decode cX8_spread 25 = .ok (.iload_n 3, 1) := by decide +kernel
theorem dX8_spread_26 : decode cX8_spread 26 = .ok (.aload_n 0, 1) := by decide +kernel
theorem dX8_spread_27 : decode cX8_spread 27 = .ok (.getfield 53, 3) := by decide +kernel
theorem dX8_spread_30 : decode cX8_spread 30 = .ok (.iload_n 3, 1) := by decide +kernel
theorem dX8_spread_31 : decode cX8_spread 31 = .ok (.iload_n 2, 1) := by decide +kernel
theorem dX8_spread_32 : decode cX8_spread 32 = .ok (.invokevirtual 111, 3) := by decide +kernel
theorem dX8_spread_35 : decode cX8_spread 35 = .ok (.invokestatic 127, 3) := by decide +kernel
theorem dX8_spread_38 : decode cX8_spread 38 = .ok (.aload_n 0, 1) := by decide +kernel
theorem dX8_spread_39 : decode cX8_spread 39 = .ok (.getfield 44, 3) := by decide +kernel
theorem dX8_spread_42 : decode cX8_spread 42 = .ok (.iload_n 3, 1) := by decide +kernel
theorem dX8_spread_43 : decode cX8_spread 43 = .ok (.aload_n 0, 1) := by decide +kernel
theorem dX8_spread_44 : decode cX8_spread 44 = .ok (.getfield 53, 3) := by decide +kernel
theorem dX8_spread_47 : decode cX8_spread 47 = .ok (.iload_n 3, 1) := by decide +kernel
theorem dX8_spread_48 : decode cX8_spread 48 = .ok (.iload_n 2, 1) := by decide +kernel
theorem dX8_spread_49 : decode cX8_spread 49 = .ok (.iconst 1, 1) := by decide +kernel
theorem dX8_spread_50 : decode cX8_spread 50 = .ok (.isub, 1) := by decide +kernel
theorem dX8_spread_51 : decode cX8_spread 51 = .ok (.invokevirtual 111, 3) := by decide +kernel
theorem dX8_spread_54 : decode cX8_spread 54 = .ok (.invokestatic 127, 3) := by decide +kernel
theorem dX8_spread_57 : decode cX8_spread 57 = .ok (.iinc 3 1, 3) := by decide +kernel
theorem dX8_spread_60 : decode cX8_spread 60 = .ok (.goto (-50), 3) := by decide +kernel
theorem dX8_spread_63 : decode cX8_spread 63 = .ok (.aload_n 0, 1) := by decide +kernel
theorem dX8_spread_64 : decode cX8_spread 64 = .ok (.getfield 26, 3) := by decide +kernel
theorem dX8_spread_67 : decode cX8_spread 67 = .ok (.istore_n 3, 1) := by decide +kernel
theorem dX8_spread_68 : decode cX8_spread 68 = .ok (.iload_n 3, 1) := by decide +kernel
theorem dX8_spread_69 : decode cX8_spread 69 = .ok (.aload_n 0, 1) := by decide +kernel
theorem dX8_spread_70 : decode cX8_spread 70 = .ok (.getfield 29, 3) := by decide +kernel
theorem dX8_spread_73 : decode cX8_spread 73 = .ok (.if_icmp .ge 74, 3) := by decide +kernel
theorem dX8_spread_76 : decode cX8_spread 76 = .ok (.aload_n 0, 1) := by decide +kernel
theorem dX8_spread_77 : decode cX8_spread 77 = .ok (.iload_n 3, 1) := by decide +kernel
theorem dX8_spread_78 : decode cX8_spread 78 = .ok (.iload_n 1, 1) := by decide +kernel
theorem dX8_spread_79 : decode cX8_spread 79 = .ok (.invokevirtual 164, 3) := by decide +kernel
theorem dX8_spread_82 : decode cX8_spread 82 = .ok (.iconst 2, 1) := by decide +kernel
theorem dX8_spread_83 : decode cX8_spread 83 = .ok (.iand, 1) := by decide +kernel
theorem dX8_spread_84 : decode cX8_spread 84 = .ok (.istore 4, 2) := by decide +kernel
theorem dX8_spread_86 : decode cX8_spread 86 = .ok (.aload_n 0, 1) := by decide +kernel
theorem dX8_spread_87 : decode cX8_spread 87 = .ok (.iload_n 3, 1) := by decide +kernel
theorem dX8_spread_88 : decode cX8_spread 88 = .ok (.iload_n 1, 1) := by decide +kernel
theorem dX8_spread_89 : decode cX8_spread 89 = .ok (.invokevirtual 164, 3) := by decide +kernel
theorem dX8_spread_92 : decode cX8_spread 92 = .ok (.iload 4, 2) := by decide +kernel
theorem dX8_spread_94 : decode cX8_spread 94 = .ok (.iconst (-1), 1) := by decide +kernel
theorem dX8_spread_95 : decode cX8_spread 95 = .ok (.ixor, 1) := by decide +kernel
theorem dX8_spread_96 : decode cX8_spread 96 = .ok (.iand, 1) := by decide +kernel
theorem dX8_spread_97 : decode cX8_spread 97 = .ok (.istore 5, 2) := by decide +kernel
theorem dX8_spread_99 : decode cX8_spread 99 = .ok (.iload 4, 2) := by decide +kernel
theorem dX8_spread_101 : decode cX8_spread 101 = .ok (.ifCond .eq 19, 3) := by decide +kernel
theorem dX8_spread_104 : decode cX8_spread 104 = .ok (.aload_n 0, 1) := by decide +kernel
theorem dX8_spread_105 : decode cX8_spread 105 = .ok (.iload_n 3, 1) := by decide +kernel
theorem dX8_spread_106 : decode cX8_spread 106 = .ok (.iload_n 1, 1) := by decide +kernel
theorem dX8_spread_107 : decode cX8_spread 107 = .ok (.aload_n 0, 1) := by decide +kernel
theorem dX8_spread_108 : decode cX8_spread 108 = .ok (.getfield 44, 3) := by decide +kernel
theorem dX8_spread_111 : decode cX8_spread 111 = .ok (.invokevirtual 194, 3) := by decide +kernel
theorem dX8_spread_114 : decode cX8_spread 114 = .ok (.aload_n 0, 1) := by decide +kernel
theorem dX8_spread_115 : decode cX8_spread 115 = .ok (.iload 4, 2) := by decide +kernel
theorem dX8_spread_117 : decode cX8_spread 117 = .ok (.invokevirtual 198, 3) := by decide +kernel
theorem dX8_spread_120 : decode cX8_spread 120 = .ok (.iload 5, 2) := by decide +kernel
theorem dX8_spread_122 : decode cX8_spread 122 = .ok (.ifCond .eq 19, 3) := by decide +kernel
theorem dX8_spread_125 : decode cX8_spread 125 = .ok (.aload_n 0, 1) := by decide +kernel
theorem dX8_spread_126 : decode cX8_spread 126 = .ok (.iload_n 3, 1) := by decide +kernel
theorem dX8_spread_127 : decode cX8_spread 127 = .ok (.iload_n 1, 1) := by decide +kernel
theorem dX8_spread_128 : decode cX8_spread 128 = .ok (.aload_n 0, 1) := by decide +kernel
theorem dX8_spread_129 : decode cX8_spread 129 = .ok (.getfield 41, 3) := by decide +kernel
theorem dX8_spread_132 : decode cX8_spread 132 = .ok (.invokevirtual 194, 3) := by decide +kernel
theorem dX8_spread_135 : decode cX8_spread 135 = .ok (.aload_n 0, 1) := by decide +kernel
theorem dX8_spread_136 : decode cX8_spread 136 = .ok (.iload 5, 2) := by decide +kernel
theorem dX8_spread_138 : decode cX8_spread 138 = .ok (.invokevirtual 198, 3) := by decide +kernel
theorem dX8_spread_141 : decode cX8_spread 141 = .ok (.iinc 3 1, 3) := by decide +kernel
theorem dX8_spread_144 : decode cX8_spread 144 = .ok (.goto (-76), 3) := by decide +kernel
theorem dX8_spread_147 : decode cX8_spread 147 = .ok (.return_, 1) := by decide +kernel
theorem dX8_divide_0 : decode cX8_divide 0 = .ok (.aload_n 0, 1) := by decide +kernel
theorem dX8_divide_1 : decode cX8_divide 1 = .ok (.getfield 47, 3) := by decide +kernel
theorem dX8_divide_4 : decode cX8_divide 4 = .ok (.iconst 0, 1) := by decide +kernel
theorem dX8_divide_5 : decode cX8_divide 5 = .ok (.aload_n 0, 1) := by decide +kernel
theorem dX8_divide_6 : decode cX8_divide 6 = .ok (.iload_n 1, 1) := by decide +kernel
theorem dX8_divide_7 : decode cX8_divide 7 = .ok (.iload_n 2, 1) := by decide +kernel
theorem dX8_divide_8 : decode cX8_divide 8 = .ok (.invokevirtual 177, 3) := by decide +kernel
theorem dX8_divide_11 : decode cX8_divide 11 = .ok (.invokestatic 127, 3) := by decide +kernel
theorem dX8_divide_14 : decode cX8_divide 14 = .ok (.iconst 0, 1) := by decide +kernel
theorem dX8_divide_15 : decode cX8_divide 15 = .ok (.istore 4, 2) := by decide +kernel
theorem dX8_divide_17 : decode cX8_divide 17 = .ok (.iload 4, 2) := by decide +kernel
theorem dX8_divide_19 : decode cX8_divide 19 = .ok (.aload_n 0, 1) := by decide +kernel
theorem dX8_divide_20 : decode cX8_divide 20 = .ok (.getfield 53, 3) := by decide +kernel
theorem dX8_divide_23 : decode cX8_divide 23 = .ok (.getfield 108, 3) := by decide +kernel
theorem dX8_divide_26 : decode cX8_divide 26 = .ok (.if_icmp .ge 108, 3) := by decide +kernel
theorem dX8_divide_29 : decode cX8_divide 29 = .ok (.aload_n 0, 1) := by decide +kernel
theorem dX8_divide_30 : decode cX8_divide 30 = .ok (.iload_n 1, 1) := by decide +kernel
theorem dX8_divide_31 : decode cX8_divide 31 = .ok (.iload 4, 2) := by decide +kernel
theorem dX8_divide_33 : decode cX8_divide 33 = .ok (.invokevirtual 161, 3) := by decide +kernel
theorem dX8_divide_36 : decode cX8_divide 36 = .ok (.lstore 5, 2) := by decide +kernel
theorem dX8_divide_38 : decode cX8_divide 38 = .ok (.lload 5, 2) := by decide +kernel
theorem dX8_divide_40 : decode cX8_divide 40 = .ok (.aload_n 3, 1) := by decide +kernel
theorem dX8_divide_41 : decode cX8_divide 41 = .ok (.iload 4, 2) := by decide +kernel
theorem dX8_divide_43 : decode cX8_divide 43 = .ok (.invokestatic 123, 3) := by decide +kernel
theorem dX8_divide_46 : decode cX8_divide 46 = .ok (.land, 1) := by decide +kernel
theorem dX8_divide_47 : decode cX8_divide 47 = .ok (.invokestatic 172, 3) := by decide +kernel
theorem dX8_divide_50 : decode cX8_divide 50 = .ok (.i2l, 1) := by decide +kernel
theorem dX8_divide_51 : decode cX8_divide 51 = .ok (.lstore 7, 2) := by decide +kernel
theorem dX8_divide_53 : decode cX8_divide 53 = .ok (.lload 5, 2) := by decide +kernel
theorem dX8_divide_55 : decode cX8_divide 55 = .ok (.invokestatic 172, 3) := by decide +kernel
theorem dX8_divide_58 : decode cX8_divide 58 = .ok (.i2l, 1) := by decide +kernel
theorem dX8_divide_59 : decode cX8_divide 59 = .ok (.lload 7, 2) := by decide +kernel
theorem dX8_divide_61 : decode cX8_divide 61 = .ok (.lsub, 1) := by decide +kernel
theorem dX8_divide_62 : decode cX8_divide 62 = .ok (.lstore 9, 2) := by decide +kernel
theorem dX8_divide_64 : decode cX8_divide 64 = .ok (.iconst 1, 1) := by decide +kernel
theorem dX8_divide_65 : decode cX8_divide 65 = .ok (.iload 4, 2) := by decide +kernel
theorem dX8_divide_67 : decode cX8_divide 67 = .ok (.ishl, 1) := by decide +kernel
theorem dX8_divide_68 : decode cX8_divide 68 = .ok (.istore 11, 2) := by decide +kernel
theorem dX8_divide_70 : decode cX8_divide 70 = .ok (.iconst 0, 1) := by decide +kernel
theorem dX8_divide_71 : decode cX8_divide 71 = .ok (.istore 12, 2) := by decide +kernel
theorem dX8_divide_73 : decode cX8_divide 73 = .ok (.iload 12, 2) := by decide +kernel
theorem dX8_divide_75 : decode cX8_divide 75 = .ok (.iload 11, 2) := by decide +kernel
theorem dX8_divide_77 : decode cX8_divide 77 = .ok (.if_icmp .ge 51, 3) := by decide +kernel
theorem dX8_divide_80 : decode cX8_divide 80 = .ok (.aload_n 0, 1) := by decide +kernel
theorem dX8_divide_81 : decode cX8_divide 81 = .ok (.getfield 47, 3) := by decide +kernel
theorem dX8_divide_84 : decode cX8_divide 84 = .ok (.iload 12, 2) := by decide +kernel
theorem dX8_divide_86 : decode cX8_divide 86 = .ok (.invokestatic 123, 3) := by decide +kernel
theorem dX8_divide_89 : decode cX8_divide 89 = .ok (.lstore 13, 2) := by decide +kernel
theorem dX8_divide_91 : decode cX8_divide 91 = .ok (.aload_n 0, 1) := by decide +kernel
theorem dX8_divide_92 : decode cX8_divide 92 = .ok (.getfield 47, 3) := by decide +kernel
theorem dX8_divide_95 : decode cX8_divide 95 = .ok (.iload 12, 2) := by decide +kernel
theorem dX8_divide_97 : decode cX8_divide 97 = .ok (.iload 11, 2) := by decide +kernel
theorem dX8_divide_99 : decode cX8_divide 99 = .ok (.ior, 1) := by decide +kernel
theorem dX8_divide_100 : decode cX8_divide 100 = .ok (.lload 13, 2) := by decide +kernel
theorem dX8_divide_102 : decode cX8_divide 102 = .ok (.lload 7, 2) := by decide +kernel
theorem dX8_divide_104 : decode cX8_divide 104 = .ok (.lmul, 1) := by decide +kernel
theorem dX8_divide_105 : decode cX8_divide 105 = .ok (.invokestatic 127, 3) := by decide +kernel
theorem dX8_divide_108 : decode cX8_divide 108 = .ok (.aload_n 0, 1) := by decide +kernel
theorem dX8_divide_109 : decode cX8_divide 109 = .ok (.getfield 47, 3) := by decide +kernel
theorem dX8_divide_112 : decode cX8_divide 112 = .ok (.iload 12, 2) := by decide +kernel
theorem dX8_divide_114 : decode cX8_divide 114 = .ok (.lload 13, 2) := by decide +kernel
theorem dX8_divide_116 : decode cX8_divide 116 = .ok (.lload 9, 2) := by decide +kernel
theorem dX8_divide_118 : decode cX8_divide 118 = .ok (.lmul, 1) := by decide +kernel
theorem dX8_divide_119 : decode cX8_divide 119 = .ok (.invokestatic 127, 3) := by decide +kernel
theorem dX8_divide_122 : decode cX8_divide 122 = .ok (.iinc 12 1, 3) := by decide +kernel
theorem dX8_divide_125 : decode cX8_divide 125 = .ok (.goto (-52), 3) := by decide +kernel
theorem dX8_divide_128 : decode cX8_divide 128 = .ok (.iinc 4 1, 3) := by decide +kernel
theorem dX8_divide_131 : decode cX8_divide 131 = .ok (.goto (-114), 3) := by decide +kernel
theorem dX8_divide_134 : decode cX8_divide 134 = .ok (.return_, 1) := by decide +kernel
theorem dX8_addTold_0 : decode cX8_addTold 0 = .ok (.iconst 0, 1) := by decide +kernel
theorem dX8_addTold_1 : decode cX8_addTold 1 = .ok (.istore_n 2, 1) := by decide +kernel
theorem dX8_addTold_2 : decode cX8_addTold 2 = .ok (.iload_n 2, 1) := by decide +kernel
theorem dX8_addTold_3 : decode cX8_addTold 3 = .ok (.bipush 8, 2) := by decide +kernel
theorem dX8_addTold_5 : decode cX8_addTold 5 = .ok (.if_icmp .ge 73, 3) := by decide +kernel
theorem dX8_addTold_8 : decode cX8_addTold 8 = .ok (.iload_n 1, 1) := by decide +kernel
theorem dX8_addTold_9 : decode cX8_addTold 9 = .ok (.iload_n 2, 1) := by decide +kernel
theorem dX8_addTold_10 : decode cX8_addTold 10 = .ok (.iushr, 1) := by decide +kernel
theorem dX8_addTold_11 : decode cX8_addTold 11 = .ok (.iconst 1, 1) := by decide +kernel
theorem dX8_addTold_12 : decode cX8_addTold 12 = .ok (.iand, 1) := by decide +kernel
theorem dX8_addTold_13 : decode cX8_addTold 13 = .ok (.iconst 1, 1) := by decide +kernel
theorem dX8_addTold_14 : decode cX8_addTold 14 = .ok (.if_icmp .ne 58, 3) := by decide +kernel
theorem dX8_addTold_17 : decode cX8_addTold 17 = .ok (.iconst 0, 1) := by decide +kernel
theorem dX8_addTold_18 : decode cX8_addTold 18 = .ok (.istore_n 3, 1) := by decide +kernel
theorem dX8_addTold_19 : decode cX8_addTold 19 = .ok (.iload_n 3, 1) := by decide +kernel
theorem dX8_addTold_20 : decode cX8_addTold 20 = .ok (.iconst 1, 1) := by decide +kernel
theorem dX8_addTold_21 : decode cX8_addTold 21 = .ok (.aload_n 0, 1) := by decide +kernel
theorem dX8_addTold_22 : decode cX8_addTold 22 = .ok (.getfield 53, 3) := by decide +kernel
theorem dX8_addTold_25 : decode cX8_addTold 25 = .ok (.getfield 108, 3) := by decide +kernel
theorem dX8_addTold_28 : decode cX8_addTold 28 = .ok (.ishl, 1) := by decide +kernel
theorem dX8_addTold_29 : decode cX8_addTold 29 = .ok (.if_icmp .ge 43, 3) := by decide +kernel
theorem dX8_addTold_32 : decode cX8_addTold 32 = .ok (.iload_n 2, 1) := by decide +kernel
theorem dX8_addTold_33 : decode cX8_addTold 33 = .ok (.iload_n 3, 1) := by decide +kernel
theorem dX8_addTold_34 : decode cX8_addTold 34 = .ok (.invokestatic 201, 3) := by decide +kernel
theorem dX8_addTold_37 : decode cX8_addTold 37 = .ok (.istore 4, 2) := by decide +kernel
theorem dX8_addTold_39 : decode cX8_addTold 39 = .ok (.aload_n 0, 1) := by decide +kernel
theorem dX8_addTold_40 : decode cX8_addTold 40 = .ok (.getfield 50, 3) := by decide +kernel
theorem dX8_addTold_43 : decode cX8_addTold 43 = .ok (.iload 4, 2) := by decide +kernel
theorem dX8_addTold_45 : decode cX8_addTold 45 = .ok (.aload_n 0, 1) := by decide +kernel
theorem dX8_addTold_46 : decode cX8_addTold 46 = .ok (.getfield 50, 3) := by decide +kernel
theorem dX8_addTold_49 : decode cX8_addTold 49 = .ok (.iload 4, 2) := by decide +kernel
theorem dX8_addTold_51 : decode cX8_addTold 51 = .ok (.invokestatic 123, 3) := by decide +kernel
theorem dX8_addTold_54 : decode cX8_addTold 54 = .ok (.aload_n 0, 1) := by decide +kernel
theorem dX8_addTold_55 : decode cX8_addTold 55 = .ok (.getfield 47, 3) := by decide +kernel
theorem dX8_addTold_58 : decode cX8_addTold 58 = .ok (.iload_n 3, 1) := by decide +kernel
theorem dX8_addTold_59 : decode cX8_addTold 59 = .ok (.invokestatic 123, 3) := by decide +kernel
theorem dX8_addTold_62 : decode cX8_addTold 62 = .ok (.ladd, 1) := by decide +kernel
theorem dX8_addTold_63 : decode cX8_addTold 63 = .ok (.invokestatic 127, 3) := by decide +kernel
theorem dX8_addTold_66 : decode cX8_addTold 66 = .ok (.iinc 3 1, 3) := by decide +kernel
theorem dX8_addTold_69 : decode cX8_addTold 69 = .ok (.goto (-50), 3) := by decide +kernel
theorem dX8_addTold_72 : decode cX8_addTold 72 = .ok (.iinc 2 1, 3) := by decide +kernel
theorem dX8_addTold_75 : decode cX8_addTold 75 = .ok (.goto (-73), 3) := by decide +kernel
theorem dX8_addTold_78 : decode cX8_addTold 78 = .ok (.return_, 1) := by decide +kernel
theorem dX8_greatest_0 : decode cX8_greatest 0 = .ok (.lconst 0, 1) := by decide +kernel
theorem dX8_greatest_1 : decode cX8_greatest 1 = .ok (.lstore_n 1, 1) := by decide +kernel
theorem dX8_greatest_2 : decode cX8_greatest 2 = .ok (.iconst 0, 1) := by decide +kernel
theorem dX8_greatest_3 : decode cX8_greatest 3 = .ok (.istore_n 3, 1) := by decide +kernel
theorem dX8_greatest_4 : decode cX8_greatest 4 = .ok (.iload_n 3, 1) := by decide +kernel
theorem dX8_greatest_5 : decode cX8_greatest 5 = .ok (.bipush 8, 2) := by decide +kernel
theorem dX8_greatest_7 : decode cX8_greatest 7 = .ok (.if_icmp .ge 22, 3) := by decide +kernel
theorem dX8_greatest_10 : decode cX8_greatest 10 = .ok (.lload_n 1, 1) := by decide +kernel
theorem dX8_greatest_11 : decode cX8_greatest 11 = .ok (.aload_n 0, 1) := by decide +kernel
theorem dX8_greatest_12 : decode cX8_greatest 12 = .ok (.getfield 50, 3) := by decide +kernel
theorem dX8_greatest_15 : decode cX8_greatest 15 = .ok (.iload_n 3, 1) := by decide +kernel
theorem dX8_greatest_16 : decode cX8_greatest 16 = .ok (.invokestatic 123, 3) := by decide +kernel
theorem dX8_greatest_19 : decode cX8_greatest 19 = .ok (.invokestatic 204, 3) := by decide +kernel
theorem dX8_greatest_22 : decode cX8_greatest 22 = .ok (.lstore_n 1, 1) := by decide +kernel
theorem dX8_greatest_23 : decode cX8_greatest 23 = .ok (.iinc 3 1, 3) := by decide +kernel
theorem dX8_greatest_26 : decode cX8_greatest 26 = .ok (.goto (-22), 3) := by decide +kernel
theorem dX8_greatest_29 : decode cX8_greatest 29 = .ok (.lload_n 1, 1) := by decide +kernel
theorem dX8_greatest_30 : decode cX8_greatest 30 = .ok (.lreturn, 1) := by decide +kernel
theorem dX9_feed_0 : decode cX9_feed 0 = .ok (.aload_n 0, 1) := by decide +kernel
theorem dX9_feed_1 : decode cX9_feed 1 = .ok (.getfield 13, 3) := by decide +kernel
theorem dX9_feed_4 : decode cX9_feed 4 = .ok (.bipush 20, 2) := by decide +kernel
theorem dX9_feed_6 : decode cX9_feed 6 = .ok (.iadd, 1) := by decide +kernel
theorem dX9_feed_7 : decode cX9_feed 7 = .ok (.sipush 940, 3) := by decide +kernel
theorem dX9_feed_10 : decode cX9_feed 10 = .ok (.if_icmp .le 5, 3) := by decide +kernel
theorem dX9_feed_13 : decode cX9_feed 13 = .ok (.iconst (-1), 1) := by decide +kernel
theorem dX9_feed_14 : decode cX9_feed 14 = .ok (.ireturn, 1) := by decide +kernel
theorem dX9_feed_15 : decode cX9_feed 15 = .ok (.aload_n 0, 1) := by decide +kernel
theorem dX9_feed_16 : decode cX9_feed 16 = .ok (.iload_n 1, 1) := by decide +kernel
theorem dX9_feed_17 : decode cX9_feed 17 = .ok (.invokevirtual 82, 3) := by decide +kernel
theorem dX9_feed_20 : decode cX9_feed 20 = .ok (.aload_n 0, 1) := by decide +kernel
theorem dX9_feed_21 : decode cX9_feed 21 = .ok (.iload_n 2, 1) := by decide +kernel
theorem dX9_feed_22 : decode cX9_feed 22 = .ok (.invokevirtual 82, 3) := by decide +kernel
theorem dX9_feed_25 : decode cX9_feed 25 = .ok (.aload_n 0, 1) := by decide +kernel
theorem dX9_feed_26 : decode cX9_feed 26 = .ok (.iload_n 3, 1) := by decide +kernel
theorem dX9_feed_27 : decode cX9_feed 27 = .ok (.invokevirtual 82, 3) := by decide +kernel
theorem dX9_feed_30 : decode cX9_feed 30 = .ok (.aload_n 0, 1) := by decide +kernel
theorem dX9_feed_31 : decode cX9_feed 31 = .ok (.iload 4, 2) := by decide +kernel
theorem dX9_feed_33 : decode cX9_feed 33 = .ok (.invokevirtual 82, 3) := by decide +kernel
theorem dX9_feed_36 : decode cX9_feed 36 = .ok (.aload_n 0, 1) := by decide +kernel
theorem dX9_feed_37 : decode cX9_feed 37 = .ok (.iload 5, 2) := by decide +kernel
theorem dX9_feed_39 : decode cX9_feed 39 = .ok (.invokevirtual 82, 3) := by decide +kernel
theorem dX9_feed_42 : decode cX9_feed 42 = .ok (.aload_n 0, 1) := by decide +kernel
theorem dX9_feed_43 : decode cX9_feed 43 = .ok (.getfield 13, 3) := by decide +kernel
theorem dX9_feed_46 : decode cX9_feed 46 = .ok (.ireturn, 1) := by decide +kernel
theorem dX9_addFour_0 : decode cX9_addFour 0 = .ok (.bipush 24, 2) := by decide +kernel
theorem dX9_addFour_2 : decode cX9_addFour 2 = .ok (.istore_n 2, 1) := by decide +kernel
theorem dX9_addFour_3 : decode cX9_addFour 3 = .ok (.iload_n 2, 1) := by decide +kernel
theorem dX9_addFour_4 : decode cX9_addFour 4 = .ok (.ifCond .lt 37, 3) := by decide +kernel
theorem dX9_addFour_7 : decode cX9_addFour 7 = .ok (.aload_n 0, 1) := by decide +kernel
theorem dX9_addFour_8 : decode cX9_addFour 8 = .ok (.getfield 9, 3) := by decide +kernel
theorem dX9_addFour_11 : decode cX9_addFour 11 = .ok (.aload_n 0, 1) := by decide +kernel
theorem dX9_addFour_12 : decode cX9_addFour 12 = .ok (.getfield 13, 3) := by decide +kernel
theorem dX9_addFour_15 : decode cX9_addFour 15 = .ok (.iload_n 1, 1) := by decide +kernel
theorem dX9_addFour_16 : decode cX9_addFour 16 = .ok (.iload_n 2, 1) := by decide +kernel
theorem dX9_addFour_17 : decode cX9_addFour 17 = .ok (.iushr, 1) := by decide +kernel
theorem dX9_addFour_18 : decode cX9_addFour 18 = .ok (.sipush 255, 3) := by decide +kernel
theorem dX9_addFour_21 : decode cX9_addFour 21 = .ok (.iand, 1) := by decide +kernel
theorem dX9_addFour_22 : decode cX9_addFour 22 = .ok (.invokestatic 86, 3) := by decide +kernel
theorem dX9_addFour_25 : decode cX9_addFour 25 = .ok (.aload_n 0, 1) := by decide +kernel
theorem dX9_addFour_26 : decode cX9_addFour 26 = .ok (.dup, 1) := by decide +kernel
theorem dX9_addFour_27 : decode cX9_addFour 27 = .ok (.getfield 13, 3) := by decide +kernel
theorem dX9_addFour_30 : decode cX9_addFour 30 = .ok (.iconst 1, 1) := by decide +kernel
theorem dX9_addFour_31 : decode cX9_addFour 31 = .ok (.iadd, 1) := by decide +kernel
theorem dX9_addFour_32 : decode cX9_addFour 32 = .ok (.putfield 13, 3) := by decide +kernel
theorem dX9_addFour_35 : decode cX9_addFour 35 = .ok (.iinc 2 (-8), 3) := by decide +kernel
theorem dX9_addFour_38 : decode cX9_addFour 38 = .ok (.goto (-35), 3) := by decide +kernel
theorem dX9_addFour_41 : decode cX9_addFour 41 = .ok (.return_, 1) := by decide +kernel
theorem dX9_end_0 : decode cX9_end 0 = .ok (.iload_n 1, 1) := by decide +kernel
theorem dX9_end_1 : decode cX9_end 1 = .ok (.ifCond .lt 11, 3) := by decide +kernel
theorem dX9_end_4 : decode cX9_end 4 = .ok (.iload_n 1, 1) := by decide +kernel
theorem dX9_end_5 : decode cX9_end 5 = .ok (.aload_n 0, 1) := by decide +kernel
theorem dX9_end_6 : decode cX9_end 6 = .ok (.getfield 13, 3) := by decide +kernel
theorem dX9_end_9 : decode cX9_end 9 = .ok (.if_icmp .le 5, 3) := by decide +kernel
theorem dX9_end_12 : decode cX9_end 12 = .ok (.iconst 0, 1) := by decide +kernel
theorem dX9_end_13 : decode cX9_end 13 = .ok (.ireturn, 1) := by decide +kernel
theorem dX9_end_14 : decode cX9_end 14 = .ok (.aload_n 0, 1) := by decide +kernel
theorem dX9_end_15 : decode cX9_end 15 = .ok (.iload_n 1, 1) := by decide +kernel
theorem dX9_end_16 : decode cX9_end 16 = .ok (.putfield 13, 3) := by decide +kernel
theorem dX9_end_19 : decode cX9_end 19 = .ok (.iconst 1, 1) := by decide +kernel
theorem dX9_end_20 : decode cX9_end 20 = .ok (.ireturn, 1) := by decide +kernel
theorem dX9_house_0 : decode cX9_house 0 = .ok (.aload_n 0, 1) := by decide +kernel
theorem dX9_house_1 : decode cX9_house 1 = .ok (.getfield 39, 3) := by decide +kernel
theorem dX9_house_4 : decode cX9_house 4 = .ok (.aload_n 0, 1) := by decide +kernel
theorem dX9_house_5 : decode cX9_house 5 = .ok (.getfield 9, 3) := by decide +kernel
theorem dX9_house_8 : decode cX9_house 8 = .ok (.aload_n 0, 1) := by decide +kernel
theorem dX9_house_9 : decode cX9_house 9 = .ok (.getfield 13, 3) := by decide +kernel
theorem dX9_house_12 : decode cX9_house 12 = .ok (.sipush 900, 3) := by decide +kernel
theorem dX9_house_15 : decode cX9_house 15 = .ok (.invokevirtual 90, 3) := by decide +kernel
theorem dX9_house_18 : decode cX9_house 18 = .ok (.aload_n 0, 1) := by decide +kernel
theorem dX9_house_19 : decode cX9_house 19 = .ok (.getfield 48, 3) := by decide +kernel
theorem dX9_house_22 : decode cX9_house 22 = .ok (.invokevirtual 93, 3) := by decide +kernel
theorem dX9_house_25 : decode cX9_house 25 = .ok (.istore_n 1, 1) := by decide +kernel
theorem dX9_house_26 : decode cX9_house 26 = .ok (.iload_n 1, 1) := by decide +kernel
theorem dX9_house_27 : decode cX9_house 27 = .ok (.iconst (-1), 1) := by decide +kernel
theorem dX9_house_28 : decode cX9_house 28 = .ok (.if_icmp .eq 17, 3) := by decide +kernel
theorem dX9_house_31 : decode cX9_house 31 = .ok (.aload_n 0, 1) := by decide +kernel
theorem dX9_house_32 : decode cX9_house 32 = .ok (.getfield 23, 3) := by decide +kernel
theorem dX9_house_35 : decode cX9_house 35 = .ok (.aload_n 0, 1) := by decide +kernel
theorem dX9_house_36 : decode cX9_house 36 = .ok (.getfield 48, 3) := by decide +kernel
theorem dX9_house_39 : decode cX9_house 39 = .ok (.getfield 97, 3) := by decide +kernel
theorem dX9_house_42 : decode cX9_house 42 = .ok (.invokevirtual 100, 3) := by decide +kernel
theorem dX9_house_45 : decode cX9_house 45 = .ok (.aload_n 0, 1) := by decide +kernel
theorem dX9_house_46 : decode cX9_house 46 = .ok (.iload_n 1, 1) := by decide +kernel
theorem dX9_house_47 : decode cX9_house 47 = .ok (.invokevirtual 103, 3) := by decide +kernel
theorem dX9_house_50 : decode cX9_house 50 = .ok (.ireturn, 1) := by decide +kernel
theorem dX9_endText_0 : decode cX9_endText 0 = .ok (.aload_n 0, 1) := by decide +kernel
theorem dX9_endText_1 : decode cX9_endText 1 = .ok (.iconst 0, 1) := by decide +kernel
theorem dX9_endText_2 : decode cX9_endText 2 = .ok (.putfield 13, 3) := by decide +kernel
theorem dX9_endText_5 : decode cX9_endText 5 = .ok (.aload_n 0, 1) := by decide +kernel
theorem dX9_endText_6 : decode cX9_endText 6 = .ok (.aload_n 0, 1) := by decide +kernel
theorem dX9_endText_7 : decode cX9_endText 7 = .ok (.getfield 39, 3) := by decide +kernel
theorem dX9_endText_10 : decode cX9_endText 10 = .ok (.getfield 107, 3) := by decide +kernel
theorem dX9_endText_13 : decode cX9_endText 13 = .ok (.putfield 17, 3) := by decide +kernel
theorem dX9_endText_16 : decode cX9_endText 16 = .ok (.iload_n 1, 1) := by decide +kernel
theorem dX9_endText_17 : decode cX9_endText 17 = .ok (.iconst (-1), 1) := by decide +kernel
theorem dX9_endText_18 : decode cX9_endText 18 = .ok (.if_icmp .ne 15, 3) := by decide +kernel
theorem dX9_endText_21 : decode cX9_endText 21 = .ok (.iconst (-1), 1) := by decide +kernel
theorem dX9_endText_22 : decode cX9_endText 22 = .ok (.aload_n 0, 1) := by decide +kernel
theorem dX9_endText_23 : decode cX9_endText 23 = .ok (.getfield 39, 3) := by decide +kernel
theorem dX9_endText_26 : decode cX9_endText 26 = .ok (.getfield 110, 3) := by decide +kernel
theorem dX9_endText_29 : decode cX9_endText 29 = .ok (.isub, 1) := by decide +kernel
theorem dX9_endText_30 : decode cX9_endText 30 = .ok (.goto 4, 3) := by decide +kernel
theorem dX9_endText_33 : decode cX9_endText 33 = .ok (.iload_n 1, 1) := by decide +kernel
theorem dX9_endText_34 : decode cX9_endText 34 = .ok (.ireturn, 1) := by decide +kernel
theorem dX9_fault_0 : decode cX9_fault 0 = .ok (.aload_n 0, 1) := by decide +kernel
theorem dX9_fault_1 : decode cX9_fault 1 = .ok (.getfield 17, 3) := by decide +kernel
theorem dX9_fault_4 : decode cX9_fault 4 = .ok (.ireturn, 1) := by decide +kernel
theorem dX9_passes_0 : decode cX9_passes 0 = .ok (.aload_n 0, 1) := by decide +kernel
theorem dX9_passes_1 : decode cX9_passes 1 = .ok (.getfield 23, 3) := by decide +kernel
theorem dX9_passes_4 : decode cX9_passes 4 = .ok (.iload_n 1, 1) := by decide +kernel
theorem dX9_passes_5 : decode cX9_passes 5 = .ok (.invokevirtual 113, 3) := by decide +kernel
theorem dX9_passes_8 : decode cX9_passes 8 = .ok (.ifCond .eq 22, 3) := by decide +kernel
theorem dX9_passes_11 : decode cX9_passes 11 = .ok (.aload_n 0, 1) := by decide +kernel
theorem dX9_passes_12 : decode cX9_passes 12 = .ok (.getfield 23, 3) := by decide +kernel
theorem dX9_passes_15 : decode cX9_passes 15 = .ok (.iload_n 1, 1) := by decide +kernel
theorem dX9_passes_16 : decode cX9_passes 16 = .ok (.iload_n 2, 1) := by decide +kernel
theorem dX9_passes_17 : decode cX9_passes 17 = .ok (.invokevirtual 136, 3) := by decide +kernel
theorem dX9_passes_20 : decode cX9_passes 20 = .ok (.ifCond .eq 10, 3) := by decide +kernel
theorem dX9_passes_23 : decode cX9_passes 23 = .ok (.iload_n 3, 1) := by decide +kernel
theorem dX9_passes_24 : decode cX9_passes 24 = .ok (.invokestatic 140, 3) := by decide +kernel
theorem dX9_passes_27 : decode cX9_passes 27 = .ok (.ifCond .ne 5, 3) := by decide +kernel
theorem dX9_passes_30 : decode cX9_passes 30 = .ok (.iconst (-1), 1) := by decide +kernel
theorem dX9_passes_31 : decode cX9_passes 31 = .ok (.ireturn, 1) := by decide +kernel
theorem dX9_passes_32 : decode cX9_passes 32 = .ok (.aload_n 0, 1) := by decide +kernel
theorem dX9_passes_33 : decode cX9_passes 33 = .ok (.getfield 23, 3) := by decide +kernel
theorem dX9_passes_36 : decode cX9_passes 36 = .ok (.iload_n 1, 1) := by decide +kernel
theorem dX9_passes_37 : decode cX9_passes 37 = .ok (.iload_n 3, 1) := by decide +kernel
theorem dX9_passes_38 : decode cX9_passes 38 = .ok (.invokevirtual 143, 3) := by decide +kernel
theorem dX9_passes_41 : decode cX9_passes 41 = .ok (.iload_n 2, 1) := by decide +kernel
theorem dX9_passes_42 : decode cX9_passes 42 = .ok (.lushr, 1) := by decide +kernel
theorem dX9_passes_43 : decode cX9_passes 43 = .ok (.l2i, 1) := by decide +kernel
theorem dX9_passes_44 : decode cX9_passes 44 = .ok (.iconst 1, 1) := by decide +kernel
theorem dX9_passes_45 : decode cX9_passes 45 = .ok (.iand, 1) := by decide +kernel
theorem dX9_passes_46 : decode cX9_passes 46 = .ok (.ireturn, 1) := by decide +kernel
theorem dX9_may_0 : decode cX9_may 0 = .ok (.aload_n 0, 1) := by decide +kernel
theorem dX9_may_1 : decode cX9_may 1 = .ok (.getfield 23, 3) := by decide +kernel
theorem dX9_may_4 : decode cX9_may 4 = .ok (.iload_n 1, 1) := by decide +kernel
theorem dX9_may_5 : decode cX9_may 5 = .ok (.invokevirtual 147, 3) := by decide +kernel
theorem dX9_may_8 : decode cX9_may 8 = .ok (.ifCond .eq 17, 3) := by decide +kernel
theorem dX9_may_11 : decode cX9_may 11 = .ok (.aload_n 0, 1) := by decide +kernel
theorem dX9_may_12 : decode cX9_may 12 = .ok (.getfield 23, 3) := by decide +kernel
theorem dX9_may_15 : decode cX9_may 15 = .ok (.getfield 150, 3) := by decide +kernel
theorem dX9_may_18 : decode cX9_may 18 = .ok (.iload_n 1, 1) := by decide +kernel
theorem dX9_may_19 : decode cX9_may 19 = .ok (.invokestatic 123, 3) := by decide +kernel
theorem dX9_may_22 : decode cX9_may 22 = .ok (.goto 4, 3) := by decide +kernel
theorem dX9_may_25 : decode cX9_may 25 = .ok (.iconst (-1), 1) := by decide +kernel
theorem dX9_may_26 : decode cX9_may 26 = .ok (.ireturn, 1) := by decide +kernel
theorem dX9_tellings_0 : decode cX9_tellings 0 = .ok (.aload_n 0, 1) := by decide +kernel
theorem dX9_tellings_1 : decode cX9_tellings 1 = .ok (.getfield 39, 3) := by decide +kernel
theorem dX9_tellings_4 : decode cX9_tellings 4 = .ok (.aload_n 0, 1) := by decide +kernel
theorem dX9_tellings_5 : decode cX9_tellings 5 = .ok (.getfield 9, 3) := by decide +kernel
theorem dX9_tellings_8 : decode cX9_tellings 8 = .ok (.aload_n 0, 1) := by decide +kernel
theorem dX9_tellings_9 : decode cX9_tellings 9 = .ok (.getfield 13, 3) := by decide +kernel
theorem dX9_tellings_12 : decode cX9_tellings 12 = .ok (.sipush 600, 3) := by decide +kernel
theorem dX9_tellings_15 : decode cX9_tellings 15 = .ok (.invokevirtual 90, 3) := by decide +kernel
theorem dX9_tellings_18 : decode cX9_tellings 18 = .ok (.aload_n 0, 1) := by decide +kernel
theorem dX9_tellings_19 : decode cX9_tellings 19 = .ok (.getfield 55, 3) := by decide +kernel
theorem dX9_tellings_22 : decode cX9_tellings 22 = .ok (.aload_n 0, 1) := by decide +kernel
theorem dX9_tellings_23 : decode cX9_tellings 23 = .ok (.getfield 23, 3) := by decide +kernel
theorem dX9_tellings_26 : decode cX9_tellings 26 = .ok (.invokevirtual 153, 3) := by decide +kernel
theorem dX9_tellings_29 : decode cX9_tellings 29 = .ok (.istore_n 1, 1) := by decide +kernel
theorem dX9_tellings_30 : decode cX9_tellings 30 = .ok (.iload_n 1, 1) := by decide +kernel
theorem dX9_tellings_31 : decode cX9_tellings 31 = .ok (.iconst (-1), 1) := by decide +kernel
theorem dX9_tellings_32 : decode cX9_tellings 32 = .ok (.if_icmp .eq 20, 3) := by decide +kernel
theorem dX9_tellings_35 : decode cX9_tellings 35 = .ok (.aload_n 0, 1) := by decide +kernel
theorem dX9_tellings_36 : decode cX9_tellings 36 = .ok (.getfield 23, 3) := by decide +kernel
theorem dX9_tellings_39 : decode cX9_tellings 39 = .ok (.getfield 156, 3) := by decide +kernel
theorem dX9_tellings_42 : decode cX9_tellings 42 = .ok (.aload_n 0, 1) := by decide +kernel
theorem dX9_tellings_43 : decode cX9_tellings 43 = .ok (.getfield 55, 3) := by decide +kernel
theorem dX9_tellings_46 : decode cX9_tellings 46 = .ok (.getfield 160, 3) := by decide +kernel
theorem dX9_tellings_49 : decode cX9_tellings 49 = .ok (.invokevirtual 162, 3) := by decide +kernel
theorem dX9_tellings_52 : decode cX9_tellings 52 = .ok (.aload_n 0, 1) := by decide +kernel
theorem dX9_tellings_53 : decode cX9_tellings 53 = .ok (.iload_n 1, 1) := by decide +kernel
theorem dX9_tellings_54 : decode cX9_tellings 54 = .ok (.invokevirtual 103, 3) := by decide +kernel
theorem dX9_tellings_57 : decode cX9_tellings 57 = .ok (.ireturn, 1) := by decide +kernel
theorem dX9_tell_0 : decode cX9_tell 0 = .ok (.aload_n 0, 1) := by decide +kernel
theorem dX9_tell_1 : decode cX9_tell 1 = .ok (.getfield 23, 3) := by decide +kernel
theorem dX9_tell_4 : decode cX9_tell 4 = .ok (.iload_n 1, 1) := by decide +kernel
theorem dX9_tell_5 : decode cX9_tell 5 = .ok (.invokevirtual 147, 3) := by decide +kernel
theorem dX9_tell_8 : decode cX9_tell 8 = .ok (.ifCond .eq 21, 3) := by decide +kernel
theorem dX9_tell_11 : decode cX9_tell 11 = .ok (.iload_n 2, 1) := by decide +kernel
theorem dX9_tell_12 : decode cX9_tell 12 = .ok (.invokestatic 140, 3) := by decide +kernel
theorem dX9_tell_15 : decode cX9_tell 15 = .ok (.ifCond .eq 14, 3) := by decide +kernel
theorem dX9_tell_18 : decode cX9_tell 18 = .ok (.aload_n 0, 1) := by decide +kernel
theorem dX9_tell_19 : decode cX9_tell 19 = .ok (.getfield 23, 3) := by decide +kernel
theorem dX9_tell_22 : decode cX9_tell 22 = .ok (.iload_n 3, 1) := by decide +kernel
theorem dX9_tell_23 : decode cX9_tell 23 = .ok (.invokevirtual 167, 3) := by decide +kernel
theorem dX9_tell_26 : decode cX9_tell 26 = .ok (.ifCond .ne 5, 3) := by decide +kernel
theorem dX9_tell_29 : decode cX9_tell 29 = .ok (.iconst (-1), 1) := by decide +kernel
theorem dX9_tell_30 : decode cX9_tell 30 = .ok (.ireturn, 1) := by decide +kernel
theorem dX9_tell_31 : decode cX9_tell 31 = .ok (.aload_n 0, 1) := by decide +kernel
theorem dX9_tell_32 : decode cX9_tell 32 = .ok (.getfield 23, 3) := by decide +kernel
theorem dX9_tell_35 : decode cX9_tell 35 = .ok (.getfield 156, 3) := by decide +kernel
theorem dX9_tell_38 : decode cX9_tell 38 = .ok (.iload_n 1, 1) := by decide +kernel
theorem dX9_tell_39 : decode cX9_tell 39 = .ok (.iload_n 2, 1) := by decide +kernel
theorem dX9_tell_40 : decode cX9_tell 40 = .ok (.iload_n 3, 1) := by decide +kernel
theorem dX9_tell_41 : decode cX9_tell 41 = .ok (.invokevirtual 170, 3) := by decide +kernel
theorem dX9_tell_44 : decode cX9_tell 44 = .ok (.ifCond .eq 18, 3) := by decide +kernel
theorem dX9_tell_47 : decode cX9_tell 47 = .ok (.aload_n 0, 1) := by decide +kernel
theorem dX9_tell_48 : decode cX9_tell 48 = .ok (.getfield 23, 3) := by decide +kernel
theorem dX9_tell_51 : decode cX9_tell 51 = .ok (.getfield 156, 3) := by decide +kernel
theorem dX9_tell_54 : decode cX9_tell 54 = .ok (.getfield 174, 3) := by decide +kernel
theorem dX9_tell_57 : decode cX9_tell 57 = .ok (.iconst 1, 1) := by decide +kernel
theorem dX9_tell_58 : decode cX9_tell 58 = .ok (.isub, 1) := by decide +kernel
theorem dX9_tell_59 : decode cX9_tell 59 = .ok (.goto 4, 3) := by decide +kernel
theorem dX9_tell_62 : decode cX9_tell 62 = .ok (.iconst (-1), 1) := by decide +kernel
theorem dX9_tell_63 : decode cX9_tell 63 = .ok (.ireturn, 1) := by decide +kernel
theorem dX9_untell_0 : decode cX9_untell 0 = .ok (.aload_n 0, 1) := by decide +kernel
theorem dX9_untell_1 : decode cX9_untell 1 = .ok (.getfield 23, 3) := by decide +kernel
theorem dX9_untell_4 : decode cX9_untell 4 = .ok (.getfield 156, 3) := by decide +kernel
theorem dX9_untell_7 : decode cX9_untell 7 = .ok (.getfield 174, 3) := by decide +kernel
theorem dX9_untell_10 : decode cX9_untell 10 = .ok (.ifCond .gt 5, 3) := by decide +kernel
theorem dX9_untell_13 : decode cX9_untell 13 = .ok (.iconst (-1), 1) := by decide +kernel
theorem dX9_untell_14 : decode cX9_untell 14 = .ok (.ireturn, 1) := by decide +kernel
theorem dX9_untell_15 : decode cX9_untell 15 = .ok (.aload_n 0, 1) := by decide +kernel
theorem dX9_untell_16 : decode cX9_untell 16 = .ok (.getfield 23, 3) := by decide +kernel
theorem dX9_untell_19 : decode cX9_untell 19 = .ok (.getfield 156, 3) := by decide +kernel
theorem dX9_untell_22 : decode cX9_untell 22 = .ok (.dup, 1) := by decide +kernel
theorem dX9_untell_23 : decode cX9_untell 23 = .ok (.getfield 174, 3) := by decide +kernel
theorem dX9_untell_26 : decode cX9_untell 26 = .ok (.iconst 1, 1) := by decide +kernel
theorem dX9_untell_27 : decode cX9_untell 27 = .ok (.isub, 1) := by decide +kernel
theorem dX9_untell_28 : decode cX9_untell 28 = .ok (.putfield 174, 3) := by decide +kernel
theorem dX9_untell_31 : decode cX9_untell 31 = .ok (.aload_n 0, 1) := by decide +kernel
theorem dX9_untell_32 : decode cX9_untell 32 = .ok (.getfield 23, 3) := by decide +kernel
theorem dX9_untell_35 : decode cX9_untell 35 = .ok (.getfield 156, 3) := by decide +kernel
theorem dX9_untell_38 : decode cX9_untell 38 = .ok (.getfield 174, 3) := by decide +kernel
theorem dX9_untell_41 : decode cX9_untell 41 = .ok (.ireturn, 1) := by decide +kernel
theorem dX9_worlds_0 : decode cX9_worlds 0 = .ok (.aload_n 0, 1) := by decide +kernel
theorem dX9_worlds_1 : decode cX9_worlds 1 = .ok (.getfield 71, 3) := by decide +kernel
theorem dX9_worlds_4 : decode cX9_worlds 4 = .ok (.invokevirtual 186, 3) := by decide +kernel
theorem dX9_worlds_7 : decode cX9_worlds 7 = .ok (.aload_n 0, 1) := by decide +kernel
theorem dX9_worlds_8 : decode cX9_worlds 8 = .ok (.getfield 71, 3) := by decide +kernel
theorem dX9_worlds_11 : decode cX9_worlds 11 = .ok (.invokevirtual 189, 3) := by decide +kernel
theorem dX9_worlds_14 : decode cX9_worlds 14 = .ok (.lreturn, 1) := by decide +kernel
theorem dX9_worldsOf_0 : decode cX9_worldsOf 0 = .ok (.aload_n 0, 1) := by decide +kernel
theorem dX9_worldsOf_1 : decode cX9_worldsOf 1 = .ok (.getfield 23, 3) := by decide +kernel
theorem dX9_worldsOf_4 : decode cX9_worldsOf 4 = .ok (.iload_n 1, 1) := by decide +kernel
theorem dX9_worldsOf_5 : decode cX9_worldsOf 5 = .ok (.invokevirtual 113, 3) := by decide +kernel
theorem dX9_worldsOf_8 : decode cX9_worldsOf 8 = .ok (.ifCond .eq 15, 3) := by decide +kernel
theorem dX9_worldsOf_11 : decode cX9_worldsOf 11 = .ok (.aload_n 0, 1) := by decide +kernel
theorem dX9_worldsOf_12 : decode cX9_worldsOf 12 = .ok (.getfield 23, 3) := by decide +kernel
theorem dX9_worldsOf_15 : decode cX9_worldsOf 15 = .ok (.iload_n 1, 1) := by decide +kernel
theorem dX9_worldsOf_16 : decode cX9_worldsOf 16 = .ok (.iload_n 2, 1) := by decide +kernel
theorem dX9_worldsOf_17 : decode cX9_worldsOf 17 = .ok (.invokevirtual 136, 3) := by decide +kernel
theorem dX9_worldsOf_20 : decode cX9_worldsOf 20 = .ok (.ifCond .ne 7, 3) := by decide +kernel
theorem dX9_worldsOf_23 : decode cX9_worldsOf 23 = .ok (.ldc2_w 193, 3) := by decide +kernel
theorem dX9_worldsOf_26 : decode cX9_worldsOf 26 = .ok (.lreturn, 1) := by decide +kernel
theorem dX9_worldsOf_27 : decode cX9_worldsOf 27 = .ok (.aload_n 0, 1) := by decide +kernel
theorem dX9_worldsOf_28 : decode cX9_worldsOf 28 = .ok (.getfield 71, 3) := by decide +kernel
theorem dX9_worldsOf_31 : decode cX9_worldsOf 31 = .ok (.invokevirtual 186, 3) := by decide +kernel
theorem dX9_worldsOf_34 : decode cX9_worldsOf 34 = .ok (.aload_n 0, 1) := by decide +kernel
theorem dX9_worldsOf_35 : decode cX9_worldsOf 35 = .ok (.getfield 71, 3) := by decide +kernel
theorem dX9_worldsOf_38 : decode cX9_worldsOf 38 = .ok (.invokevirtual 195, 3) := by decide +kernel
theorem dX9_worldsOf_41 : decode cX9_worldsOf 41 = .ok (.aload_n 0, 1) := by decide +kernel
theorem dX9_worldsOf_42 : decode cX9_worldsOf 42 = .ok (.getfield 71, 3) := by decide +kernel
theorem dX9_worldsOf_45 : decode cX9_worldsOf 45 = .ok (.iload_n 1, 1) := by decide +kernel
theorem dX9_worldsOf_46 : decode cX9_worldsOf 46 = .ok (.lconst 1, 1) := by decide +kernel
theorem dX9_worldsOf_47 : decode cX9_worldsOf 47 = .ok (.iload_n 2, 1) := by decide +kernel
theorem dX9_worldsOf_48 : decode cX9_worldsOf 48 = .ok (.lshl, 1) := by decide +kernel
theorem dX9_worldsOf_49 : decode cX9_worldsOf 49 = .ok (.invokevirtual 198, 3) := by decide +kernel
theorem dX9_worldsOf_52 : decode cX9_worldsOf 52 = .ok (.aload_n 0, 1) := by decide +kernel
theorem dX9_worldsOf_53 : decode cX9_worldsOf 53 = .ok (.getfield 71, 3) := by decide +kernel
theorem dX9_worldsOf_56 : decode cX9_worldsOf 56 = .ok (.invokevirtual 202, 3) := by decide +kernel
theorem dX9_worldsOf_59 : decode cX9_worldsOf 59 = .ok (.lreturn, 1) := by decide +kernel
theorem dX9_waysOf_0 : decode cX9_waysOf 0 = .ok (.aload_n 0, 1) := by decide +kernel
theorem dX9_waysOf_1 : decode cX9_waysOf 1 = .ok (.getfield 23, 3) := by decide +kernel
theorem dX9_waysOf_4 : decode cX9_waysOf 4 = .ok (.iload_n 1, 1) := by decide +kernel
theorem dX9_waysOf_5 : decode cX9_waysOf 5 = .ok (.invokevirtual 147, 3) := by decide +kernel
theorem dX9_waysOf_8 : decode cX9_waysOf 8 = .ok (.ifCond .eq 14, 3) := by decide +kernel
theorem dX9_waysOf_11 : decode cX9_waysOf 11 = .ok (.aload_n 0, 1) := by decide +kernel
theorem dX9_waysOf_12 : decode cX9_waysOf 12 = .ok (.getfield 23, 3) := by decide +kernel
theorem dX9_waysOf_15 : decode cX9_waysOf 15 = .ok (.iload_n 2, 1) := by decide +kernel
theorem dX9_waysOf_16 : decode cX9_waysOf 16 = .ok (.invokevirtual 205, 3) := by decide +kernel
theorem dX9_waysOf_19 : decode cX9_waysOf 19 = .ok (.ifCond .ne 7, 3) := by decide +kernel
theorem dX9_waysOf_22 : decode cX9_waysOf 22 = .ok (.ldc2_w 193, 3) := by decide +kernel
theorem dX9_waysOf_25 : decode cX9_waysOf 25 = .ok (.lreturn, 1) := by decide +kernel
theorem dX9_waysOf_26 : decode cX9_waysOf 26 = .ok (.aload_n 0, 1) := by decide +kernel
theorem dX9_waysOf_27 : decode cX9_waysOf 27 = .ok (.getfield 71, 3) := by decide +kernel
theorem dX9_waysOf_30 : decode cX9_waysOf 30 = .ok (.invokevirtual 186, 3) := by decide +kernel
theorem dX9_waysOf_33 : decode cX9_waysOf 33 = .ok (.aload_n 0, 1) := by decide +kernel
theorem dX9_waysOf_34 : decode cX9_waysOf 34 = .ok (.getfield 71, 3) := by decide +kernel
theorem dX9_waysOf_37 : decode cX9_waysOf 37 = .ok (.iload_n 1, 1) := by decide +kernel
theorem dX9_waysOf_38 : decode cX9_waysOf 38 = .ok (.iload_n 2, 1) := by decide +kernel
theorem dX9_waysOf_39 : decode cX9_waysOf 39 = .ok (.invokevirtual 208, 3) := by decide +kernel
theorem dX9_waysOf_42 : decode cX9_waysOf 42 = .ok (.lreturn, 1) := by decide +kernel
theorem dX9_sure_0 : decode cX9_sure 0 = .ok (.aload_n 0, 1) := by decide +kernel
theorem dX9_sure_1 : decode cX9_sure 1 = .ok (.getfield 23, 3) := by decide +kernel
theorem dX9_sure_4 : decode cX9_sure 4 = .ok (.iload_n 1, 1) := by decide +kernel
theorem dX9_sure_5 : decode cX9_sure 5 = .ok (.invokevirtual 113, 3) := by decide +kernel
theorem dX9_sure_8 : decode cX9_sure 8 = .ok (.ifCond .eq 10, 3) := by decide +kernel
theorem dX9_sure_11 : decode cX9_sure 11 = .ok (.iload_n 2, 1) := by decide +kernel
theorem dX9_sure_12 : decode cX9_sure 12 = .ok (.invokestatic 140, 3) := by decide +kernel
theorem dX9_sure_15 : decode cX9_sure 15 = .ok (.ifCond .ne 5, 3) := by decide +kernel
theorem dX9_sure_18 : decode cX9_sure 18 = .ok (.iconst (-1), 1) := by decide +kernel
theorem dX9_sure_19 : decode cX9_sure 19 = .ok (.ireturn, 1) := by decide +kernel
theorem dX9_sure_20 : decode cX9_sure 20 = .ok (.aload_n 0, 1) := by decide +kernel
theorem dX9_sure_21 : decode cX9_sure 21 = .ok (.getfield 71, 3) := by decide +kernel
theorem dX9_sure_24 : decode cX9_sure 24 = .ok (.invokevirtual 186, 3) := by decide +kernel
theorem dX9_sure_27 : decode cX9_sure 27 = .ok (.aload_n 0, 1) := by decide +kernel
theorem dX9_sure_28 : decode cX9_sure 28 = .ok (.getfield 71, 3) := by decide +kernel
theorem dX9_sure_31 : decode cX9_sure 31 = .ok (.invokevirtual 211, 3) := by decide +kernel
theorem dX9_sure_34 : decode cX9_sure 34 = .ok (.ifCond .eq 7, 3) := by decide +kernel
theorem dX9_sure_37 : decode cX9_sure 37 = .ok (.iconst (-1), 1) := by decide +kernel
theorem dX9_sure_38 : decode cX9_sure 38 = .ok (.goto 9, 3) := by decide +kernel
theorem dX9_sure_41 : decode cX9_sure 41 = .ok (.aload_n 0, 1) := by decide +kernel
theorem dX9_sure_42 : decode cX9_sure 42 = .ok (.iload_n 1, 1) := by decide +kernel
theorem dX9_sure_43 : decode cX9_sure 43 = .ok (.iload_n 2, 1) := by decide +kernel
theorem dX9_sure_44 : decode cX9_sure 44 = .ok (.invokevirtual 215, 3) := by decide +kernel
theorem dX9_sure_47 : decode cX9_sure 47 = .ok (.ireturn, 1) := by decide +kernel
theorem dX9_surety_0 : decode cX9_surety 0 = .ok (.aload_n 0, 1) := by decide +kernel
theorem dX9_surety_1 : decode cX9_surety 1 = .ok (.getfield 71, 3) := by decide +kernel
theorem dX9_surety_4 : decode cX9_surety 4 = .ok (.iload_n 1, 1) := by decide +kernel
theorem dX9_surety_5 : decode cX9_surety 5 = .ok (.invokevirtual 219, 3) := by decide +kernel
theorem dX9_surety_8 : decode cX9_surety 8 = .ok (.lstore_n 3, 1) := by decide +kernel
theorem dX9_surety_9 : decode cX9_surety 9 = .ok (.aload_n 0, 1) := by decide +kernel
theorem dX9_surety_10 : decode cX9_surety 10 = .ok (.getfield 23, 3) := by decide +kernel
theorem dX9_surety_13 : decode cX9_surety 13 = .ok (.iload_n 1, 1) := by decide +kernel
theorem dX9_surety_14 : decode cX9_surety 14 = .ok (.iload_n 2, 1) := by decide +kernel
theorem dX9_surety_15 : decode cX9_surety 15 = .ok (.invokevirtual 143, 3) := by decide +kernel
theorem dX9_surety_18 : decode cX9_surety 18 = .ok (.lstore 5, 2) := by decide +kernel
theorem dX9_surety_20 : decode cX9_surety 20 = .ok (.lload_n 3, 1) := by decide +kernel
theorem dX9_surety_21 : decode cX9_surety 21 = .ok (.lload 5, 2) := by decide +kernel
theorem dX9_surety_23 : decode cX9_surety 23 = .ok (.ldc2_w 193, 3) := by decide +kernel
theorem dX9_surety_26 : decode cX9_surety 26 = .ok (.lxor, 1) := by decide +kernel
theorem dX9_surety_27 : decode cX9_surety 27 = .ok (.land, 1) := by decide +kernel
theorem dX9_surety_28 : decode cX9_surety 28 = .ok (.lconst 0, 1) := by decide +kernel
theorem dX9_surety_29 : decode cX9_surety 29 = .ok (.lcmp, 1) := by decide +kernel
theorem dX9_surety_30 : decode cX9_surety 30 = .ok (.ifCond .ne 5, 3) := by decide +kernel
theorem dX9_surety_33 : decode cX9_surety 33 = .ok (.iconst 1, 1) := by decide +kernel
theorem dX9_surety_34 : decode cX9_surety 34 = .ok (.ireturn, 1) := by decide +kernel
theorem dX9_surety_35 : decode cX9_surety 35 = .ok (.lload_n 3, 1) := by decide +kernel
theorem dX9_surety_36 : decode cX9_surety 36 = .ok (.lload 5, 2) := by decide +kernel
theorem dX9_surety_38 : decode cX9_surety 38 = .ok (.land, 1) := by decide +kernel
theorem dX9_surety_39 : decode cX9_surety 39 = .ok (.lconst 0, 1) := by decide +kernel
theorem dX9_surety_40 : decode cX9_surety 40 = .ok (.lcmp, 1) := by decide +kernel
theorem dX9_surety_41 : decode cX9_surety 41 = .ok (.ifCond .ne 7, 3) := by decide +kernel
theorem dX9_surety_44 : decode cX9_surety 44 = .ok (.iconst 0, 1) := by decide +kernel
theorem dX9_surety_45 : decode cX9_surety 45 = .ok (.goto 4, 3) := by decide +kernel
theorem dX9_surety_48 : decode cX9_surety 48 = .ok (.iconst 2, 1) := by decide +kernel
theorem dX9_surety_49 : decode cX9_surety 49 = .ok (.ireturn, 1) := by decide +kernel
theorem dX9_hours_0 : decode cX9_hours 0 = .ok (.aload_n 0, 1) := by decide +kernel
theorem dX9_hours_1 : decode cX9_hours 1 = .ok (.getfield 23, 3) := by decide +kernel
theorem dX9_hours_4 : decode cX9_hours 4 = .ok (.iload_n 1, 1) := by decide +kernel
theorem dX9_hours_5 : decode cX9_hours 5 = .ok (.invokevirtual 113, 3) := by decide +kernel
theorem dX9_hours_8 : decode cX9_hours 8 = .ok (.ifCond .eq 12, 3) := by decide +kernel
theorem dX9_hours_11 : decode cX9_hours 11 = .ok (.iload_n 2, 1) := by decide +kernel
theorem dX9_hours_12 : decode cX9_hours 12 = .ok (.ifCond .lt 8, 3) := by decide +kernel
theorem dX9_hours_15 : decode cX9_hours 15 = .ok (.iload_n 2, 1) := by decide +kernel
theorem dX9_hours_16 : decode cX9_hours 16 = .ok (.iconst 2, 1) := by decide +kernel
theorem dX9_hours_17 : decode cX9_hours 17 = .ok (.if_icmp .le 5, 3) := by decide +kernel
theorem dX9_hours_20 : decode cX9_hours 20 = .ok (.iconst (-1), 1) := by decide +kernel
theorem dX9_hours_21 : decode cX9_hours 21 = .ok (.ireturn, 1) := by decide +kernel
theorem dX9_hours_22 : decode cX9_hours 22 = .ok (.aload_n 0, 1) := by decide +kernel
theorem dX9_hours_23 : decode cX9_hours 23 = .ok (.getfield 71, 3) := by decide +kernel
theorem dX9_hours_26 : decode cX9_hours 26 = .ok (.invokevirtual 186, 3) := by decide +kernel
theorem dX9_hours_29 : decode cX9_hours 29 = .ok (.aload_n 0, 1) := by decide +kernel
theorem dX9_hours_30 : decode cX9_hours 30 = .ok (.getfield 71, 3) := by decide +kernel
theorem dX9_hours_33 : decode cX9_hours 33 = .ok (.invokevirtual 211, 3) := by decide +kernel
theorem dX9_hours_36 : decode cX9_hours 36 = .ok (.ifCond .eq 5, 3) := by decide +kernel
theorem dX9_hours_39 : decode cX9_hours 39 = .ok (.iconst (-1), 1) := by decide +kernel
theorem dX9_hours_40 : decode cX9_hours 40 = .ok (.ireturn, 1) := by decide +kernel
theorem dX9_hours_41 : decode cX9_hours 41 = .ok (.iconst 0, 1) := by decide +kernel
theorem dX9_hours_42 : decode cX9_hours 42 = .ok (.istore_n 3, 1) := by decide +kernel
theorem dX9_hours_43 : decode cX9_hours 43 = .ok (.iconst 0, 1) := by decide +kernel
theorem dX9_hours_44 : decode cX9_hours 44 = .ok (.istore 4, 2) := by decide +kernel
theorem dX9_hours_46 : decode cX9_hours 46 = .ok (.iload 4, 2) := by decide +kernel
theorem dX9_hours_48 : decode cX9_hours 48 = .ok (.bipush 30, 2) := by decide +kernel
theorem dX9_hours_50 : decode cX9_hours 50 = .ok (.if_icmp .ge 27, 3) := by decide +kernel
theorem dX9_hours_53 : decode cX9_hours 53 = .ok (.aload_n 0, 1) := by decide +kernel
theorem dX9_hours_54 : decode cX9_hours 54 = .ok (.iload_n 1, 1) := by decide +kernel
theorem dX9_hours_55 : decode cX9_hours 55 = .ok (.iload 4, 2) := by decide +kernel
theorem dX9_hours_57 : decode cX9_hours 57 = .ok (.invokevirtual 215, 3) := by decide +kernel
theorem dX9_hours_60 : decode cX9_hours 60 = .ok (.iload_n 2, 1) := by decide +kernel
theorem dX9_hours_61 : decode cX9_hours 61 = .ok (.if_icmp .ne 10, 3) := by decide +kernel
theorem dX9_hours_64 : decode cX9_hours 64 = .ok (.iload_n 3, 1) := by decide +kernel
theorem dX9_hours_65 : decode cX9_hours 65 = .ok (.iconst 1, 1) := by decide +kernel
theorem dX9_hours_66 : decode cX9_hours 66 = .ok (.iload 4, 2) := by decide +kernel
theorem dX9_hours_68 : decode cX9_hours 68 = .ok (.ishl, 1) := by decide +kernel
theorem dX9_hours_69 : decode cX9_hours 69 = .ok (.ior, 1) := by decide +kernel
theorem dX9_hours_70 : decode cX9_hours 70 = .ok (.istore_n 3, 1) := by decide +kernel
theorem dX9_hours_71 : decode cX9_hours 71 = .ok (.iinc 4 1, 3) := by decide +kernel
theorem dX9_hours_74 : decode cX9_hours 74 = .ok (.goto (-28), 3) := by decide +kernel
theorem dX9_hours_77 : decode cX9_hours 77 = .ok (.iload_n 3, 1) := by decide +kernel
theorem dX9_hours_78 : decode cX9_hours 78 = .ok (.ireturn, 1) := by decide +kernel
theorem dX9_both_0 : decode cX9_both 0 = .ok (.aload_n 0, 1) := by decide +kernel
theorem dX9_both_1 : decode cX9_both 1 = .ok (.getfield 23, 3) := by decide +kernel
theorem dX9_both_4 : decode cX9_both 4 = .ok (.iload_n 1, 1) := by decide +kernel
theorem dX9_both_5 : decode cX9_both 5 = .ok (.invokevirtual 113, 3) := by decide +kernel
theorem dX9_both_8 : decode cX9_both 8 = .ok (.ifCond .eq 21, 3) := by decide +kernel
theorem dX9_both_11 : decode cX9_both 11 = .ok (.aload_n 0, 1) := by decide +kernel
theorem dX9_both_12 : decode cX9_both 12 = .ok (.getfield 23, 3) := by decide +kernel
theorem dX9_both_15 : decode cX9_both 15 = .ok (.iload_n 2, 1) := by decide +kernel
theorem dX9_both_16 : decode cX9_both 16 = .ok (.invokevirtual 113, 3) := by decide +kernel
theorem dX9_both_19 : decode cX9_both 19 = .ok (.ifCond .eq 10, 3) := by decide +kernel
theorem dX9_both_22 : decode cX9_both 22 = .ok (.iload_n 3, 1) := by decide +kernel
theorem dX9_both_23 : decode cX9_both 23 = .ok (.invokestatic 140, 3) := by decide +kernel
theorem dX9_both_26 : decode cX9_both 26 = .ok (.ifCond .ne 7, 3) := by decide +kernel
theorem dX9_both_29 : decode cX9_both 29 = .ok (.ldc2_w 193, 3) := by decide +kernel
theorem dX9_both_32 : decode cX9_both 32 = .ok (.lreturn, 1) := by decide +kernel
theorem dX9_both_33 : decode cX9_both 33 = .ok (.aload_n 0, 1) := by decide +kernel
theorem dX9_both_34 : decode cX9_both 34 = .ok (.getfield 71, 3) := by decide +kernel
theorem dX9_both_37 : decode cX9_both 37 = .ok (.invokevirtual 186, 3) := by decide +kernel
theorem dX9_both_40 : decode cX9_both 40 = .ok (.aload_n 0, 1) := by decide +kernel
theorem dX9_both_41 : decode cX9_both 41 = .ok (.getfield 71, 3) := by decide +kernel
theorem dX9_both_44 : decode cX9_both 44 = .ok (.invokevirtual 195, 3) := by decide +kernel
theorem dX9_both_47 : decode cX9_both 47 = .ok (.aload_n 0, 1) := by decide +kernel
theorem dX9_both_48 : decode cX9_both 48 = .ok (.getfield 71, 3) := by decide +kernel
theorem dX9_both_51 : decode cX9_both 51 = .ok (.iload_n 1, 1) := by decide +kernel
theorem dX9_both_52 : decode cX9_both 52 = .ok (.aload_n 0, 1) := by decide +kernel
theorem dX9_both_53 : decode cX9_both 53 = .ok (.getfield 23, 3) := by decide +kernel
theorem dX9_both_56 : decode cX9_both 56 = .ok (.iload_n 1, 1) := by decide +kernel
theorem dX9_both_57 : decode cX9_both 57 = .ok (.iload_n 3, 1) := by decide +kernel
theorem dX9_both_58 : decode cX9_both 58 = .ok (.invokevirtual 143, 3) := by decide +kernel
theorem dX9_both_61 : decode cX9_both 61 = .ok (.invokevirtual 198, 3) := by decide +kernel
theorem dX9_both_64 : decode cX9_both 64 = .ok (.aload_n 0, 1) := by decide +kernel
theorem dX9_both_65 : decode cX9_both 65 = .ok (.getfield 71, 3) := by decide +kernel
theorem dX9_both_68 : decode cX9_both 68 = .ok (.iload_n 2, 1) := by decide +kernel
theorem dX9_both_69 : decode cX9_both 69 = .ok (.aload_n 0, 1) := by decide +kernel
theorem dX9_both_70 : decode cX9_both 70 = .ok (.getfield 23, 3) := by decide +kernel
theorem dX9_both_73 : decode cX9_both 73 = .ok (.iload_n 2, 1) := by decide +kernel
theorem dX9_both_74 : decode cX9_both 74 = .ok (.iload_n 3, 1) := by decide +kernel
theorem dX9_both_75 : decode cX9_both 75 = .ok (.invokevirtual 143, 3) := by decide +kernel
theorem dX9_both_78 : decode cX9_both 78 = .ok (.invokevirtual 198, 3) := by decide +kernel
theorem dX9_both_81 : decode cX9_both 81 = .ok (.aload_n 0, 1) := by decide +kernel
theorem dX9_both_82 : decode cX9_both 82 = .ok (.getfield 71, 3) := by decide +kernel
theorem dX9_both_85 : decode cX9_both 85 = .ok (.invokevirtual 202, 3) := by decide +kernel
theorem dX9_both_88 : decode cX9_both 88 = .ok (.lreturn, 1) := by decide +kernel
theorem dX9_reduced_0 : decode cX9_reduced 0 = .ok (.lload_n 0, 1) := by decide +kernel
theorem dX9_reduced_1 : decode cX9_reduced 1 = .ok (.lload_n 2, 1) := by decide +kernel
theorem dX9_reduced_2 : decode cX9_reduced 2 = .ok (.invokestatic 230, 3) := by decide +kernel
theorem dX9_reduced_5 : decode cX9_reduced 5 = .ok (.lstore 5, 2) := by decide +kernel
theorem dX9_reduced_7 : decode cX9_reduced 7 = .ok (.lload 5, 2) := by decide +kernel
theorem dX9_reduced_9 : decode cX9_reduced 9 = .ok (.lconst 0, 1) := by decide +kernel
theorem dX9_reduced_10 : decode cX9_reduced 10 = .ok (.lcmp, 1) := by decide +kernel
theorem dX9_reduced_11 : decode cX9_reduced 11 = .ok (.ifCond .gt 5, 3) := by decide +kernel
theorem dX9_reduced_14 : decode cX9_reduced 14 = .ok (.lconst 0, 1) := by decide +kernel
theorem dX9_reduced_15 : decode cX9_reduced 15 = .ok (.lreturn, 1) := by decide +kernel
theorem dX9_reduced_16 : decode cX9_reduced 16 = .ok (.iload 4, 2) := by decide +kernel
theorem dX9_reduced_18 : decode cX9_reduced 18 = .ok (.ifCond .ne 7, 3) := by decide +kernel
theorem dX9_reduced_21 : decode cX9_reduced 21 = .ok (.lload_n 0, 1) := by decide +kernel
theorem dX9_reduced_22 : decode cX9_reduced 22 = .ok (.goto 4, 3) := by decide +kernel
theorem dX9_reduced_25 : decode cX9_reduced 25 = .ok (.lload_n 2, 1) := by decide +kernel
theorem dX9_reduced_26 : decode cX9_reduced 26 = .ok (.lload 5, 2) := by decide +kernel
theorem dX9_reduced_28 : decode cX9_reduced 28 = .ok (.ldiv, 1) := by decide +kernel
theorem dX9_reduced_29 : decode cX9_reduced 29 = .ok (.lreturn, 1) := by decide +kernel
theorem dX9_commonDivisor_0 : decode cX9_commonDivisor 0 = .ok (.lload_n 2, 1) := by decide +kernel
theorem dX9_commonDivisor_1 : decode cX9_commonDivisor 1 = .ok (.lstore 4, 2) := by decide +kernel
theorem dX9_commonDivisor_3 : decode cX9_commonDivisor 3 = .ok (.lload_n 0, 1) := by decide +kernel
theorem dX9_commonDivisor_4 : decode cX9_commonDivisor 4 = .ok (.lstore 6, 2) := by decide +kernel
theorem dX9_commonDivisor_6 : decode cX9_commonDivisor 6 = .ok (.iconst 0, 1) := by decide +kernel
theorem dX9_commonDivisor_7 : decode cX9_commonDivisor 7 = .ok (.istore 8, 2) := by decide +kernel
theorem dX9_commonDivisor_9 : decode cX9_commonDivisor 9 = .ok (.iload 8, 2) := by decide +kernel
theorem dX9_commonDivisor_11 : decode cX9_commonDivisor 11 = .ok (.bipush 100, 2) := by decide +kernel
theorem dX9_commonDivisor_13 : decode cX9_commonDivisor 13 = .ok (.if_icmp .ge 31, 3) := by decide +kernel
theorem dX9_commonDivisor_16 : decode cX9_commonDivisor 16 = .ok (.lload 6, 2) := by decide +kernel
theorem dX9_commonDivisor_18 : decode cX9_commonDivisor 18 = .ok (.lconst 0, 1) := by decide +kernel
theorem dX9_commonDivisor_19 : decode cX9_commonDivisor 19 = .ok (.lcmp, 1) := by decide +kernel
theorem dX9_commonDivisor_20 : decode cX9_commonDivisor 20 = .ok (.ifCond .le 24, 3) := by decide +kernel
theorem dX9_commonDivisor_23 : decode cX9_commonDivisor 23 = .ok (.lload 4, 2) := by decide +kernel
theorem dX9_commonDivisor_25 : decode cX9_commonDivisor 25 = .ok (.lload 6, 2) := by decide +kernel
theorem dX9_commonDivisor_27 : decode cX9_commonDivisor 27 = .ok (.lrem, 1) := by decide +kernel
theorem dX9_commonDivisor_28 : decode cX9_commonDivisor 28 = .ok (.lstore 9, 2) := by decide +kernel
theorem dX9_commonDivisor_30 : decode cX9_commonDivisor 30 = .ok (.lload 6, 2) := by decide +kernel
theorem dX9_commonDivisor_32 : decode cX9_commonDivisor 32 = .ok (.lstore 4, 2) := by decide +kernel
theorem dX9_commonDivisor_34 : decode cX9_commonDivisor 34 = .ok (.lload 9, 2) := by decide +kernel
theorem dX9_commonDivisor_36 : decode cX9_commonDivisor 36 = .ok (.lstore 6, 2) := by decide +kernel
theorem dX9_commonDivisor_38 : decode cX9_commonDivisor 38 = .ok (.iinc 8 1, 3) := by decide +kernel
theorem dX9_commonDivisor_41 : decode cX9_commonDivisor 41 = .ok (.goto (-32), 3) := by decide +kernel
theorem dX9_commonDivisor_44 : decode cX9_commonDivisor 44 = .ok (.lload 4, 2) := by decide +kernel
theorem dX9_commonDivisor_46 : decode cX9_commonDivisor 46 = .ok (.lreturn, 1) := by decide +kernel
theorem dX9_lying_0 : decode cX9_lying 0 = .ok (.iload_n 1, 1) := by decide +kernel
theorem dX9_lying_1 : decode cX9_lying 1 = .ok (.ifCond .lt 8, 3) := by decide +kernel
theorem dX9_lying_4 : decode cX9_lying 4 = .ok (.iload_n 1, 1) := by decide +kernel
theorem dX9_lying_5 : decode cX9_lying 5 = .ok (.iconst 1, 1) := by decide +kernel
theorem dX9_lying_6 : decode cX9_lying 6 = .ok (.if_icmp .le 5, 3) := by decide +kernel
theorem dX9_lying_9 : decode cX9_lying 9 = .ok (.iconst (-1), 1) := by decide +kernel
theorem dX9_lying_10 : decode cX9_lying 10 = .ok (.ireturn, 1) := by decide +kernel
theorem dX9_lying_11 : decode cX9_lying 11 = .ok (.aload_n 0, 1) := by decide +kernel
theorem dX9_lying_12 : decode cX9_lying 12 = .ok (.getfield 71, 3) := by decide +kernel
theorem dX9_lying_15 : decode cX9_lying 15 = .ok (.invokevirtual 186, 3) := by decide +kernel
theorem dX9_lying_18 : decode cX9_lying 18 = .ok (.aload_n 0, 1) := by decide +kernel
theorem dX9_lying_19 : decode cX9_lying 19 = .ok (.getfield 71, 3) := by decide +kernel
theorem dX9_lying_22 : decode cX9_lying 22 = .ok (.invokevirtual 211, 3) := by decide +kernel
theorem dX9_lying_25 : decode cX9_lying 25 = .ok (.ifCond .eq 5, 3) := by decide +kernel
theorem dX9_lying_28 : decode cX9_lying 28 = .ok (.iconst (-1), 1) := by decide +kernel
theorem dX9_lying_29 : decode cX9_lying 29 = .ok (.ireturn, 1) := by decide +kernel
theorem dX9_lying_30 : decode cX9_lying 30 = .ok (.iconst 0, 1) := by decide +kernel
theorem dX9_lying_31 : decode cX9_lying 31 = .ok (.istore_n 2, 1) := by decide +kernel
theorem dX9_lying_32 : decode cX9_lying 32 = .ok (.iconst 0, 1) := by decide +kernel
theorem dX9_lying_33 : decode cX9_lying 33 = .ok (.istore_n 3, 1) := by decide +kernel
theorem dX9_lying_34 : decode cX9_lying 34 = .ok (.iload_n 3, 1) := by decide +kernel
theorem dX9_lying_35 : decode cX9_lying 35 = .ok (.aload_n 0, 1) := by decide +kernel
theorem dX9_lying_36 : decode cX9_lying 36 = .ok (.getfield 23, 3) := by decide +kernel
theorem dX9_lying_39 : decode cX9_lying 39 = .ok (.getfield 234, 3) := by decide +kernel
theorem dX9_lying_42 : decode cX9_lying 42 = .ok (.if_icmp .ge 62, 3) := by decide +kernel
theorem dX9_lying_45 : decode cX9_lying 45 = .ok (.aload_n 0, 1) := by decide +kernel
theorem dX9_lying_46 : decode cX9_lying 46 = .ok (.getfield 71, 3) := by decide +kernel
theorem dX9_lying_49 : decode cX9_lying 49 = .ok (.iload_n 3, 1) := by decide +kernel
theorem dX9_lying_50 : decode cX9_lying 50 = .ok (.invokevirtual 237, 3) := by decide +kernel
theorem dX9_lying_53 : decode cX9_lying 53 = .ok (.istore 4, 2) := by decide +kernel
theorem dX9_lying_55 : decode cX9_lying 55 = .ok (.iload_n 1, 1) := by decide +kernel
theorem dX9_lying_56 : decode cX9_lying 56 = .ok (.ifCond .ne 18, 3) := by decide +kernel
theorem dX9_lying_59 : decode cX9_lying 59 = .ok (.iload 4, 2) := by decide +kernel
theorem dX9_lying_61 : decode cX9_lying 61 = .ok (.iconst 1, 1) := by decide +kernel
theorem dX9_lying_62 : decode cX9_lying 62 = .ok (.iand, 1) := by decide +kernel
theorem dX9_lying_63 : decode cX9_lying 63 = .ok (.ifCond .ne 7, 3) := by decide +kernel
theorem dX9_lying_66 : decode cX9_lying 66 = .ok (.iconst 1, 1) := by decide +kernel
theorem dX9_lying_67 : decode cX9_lying 67 = .ok (.goto 18, 3) := by decide +kernel
theorem dX9_lying_70 : decode cX9_lying 70 = .ok (.iconst 0, 1) := by decide +kernel
theorem dX9_lying_71 : decode cX9_lying 71 = .ok (.goto 14, 3) := by decide +kernel
theorem dX9_lying_74 : decode cX9_lying 74 = .ok (.iload 4, 2) := by decide +kernel
theorem dX9_lying_76 : decode cX9_lying 76 = .ok (.iconst 1, 1) := by decide +kernel
theorem dX9_lying_77 : decode cX9_lying 77 = .ok (.if_icmp .ne 7, 3) := by decide +kernel
theorem dX9_lying_80 : decode cX9_lying 80 = .ok (.iconst 1, 1) := by decide +kernel
theorem dX9_lying_81 : decode cX9_lying 81 = .ok (.goto 4, 3) := by decide +kernel
theorem dX9_lying_84 : decode cX9_lying 84 = .ok (.iconst 0, 1) := by decide +kernel
theorem dX9_lying_85 : decode cX9_lying 85 = .ok (.istore 5, 2) := by decide +kernel
theorem dX9_lying_87 : decode cX9_lying 87 = .ok (.iload 5, 2) := by decide +kernel
theorem dX9_lying_89 : decode cX9_lying 89 = .ok (.ifCond .eq 9, 3) := by decide +kernel
theorem dX9_lying_92 : decode cX9_lying 92 = .ok (.iload_n 2, 1) := by decide +kernel
theorem dX9_lying_93 : decode cX9_lying 93 = .ok (.iconst 1, 1) := by decide +kernel
theorem dX9_lying_94 : decode cX9_lying 94 = .ok (.iload_n 3, 1) := by decide +kernel
theorem dX9_lying_95 : decode cX9_lying 95 = .ok (.ishl, 1) := by decide +kernel
theorem dX9_lying_96 : decode cX9_lying 96 = .ok (.ior, 1) := by decide +kernel
theorem dX9_lying_97 : decode cX9_lying 97 = .ok (.istore_n 2, 1) := by decide +kernel
theorem dX9_lying_98 : decode cX9_lying 98 = .ok (.iinc 3 1, 3) := by decide +kernel
theorem dX9_lying_101 : decode cX9_lying 101 = .ok (.goto (-67), 3) := by decide +kernel
theorem dX9_lying_104 : decode cX9_lying 104 = .ok (.iload_n 2, 1) := by decide +kernel
theorem dX9_lying_105 : decode cX9_lying 105 = .ok (.ireturn, 1) := by decide +kernel
theorem dX9_liars_0 : decode cX9_liars 0 = .ok (.aload_n 0, 1) := by decide +kernel
theorem dX9_liars_1 : decode cX9_liars 1 = .ok (.getfield 71, 3) := by decide +kernel
theorem dX9_liars_4 : decode cX9_liars 4 = .ok (.invokevirtual 186, 3) := by decide +kernel
theorem dX9_liars_7 : decode cX9_liars 7 = .ok (.aload_n 0, 1) := by decide +kernel
theorem dX9_liars_8 : decode cX9_liars 8 = .ok (.getfield 71, 3) := by decide +kernel
theorem dX9_liars_11 : decode cX9_liars 11 = .ok (.invokevirtual 211, 3) := by decide +kernel
theorem dX9_liars_14 : decode cX9_liars 14 = .ok (.ifCond .eq 7, 3) := by decide +kernel
theorem dX9_liars_17 : decode cX9_liars 17 = .ok (.iconst (-1), 1) := by decide +kernel
theorem dX9_liars_18 : decode cX9_liars 18 = .ok (.goto 13, 3) := by decide +kernel
theorem dX9_liars_21 : decode cX9_liars 21 = .ok (.aload_n 0, 1) := by decide +kernel
theorem dX9_liars_22 : decode cX9_liars 22 = .ok (.getfield 71, 3) := by decide +kernel
theorem dX9_liars_25 : decode cX9_liars 25 = .ok (.invokevirtual 240, 3) := by decide +kernel
theorem dX9_liars_28 : decode cX9_liars 28 = .ok (.invokestatic 243, 3) := by decide +kernel
theorem dX9_liars_31 : decode cX9_liars 31 = .ok (.ireturn, 1) := by decide +kernel
theorem dX9_fewest_0 : decode cX9_fewest 0 = .ok (.iconst 4, 1) := by decide +kernel
theorem dX9_fewest_1 : decode cX9_fewest 1 = .ok (.istore_n 1, 1) := by decide +kernel
theorem dX9_fewest_2 : decode cX9_fewest 2 = .ok (.iconst 0, 1) := by decide +kernel
theorem dX9_fewest_3 : decode cX9_fewest 3 = .ok (.istore_n 2, 1) := by decide +kernel
theorem dX9_fewest_4 : decode cX9_fewest 4 = .ok (.iload_n 2, 1) := by decide +kernel
theorem dX9_fewest_5 : decode cX9_fewest 5 = .ok (.bipush 16, 2) := by decide +kernel
theorem dX9_fewest_7 : decode cX9_fewest 7 = .ok (.if_icmp .ge 27, 3) := by decide +kernel
theorem dX9_fewest_10 : decode cX9_fewest 10 = .ok (.iload_n 0, 1) := by decide +kernel
theorem dX9_fewest_11 : decode cX9_fewest 11 = .ok (.iload_n 2, 1) := by decide +kernel
theorem dX9_fewest_12 : decode cX9_fewest 12 = .ok (.iushr, 1) := by decide +kernel
theorem dX9_fewest_13 : decode cX9_fewest 13 = .ok (.iconst 1, 1) := by decide +kernel
theorem dX9_fewest_14 : decode cX9_fewest 14 = .ok (.iand, 1) := by decide +kernel
theorem dX9_fewest_15 : decode cX9_fewest 15 = .ok (.iconst 1, 1) := by decide +kernel
theorem dX9_fewest_16 : decode cX9_fewest 16 = .ok (.if_icmp .ne 12, 3) := by decide +kernel
theorem dX9_fewest_19 : decode cX9_fewest 19 = .ok (.iload_n 1, 1) := by decide +kernel
theorem dX9_fewest_20 : decode cX9_fewest 20 = .ok (.iload_n 2, 1) := by decide +kernel
theorem dX9_fewest_21 : decode cX9_fewest 21 = .ok (.invokestatic 246, 3) := by decide +kernel
theorem dX9_fewest_24 : decode cX9_fewest 24 = .ok (.invokestatic 251, 3) := by decide +kernel
theorem dX9_fewest_27 : decode cX9_fewest 27 = .ok (.istore_n 1, 1) := by decide +kernel
theorem dX9_fewest_28 : decode cX9_fewest 28 = .ok (.iinc 2 1, 3) := by decide +kernel
theorem dX9_fewest_31 : decode cX9_fewest 31 = .ok (.goto (-27), 3) := by decide +kernel
theorem dX9_fewest_34 : decode cX9_fewest 34 = .ok (.iload_n 1, 1) := by decide +kernel
theorem dX9_fewest_35 : decode cX9_fewest 35 = .ok (.ireturn, 1) := by decide +kernel
theorem dX9_liarSet_0 : decode cX9_liarSet 0 = .ok (.iload_n 1, 1) := by decide +kernel
theorem dX9_liarSet_1 : decode cX9_liarSet 1 = .ok (.iconst (-1), 1) := by decide +kernel
theorem dX9_liarSet_2 : decode cX9_liarSet 2 = .ok (.if_icmp .ge 5, 3) := by decide +kernel
theorem dX9_liarSet_5 : decode cX9_liarSet 5 = .ok (.iconst (-1), 1) := by decide +kernel
theorem dX9_liarSet_6 : decode cX9_liarSet 6 = .ok (.ireturn, 1) := by decide +kernel
theorem dX9_liarSet_7 : decode cX9_liarSet 7 = .ok (.aload_n 0, 1) := by decide +kernel
theorem dX9_liarSet_8 : decode cX9_liarSet 8 = .ok (.getfield 71, 3) := by decide +kernel
theorem dX9_liarSet_11 : decode cX9_liarSet 11 = .ok (.invokevirtual 186, 3) := by decide +kernel
theorem dX9_liarSet_14 : decode cX9_liarSet 14 = .ok (.aload_n 0, 1) := by decide +kernel
theorem dX9_liarSet_15 : decode cX9_liarSet 15 = .ok (.getfield 71, 3) := by decide +kernel
theorem dX9_liarSet_18 : decode cX9_liarSet 18 = .ok (.invokevirtual 211, 3) := by decide +kernel
theorem dX9_liarSet_21 : decode cX9_liarSet 21 = .ok (.ifCond .eq 5, 3) := by decide +kernel
theorem dX9_liarSet_24 : decode cX9_liarSet 24 = .ok (.iconst (-1), 1) := by decide +kernel
theorem dX9_liarSet_25 : decode cX9_liarSet 25 = .ok (.ireturn, 1) := by decide +kernel
theorem dX9_liarSet_26 : decode cX9_liarSet 26 = .ok (.aload_n 0, 1) := by decide +kernel
theorem dX9_liarSet_27 : decode cX9_liarSet 27 = .ok (.getfield 71, 3) := by decide +kernel
theorem dX9_liarSet_30 : decode cX9_liarSet 30 = .ok (.invokevirtual 240, 3) := by decide +kernel
theorem dX9_liarSet_33 : decode cX9_liarSet 33 = .ok (.istore_n 2, 1) := by decide +kernel
theorem dX9_liarSet_34 : decode cX9_liarSet 34 = .ok (.iload_n 2, 1) := by decide +kernel
theorem dX9_liarSet_35 : decode cX9_liarSet 35 = .ok (.invokestatic 243, 3) := by decide +kernel
theorem dX9_liarSet_38 : decode cX9_liarSet 38 = .ok (.istore_n 3, 1) := by decide +kernel
theorem dX9_liarSet_39 : decode cX9_liarSet 39 = .ok (.iconst 0, 1) := by decide +kernel
theorem dX9_liarSet_40 : decode cX9_liarSet 40 = .ok (.istore 4, 2) := by decide +kernel
theorem dX9_liarSet_42 : decode cX9_liarSet 42 = .ok (.iconst 0, 1) := by decide +kernel
theorem dX9_liarSet_43 : decode cX9_liarSet 43 = .ok (.istore 5, 2) := by decide +kernel
theorem dX9_liarSet_45 : decode cX9_liarSet 45 = .ok (.iload 5, 2) := by decide +kernel
theorem dX9_liarSet_47 : decode cX9_liarSet 47 = .ok (.bipush 16, 2) := by decide +kernel
theorem dX9_liarSet_49 : decode cX9_liarSet 49 = .ok (.if_icmp .ge 40, 3) := by decide +kernel
theorem dX9_liarSet_52 : decode cX9_liarSet 52 = .ok (.iload_n 2, 1) := by decide +kernel
theorem dX9_liarSet_53 : decode cX9_liarSet 53 = .ok (.iload 5, 2) := by decide +kernel
theorem dX9_liarSet_55 : decode cX9_liarSet 55 = .ok (.iushr, 1) := by decide +kernel
theorem dX9_liarSet_56 : decode cX9_liarSet 56 = .ok (.iconst 1, 1) := by decide +kernel
theorem dX9_liarSet_57 : decode cX9_liarSet 57 = .ok (.iand, 1) := by decide +kernel
theorem dX9_liarSet_58 : decode cX9_liarSet 58 = .ok (.iconst 1, 1) := by decide +kernel
theorem dX9_liarSet_59 : decode cX9_liarSet 59 = .ok (.if_icmp .ne 24, 3) := by decide +kernel
theorem dX9_liarSet_62 : decode cX9_liarSet 62 = .ok (.iload 5, 2) := by decide +kernel
theorem dX9_liarSet_64 : decode cX9_liarSet 64 = .ok (.invokestatic 246, 3) := by decide +kernel
theorem dX9_liarSet_67 : decode cX9_liarSet 67 = .ok (.iload_n 3, 1) := by decide +kernel
theorem dX9_liarSet_68 : decode cX9_liarSet 68 = .ok (.if_icmp .ne 15, 3) := by decide +kernel
theorem dX9_liarSet_71 : decode cX9_liarSet 71 = .ok (.iload 4, 2) := by decide +kernel
theorem dX9_liarSet_73 : decode cX9_liarSet 73 = .ok (.iload_n 1, 1) := by decide +kernel
theorem dX9_liarSet_74 : decode cX9_liarSet 74 = .ok (.if_icmp .ne 6, 3) := by decide +kernel
theorem dX9_liarSet_77 : decode cX9_liarSet 77 = .ok (.iload 5, 2) := by decide +kernel
theorem dX9_liarSet_79 : decode cX9_liarSet 79 = .ok (.ireturn, 1) := by decide +kernel
theorem dX9_liarSet_80 : decode cX9_liarSet 80 = .ok (.iinc 4 1, 3) := by decide +kernel
theorem dX9_liarSet_83 : decode cX9_liarSet 83 = .ok (.iinc 5 1, 3) := by decide +kernel
theorem dX9_liarSet_86 : decode cX9_liarSet 86 = .ok (.goto (-41), 3) := by decide +kernel
theorem dX9_liarSet_89 : decode cX9_liarSet 89 = .ok (.iload_n 1, 1) := by decide +kernel
theorem dX9_liarSet_90 : decode cX9_liarSet 90 = .ok (.iconst (-1), 1) := by decide +kernel
theorem dX9_liarSet_91 : decode cX9_liarSet 91 = .ok (.if_icmp .ne 8, 3) := by decide +kernel
theorem dX9_liarSet_94 : decode cX9_liarSet 94 = .ok (.iload 4, 2) := by decide +kernel
theorem dX9_liarSet_96 : decode cX9_liarSet 96 = .ok (.goto 4, 3) := by decide +kernel
theorem dX9_liarSet_99 : decode cX9_liarSet 99 = .ok (.iconst (-1), 1) := by decide +kernel
theorem dX9_liarSet_100 : decode cX9_liarSet 100 = .ok (.ireturn, 1) := by decide +kernel
theorem dX9_clash_0 : decode cX9_clash 0 = .ok (.iconst 0, 1) := by decide +kernel
theorem dX9_clash_1 : decode cX9_clash 1 = .ok (.istore_n 1, 1) := by decide +kernel
theorem dX9_clash_2 : decode cX9_clash 2 = .ok (.aload_n 0, 1) := by decide +kernel
theorem dX9_clash_3 : decode cX9_clash 3 = .ok (.getfield 23, 3) := by decide +kernel
theorem dX9_clash_6 : decode cX9_clash 6 = .ok (.getfield 156, 3) := by decide +kernel
theorem dX9_clash_9 : decode cX9_clash 9 = .ok (.getfield 174, 3) := by decide +kernel
theorem dX9_clash_12 : decode cX9_clash 12 = .ok (.istore_n 2, 1) := by decide +kernel
theorem dX9_clash_13 : decode cX9_clash 13 = .ok (.aload_n 0, 1) := by decide +kernel
theorem dX9_clash_14 : decode cX9_clash 14 = .ok (.iload_n 2, 1) := by decide +kernel
theorem dX9_clash_15 : decode cX9_clash 15 = .ok (.invokevirtual 256, 3) := by decide +kernel
theorem dX9_clash_18 : decode cX9_clash 18 = .ok (.ifCond .eq 5, 3) := by decide +kernel
theorem dX9_clash_21 : decode cX9_clash 21 = .ok (.iconst (-1), 1) := by decide +kernel
theorem dX9_clash_22 : decode cX9_clash 22 = .ok (.ireturn, 1) := by decide +kernel
theorem dX9_clash_23 : decode cX9_clash 23 = .ok (.iconst 0, 1) := by decide +kernel
theorem dX9_clash_24 : decode cX9_clash 24 = .ok (.istore_n 3, 1) := by decide +kernel
theorem dX9_clash_25 : decode cX9_clash 25 = .ok (.iload_n 3, 1) := by decide +kernel
theorem dX9_clash_26 : decode cX9_clash 26 = .ok (.bipush 40, 2) := by decide +kernel
theorem dX9_clash_28 : decode cX9_clash 28 = .ok (.if_icmp .ge 41, 3) := by decide +kernel
theorem dX9_clash_31 : decode cX9_clash 31 = .ok (.iload_n 2, 1) := by decide +kernel
theorem dX9_clash_32 : decode cX9_clash 32 = .ok (.iload_n 1, 1) := by decide +kernel
theorem dX9_clash_33 : decode cX9_clash 33 = .ok (.isub, 1) := by decide +kernel
theorem dX9_clash_34 : decode cX9_clash 34 = .ok (.iconst 1, 1) := by decide +kernel
theorem dX9_clash_35 : decode cX9_clash 35 = .ok (.if_icmp .le 34, 3) := by decide +kernel
theorem dX9_clash_38 : decode cX9_clash 38 = .ok (.iload_n 1, 1) := by decide +kernel
theorem dX9_clash_39 : decode cX9_clash 39 = .ok (.iload_n 2, 1) := by decide +kernel
theorem dX9_clash_40 : decode cX9_clash 40 = .ok (.iadd, 1) := by decide +kernel
theorem dX9_clash_41 : decode cX9_clash 41 = .ok (.iconst 2, 1) := by decide +kernel
theorem dX9_clash_42 : decode cX9_clash 42 = .ok (.idiv, 1) := by decide +kernel
theorem dX9_clash_43 : decode cX9_clash 43 = .ok (.istore 4, 2) := by decide +kernel
theorem dX9_clash_45 : decode cX9_clash 45 = .ok (.aload_n 0, 1) := by decide +kernel
theorem dX9_clash_46 : decode cX9_clash 46 = .ok (.iload 4, 2) := by decide +kernel
theorem dX9_clash_48 : decode cX9_clash 48 = .ok (.invokevirtual 256, 3) := by decide +kernel
theorem dX9_clash_51 : decode cX9_clash 51 = .ok (.ifCond .eq 9, 3) := by decide +kernel
theorem dX9_clash_54 : decode cX9_clash 54 = .ok (.iload 4, 2) := by decide +kernel
theorem dX9_clash_56 : decode cX9_clash 56 = .ok (.istore_n 1, 1) := by decide +kernel
theorem dX9_clash_57 : decode cX9_clash 57 = .ok (.goto 6, 3) := by decide +kernel
theorem dX9_clash_60 : decode cX9_clash 60 = .ok (.iload 4, 2) := by decide +kernel
theorem dX9_clash_62 : decode cX9_clash 62 = .ok (.istore_n 2, 1) := by decide +kernel
theorem dX9_clash_63 : decode cX9_clash 63 = .ok (.iinc 3 1, 3) := by decide +kernel
theorem dX9_clash_66 : decode cX9_clash 66 = .ok (.goto (-41), 3) := by decide +kernel
theorem dX9_clash_69 : decode cX9_clash 69 = .ok (.iload_n 2, 1) := by decide +kernel
theorem dX9_clash_70 : decode cX9_clash 70 = .ok (.iconst 1, 1) := by decide +kernel
theorem dX9_clash_71 : decode cX9_clash 71 = .ok (.isub, 1) := by decide +kernel
theorem dX9_clash_72 : decode cX9_clash 72 = .ok (.ireturn, 1) := by decide +kernel
theorem dX9_fits_0 : decode cX9_fits 0 = .ok (.aload_n 0, 1) := by decide +kernel
theorem dX9_fits_1 : decode cX9_fits 1 = .ok (.getfield 71, 3) := by decide +kernel
theorem dX9_fits_4 : decode cX9_fits 4 = .ok (.iload_n 1, 1) := by decide +kernel
theorem dX9_fits_5 : decode cX9_fits 5 = .ok (.invokevirtual 259, 3) := by decide +kernel
theorem dX9_fits_8 : decode cX9_fits 8 = .ok (.aload_n 0, 1) := by decide +kernel
theorem dX9_fits_9 : decode cX9_fits 9 = .ok (.getfield 71, 3) := by decide +kernel
theorem dX9_fits_12 : decode cX9_fits 12 = .ok (.invokevirtual 211, 3) := by decide +kernel
theorem dX9_fits_15 : decode cX9_fits 15 = .ok (.ifCond .ne 7, 3) := by decide +kernel
theorem dX9_fits_18 : decode cX9_fits 18 = .ok (.iconst 1, 1) := by decide +kernel
theorem dX9_fits_19 : decode cX9_fits 19 = .ok (.goto 4, 3) := by decide +kernel
theorem dX9_fits_22 : decode cX9_fits 22 = .ok (.iconst 0, 1) := by decide +kernel
theorem dX9_fits_23 : decode cX9_fits 23 = .ok (.ireturn, 1) := by decide +kernel
theorem dX9_wouldTell_0 : decode cX9_wouldTell 0 = .ok (.aload_n 0, 1) := by decide +kernel
theorem dX9_wouldTell_1 : decode cX9_wouldTell 1 = .ok (.getfield 23, 3) := by decide +kernel
theorem dX9_wouldTell_4 : decode cX9_wouldTell 4 = .ok (.iload_n 1, 1) := by decide +kernel
theorem dX9_wouldTell_5 : decode cX9_wouldTell 5 = .ok (.invokevirtual 147, 3) := by decide +kernel
theorem dX9_wouldTell_8 : decode cX9_wouldTell 8 = .ok (.ifCond .eq 21, 3) := by decide +kernel
theorem dX9_wouldTell_11 : decode cX9_wouldTell 11 = .ok (.iload_n 2, 1) := by decide +kernel
theorem dX9_wouldTell_12 : decode cX9_wouldTell 12 = .ok (.invokestatic 140, 3) := by decide +kernel
theorem dX9_wouldTell_15 : decode cX9_wouldTell 15 = .ok (.ifCond .eq 14, 3) := by decide +kernel
theorem dX9_wouldTell_18 : decode cX9_wouldTell 18 = .ok (.aload_n 0, 1) := by decide +kernel
theorem dX9_wouldTell_19 : decode cX9_wouldTell 19 = .ok (.getfield 23, 3) := by decide +kernel
theorem dX9_wouldTell_22 : decode cX9_wouldTell 22 = .ok (.iload_n 3, 1) := by decide +kernel
theorem dX9_wouldTell_23 : decode cX9_wouldTell 23 = .ok (.invokevirtual 167, 3) := by decide +kernel
theorem dX9_wouldTell_26 : decode cX9_wouldTell 26 = .ok (.ifCond .ne 7, 3) := by decide +kernel
theorem dX9_wouldTell_29 : decode cX9_wouldTell 29 = .ok (.ldc2_w 193, 3) := by decide +kernel
theorem dX9_wouldTell_32 : decode cX9_wouldTell 32 = .ok (.lreturn, 1) := by decide +kernel
theorem dX9_wouldTell_33 : decode cX9_wouldTell 33 = .ok (.aload_n 0, 1) := by decide +kernel
theorem dX9_wouldTell_34 : decode cX9_wouldTell 34 = .ok (.getfield 71, 3) := by decide +kernel
theorem dX9_wouldTell_37 : decode cX9_wouldTell 37 = .ok (.invokevirtual 186, 3) := by decide +kernel
theorem dX9_wouldTell_40 : decode cX9_wouldTell 40 = .ok (.aload_n 0, 1) := by decide +kernel
theorem dX9_wouldTell_41 : decode cX9_wouldTell 41 = .ok (.getfield 71, 3) := by decide +kernel
theorem dX9_wouldTell_44 : decode cX9_wouldTell 44 = .ok (.iload_n 1, 1) := by decide +kernel
theorem dX9_wouldTell_45 : decode cX9_wouldTell 45 = .ok (.iload_n 2, 1) := by decide +kernel
theorem dX9_wouldTell_46 : decode cX9_wouldTell 46 = .ok (.invokevirtual 262, 3) := by decide +kernel
theorem dX9_wouldTell_49 : decode cX9_wouldTell 49 = .ok (.aload_n 0, 1) := by decide +kernel
theorem dX9_wouldTell_50 : decode cX9_wouldTell 50 = .ok (.getfield 71, 3) := by decide +kernel
theorem dX9_wouldTell_53 : decode cX9_wouldTell 53 = .ok (.getfield 266, 3) := by decide +kernel
theorem dX9_wouldTell_56 : decode cX9_wouldTell 56 = .ok (.iload_n 3, 1) := by decide +kernel
theorem dX9_wouldTell_57 : decode cX9_wouldTell 57 = .ok (.invokestatic 270, 3) := by decide +kernel
theorem dX9_wouldTell_60 : decode cX9_wouldTell 60 = .ok (.lreturn, 1) := by decide +kernel
theorem dX9_left_0 : decode cX9_left 0 = .ok (.aload_n 0, 1) := by decide +kernel
theorem dX9_left_1 : decode cX9_left 1 = .ok (.getfield 23, 3) := by decide +kernel
theorem dX9_left_4 : decode cX9_left 4 = .ok (.iload_n 1, 1) := by decide +kernel
theorem dX9_left_5 : decode cX9_left 5 = .ok (.invokevirtual 147, 3) := by decide +kernel
theorem dX9_left_8 : decode cX9_left 8 = .ok (.ifCond .eq 10, 3) := by decide +kernel
theorem dX9_left_11 : decode cX9_left 11 = .ok (.iload_n 2, 1) := by decide +kernel
theorem dX9_left_12 : decode cX9_left 12 = .ok (.invokestatic 140, 3) := by decide +kernel
theorem dX9_left_15 : decode cX9_left 15 = .ok (.ifCond .ne 7, 3) := by decide +kernel
theorem dX9_left_18 : decode cX9_left 18 = .ok (.ldc2_w 193, 3) := by decide +kernel
theorem dX9_left_21 : decode cX9_left 21 = .ok (.lreturn, 1) := by decide +kernel
theorem dX9_left_22 : decode cX9_left 22 = .ok (.aload_n 0, 1) := by decide +kernel
theorem dX9_left_23 : decode cX9_left 23 = .ok (.getfield 71, 3) := by decide +kernel
theorem dX9_left_26 : decode cX9_left 26 = .ok (.invokevirtual 186, 3) := by decide +kernel
theorem dX9_left_29 : decode cX9_left 29 = .ok (.aload_n 0, 1) := by decide +kernel
theorem dX9_left_30 : decode cX9_left 30 = .ok (.getfield 71, 3) := by decide +kernel
theorem dX9_left_33 : decode cX9_left 33 = .ok (.iload_n 1, 1) := by decide +kernel
theorem dX9_left_34 : decode cX9_left 34 = .ok (.iload_n 2, 1) := by decide +kernel
theorem dX9_left_35 : decode cX9_left 35 = .ok (.invokevirtual 262, 3) := by decide +kernel
theorem dX9_left_38 : decode cX9_left 38 = .ok (.aload_n 0, 1) := by decide +kernel
theorem dX9_left_39 : decode cX9_left 39 = .ok (.getfield 71, 3) := by decide +kernel
theorem dX9_left_42 : decode cX9_left 42 = .ok (.invokevirtual 274, 3) := by decide +kernel
theorem dX9_left_45 : decode cX9_left 45 = .ok (.lreturn, 1) := by decide +kernel
theorem dX9_next_0 : decode cX9_next 0 = .ok (.aload_n 0, 1) := by decide +kernel
theorem dX9_next_1 : decode cX9_next 1 = .ok (.getfield 71, 3) := by decide +kernel
theorem dX9_next_4 : decode cX9_next 4 = .ok (.invokevirtual 186, 3) := by decide +kernel
theorem dX9_next_7 : decode cX9_next 7 = .ok (.aload_n 0, 1) := by decide +kernel
theorem dX9_next_8 : decode cX9_next 8 = .ok (.getfield 23, 3) := by decide +kernel
theorem dX9_next_11 : decode cX9_next 11 = .ok (.getfield 234, 3) := by decide +kernel
theorem dX9_next_14 : decode cX9_next 14 = .ok (.ifCond .eq 13, 3) := by decide +kernel
theorem dX9_next_17 : decode cX9_next 17 = .ok (.aload_n 0, 1) := by decide +kernel
theorem dX9_next_18 : decode cX9_next 18 = .ok (.getfield 71, 3) := by decide +kernel
theorem dX9_next_21 : decode cX9_next 21 = .ok (.invokevirtual 211, 3) := by decide +kernel
theorem dX9_next_24 : decode cX9_next 24 = .ok (.ifCond .eq 5, 3) := by decide +kernel
theorem dX9_next_27 : decode cX9_next 27 = .ok (.iconst (-1), 1) := by decide +kernel
theorem dX9_next_28 : decode cX9_next 28 = .ok (.ireturn, 1) := by decide +kernel
theorem dX9_next_29 : decode cX9_next 29 = .ok (.iconst (-1), 1) := by decide +kernel
theorem dX9_next_30 : decode cX9_next 30 = .ok (.istore_n 1, 1) := by decide +kernel
theorem dX9_next_31 : decode cX9_next 31 = .ok (.lconst 0, 1) := by decide +kernel
theorem dX9_next_32 : decode cX9_next 32 = .ok (.lstore_n 2, 1) := by decide +kernel
theorem dX9_next_33 : decode cX9_next 33 = .ok (.iconst 0, 1) := by decide +kernel
theorem dX9_next_34 : decode cX9_next 34 = .ok (.istore 4, 2) := by decide +kernel
theorem dX9_next_36 : decode cX9_next 36 = .ok (.iload 4, 2) := by decide +kernel
theorem dX9_next_38 : decode cX9_next 38 = .ok (.aload_n 0, 1) := by decide +kernel
theorem dX9_next_39 : decode cX9_next 39 = .ok (.getfield 23, 3) := by decide +kernel
theorem dX9_next_42 : decode cX9_next 42 = .ok (.getfield 234, 3) := by decide +kernel
theorem dX9_next_45 : decode cX9_next 45 = .ok (.if_icmp .ge 69, 3) := by decide +kernel
theorem dX9_next_48 : decode cX9_next 48 = .ok (.iconst 0, 1) := by decide +kernel
theorem dX9_next_49 : decode cX9_next 49 = .ok (.istore 5, 2) := by decide +kernel
theorem dX9_next_51 : decode cX9_next 51 = .ok (.iload 5, 2) := by decide +kernel
theorem dX9_next_53 : decode cX9_next 53 = .ok (.bipush 30, 2) := by decide +kernel
theorem dX9_next_55 : decode cX9_next 55 = .ok (.if_icmp .ge 53, 3) := by decide +kernel
theorem dX9_next_58 : decode cX9_next 58 = .ok (.aload_n 0, 1) := by decide +kernel
theorem dX9_next_59 : decode cX9_next 59 = .ok (.getfield 71, 3) := by decide +kernel
theorem dX9_next_62 : decode cX9_next 62 = .ok (.iload 4, 2) := by decide +kernel
theorem dX9_next_64 : decode cX9_next 64 = .ok (.iload 5, 2) := by decide +kernel
theorem dX9_next_66 : decode cX9_next 66 = .ok (.invokevirtual 262, 3) := by decide +kernel
theorem dX9_next_69 : decode cX9_next 69 = .ok (.aload_n 0, 1) := by decide +kernel
theorem dX9_next_70 : decode cX9_next 70 = .ok (.getfield 71, 3) := by decide +kernel
theorem dX9_next_73 : decode cX9_next 73 = .ok (.invokevirtual 274, 3) := by decide +kernel
theorem dX9_next_76 : decode cX9_next 76 = .ok (.lstore 6, 2) := by decide +kernel
theorem dX9_next_78 : decode cX9_next 78 = .ok (.iload_n 1, 1) := by decide +kernel
theorem dX9_next_79 : decode cX9_next 79 = .ok (.iconst (-1), 1) := by decide +kernel
theorem dX9_next_80 : decode cX9_next 80 = .ok (.if_icmp .eq 10, 3) := by decide +kernel
theorem dX9_next_83 : decode cX9_next 83 = .ok (.lload 6, 2) := by decide +kernel
theorem dX9_next_85 : decode cX9_next 85 = .ok (.lload_n 2, 1) := by decide +kernel
theorem dX9_next_86 : decode cX9_next 86 = .ok (.lcmp, 1) := by decide +kernel
theorem dX9_next_87 : decode cX9_next 87 = .ok (.ifCond .ge 15, 3) := by decide +kernel
theorem dX9_next_90 : decode cX9_next 90 = .ok (.bipush 100, 2) := by decide +kernel
theorem dX9_next_92 : decode cX9_next 92 = .ok (.iload 4, 2) := by decide +kernel
theorem dX9_next_94 : decode cX9_next 94 = .ok (.imul, 1) := by decide +kernel
theorem dX9_next_95 : decode cX9_next 95 = .ok (.iload 5, 2) := by decide +kernel
theorem dX9_next_97 : decode cX9_next 97 = .ok (.iadd, 1) := by decide +kernel
theorem dX9_next_98 : decode cX9_next 98 = .ok (.istore_n 1, 1) := by decide +kernel
theorem dX9_next_99 : decode cX9_next 99 = .ok (.lload 6, 2) := by decide +kernel
theorem dX9_next_101 : decode cX9_next 101 = .ok (.lstore_n 2, 1) := by decide +kernel
theorem dX9_next_102 : decode cX9_next 102 = .ok (.iinc 5 1, 3) := by decide +kernel
theorem dX9_next_105 : decode cX9_next 105 = .ok (.goto (-54), 3) := by decide +kernel
theorem dX9_next_108 : decode cX9_next 108 = .ok (.iinc 4 1, 3) := by decide +kernel
theorem dX9_next_111 : decode cX9_next 111 = .ok (.goto (-75), 3) := by decide +kernel
theorem dX9_next_114 : decode cX9_next 114 = .ok (.iload_n 1, 1) := by decide +kernel
theorem dX9_next_115 : decode cX9_next 115 = .ok (.ireturn, 1) := by decide +kernel
theorem dX9_table_0 : decode cX9_table 0 = .ok (.aload_n 0, 1) := by decide +kernel
theorem dX9_table_1 : decode cX9_table 1 = .ok (.getfield 13, 3) := by decide +kernel
theorem dX9_table_4 : decode cX9_table 4 = .ok (.istore_n 2, 1) := by decide +kernel
theorem dX9_table_5 : decode cX9_table 5 = .ok (.aload_n 0, 1) := by decide +kernel
theorem dX9_table_6 : decode cX9_table 6 = .ok (.iconst 0, 1) := by decide +kernel
theorem dX9_table_7 : decode cX9_table 7 = .ok (.putfield 13, 3) := by decide +kernel
theorem dX9_table_10 : decode cX9_table 10 = .ok (.aload_n 0, 1) := by decide +kernel
theorem dX9_table_11 : decode cX9_table 11 = .ok (.getfield 23, 3) := by decide +kernel
theorem dX9_table_14 : decode cX9_table 14 = .ok (.iload_n 1, 1) := by decide +kernel
theorem dX9_table_15 : decode cX9_table 15 = .ok (.invokevirtual 113, 3) := by decide +kernel
theorem dX9_table_18 : decode cX9_table 18 = .ok (.ifCond .eq 26, 3) := by decide +kernel
theorem dX9_table_21 : decode cX9_table 21 = .ok (.aload_n 0, 1) := by decide +kernel
theorem dX9_table_22 : decode cX9_table 22 = .ok (.getfield 23, 3) := by decide +kernel
theorem dX9_table_25 : decode cX9_table 25 = .ok (.getfield 130, 3) := by decide +kernel
theorem dX9_table_28 : decode cX9_table 28 = .ok (.iload_n 1, 1) := by decide +kernel
theorem dX9_table_29 : decode cX9_table 29 = .ok (.invokestatic 123, 3) := by decide +kernel
theorem dX9_table_32 : decode cX9_table 32 = .ok (.iconst (-1), 1) := by decide +kernel
theorem dX9_table_33 : decode cX9_table 33 = .ok (.if_icmp .eq 11, 3) := by decide +kernel
theorem dX9_table_36 : decode cX9_table 36 = .ok (.aload_n 0, 1) := by decide +kernel
theorem dX9_table_37 : decode cX9_table 37 = .ok (.iload_n 2, 1) := by decide +kernel
theorem dX9_table_38 : decode cX9_table 38 = .ok (.invokevirtual 277, 3) := by decide +kernel
theorem dX9_table_41 : decode cX9_table 41 = .ok (.ifCond .ne 5, 3) := by decide +kernel
theorem dX9_table_44 : decode cX9_table 44 = .ok (.iconst (-1), 1) := by decide +kernel
theorem dX9_table_45 : decode cX9_table 45 = .ok (.ireturn, 1) := by decide +kernel
theorem dX9_table_46 : decode cX9_table 46 = .ok (.aload_n 0, 1) := by decide +kernel
theorem dX9_table_47 : decode cX9_table 47 = .ok (.getfield 78, 3) := by decide +kernel
theorem dX9_table_50 : decode cX9_table 50 = .ok (.aload_n 0, 1) := by decide +kernel
theorem dX9_table_51 : decode cX9_table 51 = .ok (.getfield 23, 3) := by decide +kernel
theorem dX9_table_54 : decode cX9_table 54 = .ok (.iload_n 1, 1) := by decide +kernel
theorem dX9_table_55 : decode cX9_table 55 = .ok (.aload_n 0, 1) := by decide +kernel
theorem dX9_table_56 : decode cX9_table 56 = .ok (.getfield 9, 3) := by decide +kernel
theorem dX9_table_59 : decode cX9_table 59 = .ok (.iload_n 2, 1) := by decide +kernel
theorem dX9_table_60 : decode cX9_table 60 = .ok (.invokevirtual 280, 3) := by decide +kernel
theorem dX9_table_63 : decode cX9_table 63 = .ok (.aload_n 0, 1) := by decide +kernel
theorem dX9_table_64 : decode cX9_table 64 = .ok (.getfield 78, 3) := by decide +kernel
theorem dX9_table_67 : decode cX9_table 67 = .ok (.getfield 284, 3) := by decide +kernel
theorem dX9_table_70 : decode cX9_table 70 = .ok (.ireturn, 1) := by decide +kernel
theorem dX9_areSpeakers_0 : decode cX9_areSpeakers 0 = .ok (.iload_n 1, 1) := by decide +kernel
theorem dX9_areSpeakers_1 : decode cX9_areSpeakers 1 = .ok (.iconst 1, 1) := by decide +kernel
theorem dX9_areSpeakers_2 : decode cX9_areSpeakers 2 = .ok (.if_icmp .lt 8, 3) := by decide +kernel
theorem dX9_areSpeakers_5 : decode cX9_areSpeakers 5 = .ok (.iload_n 1, 1) := by decide +kernel
theorem dX9_areSpeakers_6 : decode cX9_areSpeakers 6 = .ok (.iconst 4, 1) := by decide +kernel
theorem dX9_areSpeakers_7 : decode cX9_areSpeakers 7 = .ok (.if_icmp .le 5, 3) := by decide +kernel
theorem dX9_areSpeakers_10 : decode cX9_areSpeakers 10 = .ok (.iconst 0, 1) := by decide +kernel
theorem dX9_areSpeakers_11 : decode cX9_areSpeakers 11 = .ok (.ireturn, 1) := by decide +kernel
theorem dX9_areSpeakers_12 : decode cX9_areSpeakers 12 = .ok (.iconst 0, 1) := by decide +kernel
theorem dX9_areSpeakers_13 : decode cX9_areSpeakers 13 = .ok (.istore_n 2, 1) := by decide +kernel
theorem dX9_areSpeakers_14 : decode cX9_areSpeakers 14 = .ok (.iconst 0, 1) := by decide +kernel
theorem dX9_areSpeakers_15 : decode cX9_areSpeakers 15 = .ok (.istore_n 3, 1) := by decide +kernel
theorem dX9_areSpeakers_16 : decode cX9_areSpeakers 16 = .ok (.iload_n 3, 1) := by decide +kernel
theorem dX9_areSpeakers_17 : decode cX9_areSpeakers 17 = .ok (.iload_n 1, 1) := by decide +kernel
theorem dX9_areSpeakers_18 : decode cX9_areSpeakers 18 = .ok (.if_icmp .ge 50, 3) := by decide +kernel
theorem dX9_areSpeakers_21 : decode cX9_areSpeakers 21 = .ok (.aload_n 0, 1) := by decide +kernel
theorem dX9_areSpeakers_22 : decode cX9_areSpeakers 22 = .ok (.getfield 9, 3) := by decide +kernel
theorem dX9_areSpeakers_25 : decode cX9_areSpeakers 25 = .ok (.iload_n 3, 1) := by decide +kernel
theorem dX9_areSpeakers_26 : decode cX9_areSpeakers 26 = .ok (.invokestatic 123, 3) := by decide +kernel
theorem dX9_areSpeakers_29 : decode cX9_areSpeakers 29 = .ok (.istore 4, 2) := by decide +kernel
theorem dX9_areSpeakers_31 : decode cX9_areSpeakers 31 = .ok (.aload_n 0, 1) := by decide +kernel
theorem dX9_areSpeakers_32 : decode cX9_areSpeakers 32 = .ok (.getfield 23, 3) := by decide +kernel
theorem dX9_areSpeakers_35 : decode cX9_areSpeakers 35 = .ok (.iload 4, 2) := by decide +kernel
theorem dX9_areSpeakers_37 : decode cX9_areSpeakers 37 = .ok (.invokevirtual 147, 3) := by decide +kernel
theorem dX9_areSpeakers_40 : decode cX9_areSpeakers 40 = .ok (.ifCond .eq 13, 3) := by decide +kernel
theorem dX9_areSpeakers_43 : decode cX9_areSpeakers 43 = .ok (.iload_n 2, 1) := by decide +kernel
theorem dX9_areSpeakers_44 : decode cX9_areSpeakers 44 = .ok (.iload 4, 2) := by decide +kernel
theorem dX9_areSpeakers_46 : decode cX9_areSpeakers 46 = .ok (.iushr, 1) := by decide +kernel
theorem dX9_areSpeakers_47 : decode cX9_areSpeakers 47 = .ok (.iconst 1, 1) := by decide +kernel
theorem dX9_areSpeakers_48 : decode cX9_areSpeakers 48 = .ok (.iand, 1) := by decide +kernel
theorem dX9_areSpeakers_49 : decode cX9_areSpeakers 49 = .ok (.iconst 1, 1) := by decide +kernel
theorem dX9_areSpeakers_50 : decode cX9_areSpeakers 50 = .ok (.if_icmp .ne 5, 3) := by decide +kernel
theorem dX9_areSpeakers_53 : decode cX9_areSpeakers 53 = .ok (.iconst 0, 1) := by decide +kernel
theorem dX9_areSpeakers_54 : decode cX9_areSpeakers 54 = .ok (.ireturn, 1) := by decide +kernel
theorem dX9_areSpeakers_55 : decode cX9_areSpeakers 55 = .ok (.iload_n 2, 1) := by decide +kernel
theorem dX9_areSpeakers_56 : decode cX9_areSpeakers 56 = .ok (.iconst 1, 1) := by decide +kernel
theorem dX9_areSpeakers_57 : decode cX9_areSpeakers 57 = .ok (.iload 4, 2) := by decide +kernel
theorem dX9_areSpeakers_59 : decode cX9_areSpeakers 59 = .ok (.ishl, 1) := by decide +kernel
theorem dX9_areSpeakers_60 : decode cX9_areSpeakers 60 = .ok (.ior, 1) := by decide +kernel
theorem dX9_areSpeakers_61 : decode cX9_areSpeakers 61 = .ok (.istore_n 2, 1) := by decide +kernel
theorem dX9_areSpeakers_62 : decode cX9_areSpeakers 62 = .ok (.iinc 3 1, 3) := by decide +kernel
theorem dX9_areSpeakers_65 : decode cX9_areSpeakers 65 = .ok (.goto (-49), 3) := by decide +kernel
theorem dX9_areSpeakers_68 : decode cX9_areSpeakers 68 = .ok (.iconst 1, 1) := by decide +kernel
theorem dX9_areSpeakers_69 : decode cX9_areSpeakers 69 = .ok (.ireturn, 1) := by decide +kernel
theorem dX9_said_0 : decode cX9_said 0 = .ok (.iload_n 1, 1) := by decide +kernel
theorem dX9_said_1 : decode cX9_said 1 = .ok (.ifCond .lt 28, 3) := by decide +kernel
theorem dX9_said_4 : decode cX9_said 4 = .ok (.iload_n 1, 1) := by decide +kernel
theorem dX9_said_5 : decode cX9_said 5 = .ok (.aload_n 0, 1) := by decide +kernel
theorem dX9_said_6 : decode cX9_said 6 = .ok (.getfield 78, 3) := by decide +kernel
theorem dX9_said_9 : decode cX9_said 9 = .ok (.getfield 284, 3) := by decide +kernel
theorem dX9_said_12 : decode cX9_said 12 = .ok (.if_icmp .ge 17, 3) := by decide +kernel
theorem dX9_said_15 : decode cX9_said 15 = .ok (.aload_n 0, 1) := by decide +kernel
theorem dX9_said_16 : decode cX9_said 16 = .ok (.getfield 78, 3) := by decide +kernel
theorem dX9_said_19 : decode cX9_said 19 = .ok (.getfield 285, 3) := by decide +kernel
theorem dX9_said_22 : decode cX9_said 22 = .ok (.iload_n 1, 1) := by decide +kernel
theorem dX9_said_23 : decode cX9_said 23 = .ok (.invokestatic 123, 3) := by decide +kernel
theorem dX9_said_26 : decode cX9_said 26 = .ok (.goto 4, 3) := by decide +kernel
theorem dX9_said_29 : decode cX9_said 29 = .ok (.iconst (-1), 1) := by decide +kernel
theorem dX9_said_30 : decode cX9_said 30 = .ok (.ireturn, 1) := by decide +kernel
theorem dX9_ended_0 : decode cX9_ended 0 = .ok (.iload_n 1, 1) := by decide +kernel
theorem dX9_ended_1 : decode cX9_ended 1 = .ok (.ifCond .ne 11, 3) := by decide +kernel
theorem dX9_ended_4 : decode cX9_ended 4 = .ok (.aload_n 0, 1) := by decide +kernel
theorem dX9_ended_5 : decode cX9_ended 5 = .ok (.getfield 78, 3) := by decide +kernel
theorem dX9_ended_8 : decode cX9_ended 8 = .ok (.getfield 288, 3) := by decide +kernel
theorem dX9_ended_11 : decode cX9_ended 11 = .ok (.ireturn, 1) := by decide +kernel
theorem dX9_ended_12 : decode cX9_ended 12 = .ok (.iload_n 1, 1) := by decide +kernel
theorem dX9_ended_13 : decode cX9_ended 13 = .ok (.iconst 1, 1) := by decide +kernel
theorem dX9_ended_14 : decode cX9_ended 14 = .ok (.if_icmp .ne 13, 3) := by decide +kernel
theorem dX9_ended_17 : decode cX9_ended 17 = .ok (.aload_n 0, 1) := by decide +kernel
theorem dX9_ended_18 : decode cX9_ended 18 = .ok (.getfield 78, 3) := by decide +kernel
theorem dX9_ended_21 : decode cX9_ended 21 = .ok (.getfield 291, 3) := by decide +kernel
theorem dX9_ended_24 : decode cX9_ended 24 = .ok (.goto 4, 3) := by decide +kernel
theorem dX9_ended_27 : decode cX9_ended 27 = .ok (.iconst (-1), 1) := by decide +kernel
theorem dX9_ended_28 : decode cX9_ended 28 = .ok (.ireturn, 1) := by decide +kernel
theorem dX9_rules_0 : decode cX9_rules 0 = .ok (.aload_n 0, 1) := by decide +kernel
theorem dX9_rules_1 : decode cX9_rules 1 = .ok (.getfield 39, 3) := by decide +kernel
theorem dX9_rules_4 : decode cX9_rules 4 = .ok (.aload_n 0, 1) := by decide +kernel
theorem dX9_rules_5 : decode cX9_rules 5 = .ok (.getfield 9, 3) := by decide +kernel
theorem dX9_rules_8 : decode cX9_rules 8 = .ok (.aload_n 0, 1) := by decide +kernel
theorem dX9_rules_9 : decode cX9_rules 9 = .ok (.getfield 13, 3) := by decide +kernel
theorem dX9_rules_12 : decode cX9_rules 12 = .ok (.sipush 300, 3) := by decide +kernel
theorem dX9_rules_15 : decode cX9_rules 15 = .ok (.invokevirtual 90, 3) := by decide +kernel
theorem dX9_rules_18 : decode cX9_rules 18 = .ok (.aload_n 0, 1) := by decide +kernel
theorem dX9_rules_19 : decode cX9_rules 19 = .ok (.getfield 62, 3) := by decide +kernel
theorem dX9_rules_22 : decode cX9_rules 22 = .ok (.aload_n 0, 1) := by decide +kernel
theorem dX9_rules_23 : decode cX9_rules 23 = .ok (.getfield 23, 3) := by decide +kernel
theorem dX9_rules_26 : decode cX9_rules 26 = .ok (.invokevirtual 294, 3) := by decide +kernel
theorem dX9_rules_29 : decode cX9_rules 29 = .ok (.istore_n 1, 1) := by decide +kernel
theorem dX9_rules_30 : decode cX9_rules 30 = .ok (.iload_n 1, 1) := by decide +kernel
theorem dX9_rules_31 : decode cX9_rules 31 = .ok (.iconst (-1), 1) := by decide +kernel
theorem dX9_rules_32 : decode cX9_rules 32 = .ok (.if_icmp .eq 20, 3) := by decide +kernel
theorem dX9_rules_35 : decode cX9_rules 35 = .ok (.aload_n 0, 1) := by decide +kernel
theorem dX9_rules_36 : decode cX9_rules 36 = .ok (.getfield 62, 3) := by decide +kernel
theorem dX9_rules_39 : decode cX9_rules 39 = .ok (.getfield 295, 3) := by decide +kernel
theorem dX9_rules_42 : decode cX9_rules 42 = .ok (.aload_n 0, 1) := by decide +kernel
theorem dX9_rules_43 : decode cX9_rules 43 = .ok (.getfield 23, 3) := by decide +kernel
theorem dX9_rules_46 : decode cX9_rules 46 = .ok (.getfield 297, 3) := by decide +kernel
theorem dX9_rules_49 : decode cX9_rules 49 = .ok (.invokestatic 300, 3) := by decide +kernel
theorem dX9_rules_52 : decode cX9_rules 52 = .ok (.aload_n 0, 1) := by decide +kernel
theorem dX9_rules_53 : decode cX9_rules 53 = .ok (.iload_n 1, 1) := by decide +kernel
theorem dX9_rules_54 : decode cX9_rules 54 = .ok (.invokevirtual 103, 3) := by decide +kernel
theorem dX9_rules_57 : decode cX9_rules 57 = .ok (.ireturn, 1) := by decide +kernel
theorem dX9_turn_0 : decode cX9_turn 0 = .ok (.iload_n 1, 1) := by decide +kernel
theorem dX9_turn_1 : decode cX9_turn 1 = .ok (.invokestatic 140, 3) := by decide +kernel
theorem dX9_turn_4 : decode cX9_turn 4 = .ok (.ifCond .eq 17, 3) := by decide +kernel
theorem dX9_turn_7 : decode cX9_turn 7 = .ok (.aload_n 0, 1) := by decide +kernel
theorem dX9_turn_8 : decode cX9_turn 8 = .ok (.getfield 23, 3) := by decide +kernel
theorem dX9_turn_11 : decode cX9_turn 11 = .ok (.getfield 297, 3) := by decide +kernel
theorem dX9_turn_14 : decode cX9_turn 14 = .ok (.iload_n 1, 1) := by decide +kernel
theorem dX9_turn_15 : decode cX9_turn 15 = .ok (.invokestatic 123, 3) := by decide +kernel
theorem dX9_turn_18 : decode cX9_turn 18 = .ok (.goto 4, 3) := by decide +kernel
theorem dX9_turn_21 : decode cX9_turn 21 = .ok (.iconst (-1), 1) := by decide +kernel
theorem dX9_turn_22 : decode cX9_turn 22 = .ok (.ireturn, 1) := by decide +kernel
theorem dX9_content_0 : decode cX9_content 0 = .ok (.aload_n 0, 1) := by decide +kernel
theorem dX9_content_1 : decode cX9_content 1 = .ok (.getfield 23, 3) := by decide +kernel
theorem dX9_content_4 : decode cX9_content 4 = .ok (.iload_n 1, 1) := by decide +kernel
theorem dX9_content_5 : decode cX9_content 5 = .ok (.invokevirtual 147, 3) := by decide +kernel
theorem dX9_content_8 : decode cX9_content 8 = .ok (.ifCond .eq 14, 3) := by decide +kernel
theorem dX9_content_11 : decode cX9_content 11 = .ok (.aload_n 0, 1) := by decide +kernel
theorem dX9_content_12 : decode cX9_content 12 = .ok (.getfield 23, 3) := by decide +kernel
theorem dX9_content_15 : decode cX9_content 15 = .ok (.iload_n 1, 1) := by decide +kernel
theorem dX9_content_16 : decode cX9_content 16 = .ok (.invokevirtual 304, 3) := by decide +kernel
theorem dX9_content_19 : decode cX9_content 19 = .ok (.goto 4, 3) := by decide +kernel
theorem dX9_content_22 : decode cX9_content 22 = .ok (.iconst (-1), 1) := by decide +kernel
theorem dX9_content_23 : decode cX9_content 23 = .ok (.ireturn, 1) := by decide +kernel
theorem dX9_trade_0 : decode cX9_trade 0 = .ok (.iconst 0, 1) := by decide +kernel
theorem dX9_trade_1 : decode cX9_trade 1 = .ok (.istore_n 1, 1) := by decide +kernel
theorem dX9_trade_2 : decode cX9_trade 2 = .ok (.iconst 0, 1) := by decide +kernel
theorem dX9_trade_3 : decode cX9_trade 3 = .ok (.istore_n 2, 1) := by decide +kernel
theorem dX9_trade_4 : decode cX9_trade 4 = .ok (.iload_n 2, 1) := by decide +kernel
theorem dX9_trade_5 : decode cX9_trade 5 = .ok (.bipush 100, 2) := by decide +kernel
theorem dX9_trade_7 : decode cX9_trade 7 = .ok (.if_icmp .ge 22, 3) := by decide +kernel
theorem dX9_trade_10 : decode cX9_trade 10 = .ok (.aload_n 0, 1) := by decide +kernel
theorem dX9_trade_11 : decode cX9_trade 11 = .ok (.getfield 23, 3) := by decide +kernel
theorem dX9_trade_14 : decode cX9_trade 14 = .ok (.invokevirtual 307, 3) := by decide +kernel
theorem dX9_trade_17 : decode cX9_trade 17 = .ok (.ifCond .eq 12, 3) := by decide +kernel
theorem dX9_trade_20 : decode cX9_trade 20 = .ok (.iinc 1 1, 3) := by decide +kernel
theorem dX9_trade_23 : decode cX9_trade 23 = .ok (.iinc 2 1, 3) := by decide +kernel
theorem dX9_trade_26 : decode cX9_trade 26 = .ok (.goto (-22), 3) := by decide +kernel
theorem dX9_trade_29 : decode cX9_trade 29 = .ok (.iload_n 1, 1) := by decide +kernel
theorem dX9_trade_30 : decode cX9_trade 30 = .ok (.ireturn, 1) := by decide +kernel
theorem dX9_drawn_0 : decode cX9_drawn 0 = .ok (.aload_n 0, 1) := by decide +kernel
theorem dX9_drawn_1 : decode cX9_drawn 1 = .ok (.getfield 13, 3) := by decide +kernel
theorem dX9_drawn_4 : decode cX9_drawn 4 = .ok (.istore_n 3, 1) := by decide +kernel
theorem dX9_drawn_5 : decode cX9_drawn 5 = .ok (.aload_n 0, 1) := by decide +kernel
theorem dX9_drawn_6 : decode cX9_drawn 6 = .ok (.iconst 0, 1) := by decide +kernel
theorem dX9_drawn_7 : decode cX9_drawn 7 = .ok (.putfield 13, 3) := by decide +kernel
theorem dX9_drawn_10 : decode cX9_drawn 10 = .ok (.iload_n 1, 1) := by decide +kernel
theorem dX9_drawn_11 : decode cX9_drawn 11 = .ok (.iconst 1, 1) := by decide +kernel
theorem dX9_drawn_12 : decode cX9_drawn 12 = .ok (.if_icmp .lt 30, 3) := by decide +kernel
theorem dX9_drawn_15 : decode cX9_drawn 15 = .ok (.iload_n 1, 1) := by decide +kernel
theorem dX9_drawn_16 : decode cX9_drawn 16 = .ok (.bipush 40, 2) := by decide +kernel
theorem dX9_drawn_18 : decode cX9_drawn 18 = .ok (.if_icmp .gt 24, 3) := by decide +kernel
theorem dX9_drawn_21 : decode cX9_drawn 21 = .ok (.aload_n 0, 1) := by decide +kernel
theorem dX9_drawn_22 : decode cX9_drawn 22 = .ok (.getfield 23, 3) := by decide +kernel
theorem dX9_drawn_25 : decode cX9_drawn 25 = .ok (.getfield 234, 3) := by decide +kernel
theorem dX9_drawn_28 : decode cX9_drawn 28 = .ok (.ifCond .eq 14, 3) := by decide +kernel
theorem dX9_drawn_31 : decode cX9_drawn 31 = .ok (.iload_n 3, 1) := by decide +kernel
theorem dX9_drawn_32 : decode cX9_drawn 32 = .ok (.aload_n 0, 1) := by decide +kernel
theorem dX9_drawn_33 : decode cX9_drawn 33 = .ok (.getfield 23, 3) := by decide +kernel
theorem dX9_drawn_36 : decode cX9_drawn 36 = .ok (.getfield 234, 3) := by decide +kernel
theorem dX9_drawn_39 : decode cX9_drawn 39 = .ok (.if_icmp .eq 5, 3) := by decide +kernel
theorem dX9_drawn_42 : decode cX9_drawn 42 = .ok (.iconst 0, 1) := by decide +kernel
theorem dX9_drawn_43 : decode cX9_drawn 43 = .ok (.ireturn, 1) := by decide +kernel
theorem dX9_drawn_44 : decode cX9_drawn 44 = .ok (.aload_n 0, 1) := by decide +kernel
theorem dX9_drawn_45 : decode cX9_drawn 45 = .ok (.getfield 23, 3) := by decide +kernel
theorem dX9_drawn_48 : decode cX9_drawn 48 = .ok (.invokevirtual 310, 3) := by decide +kernel
theorem dX9_drawn_51 : decode cX9_drawn 51 = .ok (.ifCond .eq 11, 3) := by decide +kernel
theorem dX9_drawn_54 : decode cX9_drawn 54 = .ok (.aload_n 0, 1) := by decide +kernel
theorem dX9_drawn_55 : decode cX9_drawn 55 = .ok (.iload_n 3, 1) := by decide +kernel
theorem dX9_drawn_56 : decode cX9_drawn 56 = .ok (.invokevirtual 313, 3) := by decide +kernel
theorem dX9_drawn_59 : decode cX9_drawn 59 = .ok (.ifCond .ne 5, 3) := by decide +kernel
theorem dX9_drawn_62 : decode cX9_drawn 62 = .ok (.iconst 0, 1) := by decide +kernel
theorem dX9_drawn_63 : decode cX9_drawn 63 = .ok (.ireturn, 1) := by decide +kernel
theorem dX9_drawn_64 : decode cX9_drawn 64 = .ok (.aload_n 0, 1) := by decide +kernel
theorem dX9_drawn_65 : decode cX9_drawn 65 = .ok (.iload_n 1, 1) := by decide +kernel
theorem dX9_drawn_66 : decode cX9_drawn 66 = .ok (.iload_n 2, 1) := by decide +kernel
theorem dX9_drawn_67 : decode cX9_drawn 67 = .ok (.invokevirtual 316, 3) := by decide +kernel
theorem dX9_drawn_70 : decode cX9_drawn 70 = .ok (.iconst 1, 1) := by decide +kernel
theorem dX9_drawn_71 : decode cX9_drawn 71 = .ok (.ireturn, 1) := by decide +kernel
theorem dX9_areWays_0 : decode cX9_areWays 0 = .ok (.iconst 0, 1) := by decide +kernel
theorem dX9_areWays_1 : decode cX9_areWays 1 = .ok (.istore_n 2, 1) := by decide +kernel
theorem dX9_areWays_2 : decode cX9_areWays 2 = .ok (.iload_n 2, 1) := by decide +kernel
theorem dX9_areWays_3 : decode cX9_areWays 3 = .ok (.iload_n 1, 1) := by decide +kernel
theorem dX9_areWays_4 : decode cX9_areWays 4 = .ok (.if_icmp .ge 29, 3) := by decide +kernel
theorem dX9_areWays_7 : decode cX9_areWays 7 = .ok (.aload_n 0, 1) := by decide +kernel
theorem dX9_areWays_8 : decode cX9_areWays 8 = .ok (.getfield 23, 3) := by decide +kernel
theorem dX9_areWays_11 : decode cX9_areWays 11 = .ok (.aload_n 0, 1) := by decide +kernel
theorem dX9_areWays_12 : decode cX9_areWays 12 = .ok (.getfield 9, 3) := by decide +kernel
theorem dX9_areWays_15 : decode cX9_areWays 15 = .ok (.iload_n 2, 1) := by decide +kernel
theorem dX9_areWays_16 : decode cX9_areWays 16 = .ok (.invokestatic 123, 3) := by decide +kernel
theorem dX9_areWays_19 : decode cX9_areWays 19 = .ok (.invokevirtual 205, 3) := by decide +kernel
theorem dX9_areWays_22 : decode cX9_areWays 22 = .ok (.ifCond .ne 5, 3) := by decide +kernel
theorem dX9_areWays_25 : decode cX9_areWays 25 = .ok (.iconst 0, 1) := by decide +kernel
theorem dX9_areWays_26 : decode cX9_areWays 26 = .ok (.ireturn, 1) := by decide +kernel
theorem dX9_areWays_27 : decode cX9_areWays 27 = .ok (.iinc 2 1, 3) := by decide +kernel
theorem dX9_areWays_30 : decode cX9_areWays 30 = .ok (.goto (-28), 3) := by decide +kernel
theorem dX9_areWays_33 : decode cX9_areWays 33 = .ok (.iconst 1, 1) := by decide +kernel
theorem dX9_areWays_34 : decode cX9_areWays 34 = .ok (.ireturn, 1) := by decide +kernel
theorem dX9_drawTellings_0 : decode cX9_drawTellings 0 = .ok (.aload_n 0, 1) := by decide +kernel
theorem dX9_drawTellings_1 : decode cX9_drawTellings 1 = .ok (.getfield 23, 3) := by decide +kernel
theorem dX9_drawTellings_4 : decode cX9_drawTellings 4 = .ok (.getfield 156, 3) := by decide +kernel
theorem dX9_drawTellings_7 : decode cX9_drawTellings 7 = .ok (.iconst 0, 1) := by decide +kernel
theorem dX9_drawTellings_8 : decode cX9_drawTellings 8 = .ok (.putfield 174, 3) := by decide +kernel
theorem dX9_drawTellings_11 : decode cX9_drawTellings 11 = .ok (.iload_n 2, 1) := by decide +kernel
theorem dX9_drawTellings_12 : decode cX9_drawTellings 12 = .ok (.istore_n 3, 1) := by decide +kernel
theorem dX9_drawTellings_13 : decode cX9_drawTellings 13 = .ok (.iconst 0, 1) := by decide +kernel
theorem dX9_drawTellings_14 : decode cX9_drawTellings 14 = .ok (.istore 4, 2) := by decide +kernel
theorem dX9_drawTellings_16 : decode cX9_drawTellings 16 = .ok (.iload 4, 2) := by decide +kernel
theorem dX9_drawTellings_18 : decode cX9_drawTellings 18 = .ok (.iload_n 1, 1) := by decide +kernel
theorem dX9_drawTellings_19 : decode cX9_drawTellings 19 = .ok (.if_icmp .ge 73, 3) := by decide +kernel
theorem dX9_drawTellings_22 : decode cX9_drawTellings 22 = .ok (.iload_n 3, 1) := by decide +kernel
theorem dX9_drawTellings_23 : decode cX9_drawTellings 23 = .ok (.invokestatic 319, 3) := by decide +kernel
theorem dX9_drawTellings_26 : decode cX9_drawTellings 26 = .ok (.istore_n 3, 1) := by decide +kernel
theorem dX9_drawTellings_27 : decode cX9_drawTellings 27 = .ok (.iload_n 3, 1) := by decide +kernel
theorem dX9_drawTellings_28 : decode cX9_drawTellings 28 = .ok (.aload_n 0, 1) := by decide +kernel
theorem dX9_drawTellings_29 : decode cX9_drawTellings 29 = .ok (.getfield 23, 3) := by decide +kernel
theorem dX9_drawTellings_32 : decode cX9_drawTellings 32 = .ok (.getfield 234, 3) := by decide +kernel
theorem dX9_drawTellings_35 : decode cX9_drawTellings 35 = .ok (.invokestatic 322, 3) := by decide +kernel
theorem dX9_drawTellings_38 : decode cX9_drawTellings 38 = .ok (.istore 5, 2) := by decide +kernel
theorem dX9_drawTellings_40 : decode cX9_drawTellings 40 = .ok (.iload_n 3, 1) := by decide +kernel
theorem dX9_drawTellings_41 : decode cX9_drawTellings 41 = .ok (.invokestatic 319, 3) := by decide +kernel
theorem dX9_drawTellings_44 : decode cX9_drawTellings 44 = .ok (.istore_n 3, 1) := by decide +kernel
theorem dX9_drawTellings_45 : decode cX9_drawTellings 45 = .ok (.iload_n 3, 1) := by decide +kernel
theorem dX9_drawTellings_46 : decode cX9_drawTellings 46 = .ok (.bipush 30, 2) := by decide +kernel
theorem dX9_drawTellings_48 : decode cX9_drawTellings 48 = .ok (.invokestatic 322, 3) := by decide +kernel
theorem dX9_drawTellings_51 : decode cX9_drawTellings 51 = .ok (.istore 6, 2) := by decide +kernel
theorem dX9_drawTellings_53 : decode cX9_drawTellings 53 = .ok (.aload_n 0, 1) := by decide +kernel
theorem dX9_drawTellings_54 : decode cX9_drawTellings 54 = .ok (.getfield 23, 3) := by decide +kernel
theorem dX9_drawTellings_57 : decode cX9_drawTellings 57 = .ok (.getfield 156, 3) := by decide +kernel
theorem dX9_drawTellings_60 : decode cX9_drawTellings 60 = .ok (.iload 5, 2) := by decide +kernel
theorem dX9_drawTellings_62 : decode cX9_drawTellings 62 = .ok (.iload 6, 2) := by decide +kernel
theorem dX9_drawTellings_64 : decode cX9_drawTellings 64 = .ok (.aload_n 0, 1) := by decide +kernel
theorem dX9_drawTellings_65 : decode cX9_drawTellings 65 = .ok (.getfield 23, 3) := by decide +kernel
theorem dX9_drawTellings_68 : decode cX9_drawTellings 68 = .ok (.aload_n 0, 1) := by decide +kernel
theorem dX9_drawTellings_69 : decode cX9_drawTellings 69 = .ok (.getfield 9, 3) := by decide +kernel
theorem dX9_drawTellings_72 : decode cX9_drawTellings 72 = .ok (.iload 5, 2) := by decide +kernel
theorem dX9_drawTellings_74 : decode cX9_drawTellings 74 = .ok (.invokestatic 123, 3) := by decide +kernel
theorem dX9_drawTellings_77 : decode cX9_drawTellings 77 = .ok (.iload 6, 2) := by decide +kernel
theorem dX9_drawTellings_79 : decode cX9_drawTellings 79 = .ok (.invokevirtual 325, 3) := by decide +kernel
theorem dX9_drawTellings_82 : decode cX9_drawTellings 82 = .ok (.invokevirtual 170, 3) := by decide +kernel
theorem dX9_drawTellings_85 : decode cX9_drawTellings 85 = .ok (.pop, 1) := by decide +kernel
theorem dX9_drawTellings_86 : decode cX9_drawTellings 86 = .ok (.iinc 4 1, 3) := by decide +kernel
theorem dX9_drawTellings_89 : decode cX9_drawTellings 89 = .ok (.goto (-73), 3) := by decide +kernel
theorem dX9_drawTellings_92 : decode cX9_drawTellings 92 = .ok (.return_, 1) := by decide +kernel
theorem dX9_drawNext_0 : decode cX9_drawNext 0 = .ok (.iload_n 0, 1) := by decide +kernel
theorem dX9_drawNext_1 : decode cX9_drawNext 1 = .ok (.ldc_w 328, 3) := by decide +kernel
theorem dX9_drawNext_4 : decode cX9_drawNext 4 = .ok (.imul, 1) := by decide +kernel
theorem dX9_drawNext_5 : decode cX9_drawNext 5 = .ok (.sipush 12345, 3) := by decide +kernel
theorem dX9_drawNext_8 : decode cX9_drawNext 8 = .ok (.iadd, 1) := by decide +kernel
theorem dX9_drawNext_9 : decode cX9_drawNext 9 = .ok (.ireturn, 1) := by decide +kernel
theorem dX9_drawOf_0 : decode cX9_drawOf 0 = .ok (.iload_n 1, 1) := by decide +kernel
theorem dX9_drawOf_1 : decode cX9_drawOf 1 = .ok (.ifCond .le 12, 3) := by decide +kernel
theorem dX9_drawOf_4 : decode cX9_drawOf 4 = .ok (.iload_n 0, 1) := by decide +kernel
theorem dX9_drawOf_5 : decode cX9_drawOf 5 = .ok (.bipush 8, 2) := by decide +kernel
theorem dX9_drawOf_7 : decode cX9_drawOf 7 = .ok (.iushr, 1) := by decide +kernel
theorem dX9_drawOf_8 : decode cX9_drawOf 8 = .ok (.iload_n 1, 1) := by decide +kernel
theorem dX9_drawOf_9 : decode cX9_drawOf 9 = .ok (.irem, 1) := by decide +kernel
theorem dX9_drawOf_10 : decode cX9_drawOf 10 = .ok (.goto 4, 3) := by decide +kernel
theorem dX9_drawOf_13 : decode cX9_drawOf 13 = .ok (.iconst 0, 1) := by decide +kernel
theorem dX9_drawOf_14 : decode cX9_drawOf 14 = .ok (.ireturn, 1) := by decide +kernel
theorem dX9_image_0 : decode cX9_image 0 = .ok (.aload_n 0, 1) := by decide +kernel
theorem dX9_image_1 : decode cX9_image 1 = .ok (.iload_n 1, 1) := by decide +kernel
theorem dX9_image_2 : decode cX9_image 2 = .ok (.invokevirtual 329, 3) := by decide +kernel
theorem dX9_image_5 : decode cX9_image 5 = .ok (.astore_n 2, 1) := by decide +kernel
theorem dX9_image_6 : decode cX9_image 6 = .ok (.aload_n 2, 1) := by decide +kernel
theorem dX9_image_7 : decode cX9_image 7 = .ok (.ifnonnull 5, 3) := by decide +kernel
theorem dX9_image_10 : decode cX9_image 10 = .ok (.iconst 0, 1) := by decide +kernel
theorem dX9_image_11 : decode cX9_image 11 = .ok (.ireturn, 1) := by decide +kernel
theorem dX9_image_12 : decode cX9_image 12 = .ok (.aload_n 2, 1) := by decide +kernel
theorem dX9_image_13 : decode cX9_image 13 = .ok (.aload_n 0, 1) := by decide +kernel
theorem dX9_image_14 : decode cX9_image 14 = .ok (.getfield 23, 3) := by decide +kernel
theorem dX9_image_17 : decode cX9_image 17 = .ok (.invokevirtual 100, 3) := by decide +kernel
theorem dX9_image_20 : decode cX9_image 20 = .ok (.aload_n 0, 1) := by decide +kernel
theorem dX9_image_21 : decode cX9_image 21 = .ok (.dup, 1) := by decide +kernel
theorem dX9_image_22 : decode cX9_image 22 = .ok (.getfield 33, 3) := by decide +kernel
theorem dX9_image_25 : decode cX9_image 25 = .ok (.iconst 1, 1) := by decide +kernel
theorem dX9_image_26 : decode cX9_image 26 = .ok (.iload_n 1, 1) := by decide +kernel
theorem dX9_image_27 : decode cX9_image 27 = .ok (.ishl, 1) := by decide +kernel
theorem dX9_image_28 : decode cX9_image 28 = .ok (.ior, 1) := by decide +kernel
theorem dX9_image_29 : decode cX9_image 29 = .ok (.putfield 33, 3) := by decide +kernel
theorem dX9_image_32 : decode cX9_image 32 = .ok (.iconst 1, 1) := by decide +kernel
theorem dX9_image_33 : decode cX9_image 33 = .ok (.ireturn, 1) := by decide +kernel
theorem dX9_restore_0 : decode cX9_restore 0 = .ok (.aload_n 0, 1) := by decide +kernel
theorem dX9_restore_1 : decode cX9_restore 1 = .ok (.iload_n 1, 1) := by decide +kernel
theorem dX9_restore_2 : decode cX9_restore 2 = .ok (.invokevirtual 329, 3) := by decide +kernel
theorem dX9_restore_5 : decode cX9_restore 5 = .ok (.astore_n 2, 1) := by decide +kernel
theorem dX9_restore_6 : decode cX9_restore 6 = .ok (.aload_n 2, 1) := by decide +kernel
theorem dX9_restore_7 : decode cX9_restore 7 = .ok (.ifnull 14, 3) := by decide +kernel
theorem dX9_restore_10 : decode cX9_restore 10 = .ok (.aload_n 0, 1) := by decide +kernel
theorem dX9_restore_11 : decode cX9_restore 11 = .ok (.getfield 33, 3) := by decide +kernel
theorem dX9_restore_14 : decode cX9_restore 14 = .ok (.iload_n 1, 1) := by decide +kernel
theorem dX9_restore_15 : decode cX9_restore 15 = .ok (.iushr, 1) := by decide +kernel
theorem dX9_restore_16 : decode cX9_restore 16 = .ok (.iconst 1, 1) := by decide +kernel
theorem dX9_restore_17 : decode cX9_restore 17 = .ok (.iand, 1) := by decide +kernel
theorem dX9_restore_18 : decode cX9_restore 18 = .ok (.ifCond .ne 5, 3) := by decide +kernel
theorem dX9_restore_21 : decode cX9_restore 21 = .ok (.iconst 0, 1) := by decide +kernel
theorem dX9_restore_22 : decode cX9_restore 22 = .ok (.ireturn, 1) := by decide +kernel
theorem dX9_restore_23 : decode cX9_restore 23 = .ok (.aload_n 0, 1) := by decide +kernel
theorem dX9_restore_24 : decode cX9_restore 24 = .ok (.getfield 23, 3) := by decide +kernel
theorem dX9_restore_27 : decode cX9_restore 27 = .ok (.aload_n 2, 1) := by decide +kernel
theorem dX9_restore_28 : decode cX9_restore 28 = .ok (.invokevirtual 100, 3) := by decide +kernel
theorem dX9_restore_31 : decode cX9_restore 31 = .ok (.iconst 1, 1) := by decide +kernel
theorem dX9_restore_32 : decode cX9_restore 32 = .ok (.ireturn, 1) := by decide +kernel
theorem dX9_imagePlace_0 : decode cX9_imagePlace 0 = .ok (.iload_n 1, 1) := by decide +kernel
theorem dX9_imagePlace_1 : decode cX9_imagePlace 1 = .ok (.ifCond .ne 8, 3) := by decide +kernel
theorem dX9_imagePlace_4 : decode cX9_imagePlace 4 = .ok (.aload_n 0, 1) := by decide +kernel
theorem dX9_imagePlace_5 : decode cX9_imagePlace 5 = .ok (.getfield 27, 3) := by decide +kernel
theorem dX9_imagePlace_8 : decode cX9_imagePlace 8 = .ok (.areturn, 1) := by decide +kernel
theorem dX9_imagePlace_9 : decode cX9_imagePlace 9 = .ok (.iload_n 1, 1) := by decide +kernel
theorem dX9_imagePlace_10 : decode cX9_imagePlace 10 = .ok (.iconst 1, 1) := by decide +kernel
theorem dX9_imagePlace_11 : decode cX9_imagePlace 11 = .ok (.if_icmp .ne 10, 3) := by decide +kernel
theorem dX9_imagePlace_14 : decode cX9_imagePlace 14 = .ok (.aload_n 0, 1) := by decide +kernel
theorem dX9_imagePlace_15 : decode cX9_imagePlace 15 = .ok (.getfield 30, 3) := by decide +kernel
theorem dX9_imagePlace_18 : decode cX9_imagePlace 18 = .ok (.goto 4, 3) := by decide +kernel
theorem dX9_imagePlace_21 : decode cX9_imagePlace 21 = .ok (.aconst_null, 1) := by decide +kernel
theorem dX9_imagePlace_22 : decode cX9_imagePlace 22 = .ok (.areturn, 1) := by decide +kernel
theorem dX9_count_0 : decode cX9_count 0 = .ok (.iload_n 1, 1) := by decide +kernel
theorem dX9_count_1 : decode cX9_count 1 = .ok (.tableswitch 75 0 4 #[35, 43, 51, 62, 70], 35) := by decide +kernel
theorem dX9_count_36 : decode cX9_count 36 = .ok (.aload_n 0, 1) := by decide +kernel
theorem dX9_count_37 : decode cX9_count 37 = .ok (.getfield 23, 3) := by decide +kernel
theorem dX9_count_40 : decode cX9_count 40 = .ok (.getfield 333, 3) := by decide +kernel
theorem dX9_count_43 : decode cX9_count 43 = .ok (.ireturn, 1) := by decide +kernel
theorem dX9_count_44 : decode cX9_count 44 = .ok (.aload_n 0, 1) := by decide +kernel
theorem dX9_count_45 : decode cX9_count 45 = .ok (.getfield 23, 3) := by decide +kernel
theorem dX9_count_48 : decode cX9_count 48 = .ok (.getfield 234, 3) := by decide +kernel
theorem dX9_count_51 : decode cX9_count 51 = .ok (.ireturn, 1) := by decide +kernel
theorem dX9_count_52 : decode cX9_count 52 = .ok (.aload_n 0, 1) := by decide +kernel
theorem dX9_count_53 : decode cX9_count 53 = .ok (.getfield 23, 3) := by decide +kernel
theorem dX9_count_56 : decode cX9_count 56 = .ok (.getfield 156, 3) := by decide +kernel
theorem dX9_count_59 : decode cX9_count 59 = .ok (.getfield 174, 3) := by decide +kernel
theorem dX9_count_62 : decode cX9_count 62 = .ok (.ireturn, 1) := by decide +kernel
theorem dX9_count_63 : decode cX9_count 63 = .ok (.aload_n 0, 1) := by decide +kernel
theorem dX9_count_64 : decode cX9_count 64 = .ok (.getfield 23, 3) := by decide +kernel
theorem dX9_count_67 : decode cX9_count 67 = .ok (.invokevirtual 336, 3) := by decide +kernel
theorem dX9_count_70 : decode cX9_count 70 = .ok (.ireturn, 1) := by decide +kernel
theorem dX9_count_71 : decode cX9_count 71 = .ok (.aload_n 0, 1) := by decide +kernel
theorem dX9_count_72 : decode cX9_count 72 = .ok (.getfield 13, 3) := by decide +kernel
theorem dX9_count_75 : decode cX9_count 75 = .ok (.ireturn, 1) := by decide +kernel
theorem dX9_count_76 : decode cX9_count 76 = .ok (.iconst (-1), 1) := by decide +kernel
theorem dX9_count_77 : decode cX9_count 77 = .ok (.ireturn, 1) := by decide +kernel
theorem dX9_isHour_0 : decode cX9_isHour 0 = .ok (.iload_n 0, 1) := by decide +kernel
theorem dX9_isHour_1 : decode cX9_isHour 1 = .ok (.ifCond .lt 13, 3) := by decide +kernel
theorem dX9_isHour_4 : decode cX9_isHour 4 = .ok (.iload_n 0, 1) := by decide +kernel
theorem dX9_isHour_5 : decode cX9_isHour 5 = .ok (.bipush 30, 2) := by decide +kernel
theorem dX9_isHour_7 : decode cX9_isHour 7 = .ok (.if_icmp .ge 7, 3) := by decide +kernel
theorem dX9_isHour_10 : decode cX9_isHour 10 = .ok (.iconst 1, 1) := by decide +kernel
theorem dX9_isHour_11 : decode cX9_isHour 11 = .ok (.goto 4, 3) := by decide +kernel
theorem dX9_isHour_14 : decode cX9_isHour 14 = .ok (.iconst 0, 1) := by decide +kernel
theorem dX9_isHour_15 : decode cX9_isHour 15 = .ok (.ireturn, 1) := by decide +kernel
theorem dX9_at_0 : decode cX9_at 0 = .ok (.aload_n 0, 1) := by decide +kernel
theorem dX9_at_1 : decode cX9_at 1 = .ok (.ifnull 19, 3) := by decide +kernel
theorem dX9_at_4 : decode cX9_at 4 = .ok (.iload_n 1, 1) := by decide +kernel
theorem dX9_at_5 : decode cX9_at 5 = .ok (.ifCond .lt 15, 3) := by decide +kernel
theorem dX9_at_8 : decode cX9_at 8 = .ok (.iload_n 1, 1) := by decide +kernel
theorem dX9_at_9 : decode cX9_at 9 = .ok (.aload_n 0, 1) := by decide +kernel
theorem dX9_at_10 : decode cX9_at 10 = .ok (.arraylength, 1) := by decide +kernel
theorem dX9_at_11 : decode cX9_at 11 = .ok (.if_icmp .ge 9, 3) := by decide +kernel
theorem dX9_at_14 : decode cX9_at 14 = .ok (.aload_n 0, 1) := by decide +kernel
theorem dX9_at_15 : decode cX9_at 15 = .ok (.iload_n 1, 1) := by decide +kernel
theorem dX9_at_16 : decode cX9_at 16 = .ok (.iaload, 1) := by decide +kernel
theorem dX9_at_17 : decode cX9_at 17 = .ok (.goto 4, 3) := by decide +kernel
theorem dX9_at_20 : decode cX9_at 20 = .ok (.iconst 0, 1) := by decide +kernel
theorem dX9_at_21 : decode cX9_at 21 = .ok (.ireturn, 1) := by decide +kernel
theorem dX9_longAt_0 : decode cX9_longAt 0 = .ok (.aload_n 0, 1) := by decide +kernel
theorem dX9_longAt_1 : decode cX9_longAt 1 = .ok (.ifnull 19, 3) := by decide +kernel
theorem dX9_longAt_4 : decode cX9_longAt 4 = .ok (.iload_n 1, 1) := by decide +kernel
theorem dX9_longAt_5 : decode cX9_longAt 5 = .ok (.ifCond .lt 15, 3) := by decide +kernel
theorem dX9_longAt_8 : decode cX9_longAt 8 = .ok (.iload_n 1, 1) := by decide +kernel
theorem dX9_longAt_9 : decode cX9_longAt 9 = .ok (.aload_n 0, 1) := by decide +kernel
theorem dX9_longAt_10 : decode cX9_longAt 10 = .ok (.arraylength, 1) := by decide +kernel
theorem dX9_longAt_11 : decode cX9_longAt 11 = .ok (.if_icmp .ge 9, 3) := by decide +kernel
theorem dX9_longAt_14 : decode cX9_longAt 14 = .ok (.aload_n 0, 1) := by decide +kernel
theorem dX9_longAt_15 : decode cX9_longAt 15 = .ok (.iload_n 1, 1) := by decide +kernel
theorem dX9_longAt_16 : decode cX9_longAt 16 = .ok (.laload, 1) := by decide +kernel
theorem dX9_longAt_17 : decode cX9_longAt 17 = .ok (.goto 4, 3) := by decide +kernel
theorem dX9_longAt_20 : decode cX9_longAt 20 = .ok (.lconst 0, 1) := by decide +kernel
theorem dX9_longAt_21 : decode cX9_longAt 21 = .ok (.lreturn, 1) := by decide +kernel
theorem dX9_put_0 : decode cX9_put 0 = .ok (.aload_n 0, 1) := by decide +kernel
theorem dX9_put_1 : decode cX9_put 1 = .ok (.ifnull 17, 3) := by decide +kernel
theorem dX9_put_4 : decode cX9_put 4 = .ok (.iload_n 1, 1) := by decide +kernel
theorem dX9_put_5 : decode cX9_put 5 = .ok (.ifCond .lt 13, 3) := by decide +kernel
theorem dX9_put_8 : decode cX9_put 8 = .ok (.iload_n 1, 1) := by decide +kernel
theorem dX9_put_9 : decode cX9_put 9 = .ok (.aload_n 0, 1) := by decide +kernel
theorem dX9_put_10 : decode cX9_put 10 = .ok (.arraylength, 1) := by decide +kernel
theorem dX9_put_11 : decode cX9_put 11 = .ok (.if_icmp .ge 7, 3) := by decide +kernel
theorem dX9_put_14 : decode cX9_put 14 = .ok (.aload_n 0, 1) := by decide +kernel
theorem dX9_put_15 : decode cX9_put 15 = .ok (.iload_n 1, 1) := by decide +kernel
theorem dX9_put_16 : decode cX9_put 16 = .ok (.iload_n 2, 1) := by decide +kernel
theorem dX9_put_17 : decode cX9_put 17 = .ok (.iastore, 1) := by decide +kernel
theorem dX9_put_18 : decode cX9_put 18 = .ok (.return_, 1) := by decide +kernel
theorem dX9_putLong_0 : decode cX9_putLong 0 = .ok (.aload_n 0, 1) := by decide +kernel
theorem dX9_putLong_1 : decode cX9_putLong 1 = .ok (.ifnull 17, 3) := by decide +kernel
theorem dX9_putLong_4 : decode cX9_putLong 4 = .ok (.iload_n 1, 1) := by decide +kernel
theorem dX9_putLong_5 : decode cX9_putLong 5 = .ok (.ifCond .lt 13, 3) := by decide +kernel
theorem dX9_putLong_8 : decode cX9_putLong 8 = .ok (.iload_n 1, 1) := by decide +kernel
theorem dX9_putLong_9 : decode cX9_putLong 9 = .ok (.aload_n 0, 1) := by decide +kernel
theorem dX9_putLong_10 : decode cX9_putLong 10 = .ok (.arraylength, 1) := by decide +kernel
theorem dX9_putLong_11 : decode cX9_putLong 11 = .ok (.if_icmp .ge 7, 3) := by decide +kernel
theorem dX9_putLong_14 : decode cX9_putLong 14 = .ok (.aload_n 0, 1) := by decide +kernel
theorem dX9_putLong_15 : decode cX9_putLong 15 = .ok (.iload_n 1, 1) := by decide +kernel
theorem dX9_putLong_16 : decode cX9_putLong 16 = .ok (.lload_n 2, 1) := by decide +kernel
theorem dX9_putLong_17 : decode cX9_putLong 17 = .ok (.lastore, 1) := by decide +kernel
theorem dX9_putLong_18 : decode cX9_putLong 18 = .ok (.return_, 1) := by decide +kernel
theorem dX9_copyRow_0 : decode cX9_copyRow 0 = .ok (.aload_n 0, 1) := by decide +kernel
theorem dX9_copyRow_1 : decode cX9_copyRow 1 = .ok (.ifnull 7, 3) := by decide +kernel
theorem dX9_copyRow_4 : decode cX9_copyRow 4 = .ok (.aload_n 1, 1) := by decide +kernel
theorem dX9_copyRow_5 : decode cX9_copyRow 5 = .ok (.ifnonnull 4, 3) := by decide +kernel
theorem dX9_copyRow_8 : decode cX9_copyRow 8 = .ok (.return_, 1) := by decide +kernel
theorem dX9_copyRow_9 : decode cX9_copyRow 9 = .ok (.iconst 0, 1) := by decide +kernel
theorem dX9_copyRow_10 : decode cX9_copyRow 10 = .ok (.istore_n 2, 1) := by decide +kernel
theorem dX9_copyRow_11 : decode cX9_copyRow 11 = .ok (.iload_n 2, 1) := by decide +kernel
theorem dX9_copyRow_12 : decode cX9_copyRow 12 = .ok (.aload_n 0, 1) := by decide +kernel
theorem dX9_copyRow_13 : decode cX9_copyRow 13 = .ok (.arraylength, 1) := by decide +kernel
theorem dX9_copyRow_14 : decode cX9_copyRow 14 = .ok (.if_icmp .ge 21, 3) := by decide +kernel
theorem dX9_copyRow_17 : decode cX9_copyRow 17 = .ok (.iload_n 2, 1) := by decide +kernel
theorem dX9_copyRow_18 : decode cX9_copyRow 18 = .ok (.aload_n 1, 1) := by decide +kernel
theorem dX9_copyRow_19 : decode cX9_copyRow 19 = .ok (.arraylength, 1) := by decide +kernel
theorem dX9_copyRow_20 : decode cX9_copyRow 20 = .ok (.if_icmp .ge 15, 3) := by decide +kernel
theorem dX9_copyRow_23 : decode cX9_copyRow 23 = .ok (.aload_n 1, 1) := by decide +kernel
theorem dX9_copyRow_24 : decode cX9_copyRow 24 = .ok (.iload_n 2, 1) := by decide +kernel
theorem dX9_copyRow_25 : decode cX9_copyRow 25 = .ok (.aload_n 0, 1) := by decide +kernel
theorem dX9_copyRow_26 : decode cX9_copyRow 26 = .ok (.iload_n 2, 1) := by decide +kernel
theorem dX9_copyRow_27 : decode cX9_copyRow 27 = .ok (.iaload, 1) := by decide +kernel
theorem dX9_copyRow_28 : decode cX9_copyRow 28 = .ok (.iastore, 1) := by decide +kernel
theorem dX9_copyRow_29 : decode cX9_copyRow 29 = .ok (.iinc 2 1, 3) := by decide +kernel
theorem dX9_copyRow_32 : decode cX9_copyRow 32 = .ok (.goto (-21), 3) := by decide +kernel
theorem dX9_copyRow_35 : decode cX9_copyRow 35 = .ok (.return_, 1) := by decide +kernel
theorem dX9_copyLongs_0 : decode cX9_copyLongs 0 = .ok (.aload_n 0, 1) := by decide +kernel
theorem dX9_copyLongs_1 : decode cX9_copyLongs 1 = .ok (.ifnull 7, 3) := by decide +kernel
theorem dX9_copyLongs_4 : decode cX9_copyLongs 4 = .ok (.aload_n 1, 1) := by decide +kernel
theorem dX9_copyLongs_5 : decode cX9_copyLongs 5 = .ok (.ifnonnull 4, 3) := by decide +kernel
theorem dX9_copyLongs_8 : decode cX9_copyLongs 8 = .ok (.return_, 1) := by decide +kernel
theorem dX9_copyLongs_9 : decode cX9_copyLongs 9 = .ok (.iconst 0, 1) := by decide +kernel
theorem dX9_copyLongs_10 : decode cX9_copyLongs 10 = .ok (.istore_n 2, 1) := by decide +kernel
theorem dX9_copyLongs_11 : decode cX9_copyLongs 11 = .ok (.iload_n 2, 1) := by decide +kernel
theorem dX9_copyLongs_12 : decode cX9_copyLongs 12 = .ok (.aload_n 0, 1) := by decide +kernel
theorem dX9_copyLongs_13 : decode cX9_copyLongs 13 = .ok (.arraylength, 1) := by decide +kernel
theorem dX9_copyLongs_14 : decode cX9_copyLongs 14 = .ok (.if_icmp .ge 21, 3) := by decide +kernel
theorem dX9_copyLongs_17 : decode cX9_copyLongs 17 = .ok (.iload_n 2, 1) := by decide +kernel
theorem dX9_copyLongs_18 : decode cX9_copyLongs 18 = .ok (.aload_n 1, 1) := by decide +kernel
theorem dX9_copyLongs_19 : decode cX9_copyLongs 19 = .ok (.arraylength, 1) := by decide +kernel
theorem dX9_copyLongs_20 : decode cX9_copyLongs 20 = .ok (.if_icmp .ge 15, 3) := by decide +kernel
theorem dX9_copyLongs_23 : decode cX9_copyLongs 23 = .ok (.aload_n 1, 1) := by decide +kernel
theorem dX9_copyLongs_24 : decode cX9_copyLongs 24 = .ok (.iload_n 2, 1) := by decide +kernel
theorem dX9_copyLongs_25 : decode cX9_copyLongs 25 = .ok (.aload_n 0, 1) := by decide +kernel
theorem dX9_copyLongs_26 : decode cX9_copyLongs 26 = .ok (.iload_n 2, 1) := by decide +kernel
theorem dX9_copyLongs_27 : decode cX9_copyLongs 27 = .ok (.laload, 1) := by decide +kernel
theorem dX9_copyLongs_28 : decode cX9_copyLongs 28 = .ok (.lastore, 1) := by decide +kernel
theorem dX9_copyLongs_29 : decode cX9_copyLongs 29 = .ok (.iinc 2 1, 3) := by decide +kernel
theorem dX9_copyLongs_32 : decode cX9_copyLongs 32 = .ok (.goto (-21), 3) := by decide +kernel
theorem dX9_copyLongs_35 : decode cX9_copyLongs 35 = .ok (.return_, 1) := by decide +kernel
theorem dX9_toldBy_0 : decode cX9_toldBy 0 = .ok (.iload_n 0, 1) := by decide +kernel
theorem dX9_toldBy_1 : decode cX9_toldBy 1 = .ok (.iconst 1, 1) := by decide +kernel
theorem dX9_toldBy_2 : decode cX9_toldBy 2 = .ok (.if_icmp .gt 5, 3) := by decide +kernel
theorem dX9_toldBy_5 : decode cX9_toldBy 5 = .ok (.iload_n 1, 1) := by decide +kernel
theorem dX9_toldBy_6 : decode cX9_toldBy 6 = .ok (.ireturn, 1) := by decide +kernel
theorem dX9_toldBy_7 : decode cX9_toldBy 7 = .ok (.iconst 1, 1) := by decide +kernel
theorem dX9_toldBy_8 : decode cX9_toldBy 8 = .ok (.iload_n 0, 1) := by decide +kernel
theorem dX9_toldBy_9 : decode cX9_toldBy 9 = .ok (.iconst 2, 1) := by decide +kernel
theorem dX9_toldBy_10 : decode cX9_toldBy 10 = .ok (.isub, 1) := by decide +kernel
theorem dX9_toldBy_11 : decode cX9_toldBy 11 = .ok (.iconst 2, 1) := by decide +kernel
theorem dX9_toldBy_12 : decode cX9_toldBy 12 = .ok (.idiv, 1) := by decide +kernel
theorem dX9_toldBy_13 : decode cX9_toldBy 13 = .ok (.ishl, 1) := by decide +kernel
theorem dX9_toldBy_14 : decode cX9_toldBy 14 = .ok (.istore_n 2, 1) := by decide +kernel
theorem dX9_toldBy_15 : decode cX9_toldBy 15 = .ok (.iload_n 0, 1) := by decide +kernel
theorem dX9_toldBy_16 : decode cX9_toldBy 16 = .ok (.iconst 1, 1) := by decide +kernel
theorem dX9_toldBy_17 : decode cX9_toldBy 17 = .ok (.iand, 1) := by decide +kernel
theorem dX9_toldBy_18 : decode cX9_toldBy 18 = .ok (.ifCond .ne 11, 3) := by decide +kernel
theorem dX9_toldBy_21 : decode cX9_toldBy 21 = .ok (.iload_n 1, 1) := by decide +kernel
theorem dX9_toldBy_22 : decode cX9_toldBy 22 = .ok (.iload_n 2, 1) := by decide +kernel
theorem dX9_toldBy_23 : decode cX9_toldBy 23 = .ok (.iconst (-1), 1) := by decide +kernel
theorem dX9_toldBy_24 : decode cX9_toldBy 24 = .ok (.ixor, 1) := by decide +kernel
theorem dX9_toldBy_25 : decode cX9_toldBy 25 = .ok (.iand, 1) := by decide +kernel
theorem dX9_toldBy_26 : decode cX9_toldBy 26 = .ok (.goto 6, 3) := by decide +kernel
theorem dX9_toldBy_29 : decode cX9_toldBy 29 = .ok (.iload_n 1, 1) := by decide +kernel
theorem dX9_toldBy_30 : decode cX9_toldBy 30 = .ok (.iload_n 2, 1) := by decide +kernel
theorem dX9_toldBy_31 : decode cX9_toldBy 31 = .ok (.ior, 1) := by decide +kernel
theorem dX9_toldBy_32 : decode cX9_toldBy 32 = .ok (.ireturn, 1) := by decide +kernel
theorem dJ6_bitCount_0f7a4_0 : decode cJ6_bitCount_0f7a4 0 = .ok (.iload_n 0, 1) := by decide +kernel
theorem dJ6_bitCount_0f7a4_1 : decode cJ6_bitCount_0f7a4 1 = .ok (.iload_n 0, 1) := by decide +kernel
theorem dJ6_bitCount_0f7a4_2 : decode cJ6_bitCount_0f7a4 2 = .ok (.iconst 1, 1) := by decide +kernel
theorem dJ6_bitCount_0f7a4_3 : decode cJ6_bitCount_0f7a4 3 = .ok (.iushr, 1) := by decide +kernel
theorem dJ6_bitCount_0f7a4_4 : decode cJ6_bitCount_0f7a4 4 = .ok (.ldc_w 265, 3) := by decide +kernel
theorem dJ6_bitCount_0f7a4_7 : decode cJ6_bitCount_0f7a4 7 = .ok (.iand, 1) := by decide +kernel
theorem dJ6_bitCount_0f7a4_8 : decode cJ6_bitCount_0f7a4 8 = .ok (.isub, 1) := by decide +kernel
theorem dJ6_bitCount_0f7a4_9 : decode cJ6_bitCount_0f7a4 9 = .ok (.istore_n 0, 1) := by decide +kernel
theorem dJ6_bitCount_0f7a4_10 : decode cJ6_bitCount_0f7a4 10 = .ok (.iload_n 0, 1) := by decide +kernel
theorem dJ6_bitCount_0f7a4_11 : decode cJ6_bitCount_0f7a4 11 = .ok (.ldc_w 266, 3) := by decide +kernel
theorem dJ6_bitCount_0f7a4_14 : decode cJ6_bitCount_0f7a4 14 = .ok (.iand, 1) := by decide +kernel
theorem dJ6_bitCount_0f7a4_15 : decode cJ6_bitCount_0f7a4 15 = .ok (.iload_n 0, 1) := by decide +kernel
theorem dJ6_bitCount_0f7a4_16 : decode cJ6_bitCount_0f7a4 16 = .ok (.iconst 2, 1) := by decide +kernel
theorem dJ6_bitCount_0f7a4_17 : decode cJ6_bitCount_0f7a4 17 = .ok (.iushr, 1) := by decide +kernel
theorem dJ6_bitCount_0f7a4_18 : decode cJ6_bitCount_0f7a4 18 = .ok (.ldc_w 266, 3) := by decide +kernel
theorem dJ6_bitCount_0f7a4_21 : decode cJ6_bitCount_0f7a4 21 = .ok (.iand, 1) := by decide +kernel
theorem dJ6_bitCount_0f7a4_22 : decode cJ6_bitCount_0f7a4 22 = .ok (.iadd, 1) := by decide +kernel
theorem dJ6_bitCount_0f7a4_23 : decode cJ6_bitCount_0f7a4 23 = .ok (.istore_n 0, 1) := by decide +kernel
theorem dJ6_bitCount_0f7a4_24 : decode cJ6_bitCount_0f7a4 24 = .ok (.iload_n 0, 1) := by decide +kernel
theorem dJ6_bitCount_0f7a4_25 : decode cJ6_bitCount_0f7a4 25 = .ok (.iload_n 0, 1) := by decide +kernel
theorem dJ6_bitCount_0f7a4_26 : decode cJ6_bitCount_0f7a4 26 = .ok (.iconst 4, 1) := by decide +kernel
theorem dJ6_bitCount_0f7a4_27 : decode cJ6_bitCount_0f7a4 27 = .ok (.iushr, 1) := by decide +kernel
theorem dJ6_bitCount_0f7a4_28 : decode cJ6_bitCount_0f7a4 28 = .ok (.iadd, 1) := by decide +kernel
theorem dJ6_bitCount_0f7a4_29 : decode cJ6_bitCount_0f7a4 29 = .ok (.ldc_w 267, 3) := by decide +kernel
theorem dJ6_bitCount_0f7a4_32 : decode cJ6_bitCount_0f7a4 32 = .ok (.iand, 1) := by decide +kernel
theorem dJ6_bitCount_0f7a4_33 : decode cJ6_bitCount_0f7a4 33 = .ok (.istore_n 0, 1) := by decide +kernel
theorem dJ6_bitCount_0f7a4_34 : decode cJ6_bitCount_0f7a4 34 = .ok (.iload_n 0, 1) := by decide +kernel
theorem dJ6_bitCount_0f7a4_35 : decode cJ6_bitCount_0f7a4 35 = .ok (.iload_n 0, 1) := by decide +kernel
theorem dJ6_bitCount_0f7a4_36 : decode cJ6_bitCount_0f7a4 36 = .ok (.bipush 8, 2) := by decide +kernel
theorem dJ6_bitCount_0f7a4_38 : decode cJ6_bitCount_0f7a4 38 = .ok (.iushr, 1) := by decide +kernel
theorem dJ6_bitCount_0f7a4_39 : decode cJ6_bitCount_0f7a4 39 = .ok (.iadd, 1) := by decide +kernel
theorem dJ6_bitCount_0f7a4_40 : decode cJ6_bitCount_0f7a4 40 = .ok (.istore_n 0, 1) := by decide +kernel
theorem dJ6_bitCount_0f7a4_41 : decode cJ6_bitCount_0f7a4 41 = .ok (.iload_n 0, 1) := by decide +kernel
theorem dJ6_bitCount_0f7a4_42 : decode cJ6_bitCount_0f7a4 42 = .ok (.iload_n 0, 1) := by decide +kernel
theorem dJ6_bitCount_0f7a4_43 : decode cJ6_bitCount_0f7a4 43 = .ok (.bipush 16, 2) := by decide +kernel
theorem dJ6_bitCount_0f7a4_45 : decode cJ6_bitCount_0f7a4 45 = .ok (.iushr, 1) := by decide +kernel
theorem dJ6_bitCount_0f7a4_46 : decode cJ6_bitCount_0f7a4 46 = .ok (.iadd, 1) := by decide +kernel
theorem dJ6_bitCount_0f7a4_47 : decode cJ6_bitCount_0f7a4 47 = .ok (.istore_n 0, 1) := by decide +kernel
theorem dJ6_bitCount_0f7a4_48 : decode cJ6_bitCount_0f7a4 48 = .ok (.iload_n 0, 1) := by decide +kernel
theorem dJ6_bitCount_0f7a4_49 : decode cJ6_bitCount_0f7a4 49 = .ok (.bipush 63, 2) := by decide +kernel
theorem dJ6_bitCount_0f7a4_51 : decode cJ6_bitCount_0f7a4 51 = .ok (.iand, 1) := by decide +kernel
theorem dJ6_bitCount_0f7a4_52 : decode cJ6_bitCount_0f7a4 52 = .ok (.ireturn, 1) := by decide +kernel
theorem dJ13_bitCount_95d88_0 : decode cJ13_bitCount_95d88 0 = .ok (.lload_n 0, 1) := by decide +kernel
theorem dJ13_bitCount_95d88_1 : decode cJ13_bitCount_95d88 1 = .ok (.lload_n 0, 1) := by decide +kernel
theorem dJ13_bitCount_95d88_2 : decode cJ13_bitCount_95d88 2 = .ok (.iconst 1, 1) := by decide +kernel
theorem dJ13_bitCount_95d88_3 : decode cJ13_bitCount_95d88 3 = .ok (.lushr, 1) := by decide +kernel
theorem dJ13_bitCount_95d88_4 : decode cJ13_bitCount_95d88 4 = .ok (.ldc2_w 314, 3) := by decide +kernel
theorem dJ13_bitCount_95d88_7 : decode cJ13_bitCount_95d88 7 = .ok (.land, 1) := by decide +kernel
theorem dJ13_bitCount_95d88_8 : decode cJ13_bitCount_95d88 8 = .ok (.lsub, 1) := by decide +kernel
theorem dJ13_bitCount_95d88_9 : decode cJ13_bitCount_95d88 9 = .ok (.lstore_n 0, 1) := by decide +kernel
theorem dJ13_bitCount_95d88_10 : decode cJ13_bitCount_95d88 10 = .ok (.lload_n 0, 1) := by decide +kernel
theorem dJ13_bitCount_95d88_11 : decode cJ13_bitCount_95d88 11 = .ok (.ldc2_w 316, 3) := by decide +kernel
theorem dJ13_bitCount_95d88_14 : decode cJ13_bitCount_95d88 14 = .ok (.land, 1) := by decide +kernel
theorem dJ13_bitCount_95d88_15 : decode cJ13_bitCount_95d88 15 = .ok (.lload_n 0, 1) := by decide +kernel
theorem dJ13_bitCount_95d88_16 : decode cJ13_bitCount_95d88 16 = .ok (.iconst 2, 1) := by decide +kernel
theorem dJ13_bitCount_95d88_17 : decode cJ13_bitCount_95d88 17 = .ok (.lushr, 1) := by decide +kernel
theorem dJ13_bitCount_95d88_18 : decode cJ13_bitCount_95d88 18 = .ok (.ldc2_w 316, 3) := by decide +kernel
theorem dJ13_bitCount_95d88_21 : decode cJ13_bitCount_95d88 21 = .ok (.land, 1) := by decide +kernel
theorem dJ13_bitCount_95d88_22 : decode cJ13_bitCount_95d88 22 = .ok (.ladd, 1) := by decide +kernel
theorem dJ13_bitCount_95d88_23 : decode cJ13_bitCount_95d88 23 = .ok (.lstore_n 0, 1) := by decide +kernel
theorem dJ13_bitCount_95d88_24 : decode cJ13_bitCount_95d88 24 = .ok (.lload_n 0, 1) := by decide +kernel
theorem dJ13_bitCount_95d88_25 : decode cJ13_bitCount_95d88 25 = .ok (.lload_n 0, 1) := by decide +kernel
theorem dJ13_bitCount_95d88_26 : decode cJ13_bitCount_95d88 26 = .ok (.iconst 4, 1) := by decide +kernel
theorem dJ13_bitCount_95d88_27 : decode cJ13_bitCount_95d88 27 = .ok (.lushr, 1) := by decide +kernel
theorem dJ13_bitCount_95d88_28 : decode cJ13_bitCount_95d88 28 = .ok (.ladd, 1) := by decide +kernel
theorem dJ13_bitCount_95d88_29 : decode cJ13_bitCount_95d88 29 = .ok (.ldc2_w 318, 3) := by decide +kernel
theorem dJ13_bitCount_95d88_32 : decode cJ13_bitCount_95d88 32 = .ok (.land, 1) := by decide +kernel
theorem dJ13_bitCount_95d88_33 : decode cJ13_bitCount_95d88 33 = .ok (.lstore_n 0, 1) := by decide +kernel
theorem dJ13_bitCount_95d88_34 : decode cJ13_bitCount_95d88 34 = .ok (.lload_n 0, 1) := by decide +kernel
theorem dJ13_bitCount_95d88_35 : decode cJ13_bitCount_95d88 35 = .ok (.lload_n 0, 1) := by decide +kernel
theorem dJ13_bitCount_95d88_36 : decode cJ13_bitCount_95d88 36 = .ok (.bipush 8, 2) := by decide +kernel
theorem dJ13_bitCount_95d88_38 : decode cJ13_bitCount_95d88 38 = .ok (.lushr, 1) := by decide +kernel
theorem dJ13_bitCount_95d88_39 : decode cJ13_bitCount_95d88 39 = .ok (.ladd, 1) := by decide +kernel
theorem dJ13_bitCount_95d88_40 : decode cJ13_bitCount_95d88 40 = .ok (.lstore_n 0, 1) := by decide +kernel
theorem dJ13_bitCount_95d88_41 : decode cJ13_bitCount_95d88 41 = .ok (.lload_n 0, 1) := by decide +kernel
theorem dJ13_bitCount_95d88_42 : decode cJ13_bitCount_95d88 42 = .ok (.lload_n 0, 1) := by decide +kernel
theorem dJ13_bitCount_95d88_43 : decode cJ13_bitCount_95d88 43 = .ok (.bipush 16, 2) := by decide +kernel
theorem dJ13_bitCount_95d88_45 : decode cJ13_bitCount_95d88 45 = .ok (.lushr, 1) := by decide +kernel
theorem dJ13_bitCount_95d88_46 : decode cJ13_bitCount_95d88 46 = .ok (.ladd, 1) := by decide +kernel
theorem dJ13_bitCount_95d88_47 : decode cJ13_bitCount_95d88 47 = .ok (.lstore_n 0, 1) := by decide +kernel
theorem dJ13_bitCount_95d88_48 : decode cJ13_bitCount_95d88 48 = .ok (.lload_n 0, 1) := by decide +kernel
theorem dJ13_bitCount_95d88_49 : decode cJ13_bitCount_95d88 49 = .ok (.lload_n 0, 1) := by decide +kernel
theorem dJ13_bitCount_95d88_50 : decode cJ13_bitCount_95d88 50 = .ok (.bipush 32, 2) := by decide +kernel
theorem dJ13_bitCount_95d88_52 : decode cJ13_bitCount_95d88 52 = .ok (.lushr, 1) := by decide +kernel
theorem dJ13_bitCount_95d88_53 : decode cJ13_bitCount_95d88 53 = .ok (.ladd, 1) := by decide +kernel
theorem dJ13_bitCount_95d88_54 : decode cJ13_bitCount_95d88 54 = .ok (.lstore_n 0, 1) := by decide +kernel
theorem dJ13_bitCount_95d88_55 : decode cJ13_bitCount_95d88 55 = .ok (.lload_n 0, 1) := by decide +kernel
theorem dJ13_bitCount_95d88_56 : decode cJ13_bitCount_95d88 56 = .ok (.l2i, 1) := by decide +kernel
theorem dJ13_bitCount_95d88_57 : decode cJ13_bitCount_95d88 57 = .ok (.bipush 127, 2) := by decide +kernel
theorem dJ13_bitCount_95d88_59 : decode cJ13_bitCount_95d88 59 = .ok (.iand, 1) := by decide +kernel
theorem dJ13_bitCount_95d88_60 : decode cJ13_bitCount_95d88 60 = .ok (.ireturn, 1) := by decide +kernel
theorem dJ7_fill_d0a16_0 : decode cJ7_fill_d0a16 0 = .ok (.iconst 0, 1) := by decide +kernel
theorem dJ7_fill_d0a16_1 : decode cJ7_fill_d0a16 1 = .ok (.istore_n 3, 1) := by decide +kernel
theorem dJ7_fill_d0a16_2 : decode cJ7_fill_d0a16 2 = .ok (.aload_n 0, 1) := by decide +kernel
theorem dJ7_fill_d0a16_3 : decode cJ7_fill_d0a16 3 = .ok (.arraylength, 1) := by decide +kernel
theorem dJ7_fill_d0a16_4 : decode cJ7_fill_d0a16 4 = .ok (.istore 4, 2) := by decide +kernel
theorem dJ7_fill_d0a16_6 : decode cJ7_fill_d0a16 6 = .ok (.iload_n 3, 1) := by decide +kernel
theorem dJ7_fill_d0a16_7 : decode cJ7_fill_d0a16 7 = .ok (.iload 4, 2) := by decide +kernel
theorem dJ7_fill_d0a16_9 : decode cJ7_fill_d0a16 9 = .ok (.if_icmp .ge 13, 3) := by decide +kernel
theorem dJ7_fill_d0a16_12 : decode cJ7_fill_d0a16 12 = .ok (.aload_n 0, 1) := by decide +kernel
theorem dJ7_fill_d0a16_13 : decode cJ7_fill_d0a16 13 = .ok (.iload_n 3, 1) := by decide +kernel
theorem dJ7_fill_d0a16_14 : decode cJ7_fill_d0a16 14 = .ok (.lload_n 1, 1) := by decide +kernel
theorem dJ7_fill_d0a16_15 : decode cJ7_fill_d0a16 15 = .ok (.lastore, 1) := by decide +kernel
theorem dJ7_fill_d0a16_16 : decode cJ7_fill_d0a16 16 = .ok (.iinc 3 1, 3) := by decide +kernel
theorem dJ7_fill_d0a16_19 : decode cJ7_fill_d0a16 19 = .ok (.goto (-13), 3) := by decide +kernel
theorem dJ7_fill_d0a16_22 : decode cJ7_fill_d0a16 22 = .ok (.return_, 1) := by decide +kernel
theorem dJ7_fill_53178_0 : decode cJ7_fill_53178 0 = .ok (.iconst 0, 1) := by decide +kernel
theorem dJ7_fill_53178_1 : decode cJ7_fill_53178 1 = .ok (.istore_n 2, 1) := by decide +kernel
theorem dJ7_fill_53178_2 : decode cJ7_fill_53178 2 = .ok (.aload_n 0, 1) := by decide +kernel
theorem dJ7_fill_53178_3 : decode cJ7_fill_53178 3 = .ok (.arraylength, 1) := by decide +kernel
theorem dJ7_fill_53178_4 : decode cJ7_fill_53178 4 = .ok (.istore_n 3, 1) := by decide +kernel
theorem dJ7_fill_53178_5 : decode cJ7_fill_53178 5 = .ok (.iload_n 2, 1) := by decide +kernel
theorem dJ7_fill_53178_6 : decode cJ7_fill_53178 6 = .ok (.iload_n 3, 1) := by decide +kernel
theorem dJ7_fill_53178_7 : decode cJ7_fill_53178 7 = .ok (.if_icmp .ge 13, 3) := by decide +kernel
theorem dJ7_fill_53178_10 : decode cJ7_fill_53178 10 = .ok (.aload_n 0, 1) := by decide +kernel
theorem dJ7_fill_53178_11 : decode cJ7_fill_53178 11 = .ok (.iload_n 2, 1) := by decide +kernel
theorem dJ7_fill_53178_12 : decode cJ7_fill_53178 12 = .ok (.iload_n 1, 1) := by decide +kernel
theorem dJ7_fill_53178_13 : decode cJ7_fill_53178 13 = .ok (.iastore, 1) := by decide +kernel
theorem dJ7_fill_53178_14 : decode cJ7_fill_53178 14 = .ok (.iinc 2 1, 3) := by decide +kernel
theorem dJ7_fill_53178_17 : decode cJ7_fill_53178 17 = .ok (.goto (-12), 3) := by decide +kernel
theorem dJ7_fill_53178_20 : decode cJ7_fill_53178 20 = .ok (.return_, 1) := by decide +kernel
