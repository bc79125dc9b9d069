theorem dX0_empty_0 : decode cX0_empty 0 = .ok (.aload_n 0, 1) := by decide +kernel
theorem dX0_empty_1 : decode cX0_empty 1 = .ok (.getfield 12, 3) := by decide +kernel
theorem dX0_empty_4 : decode cX0_empty 4 = .ok (.iconst 0, 1) := by decide +kernel
theorem dX0_empty_5 : decode cX0_empty 5 = .ok (.putfield 30, 3) := by decide +kernel
theorem dX0_empty_8 : decode cX0_empty 8 = .ok (.aload_n 0, 1) := by decide +kernel
theorem dX0_empty_9 : decode cX0_empty 9 = .ok (.getfield 23, 3) := by decide +kernel
theorem dX0_empty_12 : decode cX0_empty 12 = .ok (.invokevirtual 34, 3) := by decide +kernel
theorem dX0_empty_15 : decode cX0_empty 15 = .ok (.aload_n 0, 1) := by decide +kernel
theorem dX0_empty_16 : decode cX0_empty 16 = .ok (.getfield 27, 3) := by decide +kernel
theorem dX0_empty_19 : decode cX0_empty 19 = .ok (.invokevirtual 34, 3) := by decide +kernel
theorem dX0_empty_22 : decode cX0_empty 22 = .ok (.return_, 1) := by decide +kernel
theorem dX0_copy_0 : decode cX0_copy 0 = .ok (.aload_n 0, 1) := by decide +kernel
theorem dX0_copy_1 : decode cX0_copy 1 = .ok (.getfield 12, 3) := by decide +kernel
theorem dX0_copy_4 : decode cX0_copy 4 = .ok (.aload_n 1, 1) := by decide +kernel
theorem dX0_copy_5 : decode cX0_copy 5 = .ok (.getfield 12, 3) := by decide +kernel
theorem dX0_copy_8 : decode cX0_copy 8 = .ok (.invokevirtual 37, 3) := by decide +kernel
theorem dX0_copy_11 : decode cX0_copy 11 = .ok (.aload_n 0, 1) := by decide +kernel
theorem dX0_copy_12 : decode cX0_copy 12 = .ok (.getfield 23, 3) := by decide +kernel
theorem dX0_copy_15 : decode cX0_copy 15 = .ok (.aload_n 1, 1) := by decide +kernel
theorem dX0_copy_16 : decode cX0_copy 16 = .ok (.getfield 23, 3) := by decide +kernel
theorem dX0_copy_19 : decode cX0_copy 19 = .ok (.invokevirtual 41, 3) := by decide +kernel
theorem dX0_copy_22 : decode cX0_copy 22 = .ok (.aload_n 0, 1) := by decide +kernel
theorem dX0_copy_23 : decode cX0_copy 23 = .ok (.getfield 27, 3) := by decide +kernel
theorem dX0_copy_26 : decode cX0_copy 26 = .ok (.aload_n 1, 1) := by decide +kernel
theorem dX0_copy_27 : decode cX0_copy 27 = .ok (.getfield 27, 3) := by decide +kernel
theorem dX0_copy_30 : decode cX0_copy 30 = .ok (.invokevirtual 41, 3) := by decide +kernel
theorem dX0_copy_33 : decode cX0_copy 33 = .ok (.return_, 1) := by decide +kernel
theorem dX1_isFull_0 : decode cX1_isFull 0 = .ok (.aload_n 0, 1) := by decide +kernel
theorem dX1_isFull_1 : decode cX1_isFull 1 = .ok (.getfield 13, 3) := by decide +kernel
theorem dX1_isFull_4 : decode cX1_isFull 4 = .ok (.iconst 1, 1) := by decide +kernel
theorem dX1_isFull_5 : decode cX1_isFull 5 = .ok (.iadd, 1) := by decide +kernel
theorem dX1_isFull_6 : decode cX1_isFull 6 = .ok (.iconst 3, 1) := by decide +kernel
theorem dX1_isFull_7 : decode cX1_isFull 7 = .ok (.imul, 1) := by decide +kernel
theorem dX1_isFull_8 : decode cX1_isFull 8 = .ok (.aload_n 0, 1) := by decide +kernel
theorem dX1_isFull_9 : decode cX1_isFull 9 = .ok (.getfield 9, 3) := by decide +kernel
theorem dX1_isFull_12 : decode cX1_isFull 12 = .ok (.arraylength, 1) := by decide +kernel
theorem dX1_isFull_13 : decode cX1_isFull 13 = .ok (.if_icmp .le 7, 3) := by decide +kernel
theorem dX1_isFull_16 : decode cX1_isFull 16 = .ok (.iconst 1, 1) := by decide +kernel
theorem dX1_isFull_17 : decode cX1_isFull 17 = .ok (.goto 4, 3) := by decide +kernel
theorem dX1_isFull_20 : decode cX1_isFull 20 = .ok (.iconst 0, 1) := by decide +kernel
theorem dX1_isFull_21 : decode cX1_isFull 21 = .ok (.ireturn, 1) := by decide +kernel
theorem dX1_at_0 : decode cX1_at 0 = .ok (.aload_n 0, 1) := by decide +kernel
theorem dX1_at_1 : decode cX1_at 1 = .ok (.getfield 9, 3) := by decide +kernel
theorem dX1_at_4 : decode cX1_at 4 = .ok (.iload_n 1, 1) := by decide +kernel
theorem dX1_at_5 : decode cX1_at 5 = .ok (.iconst 3, 1) := by decide +kernel
theorem dX1_at_6 : decode cX1_at 6 = .ok (.imul, 1) := by decide +kernel
theorem dX1_at_7 : decode cX1_at 7 = .ok (.iload_n 2, 1) := by decide +kernel
theorem dX1_at_8 : decode cX1_at 8 = .ok (.iadd, 1) := by decide +kernel
theorem dX1_at_9 : decode cX1_at 9 = .ok (.iaload, 1) := by decide +kernel
theorem dX1_at_10 : decode cX1_at 10 = .ok (.ireturn, 1) := by decide +kernel
theorem dX1_add_0 : decode cX1_add 0 = .ok (.aload_n 0, 1) := by decide +kernel
theorem dX1_add_1 : decode cX1_add 1 = .ok (.invokevirtual 17, 3) := by decide +kernel
theorem dX1_add_4 : decode cX1_add 4 = .ok (.ifCond .ne 53, 3) := by decide +kernel
theorem dX1_add_7 : decode cX1_add 7 = .ok (.aload_n 0, 1) := by decide +kernel
theorem dX1_add_8 : decode cX1_add 8 = .ok (.getfield 9, 3) := by decide +kernel
theorem dX1_add_11 : decode cX1_add 11 = .ok (.aload_n 0, 1) := by decide +kernel
theorem dX1_add_12 : decode cX1_add 12 = .ok (.getfield 13, 3) := by decide +kernel
theorem dX1_add_15 : decode cX1_add 15 = .ok (.iconst 3, 1) := by decide +kernel
theorem dX1_add_16 : decode cX1_add 16 = .ok (.imul, 1) := by decide +kernel
theorem dX1_add_17 : decode cX1_add 17 = .ok (.iload_n 1, 1) := by decide +kernel
theorem dX1_add_18 : decode cX1_add 18 = .ok (.iastore, 1) := by decide +kernel
theorem dX1_add_19 : decode cX1_add 19 = .ok (.aload_n 0, 1) := by decide +kernel
theorem dX1_add_20 : decode cX1_add 20 = .ok (.getfield 9, 3) := by decide +kernel
theorem dX1_add_23 : decode cX1_add 23 = .ok (.aload_n 0, 1) := by decide +kernel
theorem dX1_add_24 : decode cX1_add 24 = .ok (.getfield 13, 3) := by decide +kernel
theorem dX1_add_27 : decode cX1_add 27 = .ok (.iconst 3, 1) := by decide +kernel
theorem dX1_add_28 : decode cX1_add 28 = .ok (.imul, 1) := by decide +kernel
theorem dX1_add_29 : decode cX1_add 29 = .ok (.iconst 1, 1) := by decide +kernel
theorem dX1_add_30 : decode cX1_add 30 = .ok (.iadd, 1) := by decide +kernel
theorem dX1_add_31 : decode cX1_add 31 = .ok (.iload_n 2, 1) := by decide +kernel
theorem dX1_add_32 : decode cX1_add 32 = .ok (.iastore, 1) := by decide +kernel
theorem dX1_add_33 : decode cX1_add 33 = .ok (.aload_n 0, 1) := by decide +kernel
theorem dX1_add_34 : decode cX1_add 34 = .ok (.getfield 9, 3) := by decide +kernel
theorem dX1_add_37 : decode cX1_add 37 = .ok (.aload_n 0, 1) := by decide +kernel
theorem dX1_add_38 : decode cX1_add 38 = .ok (.getfield 13, 3) := by decide +kernel
theorem dX1_add_41 : decode cX1_add 41 = .ok (.iconst 3, 1) := by decide +kernel
theorem dX1_add_42 : decode cX1_add 42 = .ok (.imul, 1) := by decide +kernel
theorem dX1_add_43 : decode cX1_add 43 = .ok (.iconst 2, 1) := by decide +kernel
theorem dX1_add_44 : decode cX1_add 44 = .ok (.iadd, 1) := by decide +kernel
theorem dX1_add_45 : decode cX1_add 45 = .ok (.iload_n 3, 1) := by decide +kernel
theorem dX1_add_46 : decode cX1_add 46 = .ok (.iastore, 1) := by decide +kernel
theorem dX1_add_47 : decode cX1_add 47 = .ok (.aload_n 0, 1) := by decide +kernel
theorem dX1_add_48 : decode cX1_add 48 = .ok (.dup, 1) := by decide +kernel
theorem dX1_add_49 : decode cX1_add 49 = .ok (.getfield 13, 3) := by decide +kernel
theorem dX1_add_52 : decode cX1_add 52 = .ok (.iconst 1, 1) := by decide +kernel
theorem dX1_add_53 : decode cX1_add 53 = .ok (.iadd, 1) := by decide +kernel
theorem dX1_add_54 : decode cX1_add 54 = .ok (.putfield 13, 3) := by decide +kernel
theorem dX1_add_57 : decode cX1_add 57 = .ok (.return_, 1) := by decide +kernel
theorem dX1_drop_0 : decode cX1_drop 0 = .ok (.iload_n 1, 1) := by decide +kernel
theorem dX1_drop_1 : decode cX1_drop 1 = .ok (.ifCond .lt 50, 3) := by decide +kernel
theorem dX1_drop_4 : decode cX1_drop 4 = .ok (.iload_n 1, 1) := by decide +kernel
theorem dX1_drop_5 : decode cX1_drop 5 = .ok (.aload_n 0, 1) := by decide +kernel
theorem dX1_drop_6 : decode cX1_drop 6 = .ok (.getfield 13, 3) := by decide +kernel
theorem dX1_drop_9 : decode cX1_drop 9 = .ok (.if_icmp .ge 42, 3) := by decide +kernel
theorem dX1_drop_12 : decode cX1_drop 12 = .ok (.aload_n 0, 1) := by decide +kernel
theorem dX1_drop_13 : decode cX1_drop 13 = .ok (.getfield 9, 3) := by decide +kernel
theorem dX1_drop_16 : decode cX1_drop 16 = .ok (.iload_n 1, 1) := by decide +kernel
theorem dX1_drop_17 : decode cX1_drop 17 = .ok (.iconst 1, 1) := by decide +kernel
theorem dX1_drop_18 : decode cX1_drop 18 = .ok (.iadd, 1) := by decide +kernel
theorem dX1_drop_19 : decode cX1_drop 19 = .ok (.iconst 3, 1) := by decide +kernel
theorem dX1_drop_20 : decode cX1_drop 20 = .ok (.imul, 1) := by decide +kernel
theorem dX1_drop_21 : decode cX1_drop 21 = .ok (.aload_n 0, 1) := by decide +kernel
theorem dX1_drop_22 : decode cX1_drop 22 = .ok (.getfield 9, 3) := by decide +kernel
theorem dX1_drop_25 : decode cX1_drop 25 = .ok (.iload_n 1, 1) := by decide +kernel
theorem dX1_drop_26 : decode cX1_drop 26 = .ok (.iconst 3, 1) := by decide +kernel
theorem dX1_drop_27 : decode cX1_drop 27 = .ok (.imul, 1) := by decide +kernel
theorem dX1_drop_28 : decode cX1_drop 28 = .ok (.aload_n 0, 1) := by decide +kernel
theorem dX1_drop_29 : decode cX1_drop 29 = .ok (.getfield 13, 3) := by decide +kernel
theorem dX1_drop_32 : decode cX1_drop 32 = .ok (.iload_n 1, 1) := by decide +kernel
theorem dX1_drop_33 : decode cX1_drop 33 = .ok (.isub, 1) := by decide +kernel
theorem dX1_drop_34 : decode cX1_drop 34 = .ok (.iconst 1, 1) := by decide +kernel
theorem dX1_drop_35 : decode cX1_drop 35 = .ok (.isub, 1) := by decide +kernel
theorem dX1_drop_36 : decode cX1_drop 36 = .ok (.iconst 3, 1) := by decide +kernel
theorem dX1_drop_37 : decode cX1_drop 37 = .ok (.imul, 1) := by decide +kernel
theorem dX1_drop_38 : decode cX1_drop 38 = .ok (.invokestatic 21, 3) := by decide +kernel
theorem dX1_drop_41 : decode cX1_drop 41 = .ok (.aload_n 0, 1) := by decide +kernel
theorem dX1_drop_42 : decode cX1_drop 42 = .ok (.dup, 1) := by decide +kernel
theorem dX1_drop_43 : decode cX1_drop 43 = .ok (.getfield 13, 3) := by decide +kernel
theorem dX1_drop_46 : decode cX1_drop 46 = .ok (.iconst 1, 1) := by decide +kernel
theorem dX1_drop_47 : decode cX1_drop 47 = .ok (.isub, 1) := by decide +kernel
theorem dX1_drop_48 : decode cX1_drop 48 = .ok (.putfield 13, 3) := by decide +kernel
theorem dX1_drop_51 : decode cX1_drop 51 = .ok (.return_, 1) := by decide +kernel
theorem dX1_reverse_0 : decode cX1_reverse 0 = .ok (.iconst 0, 1) := by decide +kernel
theorem dX1_reverse_1 : decode cX1_reverse 1 = .ok (.istore_n 1, 1) := by decide +kernel
theorem dX1_reverse_2 : decode cX1_reverse 2 = .ok (.aload_n 0, 1) := by decide +kernel
theorem dX1_reverse_3 : decode cX1_reverse 3 = .ok (.getfield 13, 3) := by decide +kernel
theorem dX1_reverse_6 : decode cX1_reverse 6 = .ok (.iconst 1, 1) := by decide +kernel
theorem dX1_reverse_7 : decode cX1_reverse 7 = .ok (.isub, 1) := by decide +kernel
theorem dX1_reverse_8 : decode cX1_reverse 8 = .ok (.istore_n 2, 1) := by decide +kernel
theorem dX1_reverse_9 : decode cX1_reverse 9 = .ok (.iload_n 1, 1) := by decide +kernel
theorem dX1_reverse_10 : decode cX1_reverse 10 = .ok (.iload_n 2, 1) := by decide +kernel
theorem dX1_reverse_11 : decode cX1_reverse 11 = .ok (.if_icmp .ge 69, 3) := by decide +kernel
theorem dX1_reverse_14 : decode cX1_reverse 14 = .ok (.iconst 0, 1) := by decide +kernel
theorem dX1_reverse_15 : decode cX1_reverse 15 = .ok (.istore_n 3, 1) := by decide +kernel
theorem dX1_reverse_16 : decode cX1_reverse 16 = .ok (.iload_n 3, 1) := by decide +kernel
theorem dX1_reverse_17 : decode cX1_reverse 17 = .ok (.iconst 3, 1) := by decide +kernel
theorem dX1_reverse_18 : decode cX1_reverse 18 = .ok (.if_icmp .ge 53, 3) := by decide +kernel
theorem dX1_reverse_21 : decode cX1_reverse 21 = .ok (.aload_n 0, 1) := by decide +kernel
theorem dX1_reverse_22 : decode cX1_reverse 22 = .ok (.getfield 9, 3) := by decide +kernel
theorem dX1_reverse_25 : decode cX1_reverse 25 = .ok (.iload_n 1, 1) := by decide +kernel
theorem dX1_reverse_26 : decode cX1_reverse 26 = .ok (.iconst 3, 1) := by decide +kernel
theorem dX1_reverse_27 : decode cX1_reverse 27 = .ok (.imul, 1) := by decide +kernel
theorem dX1_reverse_28 : decode cX1_reverse 28 = .ok (.iload_n 3, 1) := by decide +kernel
theorem dX1_reverse_29 : decode cX1_reverse 29 = .ok (.iadd, 1) := by decide +kernel
theorem dX1_reverse_30 : decode cX1_reverse 30 = .ok (.iaload, 1) := by decide +kernel
theorem dX1_reverse_31 : decode cX1_reverse 31 = .ok (.istore 4, 2) := by decide +kernel
theorem dX1_reverse_33 : decode cX1_reverse 33 = .ok (.aload_n 0, 1) := by decide +kernel
theorem dX1_reverse_34 : decode cX1_reverse 34 = .ok (.getfield 9, 3) := by decide +kernel
theorem dX1_reverse_37 : decode cX1_reverse 37 = .ok (.iload_n 1, 1) := by decide +kernel
theorem dX1_reverse_38 : decode cX1_reverse 38 = .ok (.iconst 3, 1) := by decide +kernel
theorem dX1_reverse_39 : decode cX1_reverse 39 = .ok (.imul, 1) := by decide +kernel
theorem dX1_reverse_40 : decode cX1_reverse 40 = .ok (.iload_n 3, 1) := by decide +kernel
theorem dX1_reverse_41 : decode cX1_reverse 41 = .ok (.iadd, 1) := by decide +kernel
theorem dX1_reverse_42 : decode cX1_reverse 42 = .ok (.aload_n 0, 1) := by decide +kernel
theorem dX1_reverse_43 : decode cX1_reverse 43 = .ok (.getfield 9, 3) := by decide +kernel
theorem dX1_reverse_46 : decode cX1_reverse 46 = .ok (.iload_n 2, 1) := by decide +kernel
theorem dX1_reverse_47 : decode cX1_reverse 47 = .ok (.iconst 3, 1) := by decide +kernel
theorem dX1_reverse_48 : decode cX1_reverse 48 = .ok (.imul, 1) := by decide +kernel
theorem dX1_reverse_49 : decode cX1_reverse 49 = .ok (.iload_n 3, 1) := by decide +kernel
theorem dX1_reverse_50 : decode cX1_reverse 50 = .ok (.iadd, 1) := by decide +kernel
theorem dX1_reverse_51 : decode cX1_reverse 51 = .ok (.iaload, 1) := by decide +kernel
theorem dX1_reverse_52 : decode cX1_reverse 52 = .ok (.iastore, 1) := by decide +kernel
theorem dX1_reverse_53 : decode cX1_reverse 53 = .ok (.aload_n 0, 1) := by decide +kernel
theorem dX1_reverse_54 : decode cX1_reverse 54 = .ok (.getfield 9, 3) := by decide +kernel
theorem dX1_reverse_57 : decode cX1_reverse 57 = .ok (.iload_n 2, 1) := by decide +kernel
theorem dX1_reverse_58 : decode cX1_reverse 58 = .ok (.iconst 3, 1) := by decide +kernel
theorem dX1_reverse_59 : decode cX1_reverse 59 = .ok (.imul, 1) := by decide +kernel
theorem dX1_reverse_60 : decode cX1_reverse 60 = .ok (.iload_n 3, 1) := by decide +kernel
theorem dX1_reverse_61 : decode cX1_reverse 61 = .ok (.iadd, 1) := by decide +kernel
theorem dX1_reverse_62 : decode cX1_reverse 62 = .ok (.iload 4, 2) := by decide +kernel
theorem dX1_reverse_64 : decode cX1_reverse 64 = .ok (.iastore, 1) := by decide +kernel
theorem dX1_reverse_65 : decode cX1_reverse 65 = .ok (.iinc 3 1, 3) := by decide +kernel
theorem dX1_reverse_68 : decode cX1_reverse 68 = .ok (.goto (-52), 3) := by decide +kernel
theorem dX1_reverse_71 : decode cX1_reverse 71 = .ok (.iinc 1 1, 3) := by decide +kernel
theorem dX1_reverse_74 : decode cX1_reverse 74 = .ok (.iinc 2 (-1), 3) := by decide +kernel
theorem dX1_reverse_77 : decode cX1_reverse 77 = .ok (.goto (-68), 3) := by decide +kernel
theorem dX1_reverse_80 : decode cX1_reverse 80 = .ok (.return_, 1) := by decide +kernel
theorem dX1_empty_0 : decode cX1_empty 0 = .ok (.aload_n 0, 1) := by decide +kernel
theorem dX1_empty_1 : decode cX1_empty 1 = .ok (.iconst 0, 1) := by decide +kernel
theorem dX1_empty_2 : decode cX1_empty 2 = .ok (.putfield 13, 3) := by decide +kernel
theorem dX1_empty_5 : decode cX1_empty 5 = .ok (.return_, 1) := by decide +kernel
theorem dX1_copy_0 : decode cX1_copy 0 = .ok (.aload_n 0, 1) := by decide +kernel
theorem dX1_copy_1 : decode cX1_copy 1 = .ok (.aload_n 1, 1) := by decide +kernel
theorem dX1_copy_2 : decode cX1_copy 2 = .ok (.getfield 13, 3) := by decide +kernel
theorem dX1_copy_5 : decode cX1_copy 5 = .ok (.putfield 13, 3) := by decide +kernel
theorem dX1_copy_8 : decode cX1_copy 8 = .ok (.aload_n 1, 1) := by decide +kernel
theorem dX1_copy_9 : decode cX1_copy 9 = .ok (.getfield 9, 3) := by decide +kernel
theorem dX1_copy_12 : decode cX1_copy 12 = .ok (.iconst 0, 1) := by decide +kernel
theorem dX1_copy_13 : decode cX1_copy 13 = .ok (.aload_n 0, 1) := by decide +kernel
theorem dX1_copy_14 : decode cX1_copy 14 = .ok (.getfield 9, 3) := by decide +kernel
theorem dX1_copy_17 : decode cX1_copy 17 = .ok (.iconst 0, 1) := by decide +kernel
theorem dX1_copy_18 : decode cX1_copy 18 = .ok (.aload_n 1, 1) := by decide +kernel
theorem dX1_copy_19 : decode cX1_copy 19 = .ok (.getfield 9, 3) := by decide +kernel
theorem dX1_copy_22 : decode cX1_copy 22 = .ok (.arraylength, 1) := by decide +kernel
theorem dX1_copy_23 : decode cX1_copy 23 = .ok (.aload_n 0, 1) := by decide +kernel
theorem dX1_copy_24 : decode cX1_copy 24 = .ok (.getfield 9, 3) := by decide +kernel
theorem dX1_copy_27 : decode cX1_copy 27 = .ok (.arraylength, 1) := by decide +kernel
theorem dX1_copy_28 : decode cX1_copy 28 = .ok (.invokestatic 27, 3) := by decide +kernel
theorem dX1_copy_31 : decode cX1_copy 31 = .ok (.invokestatic 21, 3) := by decide +kernel
theorem dX1_copy_34 : decode cX1_copy 34 = .ok (.return_, 1) := by decide +kernel
theorem dX2_lead_0 : decode cX2_lead 0 = .ok (.aload_n 1, 1) := by decide +kernel
theorem dX2_lead_1 : decode cX2_lead 1 = .ok (.iload_n 2, 1) := by decide +kernel
theorem dX2_lead_2 : decode cX2_lead 2 = .ok (.invokevirtual 15, 3) := by decide +kernel
theorem dX2_lead_5 : decode cX2_lead 5 = .ok (.ifCond .eq 18, 3) := by decide +kernel
theorem dX2_lead_8 : decode cX2_lead 8 = .ok (.iload_n 3, 1) := by decide +kernel
theorem dX2_lead_9 : decode cX2_lead 9 = .ok (.ifCond .lt 14, 3) := by decide +kernel
theorem dX2_lead_12 : decode cX2_lead 12 = .ok (.iload_n 3, 1) := by decide +kernel
theorem dX2_lead_13 : decode cX2_lead 13 = .ok (.aload_n 1, 1) := by decide +kernel
theorem dX2_lead_14 : decode cX2_lead 14 = .ok (.iload_n 2, 1) := by decide +kernel
theorem dX2_lead_15 : decode cX2_lead 15 = .ok (.bipush 6, 2) := by decide +kernel
theorem dX2_lead_17 : decode cX2_lead 17 = .ok (.invokevirtual 21, 3) := by decide +kernel
theorem dX2_lead_20 : decode cX2_lead 20 = .ok (.if_icmp .lt 5, 3) := by decide +kernel
theorem dX2_lead_23 : decode cX2_lead 23 = .ok (.iconst 0, 1) := by decide +kernel
theorem dX2_lead_24 : decode cX2_lead 24 = .ok (.ireturn, 1) := by decide +kernel
theorem dX2_lead_25 : decode cX2_lead 25 = .ok (.aload_n 0, 1) := by decide +kernel
theorem dX2_lead_26 : decode cX2_lead 26 = .ok (.iload_n 2, 1) := by decide +kernel
theorem dX2_lead_27 : decode cX2_lead 27 = .ok (.putfield 25, 3) := by decide +kernel
theorem dX2_lead_30 : decode cX2_lead 30 = .ok (.aload_n 0, 1) := by decide +kernel
theorem dX2_lead_31 : decode cX2_lead 31 = .ok (.iconst 0, 1) := by decide +kernel
theorem dX2_lead_32 : decode cX2_lead 32 = .ok (.putfield 29, 3) := by decide +kernel
theorem dX2_lead_35 : decode cX2_lead 35 = .ok (.iload_n 3, 1) := by decide +kernel
theorem dX2_lead_36 : decode cX2_lead 36 = .ok (.istore 4, 2) := by decide +kernel
theorem dX2_lead_38 : decode cX2_lead 38 = .ok (.aload_n 0, 1) := by decide +kernel
theorem dX2_lead_39 : decode cX2_lead 39 = .ok (.getfield 29, 3) := by decide +kernel
theorem dX2_lead_42 : decode cX2_lead 42 = .ok (.iconst 3, 1) := by decide +kernel
theorem dX2_lead_43 : decode cX2_lead 43 = .ok (.if_icmp .ge 121, 3) := by decide +kernel
theorem dX2_lead_46 : decode cX2_lead 46 = .ok (.aload_n 1, 1) := by decide +kernel
theorem dX2_lead_47 : decode cX2_lead 47 = .ok (.aload_n 0, 1) := by decide +kernel
theorem dX2_lead_48 : decode cX2_lead 48 = .ok (.getfield 25, 3) := by decide +kernel
theorem dX2_lead_51 : decode cX2_lead 51 = .ok (.invokevirtual 32, 3) := by decide +kernel
theorem dX2_lead_54 : decode cX2_lead 54 = .ok (.ifCond .ne 110, 3) := by decide +kernel
theorem dX2_lead_57 : decode cX2_lead 57 = .ok (.aload_n 0, 1) := by decide +kernel
theorem dX2_lead_58 : decode cX2_lead 58 = .ok (.getfield 25, 3) := by decide +kernel
theorem dX2_lead_61 : decode cX2_lead 61 = .ok (.istore 5, 2) := by decide +kernel
theorem dX2_lead_63 : decode cX2_lead 63 = .ok (.aload_n 0, 1) := by decide +kernel
theorem dX2_lead_64 : decode cX2_lead 64 = .ok (.getfield 9, 3) := by decide +kernel
theorem dX2_lead_67 : decode cX2_lead 67 = .ok (.aload_n 0, 1) := by decide +kernel
theorem dX2_lead_68 : decode cX2_lead 68 = .ok (.getfield 29, 3) := by decide +kernel
theorem dX2_lead_71 : decode cX2_lead 71 = .ok (.iload 5, 2) := by decide +kernel
theorem dX2_lead_73 : decode cX2_lead 73 = .ok (.iastore, 1) := by decide +kernel
theorem dX2_lead_74 : decode cX2_lead 74 = .ok (.aload_n 0, 1) := by decide +kernel
theorem dX2_lead_75 : decode cX2_lead 75 = .ok (.dup, 1) := by decide +kernel
theorem dX2_lead_76 : decode cX2_lead 76 = .ok (.getfield 29, 3) := by decide +kernel
theorem dX2_lead_79 : decode cX2_lead 79 = .ok (.iconst 1, 1) := by decide +kernel
theorem dX2_lead_80 : decode cX2_lead 80 = .ok (.iadd, 1) := by decide +kernel
theorem dX2_lead_81 : decode cX2_lead 81 = .ok (.putfield 29, 3) := by decide +kernel
theorem dX2_lead_84 : decode cX2_lead 84 = .ok (.iconst 0, 1) := by decide +kernel
theorem dX2_lead_85 : decode cX2_lead 85 = .ok (.istore 6, 2) := by decide +kernel
theorem dX2_lead_87 : decode cX2_lead 87 = .ok (.aload_n 0, 1) := by decide +kernel
theorem dX2_lead_88 : decode cX2_lead 88 = .ok (.aload_n 1, 1) := by decide +kernel
theorem dX2_lead_89 : decode cX2_lead 89 = .ok (.iload 5, 2) := by decide +kernel
theorem dX2_lead_91 : decode cX2_lead 91 = .ok (.iload 6, 2) := by decide +kernel
theorem dX2_lead_93 : decode cX2_lead 93 = .ok (.invokevirtual 35, 3) := by decide +kernel
theorem dX2_lead_96 : decode cX2_lead 96 = .ok (.putfield 25, 3) := by decide +kernel
theorem dX2_lead_99 : decode cX2_lead 99 = .ok (.iload 6, 2) := by decide +kernel
theorem dX2_lead_101 : decode cX2_lead 101 = .ok (.iconst 1, 1) := by decide +kernel
theorem dX2_lead_102 : decode cX2_lead 102 = .ok (.iadd, 1) := by decide +kernel
theorem dX2_lead_103 : decode cX2_lead 103 = .ok (.aload_n 1, 1) := by decide +kernel
theorem dX2_lead_104 : decode cX2_lead 104 = .ok (.iload 5, 2) := by decide +kernel
theorem dX2_lead_106 : decode cX2_lead 106 = .ok (.iconst 4, 1) := by decide +kernel
theorem dX2_lead_107 : decode cX2_lead 107 = .ok (.invokevirtual 21, 3) := by decide +kernel
theorem dX2_lead_110 : decode cX2_lead 110 = .ok (.if_icmp .ge 51, 3) := by decide +kernel
theorem dX2_lead_113 : decode cX2_lead 113 = .ok (.iload 4, 2) := by decide +kernel
theorem dX2_lead_115 : decode cX2_lead 115 = .ok (.aload_n 1, 1) := by decide +kernel
theorem dX2_lead_116 : decode cX2_lead 116 = .ok (.aload_n 0, 1) := by decide +kernel
theorem dX2_lead_117 : decode cX2_lead 117 = .ok (.getfield 25, 3) := by decide +kernel
theorem dX2_lead_120 : decode cX2_lead 120 = .ok (.bipush 6, 2) := by decide +kernel
theorem dX2_lead_122 : decode cX2_lead 122 = .ok (.invokevirtual 21, 3) := by decide +kernel
theorem dX2_lead_125 : decode cX2_lead 125 = .ok (.if_icmp .lt 36, 3) := by decide +kernel
theorem dX2_lead_128 : decode cX2_lead 128 = .ok (.iload 4, 2) := by decide +kernel
theorem dX2_lead_130 : decode cX2_lead 130 = .ok (.aload_n 1, 1) := by decide +kernel
theorem dX2_lead_131 : decode cX2_lead 131 = .ok (.aload_n 0, 1) := by decide +kernel
theorem dX2_lead_132 : decode cX2_lead 132 = .ok (.getfield 25, 3) := by decide +kernel
theorem dX2_lead_135 : decode cX2_lead 135 = .ok (.bipush 6, 2) := by decide +kernel
theorem dX2_lead_137 : decode cX2_lead 137 = .ok (.invokevirtual 21, 3) := by decide +kernel
theorem dX2_lead_140 : decode cX2_lead 140 = .ok (.isub, 1) := by decide +kernel
theorem dX2_lead_141 : decode cX2_lead 141 = .ok (.istore 4, 2) := by decide +kernel
theorem dX2_lead_143 : decode cX2_lead 143 = .ok (.iinc 6 1, 3) := by decide +kernel
theorem dX2_lead_146 : decode cX2_lead 146 = .ok (.aload_n 0, 1) := by decide +kernel
theorem dX2_lead_147 : decode cX2_lead 147 = .ok (.aload_n 1, 1) := by decide +kernel
theorem dX2_lead_148 : decode cX2_lead 148 = .ok (.iload 5, 2) := by decide +kernel
theorem dX2_lead_150 : decode cX2_lead 150 = .ok (.iload 6, 2) := by decide +kernel
theorem dX2_lead_152 : decode cX2_lead 152 = .ok (.invokevirtual 35, 3) := by decide +kernel
theorem dX2_lead_155 : decode cX2_lead 155 = .ok (.putfield 25, 3) := by decide +kernel
theorem dX2_lead_158 : decode cX2_lead 158 = .ok (.goto (-59), 3) := by decide +kernel
theorem dX2_lead_161 : decode cX2_lead 161 = .ok (.goto (-123), 3) := by decide +kernel
theorem dX2_lead_164 : decode cX2_lead 164 = .ok (.iconst 1, 1) := by decide +kernel
theorem dX2_lead_165 : decode cX2_lead 165 = .ok (.ireturn, 1) := by decide +kernel
theorem dX2_turnOf_0 : decode cX2_turnOf 0 = .ok (.aload_n 1, 1) := by decide +kernel
theorem dX2_turnOf_1 : decode cX2_turnOf 1 = .ok (.aload_n 0, 1) := by decide +kernel
theorem dX2_turnOf_2 : decode cX2_turnOf 2 = .ok (.getfield 25, 3) := by decide +kernel
theorem dX2_turnOf_5 : decode cX2_turnOf 5 = .ok (.iconst 0, 1) := by decide +kernel
theorem dX2_turnOf_6 : decode cX2_turnOf 6 = .ok (.invokevirtual 21, 3) := by decide +kernel
theorem dX2_turnOf_9 : decode cX2_turnOf 9 = .ok (.istore_n 2, 1) := by decide +kernel
theorem dX2_turnOf_10 : decode cX2_turnOf 10 = .ok (.iconst 0, 1) := by decide +kernel
theorem dX2_turnOf_11 : decode cX2_turnOf 11 = .ok (.istore_n 3, 1) := by decide +kernel
theorem dX2_turnOf_12 : decode cX2_turnOf 12 = .ok (.iload_n 3, 1) := by decide +kernel
theorem dX2_turnOf_13 : decode cX2_turnOf 13 = .ok (.aload_n 0, 1) := by decide +kernel
theorem dX2_turnOf_14 : decode cX2_turnOf 14 = .ok (.getfield 29, 3) := by decide +kernel
theorem dX2_turnOf_17 : decode cX2_turnOf 17 = .ok (.if_icmp .ge 23, 3) := by decide +kernel
theorem dX2_turnOf_20 : decode cX2_turnOf 20 = .ok (.iload_n 2, 1) := by decide +kernel
theorem dX2_turnOf_21 : decode cX2_turnOf 21 = .ok (.aload_n 1, 1) := by decide +kernel
theorem dX2_turnOf_22 : decode cX2_turnOf 22 = .ok (.aload_n 0, 1) := by decide +kernel
theorem dX2_turnOf_23 : decode cX2_turnOf 23 = .ok (.getfield 9, 3) := by decide +kernel
theorem dX2_turnOf_26 : decode cX2_turnOf 26 = .ok (.iload_n 3, 1) := by decide +kernel
theorem dX2_turnOf_27 : decode cX2_turnOf 27 = .ok (.iaload, 1) := by decide +kernel
theorem dX2_turnOf_28 : decode cX2_turnOf 28 = .ok (.iconst 0, 1) := by decide +kernel
theorem dX2_turnOf_29 : decode cX2_turnOf 29 = .ok (.invokevirtual 21, 3) := by decide +kernel
theorem dX2_turnOf_32 : decode cX2_turnOf 32 = .ok (.iadd, 1) := by decide +kernel
theorem dX2_turnOf_33 : decode cX2_turnOf 33 = .ok (.istore_n 2, 1) := by decide +kernel
theorem dX2_turnOf_34 : decode cX2_turnOf 34 = .ok (.iinc 3 1, 3) := by decide +kernel
theorem dX2_turnOf_37 : decode cX2_turnOf 37 = .ok (.goto (-25), 3) := by decide +kernel
theorem dX2_turnOf_40 : decode cX2_turnOf 40 = .ok (.iload_n 2, 1) := by decide +kernel
theorem dX2_turnOf_41 : decode cX2_turnOf 41 = .ok (.ireturn, 1) := by decide +kernel
theorem dX2_byOf_0 : decode cX2_byOf 0 = .ok (.lconst 1, 1) := by decide +kernel
theorem dX2_byOf_1 : decode cX2_byOf 1 = .ok (.lstore_n 2, 1) := by decide +kernel
theorem dX2_byOf_2 : decode cX2_byOf 2 = .ok (.iconst 0, 1) := by decide +kernel
theorem dX2_byOf_3 : decode cX2_byOf 3 = .ok (.istore 4, 2) := by decide +kernel
theorem dX2_byOf_5 : decode cX2_byOf 5 = .ok (.iload 4, 2) := by decide +kernel
theorem dX2_byOf_7 : decode cX2_byOf 7 = .ok (.aload_n 0, 1) := by decide +kernel
theorem dX2_byOf_8 : decode cX2_byOf 8 = .ok (.getfield 29, 3) := by decide +kernel
theorem dX2_byOf_11 : decode cX2_byOf 11 = .ok (.if_icmp .ge 24, 3) := by decide +kernel
theorem dX2_byOf_14 : decode cX2_byOf 14 = .ok (.lload_n 2, 1) := by decide +kernel
theorem dX2_byOf_15 : decode cX2_byOf 15 = .ok (.aload_n 1, 1) := by decide +kernel
theorem dX2_byOf_16 : decode cX2_byOf 16 = .ok (.aload_n 0, 1) := by decide +kernel
theorem dX2_byOf_17 : decode cX2_byOf 17 = .ok (.getfield 9, 3) := by decide +kernel
theorem dX2_byOf_20 : decode cX2_byOf 20 = .ok (.iload 4, 2) := by decide +kernel
theorem dX2_byOf_22 : decode cX2_byOf 22 = .ok (.iaload, 1) := by decide +kernel
theorem dX2_byOf_23 : decode cX2_byOf 23 = .ok (.invokevirtual 38, 3) := by decide +kernel
theorem dX2_byOf_26 : decode cX2_byOf 26 = .ok (.i2l, 1) := by decide +kernel
theorem dX2_byOf_27 : decode cX2_byOf 27 = .ok (.lmul, 1) := by decide +kernel
theorem dX2_byOf_28 : decode cX2_byOf 28 = .ok (.lstore_n 2, 1) := by decide +kernel
theorem dX2_byOf_29 : decode cX2_byOf 29 = .ok (.iinc 4 1, 3) := by decide +kernel
theorem dX2_byOf_32 : decode cX2_byOf 32 = .ok (.goto (-27), 3) := by decide +kernel
theorem dX2_byOf_35 : decode cX2_byOf 35 = .ok (.lload_n 2, 1) := by decide +kernel
theorem dX2_byOf_36 : decode cX2_byOf 36 = .ok (.lreturn, 1) := by decide +kernel
theorem dX2_wholeOf_0 : decode cX2_wholeOf 0 = .ok (.lconst 1, 1) := by decide +kernel
theorem dX2_wholeOf_1 : decode cX2_wholeOf 1 = .ok (.lstore_n 1, 1) := by decide +kernel
theorem dX2_wholeOf_2 : decode cX2_wholeOf 2 = .ok (.iconst 0, 1) := by decide +kernel
theorem dX2_wholeOf_3 : decode cX2_wholeOf 3 = .ok (.istore_n 3, 1) := by decide +kernel
theorem dX2_wholeOf_4 : decode cX2_wholeOf 4 = .ok (.iload_n 3, 1) := by decide +kernel
theorem dX2_wholeOf_5 : decode cX2_wholeOf 5 = .ok (.aload_n 0, 1) := by decide +kernel
theorem dX2_wholeOf_6 : decode cX2_wholeOf 6 = .ok (.getfield 29, 3) := by decide +kernel
theorem dX2_wholeOf_9 : decode cX2_wholeOf 9 = .ok (.if_icmp .ge 15, 3) := by decide +kernel
theorem dX2_wholeOf_12 : decode cX2_wholeOf 12 = .ok (.lload_n 1, 1) := by decide +kernel
theorem dX2_wholeOf_13 : decode cX2_wholeOf 13 = .ok (.ldc2_w 42, 3) := by decide +kernel
theorem dX2_wholeOf_16 : decode cX2_wholeOf 16 = .ok (.lmul, 1) := by decide +kernel
theorem dX2_wholeOf_17 : decode cX2_wholeOf 17 = .ok (.lstore_n 1, 1) := by decide +kernel
theorem dX2_wholeOf_18 : decode cX2_wholeOf 18 = .ok (.iinc 3 1, 3) := by decide +kernel
theorem dX2_wholeOf_21 : decode cX2_wholeOf 21 = .ok (.goto (-17), 3) := by decide +kernel
theorem dX2_wholeOf_24 : decode cX2_wholeOf 24 = .ok (.lload_n 1, 1) := by decide +kernel
theorem dX2_wholeOf_25 : decode cX2_wholeOf 25 = .ok (.lreturn, 1) := by decide +kernel
theorem dX2_needsFor_0 : decode cX2_needsFor 0 = .ok (.iload_n 2, 1) := by decide +kernel
theorem dX2_needsFor_1 : decode cX2_needsFor 1 = .ok (.istore_n 3, 1) := by decide +kernel
theorem dX2_needsFor_2 : decode cX2_needsFor 2 = .ok (.iconst 0, 1) := by decide +kernel
theorem dX2_needsFor_3 : decode cX2_needsFor 3 = .ok (.istore 4, 2) := by decide +kernel
theorem dX2_needsFor_5 : decode cX2_needsFor 5 = .ok (.iload 4, 2) := by decide +kernel
theorem dX2_needsFor_7 : decode cX2_needsFor 7 = .ok (.aload_n 0, 1) := by decide +kernel
theorem dX2_needsFor_8 : decode cX2_needsFor 8 = .ok (.getfield 29, 3) := by decide +kernel
theorem dX2_needsFor_11 : decode cX2_needsFor 11 = .ok (.if_icmp .ge 29, 3) := by decide +kernel
theorem dX2_needsFor_14 : decode cX2_needsFor 14 = .ok (.iload_n 3, 1) := by decide +kernel
theorem dX2_needsFor_15 : decode cX2_needsFor 15 = .ok (.sipush 1000, 3) := by decide +kernel
theorem dX2_needsFor_18 : decode cX2_needsFor 18 = .ok (.imul, 1) := by decide +kernel
theorem dX2_needsFor_19 : decode cX2_needsFor 19 = .ok (.aload_n 1, 1) := by decide +kernel
theorem dX2_needsFor_20 : decode cX2_needsFor 20 = .ok (.aload_n 0, 1) := by decide +kernel
theorem dX2_needsFor_21 : decode cX2_needsFor 21 = .ok (.getfield 9, 3) := by decide +kernel
theorem dX2_needsFor_24 : decode cX2_needsFor 24 = .ok (.iload 4, 2) := by decide +kernel
theorem dX2_needsFor_26 : decode cX2_needsFor 26 = .ok (.iaload, 1) := by decide +kernel
theorem dX2_needsFor_27 : decode cX2_needsFor 27 = .ok (.invokevirtual 38, 3) := by decide +kernel
theorem dX2_needsFor_30 : decode cX2_needsFor 30 = .ok (.invokestatic 44, 3) := by decide +kernel
theorem dX2_needsFor_33 : decode cX2_needsFor 33 = .ok (.istore_n 3, 1) := by decide +kernel
theorem dX2_needsFor_34 : decode cX2_needsFor 34 = .ok (.iinc 4 1, 3) := by decide +kernel
theorem dX2_needsFor_37 : decode cX2_needsFor 37 = .ok (.goto (-32), 3) := by decide +kernel
theorem dX2_needsFor_40 : decode cX2_needsFor 40 = .ok (.iload_n 3, 1) := by decide +kernel
theorem dX2_needsFor_41 : decode cX2_needsFor 41 = .ok (.ireturn, 1) := by decide +kernel
theorem dX3_has_0 : decode cX3_has 0 = .ok (.iload_n 1, 1) := by decide +kernel
theorem dX3_has_1 : decode cX3_has 1 = .ok (.ifCond .lt 12, 3) := by decide +kernel
theorem dX3_has_4 : decode cX3_has 4 = .ok (.iload_n 1, 1) := by decide +kernel
theorem dX3_has_5 : decode cX3_has 5 = .ok (.iconst 3, 1) := by decide +kernel
theorem dX3_has_6 : decode cX3_has 6 = .ok (.if_icmp .ge 7, 3) := by decide +kernel
theorem dX3_has_9 : decode cX3_has 9 = .ok (.iconst 1, 1) := by decide +kernel
theorem dX3_has_10 : decode cX3_has 10 = .ok (.goto 4, 3) := by decide +kernel
theorem dX3_has_13 : decode cX3_has 13 = .ok (.iconst 0, 1) := by decide +kernel
theorem dX3_has_14 : decode cX3_has 14 = .ok (.ireturn, 1) := by decide +kernel
theorem dX3_isMissing_0 : decode cX3_isMissing 0 = .ok (.aload_n 0, 1) := by decide +kernel
theorem dX3_isMissing_1 : decode cX3_isMissing 1 = .ok (.getfield 9, 3) := by decide +kernel
theorem dX3_isMissing_4 : decode cX3_isMissing 4 = .ok (.iload_n 1, 1) := by decide +kernel
theorem dX3_isMissing_5 : decode cX3_isMissing 5 = .ok (.iaload, 1) := by decide +kernel
theorem dX3_isMissing_6 : decode cX3_isMissing 6 = .ok (.ifCond .ge 7, 3) := by decide +kernel
theorem dX3_isMissing_9 : decode cX3_isMissing 9 = .ok (.iconst 1, 1) := by decide +kernel
theorem dX3_isMissing_10 : decode cX3_isMissing 10 = .ok (.goto 4, 3) := by decide +kernel
theorem dX3_isMissing_13 : decode cX3_isMissing 13 = .ok (.iconst 0, 1) := by decide +kernel
theorem dX3_isMissing_14 : decode cX3_isMissing 14 = .ok (.ireturn, 1) := by decide +kernel
theorem dX3_sizeOf_0 : decode cX3_sizeOf 0 = .ok (.aload_n 0, 1) := by decide +kernel
theorem dX3_sizeOf_1 : decode cX3_sizeOf 1 = .ok (.getfield 9, 3) := by decide +kernel
theorem dX3_sizeOf_4 : decode cX3_sizeOf 4 = .ok (.iload_n 1, 1) := by decide +kernel
theorem dX3_sizeOf_5 : decode cX3_sizeOf 5 = .ok (.iaload, 1) := by decide +kernel
theorem dX3_sizeOf_6 : decode cX3_sizeOf 6 = .ok (.ireturn, 1) := by decide +kernel
theorem dX3_hasPlace_0 : decode cX3_hasPlace 0 = .ok (.iload_n 2, 1) := by decide +kernel
theorem dX3_hasPlace_1 : decode cX3_hasPlace 1 = .ok (.ifCond .lt 17, 3) := by decide +kernel
theorem dX3_hasPlace_4 : decode cX3_hasPlace 4 = .ok (.iload_n 2, 1) := by decide +kernel
theorem dX3_hasPlace_5 : decode cX3_hasPlace 5 = .ok (.aload_n 0, 1) := by decide +kernel
theorem dX3_hasPlace_6 : decode cX3_hasPlace 6 = .ok (.getfield 9, 3) := by decide +kernel
theorem dX3_hasPlace_9 : decode cX3_hasPlace 9 = .ok (.iload_n 1, 1) := by decide +kernel
theorem dX3_hasPlace_10 : decode cX3_hasPlace 10 = .ok (.iaload, 1) := by decide +kernel
theorem dX3_hasPlace_11 : decode cX3_hasPlace 11 = .ok (.if_icmp .ge 7, 3) := by decide +kernel
theorem dX3_hasPlace_14 : decode cX3_hasPlace 14 = .ok (.iconst 1, 1) := by decide +kernel
theorem dX3_hasPlace_15 : decode cX3_hasPlace 15 = .ok (.goto 4, 3) := by decide +kernel
theorem dX3_hasPlace_18 : decode cX3_hasPlace 18 = .ok (.iconst 0, 1) := by decide +kernel
theorem dX3_hasPlace_19 : decode cX3_hasPlace 19 = .ok (.ireturn, 1) := by decide +kernel
theorem dX3_placeAt_0 : decode cX3_placeAt 0 = .ok (.aload_n 0, 1) := by decide +kernel
theorem dX3_placeAt_1 : decode cX3_placeAt 1 = .ok (.getfield 15, 3) := by decide +kernel
theorem dX3_placeAt_4 : decode cX3_placeAt 4 = .ok (.iload_n 1, 1) := by decide +kernel
theorem dX3_placeAt_5 : decode cX3_placeAt 5 = .ok (.bipush 40, 2) := by decide +kernel
theorem dX3_placeAt_7 : decode cX3_placeAt 7 = .ok (.imul, 1) := by decide +kernel
theorem dX3_placeAt_8 : decode cX3_placeAt 8 = .ok (.iload_n 2, 1) := by decide +kernel
theorem dX3_placeAt_9 : decode cX3_placeAt 9 = .ok (.iadd, 1) := by decide +kernel
theorem dX3_placeAt_10 : decode cX3_placeAt 10 = .ok (.iaload, 1) := by decide +kernel
theorem dX3_placeAt_11 : decode cX3_placeAt 11 = .ok (.ireturn, 1) := by decide +kernel
theorem dX3_write_0 : decode cX3_write 0 = .ok (.aload_n 0, 1) := by decide +kernel
theorem dX3_write_1 : decode cX3_write 1 = .ok (.getfield 15, 3) := by decide +kernel
theorem dX3_write_4 : decode cX3_write 4 = .ok (.iload_n 1, 1) := by decide +kernel
theorem dX3_write_5 : decode cX3_write 5 = .ok (.bipush 40, 2) := by decide +kernel
theorem dX3_write_7 : decode cX3_write 7 = .ok (.imul, 1) := by decide +kernel
theorem dX3_write_8 : decode cX3_write 8 = .ok (.iload_n 2, 1) := by decide +kernel
theorem dX3_write_9 : decode cX3_write 9 = .ok (.iadd, 1) := by decide +kernel
theorem dX3_write_10 : decode cX3_write 10 = .ok (.iload_n 3, 1) := by decide +kernel
theorem dX3_write_11 : decode cX3_write 11 = .ok (.iastore, 1) := by decide +kernel
theorem dX3_write_12 : decode cX3_write 12 = .ok (.return_, 1) := by decide +kernel
theorem dX3_renew_0 : decode cX3_renew 0 = .ok (.aload_n 0, 1) := by decide +kernel
theorem dX3_renew_1 : decode cX3_renew 1 = .ok (.getfield 9, 3) := by decide +kernel
theorem dX3_renew_4 : decode cX3_renew 4 = .ok (.iload_n 1, 1) := by decide +kernel
theorem dX3_renew_5 : decode cX3_renew 5 = .ok (.iload_n 2, 1) := by decide +kernel
theorem dX3_renew_6 : decode cX3_renew 6 = .ok (.iastore, 1) := by decide +kernel
theorem dX3_renew_7 : decode cX3_renew 7 = .ok (.iconst 0, 1) := by decide +kernel
theorem dX3_renew_8 : decode cX3_renew 8 = .ok (.istore_n 3, 1) := by decide +kernel
theorem dX3_renew_9 : decode cX3_renew 9 = .ok (.iload_n 3, 1) := by decide +kernel
theorem dX3_renew_10 : decode cX3_renew 10 = .ok (.iload_n 2, 1) := by decide +kernel
theorem dX3_renew_11 : decode cX3_renew 11 = .ok (.if_icmp .ge 16, 3) := by decide +kernel
theorem dX3_renew_14 : decode cX3_renew 14 = .ok (.aload_n 0, 1) := by decide +kernel
theorem dX3_renew_15 : decode cX3_renew 15 = .ok (.iload_n 1, 1) := by decide +kernel
theorem dX3_renew_16 : decode cX3_renew 16 = .ok (.iload_n 3, 1) := by decide +kernel
theorem dX3_renew_17 : decode cX3_renew 17 = .ok (.iconst 0, 1) := by decide +kernel
theorem dX3_renew_18 : decode cX3_renew 18 = .ok (.invokevirtual 18, 3) := by decide +kernel
theorem dX3_renew_21 : decode cX3_renew 21 = .ok (.iinc 3 1, 3) := by decide +kernel
theorem dX3_renew_24 : decode cX3_renew 24 = .ok (.goto (-15), 3) := by decide +kernel
theorem dX3_renew_27 : decode cX3_renew 27 = .ok (.return_, 1) := by decide +kernel
theorem dX4_behind_0 : decode cX4_behind 0 = .ok (.iconst 0, 1) := by decide +kernel
theorem dX4_behind_1 : decode cX4_behind 1 = .ok (.istore_n 2, 1) := by decide +kernel
theorem dX4_behind_2 : decode cX4_behind 2 = .ok (.iconst 0, 1) := by decide +kernel
theorem dX4_behind_3 : decode cX4_behind 3 = .ok (.istore_n 3, 1) := by decide +kernel
theorem dX4_behind_4 : decode cX4_behind 4 = .ok (.iload_n 3, 1) := by decide +kernel
theorem dX4_behind_5 : decode cX4_behind 5 = .ok (.iload_n 1, 1) := by decide +kernel
theorem dX4_behind_6 : decode cX4_behind 6 = .ok (.if_icmp .ge 26, 3) := by decide +kernel
theorem dX4_behind_9 : decode cX4_behind 9 = .ok (.iload_n 3, 1) := by decide +kernel
theorem dX4_behind_10 : decode cX4_behind 10 = .ok (.aload_n 0, 1) := by decide +kernel
theorem dX4_behind_11 : decode cX4_behind 11 = .ok (.getfield 18, 3) := by decide +kernel
theorem dX4_behind_14 : decode cX4_behind 14 = .ok (.if_icmp .ge 18, 3) := by decide +kernel
theorem dX4_behind_17 : decode cX4_behind 17 = .ok (.iload_n 2, 1) := by decide +kernel
theorem dX4_behind_18 : decode cX4_behind 18 = .ok (.aload_n 0, 1) := by decide +kernel
theorem dX4_behind_19 : decode cX4_behind 19 = .ok (.getfield 9, 3) := by decide +kernel
theorem dX4_behind_22 : decode cX4_behind 22 = .ok (.iload_n 3, 1) := by decide +kernel
theorem dX4_behind_23 : decode cX4_behind 23 = .ok (.iaload, 1) := by decide +kernel
theorem dX4_behind_24 : decode cX4_behind 24 = .ok (.iadd, 1) := by decide +kernel
theorem dX4_behind_25 : decode cX4_behind 25 = .ok (.istore_n 2, 1) := by decide +kernel
theorem dX4_behind_26 : decode cX4_behind 26 = .ok (.iinc 3 1, 3) := by decide +kernel
theorem dX4_behind_29 : decode cX4_behind 29 = .ok (.goto (-25), 3) := by decide +kernel
theorem dX4_behind_32 : decode cX4_behind 32 = .ok (.iload_n 2, 1) := by decide +kernel
theorem dX4_behind_33 : decode cX4_behind 33 = .ok (.ireturn, 1) := by decide +kernel
theorem dX4_worstBehind_0 : decode cX4_worstBehind 0 = .ok (.iconst 0, 1) := by decide +kernel
theorem dX4_worstBehind_1 : decode cX4_worstBehind 1 = .ok (.istore_n 1, 1) := by decide +kernel
theorem dX4_worstBehind_2 : decode cX4_worstBehind 2 = .ok (.iconst 0, 1) := by decide +kernel
theorem dX4_worstBehind_3 : decode cX4_worstBehind 3 = .ok (.istore_n 2, 1) := by decide +kernel
theorem dX4_worstBehind_4 : decode cX4_worstBehind 4 = .ok (.iconst 0, 1) := by decide +kernel
theorem dX4_worstBehind_5 : decode cX4_worstBehind 5 = .ok (.istore_n 3, 1) := by decide +kernel
theorem dX4_worstBehind_6 : decode cX4_worstBehind 6 = .ok (.iload_n 3, 1) := by decide +kernel
theorem dX4_worstBehind_7 : decode cX4_worstBehind 7 = .ok (.aload_n 0, 1) := by decide +kernel
theorem dX4_worstBehind_8 : decode cX4_worstBehind 8 = .ok (.getfield 18, 3) := by decide +kernel
theorem dX4_worstBehind_11 : decode cX4_worstBehind 11 = .ok (.if_icmp .ge 27, 3) := by decide +kernel
theorem dX4_worstBehind_14 : decode cX4_worstBehind 14 = .ok (.iload_n 1, 1) := by decide +kernel
theorem dX4_worstBehind_15 : decode cX4_worstBehind 15 = .ok (.aload_n 0, 1) := by decide +kernel
theorem dX4_worstBehind_16 : decode cX4_worstBehind 16 = .ok (.getfield 9, 3) := by decide +kernel
theorem dX4_worstBehind_19 : decode cX4_worstBehind 19 = .ok (.iload_n 3, 1) := by decide +kernel
theorem dX4_worstBehind_20 : decode cX4_worstBehind 20 = .ok (.iaload, 1) := by decide +kernel
theorem dX4_worstBehind_21 : decode cX4_worstBehind 21 = .ok (.iadd, 1) := by decide +kernel
theorem dX4_worstBehind_22 : decode cX4_worstBehind 22 = .ok (.istore_n 1, 1) := by decide +kernel
theorem dX4_worstBehind_23 : decode cX4_worstBehind 23 = .ok (.iload_n 2, 1) := by decide +kernel
theorem dX4_worstBehind_24 : decode cX4_worstBehind 24 = .ok (.iload_n 1, 1) := by decide +kernel
theorem dX4_worstBehind_25 : decode cX4_worstBehind 25 = .ok (.invokestatic 22, 3) := by decide +kernel
theorem dX4_worstBehind_28 : decode cX4_worstBehind 28 = .ok (.invokestatic 28, 3) := by decide +kernel
theorem dX4_worstBehind_31 : decode cX4_worstBehind 31 = .ok (.istore_n 2, 1) := by decide +kernel
theorem dX4_worstBehind_32 : decode cX4_worstBehind 32 = .ok (.iinc 3 1, 3) := by decide +kernel
theorem dX4_worstBehind_35 : decode cX4_worstBehind 35 = .ok (.goto (-29), 3) := by decide +kernel
theorem dX4_worstBehind_38 : decode cX4_worstBehind 38 = .ok (.iload_n 2, 1) := by decide +kernel
theorem dX4_worstBehind_39 : decode cX4_worstBehind 39 = .ok (.ireturn, 1) := by decide +kernel
theorem dX4_bestToTurn_0 : decode cX4_bestToTurn 0 = .ok (.aload_n 0, 1) := by decide +kernel
theorem dX4_bestToTurn_1 : decode cX4_bestToTurn 1 = .ok (.invokevirtual 32, 3) := by decide +kernel
theorem dX4_bestToTurn_4 : decode cX4_bestToTurn 4 = .ok (.istore_n 1, 1) := by decide +kernel
theorem dX4_bestToTurn_5 : decode cX4_bestToTurn 5 = .ok (.bipush (-2), 2) := by decide +kernel
theorem dX4_bestToTurn_7 : decode cX4_bestToTurn 7 = .ok (.istore_n 2, 1) := by decide +kernel
theorem dX4_bestToTurn_8 : decode cX4_bestToTurn 8 = .ok (.iconst 0, 1) := by decide +kernel
theorem dX4_bestToTurn_9 : decode cX4_bestToTurn 9 = .ok (.istore_n 3, 1) := by decide +kernel
theorem dX4_bestToTurn_10 : decode cX4_bestToTurn 10 = .ok (.iload_n 3, 1) := by decide +kernel
theorem dX4_bestToTurn_11 : decode cX4_bestToTurn 11 = .ok (.aload_n 0, 1) := by decide +kernel
theorem dX4_bestToTurn_12 : decode cX4_bestToTurn 12 = .ok (.getfield 18, 3) := by decide +kernel
theorem dX4_bestToTurn_15 : decode cX4_bestToTurn 15 = .ok (.if_icmp .ge 52, 3) := by decide +kernel
theorem dX4_bestToTurn_18 : decode cX4_bestToTurn 18 = .ok (.aload_n 0, 1) := by decide +kernel
theorem dX4_bestToTurn_19 : decode cX4_bestToTurn 19 = .ok (.getfield 9, 3) := by decide +kernel
theorem dX4_bestToTurn_22 : decode cX4_bestToTurn 22 = .ok (.iload_n 3, 1) := by decide +kernel
theorem dX4_bestToTurn_23 : decode cX4_bestToTurn 23 = .ok (.aload_n 0, 1) := by decide +kernel
theorem dX4_bestToTurn_24 : decode cX4_bestToTurn 24 = .ok (.getfield 9, 3) := by decide +kernel
theorem dX4_bestToTurn_27 : decode cX4_bestToTurn 27 = .ok (.iload_n 3, 1) := by decide +kernel
theorem dX4_bestToTurn_28 : decode cX4_bestToTurn 28 = .ok (.iaload, 1) := by decide +kernel
theorem dX4_bestToTurn_29 : decode cX4_bestToTurn 29 = .ok (.ineg, 1) := by decide +kernel
theorem dX4_bestToTurn_30 : decode cX4_bestToTurn 30 = .ok (.iastore, 1) := by decide +kernel
theorem dX4_bestToTurn_31 : decode cX4_bestToTurn 31 = .ok (.aload_n 0, 1) := by decide +kernel
theorem dX4_bestToTurn_32 : decode cX4_bestToTurn 32 = .ok (.invokevirtual 32, 3) := by decide +kernel
theorem dX4_bestToTurn_35 : decode cX4_bestToTurn 35 = .ok (.istore 4, 2) := by decide +kernel
theorem dX4_bestToTurn_37 : decode cX4_bestToTurn 37 = .ok (.aload_n 0, 1) := by decide +kernel
theorem dX4_bestToTurn_38 : decode cX4_bestToTurn 38 = .ok (.getfield 9, 3) := by decide +kernel
theorem dX4_bestToTurn_41 : decode cX4_bestToTurn 41 = .ok (.iload_n 3, 1) := by decide +kernel
theorem dX4_bestToTurn_42 : decode cX4_bestToTurn 42 = .ok (.aload_n 0, 1) := by decide +kernel
theorem dX4_bestToTurn_43 : decode cX4_bestToTurn 43 = .ok (.getfield 9, 3) := by decide +kernel
theorem dX4_bestToTurn_46 : decode cX4_bestToTurn 46 = .ok (.iload_n 3, 1) := by decide +kernel
theorem dX4_bestToTurn_47 : decode cX4_bestToTurn 47 = .ok (.iaload, 1) := by decide +kernel
theorem dX4_bestToTurn_48 : decode cX4_bestToTurn 48 = .ok (.ineg, 1) := by decide +kernel
theorem dX4_bestToTurn_49 : decode cX4_bestToTurn 49 = .ok (.iastore, 1) := by decide +kernel
theorem dX4_bestToTurn_50 : decode cX4_bestToTurn 50 = .ok (.iload 4, 2) := by decide +kernel
theorem dX4_bestToTurn_52 : decode cX4_bestToTurn 52 = .ok (.iload_n 1, 1) := by decide +kernel
theorem dX4_bestToTurn_53 : decode cX4_bestToTurn 53 = .ok (.if_icmp .ge 8, 3) := by decide +kernel
theorem dX4_bestToTurn_56 : decode cX4_bestToTurn 56 = .ok (.iload 4, 2) := by decide +kernel
theorem dX4_bestToTurn_58 : decode cX4_bestToTurn 58 = .ok (.istore_n 1, 1) := by decide +kernel
theorem dX4_bestToTurn_59 : decode cX4_bestToTurn 59 = .ok (.iload_n 3, 1) := by decide +kernel
theorem dX4_bestToTurn_60 : decode cX4_bestToTurn 60 = .ok (.istore_n 2, 1) := by decide +kernel
theorem dX4_bestToTurn_61 : decode cX4_bestToTurn 61 = .ok (.iinc 3 1, 3) := by decide +kernel
theorem dX4_bestToTurn_64 : decode cX4_bestToTurn 64 = .ok (.goto (-54), 3) := by decide +kernel
theorem dX4_bestToTurn_67 : decode cX4_bestToTurn 67 = .ok (.iload_n 2, 1) := by decide +kernel
theorem dX4_bestToTurn_68 : decode cX4_bestToTurn 68 = .ok (.ireturn, 1) := by decide +kernel
theorem dX4_findReaches_0 : decode cX4_findReaches 0 = .ok (.iconst 1, 1) := by decide +kernel
theorem dX4_findReaches_1 : decode cX4_findReaches 1 = .ok (.aload_n 0, 1) := by decide +kernel
theorem dX4_findReaches_2 : decode cX4_findReaches 2 = .ok (.getfield 18, 3) := by decide +kernel
theorem dX4_findReaches_5 : decode cX4_findReaches 5 = .ok (.ishl, 1) := by decide +kernel
theorem dX4_findReaches_6 : decode cX4_findReaches 6 = .ok (.iconst 1, 1) := by decide +kernel
theorem dX4_findReaches_7 : decode cX4_findReaches 7 = .ok (.isub, 1) := by decide +kernel
theorem dX4_findReaches_8 : decode cX4_findReaches 8 = .ok (.istore_n 1, 1) := by decide +kernel
theorem dX4_findReaches_9 : decode cX4_findReaches 9 = .ok (.iload_n 1, 1) := by decide +kernel
theorem dX4_findReaches_10 : decode cX4_findReaches 10 = .ok (.istore_n 2, 1) := by decide +kernel
theorem dX4_findReaches_11 : decode cX4_findReaches 11 = .ok (.iload_n 2, 1) := by decide +kernel
theorem dX4_findReaches_12 : decode cX4_findReaches 12 = .ok (.ifCond .lt 98, 3) := by decide +kernel
theorem dX4_findReaches_15 : decode cX4_findReaches 15 = .ok (.iconst 0, 1) := by decide +kernel
theorem dX4_findReaches_16 : decode cX4_findReaches 16 = .ok (.istore_n 3, 1) := by decide +kernel
theorem dX4_findReaches_17 : decode cX4_findReaches 17 = .ok (.iload_n 2, 1) := by decide +kernel
theorem dX4_findReaches_18 : decode cX4_findReaches 18 = .ok (.iload_n 1, 1) := by decide +kernel
theorem dX4_findReaches_19 : decode cX4_findReaches 19 = .ok (.if_icmp .ne 7, 3) := by decide +kernel
theorem dX4_findReaches_22 : decode cX4_findReaches 22 = .ok (.iconst 0, 1) := by decide +kernel
theorem dX4_findReaches_23 : decode cX4_findReaches 23 = .ok (.goto 5, 3) := by decide +kernel
theorem dX4_findReaches_26 : decode cX4_findReaches 26 = .ok (.ldc 38, 2) := by decide +kernel
theorem dX4_findReaches_28 : decode cX4_findReaches 28 = .ok (.istore 4, 2) := by decide +kernel
theorem dX4_findReaches_30 : decode cX4_findReaches 30 = .ok (.iconst 0, 1) := by decide +kernel
theorem dX4_findReaches_31 : decode cX4_findReaches 31 = .ok (.istore 5, 2) := by decide +kernel
theorem dX4_findReaches_33 : decode cX4_findReaches 33 = .ok (.iload 5, 2) := by decide +kernel
theorem dX4_findReaches_35 : decode cX4_findReaches 35 = .ok (.aload_n 0, 1) := by decide +kernel
theorem dX4_findReaches_36 : decode cX4_findReaches 36 = .ok (.getfield 18, 3) := by decide +kernel
theorem dX4_findReaches_39 : decode cX4_findReaches 39 = .ok (.if_icmp .ge 50, 3) := by decide +kernel
theorem dX4_findReaches_42 : decode cX4_findReaches 42 = .ok (.iload_n 2, 1) := by decide +kernel
theorem dX4_findReaches_43 : decode cX4_findReaches 43 = .ok (.iload 5, 2) := by decide +kernel
theorem dX4_findReaches_45 : decode cX4_findReaches 45 = .ok (.ishr, 1) := by decide +kernel
theorem dX4_findReaches_46 : decode cX4_findReaches 46 = .ok (.iconst 1, 1) := by decide +kernel
theorem dX4_findReaches_47 : decode cX4_findReaches 47 = .ok (.iand, 1) := by decide +kernel
theorem dX4_findReaches_48 : decode cX4_findReaches 48 = .ok (.iconst 1, 1) := by decide +kernel
theorem dX4_findReaches_49 : decode cX4_findReaches 49 = .ok (.if_icmp .ne 16, 3) := by decide +kernel
theorem dX4_findReaches_52 : decode cX4_findReaches 52 = .ok (.iload_n 3, 1) := by decide +kernel
theorem dX4_findReaches_53 : decode cX4_findReaches 53 = .ok (.aload_n 0, 1) := by decide +kernel
theorem dX4_findReaches_54 : decode cX4_findReaches 54 = .ok (.getfield 9, 3) := by decide +kernel
theorem dX4_findReaches_57 : decode cX4_findReaches 57 = .ok (.iload 5, 2) := by decide +kernel
theorem dX4_findReaches_59 : decode cX4_findReaches 59 = .ok (.iaload, 1) := by decide +kernel
theorem dX4_findReaches_60 : decode cX4_findReaches 60 = .ok (.iadd, 1) := by decide +kernel
theorem dX4_findReaches_61 : decode cX4_findReaches 61 = .ok (.istore_n 3, 1) := by decide +kernel
theorem dX4_findReaches_62 : decode cX4_findReaches 62 = .ok (.goto 21, 3) := by decide +kernel
theorem dX4_findReaches_65 : decode cX4_findReaches 65 = .ok (.iload 4, 2) := by decide +kernel
theorem dX4_findReaches_67 : decode cX4_findReaches 67 = .ok (.aload_n 0, 1) := by decide +kernel
theorem dX4_findReaches_68 : decode cX4_findReaches 68 = .ok (.getfield 15, 3) := by decide +kernel
theorem dX4_findReaches_71 : decode cX4_findReaches 71 = .ok (.iload_n 2, 1) := by decide +kernel
theorem dX4_findReaches_72 : decode cX4_findReaches 72 = .ok (.iconst 1, 1) := by decide +kernel
theorem dX4_findReaches_73 : decode cX4_findReaches 73 = .ok (.iload 5, 2) := by decide +kernel
theorem dX4_findReaches_75 : decode cX4_findReaches 75 = .ok (.ishl, 1) := by decide +kernel
theorem dX4_findReaches_76 : decode cX4_findReaches 76 = .ok (.ior, 1) := by decide +kernel
theorem dX4_findReaches_77 : decode cX4_findReaches 77 = .ok (.iaload, 1) := by decide +kernel
theorem dX4_findReaches_78 : decode cX4_findReaches 78 = .ok (.invokestatic 39, 3) := by decide +kernel
theorem dX4_findReaches_81 : decode cX4_findReaches 81 = .ok (.istore 4, 2) := by decide +kernel
theorem dX4_findReaches_83 : decode cX4_findReaches 83 = .ok (.iinc 5 1, 3) := by decide +kernel
theorem dX4_findReaches_86 : decode cX4_findReaches 86 = .ok (.goto (-53), 3) := by decide +kernel
theorem dX4_findReaches_89 : decode cX4_findReaches 89 = .ok (.aload_n 0, 1) := by decide +kernel
theorem dX4_findReaches_90 : decode cX4_findReaches 90 = .ok (.getfield 15, 3) := by decide +kernel
theorem dX4_findReaches_93 : decode cX4_findReaches 93 = .ok (.iload_n 2, 1) := by decide +kernel
theorem dX4_findReaches_94 : decode cX4_findReaches 94 = .ok (.iload 4, 2) := by decide +kernel
theorem dX4_findReaches_96 : decode cX4_findReaches 96 = .ok (.iload_n 3, 1) := by decide +kernel
theorem dX4_findReaches_97 : decode cX4_findReaches 97 = .ok (.invokestatic 22, 3) := by decide +kernel
theorem dX4_findReaches_100 : decode cX4_findReaches 100 = .ok (.invokestatic 28, 3) := by decide +kernel
theorem dX4_findReaches_103 : decode cX4_findReaches 103 = .ok (.iastore, 1) := by decide +kernel
theorem dX4_findReaches_104 : decode cX4_findReaches 104 = .ok (.iinc 2 (-1), 3) := by decide +kernel
theorem dX4_findReaches_107 : decode cX4_findReaches 107 = .ok (.goto (-96), 3) := by decide +kernel
theorem dX4_findReaches_110 : decode cX4_findReaches 110 = .ok (.return_, 1) := by decide +kernel
theorem dX4_leastWorst_0 : decode cX4_leastWorst 0 = .ok (.aload_n 0, 1) := by decide +kernel
theorem dX4_leastWorst_1 : decode cX4_leastWorst 1 = .ok (.getfield 15, 3) := by decide +kernel
theorem dX4_leastWorst_4 : decode cX4_leastWorst 4 = .ok (.iconst 0, 1) := by decide +kernel
theorem dX4_leastWorst_5 : decode cX4_leastWorst 5 = .ok (.iaload, 1) := by decide +kernel
theorem dX4_leastWorst_6 : decode cX4_leastWorst 6 = .ok (.ireturn, 1) := by decide +kernel
theorem dX4_inBestOrder_0 : decode cX4_inBestOrder 0 = .ok (.iconst 0, 1) := by decide +kernel
theorem dX4_inBestOrder_1 : decode cX4_inBestOrder 1 = .ok (.istore_n 2, 1) := by decide +kernel
theorem dX4_inBestOrder_2 : decode cX4_inBestOrder 2 = .ok (.bipush (-2), 2) := by decide +kernel
theorem dX4_inBestOrder_4 : decode cX4_inBestOrder 4 = .ok (.istore_n 3, 1) := by decide +kernel
theorem dX4_inBestOrder_5 : decode cX4_inBestOrder 5 = .ok (.iconst 0, 1) := by decide +kernel
theorem dX4_inBestOrder_6 : decode cX4_inBestOrder 6 = .ok (.istore 4, 2) := by decide +kernel
theorem dX4_inBestOrder_8 : decode cX4_inBestOrder 8 = .ok (.iload 4, 2) := by decide +kernel
theorem dX4_inBestOrder_10 : decode cX4_inBestOrder 10 = .ok (.iload_n 1, 1) := by decide +kernel
theorem dX4_inBestOrder_11 : decode cX4_inBestOrder 11 = .ok (.if_icmp .gt 51, 3) := by decide +kernel
theorem dX4_inBestOrder_14 : decode cX4_inBestOrder 14 = .ok (.iload 4, 2) := by decide +kernel
theorem dX4_inBestOrder_16 : decode cX4_inBestOrder 16 = .ok (.aload_n 0, 1) := by decide +kernel
theorem dX4_inBestOrder_17 : decode cX4_inBestOrder 17 = .ok (.getfield 18, 3) := by decide +kernel
theorem dX4_inBestOrder_20 : decode cX4_inBestOrder 20 = .ok (.if_icmp .ge 42, 3) := by decide +kernel
theorem dX4_inBestOrder_23 : decode cX4_inBestOrder 23 = .ok (.iconst 0, 1) := by decide +kernel
theorem dX4_inBestOrder_24 : decode cX4_inBestOrder 24 = .ok (.istore_n 3, 1) := by decide +kernel
theorem dX4_inBestOrder_25 : decode cX4_inBestOrder 25 = .ok (.iload_n 3, 1) := by decide +kernel
theorem dX4_inBestOrder_26 : decode cX4_inBestOrder 26 = .ok (.iconst 1, 1) := by decide +kernel
theorem dX4_inBestOrder_27 : decode cX4_inBestOrder 27 = .ok (.iadd, 1) := by decide +kernel
theorem dX4_inBestOrder_28 : decode cX4_inBestOrder 28 = .ok (.aload_n 0, 1) := by decide +kernel
theorem dX4_inBestOrder_29 : decode cX4_inBestOrder 29 = .ok (.getfield 18, 3) := by decide +kernel
theorem dX4_inBestOrder_32 : decode cX4_inBestOrder 32 = .ok (.if_icmp .ge 18, 3) := by decide +kernel
theorem dX4_inBestOrder_35 : decode cX4_inBestOrder 35 = .ok (.aload_n 0, 1) := by decide +kernel
theorem dX4_inBestOrder_36 : decode cX4_inBestOrder 36 = .ok (.iload_n 2, 1) := by decide +kernel
theorem dX4_inBestOrder_37 : decode cX4_inBestOrder 37 = .ok (.iload_n 3, 1) := by decide +kernel
theorem dX4_inBestOrder_38 : decode cX4_inBestOrder 38 = .ok (.invokevirtual 42, 3) := by decide +kernel
theorem dX4_inBestOrder_41 : decode cX4_inBestOrder 41 = .ok (.ifCond .ne 9, 3) := by decide +kernel
theorem dX4_inBestOrder_44 : decode cX4_inBestOrder 44 = .ok (.iinc 3 1, 3) := by decide +kernel
theorem dX4_inBestOrder_47 : decode cX4_inBestOrder 47 = .ok (.goto (-22), 3) := by decide +kernel
theorem dX4_inBestOrder_50 : decode cX4_inBestOrder 50 = .ok (.iload_n 2, 1) := by decide +kernel
theorem dX4_inBestOrder_51 : decode cX4_inBestOrder 51 = .ok (.iconst 1, 1) := by decide +kernel
theorem dX4_inBestOrder_52 : decode cX4_inBestOrder 52 = .ok (.iload_n 3, 1) := by decide +kernel
theorem dX4_inBestOrder_53 : decode cX4_inBestOrder 53 = .ok (.ishl, 1) := by decide +kernel
theorem dX4_inBestOrder_54 : decode cX4_inBestOrder 54 = .ok (.ior, 1) := by decide +kernel
theorem dX4_inBestOrder_55 : decode cX4_inBestOrder 55 = .ok (.istore_n 2, 1) := by decide +kernel
theorem dX4_inBestOrder_56 : decode cX4_inBestOrder 56 = .ok (.iinc 4 1, 3) := by decide +kernel
theorem dX4_inBestOrder_59 : decode cX4_inBestOrder 59 = .ok (.goto (-51), 3) := by decide +kernel
theorem dX4_inBestOrder_62 : decode cX4_inBestOrder 62 = .ok (.iload_n 3, 1) := by decide +kernel
theorem dX4_inBestOrder_63 : decode cX4_inBestOrder 63 = .ok (.ireturn, 1) := by decide +kernel
theorem dX4_isBest_0 : decode cX4_isBest 0 = .ok (.iload_n 1, 1) := by decide +kernel
theorem dX4_isBest_1 : decode cX4_isBest 1 = .ok (.iload_n 2, 1) := by decide +kernel
theorem dX4_isBest_2 : decode cX4_isBest 2 = .ok (.ishr, 1) := by decide +kernel
theorem dX4_isBest_3 : decode cX4_isBest 3 = .ok (.iconst 1, 1) := by decide +kernel
theorem dX4_isBest_4 : decode cX4_isBest 4 = .ok (.iand, 1) := by decide +kernel
theorem dX4_isBest_5 : decode cX4_isBest 5 = .ok (.ifCond .ne 26, 3) := by decide +kernel
theorem dX4_isBest_8 : decode cX4_isBest 8 = .ok (.aload_n 0, 1) := by decide +kernel
theorem dX4_isBest_9 : decode cX4_isBest 9 = .ok (.getfield 15, 3) := by decide +kernel
theorem dX4_isBest_12 : decode cX4_isBest 12 = .ok (.iload_n 1, 1) := by decide +kernel
theorem dX4_isBest_13 : decode cX4_isBest 13 = .ok (.iconst 1, 1) := by decide +kernel
theorem dX4_isBest_14 : decode cX4_isBest 14 = .ok (.iload_n 2, 1) := by decide +kernel
theorem dX4_isBest_15 : decode cX4_isBest 15 = .ok (.ishl, 1) := by decide +kernel
theorem dX4_isBest_16 : decode cX4_isBest 16 = .ok (.ior, 1) := by decide +kernel
theorem dX4_isBest_17 : decode cX4_isBest 17 = .ok (.iaload, 1) := by decide +kernel
theorem dX4_isBest_18 : decode cX4_isBest 18 = .ok (.aload_n 0, 1) := by decide +kernel
theorem dX4_isBest_19 : decode cX4_isBest 19 = .ok (.getfield 15, 3) := by decide +kernel
theorem dX4_isBest_22 : decode cX4_isBest 22 = .ok (.iconst 0, 1) := by decide +kernel
theorem dX4_isBest_23 : decode cX4_isBest 23 = .ok (.iaload, 1) := by decide +kernel
theorem dX4_isBest_24 : decode cX4_isBest 24 = .ok (.if_icmp .gt 7, 3) := by decide +kernel
theorem dX4_isBest_27 : decode cX4_isBest 27 = .ok (.iconst 1, 1) := by decide +kernel
theorem dX4_isBest_28 : decode cX4_isBest 28 = .ok (.goto 4, 3) := by decide +kernel
theorem dX4_isBest_31 : decode cX4_isBest 31 = .ok (.iconst 0, 1) := by decide +kernel
theorem dX4_isBest_32 : decode cX4_isBest 32 = .ok (.ireturn, 1) := by decide +kernel
theorem dX5_add_0 : decode cX5_add 0 = .ok (.aload_n 0, 1) := by decide +kernel
theorem dX5_add_1 : decode cX5_add 1 = .ok (.getfield 19, 3) := by decide +kernel
theorem dX5_add_4 : decode cX5_add 4 = .ok (.bipush 80, 2) := by decide +kernel
theorem dX5_add_6 : decode cX5_add 6 = .ok (.if_icmp .lt 5, 3) := by decide +kernel
theorem dX5_add_9 : decode cX5_add 9 = .ok (.iconst 0, 1) := by decide +kernel
theorem dX5_add_10 : decode cX5_add 10 = .ok (.ireturn, 1) := by decide +kernel
theorem dX5_add_11 : decode cX5_add 11 = .ok (.aload_n 0, 1) := by decide +kernel
theorem dX5_add_12 : decode cX5_add 12 = .ok (.getfield 15, 3) := by decide +kernel
theorem dX5_add_15 : decode cX5_add 15 = .ok (.aload_n 0, 1) := by decide +kernel
theorem dX5_add_16 : decode cX5_add 16 = .ok (.getfield 19, 3) := by decide +kernel
theorem dX5_add_19 : decode cX5_add 19 = .ok (.iload_n 1, 1) := by decide +kernel
theorem dX5_add_20 : decode cX5_add 20 = .ok (.i2b, 1) := by decide +kernel
theorem dX5_add_21 : decode cX5_add 21 = .ok (.bastore, 1) := by decide +kernel
theorem dX5_add_22 : decode cX5_add 22 = .ok (.aload_n 0, 1) := by decide +kernel
theorem dX5_add_23 : decode cX5_add 23 = .ok (.dup, 1) := by decide +kernel
theorem dX5_add_24 : decode cX5_add 24 = .ok (.getfield 19, 3) := by decide +kernel
theorem dX5_add_27 : decode cX5_add 27 = .ok (.iconst 1, 1) := by decide +kernel
theorem dX5_add_28 : decode cX5_add 28 = .ok (.iadd, 1) := by decide +kernel
theorem dX5_add_29 : decode cX5_add 29 = .ok (.putfield 19, 3) := by decide +kernel
theorem dX5_add_32 : decode cX5_add 32 = .ok (.iconst 1, 1) := by decide +kernel
theorem dX5_add_33 : decode cX5_add 33 = .ok (.ireturn, 1) := by decide +kernel
theorem dX5_rewind_0 : decode cX5_rewind 0 = .ok (.aload_n 0, 1) := by decide +kernel
theorem dX5_rewind_1 : decode cX5_rewind 1 = .ok (.iconst 0, 1) := by decide +kernel
theorem dX5_rewind_2 : decode cX5_rewind 2 = .ok (.putfield 23, 3) := by decide +kernel
theorem dX5_rewind_5 : decode cX5_rewind 5 = .ok (.return_, 1) := by decide +kernel
theorem dX5_firstFault_0 : decode cX5_firstFault 0 = .ok (.aload_n 0, 1) := by decide +kernel
theorem dX5_firstFault_1 : decode cX5_firstFault 1 = .ok (.invokevirtual 26, 3) := by decide +kernel
theorem dX5_firstFault_4 : decode cX5_firstFault 4 = .ok (.iconst 0, 1) := by decide +kernel
theorem dX5_firstFault_5 : decode cX5_firstFault 5 = .ok (.istore_n 1, 1) := by decide +kernel
theorem dX5_firstFault_6 : decode cX5_firstFault 6 = .ok (.iload_n 1, 1) := by decide +kernel
theorem dX5_firstFault_7 : decode cX5_firstFault 7 = .ok (.bipush 80, 2) := by decide +kernel
theorem dX5_firstFault_9 : decode cX5_firstFault 9 = .ok (.if_icmp .ge 48, 3) := by decide +kernel
theorem dX5_firstFault_12 : decode cX5_firstFault 12 = .ok (.aload_n 0, 1) := by decide +kernel
theorem dX5_firstFault_13 : decode cX5_firstFault 13 = .ok (.invokevirtual 29, 3) := by decide +kernel
theorem dX5_firstFault_16 : decode cX5_firstFault 16 = .ok (.ifCond .ne 8, 3) := by decide +kernel
theorem dX5_firstFault_19 : decode cX5_firstFault 19 = .ok (.aload_n 0, 1) := by decide +kernel
theorem dX5_firstFault_20 : decode cX5_firstFault 20 = .ok (.getfield 23, 3) := by decide +kernel
theorem dX5_firstFault_23 : decode cX5_firstFault 23 = .ok (.ireturn, 1) := by decide +kernel
theorem dX5_firstFault_24 : decode cX5_firstFault 24 = .ok (.aload_n 0, 1) := by decide +kernel
theorem dX5_firstFault_25 : decode cX5_firstFault 25 = .ok (.getfield 23, 3) := by decide +kernel
theorem dX5_firstFault_28 : decode cX5_firstFault 28 = .ok (.aload_n 0, 1) := by decide +kernel
theorem dX5_firstFault_29 : decode cX5_firstFault 29 = .ok (.getfield 19, 3) := by decide +kernel
theorem dX5_firstFault_32 : decode cX5_firstFault 32 = .ok (.if_icmp .lt 5, 3) := by decide +kernel
theorem dX5_firstFault_35 : decode cX5_firstFault 35 = .ok (.iconst (-1), 1) := by decide +kernel
theorem dX5_firstFault_36 : decode cX5_firstFault 36 = .ok (.ireturn, 1) := by decide +kernel
theorem dX5_firstFault_37 : decode cX5_firstFault 37 = .ok (.aload_n 0, 1) := by decide +kernel
theorem dX5_firstFault_38 : decode cX5_firstFault 38 = .ok (.bipush 59, 2) := by decide +kernel
theorem dX5_firstFault_40 : decode cX5_firstFault 40 = .ok (.invokevirtual 33, 3) := by decide +kernel
theorem dX5_firstFault_43 : decode cX5_firstFault 43 = .ok (.ifCond .ne 8, 3) := by decide +kernel
theorem dX5_firstFault_46 : decode cX5_firstFault 46 = .ok (.aload_n 0, 1) := by decide +kernel
theorem dX5_firstFault_47 : decode cX5_firstFault 47 = .ok (.getfield 23, 3) := by decide +kernel
theorem dX5_firstFault_50 : decode cX5_firstFault 50 = .ok (.ireturn, 1) := by decide +kernel
theorem dX5_firstFault_51 : decode cX5_firstFault 51 = .ok (.iinc 1 1, 3) := by decide +kernel
theorem dX5_firstFault_54 : decode cX5_firstFault 54 = .ok (.goto (-48), 3) := by decide +kernel
theorem dX5_firstFault_57 : decode cX5_firstFault 57 = .ok (.aload_n 0, 1) := by decide +kernel
theorem dX5_firstFault_58 : decode cX5_firstFault 58 = .ok (.getfield 23, 3) := by decide +kernel
theorem dX5_firstFault_61 : decode cX5_firstFault 61 = .ok (.ireturn, 1) := by decide +kernel
theorem dX5_takeAct_0 : decode cX5_takeAct 0 = .ok (.aload_n 0, 1) := by decide +kernel
theorem dX5_takeAct_1 : decode cX5_takeAct 1 = .ok (.iconst 0, 1) := by decide +kernel
theorem dX5_takeAct_2 : decode cX5_takeAct 2 = .ok (.putfield 37, 3) := by decide +kernel
theorem dX5_takeAct_5 : decode cX5_takeAct 5 = .ok (.aload_n 0, 1) := by decide +kernel
theorem dX5_takeAct_6 : decode cX5_takeAct 6 = .ok (.getfield 23, 3) := by decide +kernel
theorem dX5_takeAct_9 : decode cX5_takeAct 9 = .ok (.aload_n 0, 1) := by decide +kernel
theorem dX5_takeAct_10 : decode cX5_takeAct 10 = .ok (.getfield 19, 3) := by decide +kernel
theorem dX5_takeAct_13 : decode cX5_takeAct 13 = .ok (.if_icmp .lt 5, 3) := by decide +kernel
theorem dX5_takeAct_16 : decode cX5_takeAct 16 = .ok (.iconst 0, 1) := by decide +kernel
theorem dX5_takeAct_17 : decode cX5_takeAct 17 = .ok (.ireturn, 1) := by decide +kernel
theorem dX5_takeAct_18 : decode cX5_takeAct 18 = .ok (.aload_n 0, 1) := by decide +kernel
theorem dX5_takeAct_19 : decode cX5_takeAct 19 = .ok (.aload_n 0, 1) := by decide +kernel
theorem dX5_takeAct_20 : decode cX5_takeAct 20 = .ok (.getfield 15, 3) := by decide +kernel
theorem dX5_takeAct_23 : decode cX5_takeAct 23 = .ok (.aload_n 0, 1) := by decide +kernel
theorem dX5_takeAct_24 : decode cX5_takeAct 24 = .ok (.getfield 23, 3) := by decide +kernel
theorem dX5_takeAct_27 : decode cX5_takeAct 27 = .ok (.baload, 1) := by decide +kernel
theorem dX5_takeAct_28 : decode cX5_takeAct 28 = .ok (.putfield 40, 3) := by decide +kernel
theorem dX5_takeAct_31 : decode cX5_takeAct 31 = .ok (.aload_n 0, 1) := by decide +kernel
theorem dX5_takeAct_32 : decode cX5_takeAct 32 = .ok (.getfield 40, 3) := by decide +kernel
theorem dX5_takeAct_35 : decode cX5_takeAct 35 = .ok (.tableswitch 169 109 116 #[130, 169, 169, 100, 169, 169, 130, 45], 45) := by decide +kernel
theorem dX5_takeAct_80 : decode cX5_takeAct 80 = .ok (.aload_n 0, 1) := by decide +kernel
theorem dX5_takeAct_81 : decode cX5_takeAct 81 = .ok (.dup, 1) := by decide +kernel
theorem dX5_takeAct_82 : decode cX5_takeAct 82 = .ok (.getfield 23, 3) := by decide +kernel
theorem dX5_takeAct_85 : decode cX5_takeAct 85 = .ok (.iconst 1, 1) := by decide +kernel
theorem dX5_takeAct_86 : decode cX5_takeAct 86 = .ok (.iadd, 1) := by decide +kernel
theorem dX5_takeAct_87 : decode cX5_takeAct 87 = .ok (.putfield 23, 3) := by decide +kernel
theorem dX5_takeAct_90 : decode cX5_takeAct 90 = .ok (.aload_n 0, 1) := by decide +kernel
theorem dX5_takeAct_91 : decode cX5_takeAct 91 = .ok (.invokevirtual 43, 3) := by decide +kernel
theorem dX5_takeAct_94 : decode cX5_takeAct 94 = .ok (.ifCond .eq 39, 3) := by decide +kernel
theorem dX5_takeAct_97 : decode cX5_takeAct 97 = .ok (.aload_n 0, 1) := by decide +kernel
theorem dX5_takeAct_98 : decode cX5_takeAct 98 = .ok (.bipush 44, 2) := by decide +kernel
theorem dX5_takeAct_100 : decode cX5_takeAct 100 = .ok (.invokevirtual 33, 3) := by decide +kernel
theorem dX5_takeAct_103 : decode cX5_takeAct 103 = .ok (.ifCond .eq 30, 3) := by decide +kernel
theorem dX5_takeAct_106 : decode cX5_takeAct 106 = .ok (.aload_n 0, 1) := by decide +kernel
theorem dX5_takeAct_107 : decode cX5_takeAct 107 = .ok (.invokevirtual 43, 3) := by decide +kernel
theorem dX5_takeAct_110 : decode cX5_takeAct 110 = .ok (.ifCond .eq 23, 3) := by decide +kernel
theorem dX5_takeAct_113 : decode cX5_takeAct 113 = .ok (.aload_n 0, 1) := by decide +kernel
theorem dX5_takeAct_114 : decode cX5_takeAct 114 = .ok (.bipush 44, 2) := by decide +kernel
theorem dX5_takeAct_116 : decode cX5_takeAct 116 = .ok (.invokevirtual 33, 3) := by decide +kernel
theorem dX5_takeAct_119 : decode cX5_takeAct 119 = .ok (.ifCond .eq 14, 3) := by decide +kernel
theorem dX5_takeAct_122 : decode cX5_takeAct 122 = .ok (.aload_n 0, 1) := by decide +kernel
theorem dX5_takeAct_123 : decode cX5_takeAct 123 = .ok (.invokevirtual 46, 3) := by decide +kernel
theorem dX5_takeAct_126 : decode cX5_takeAct 126 = .ok (.ifCond .eq 7, 3) := by decide +kernel
theorem dX5_takeAct_129 : decode cX5_takeAct 129 = .ok (.iconst 1, 1) := by decide +kernel
theorem dX5_takeAct_130 : decode cX5_takeAct 130 = .ok (.goto 4, 3) := by decide +kernel
theorem dX5_takeAct_133 : decode cX5_takeAct 133 = .ok (.iconst 0, 1) := by decide +kernel
theorem dX5_takeAct_134 : decode cX5_takeAct 134 = .ok (.ireturn, 1) := by decide +kernel
theorem dX5_takeAct_135 : decode cX5_takeAct 135 = .ok (.aload_n 0, 1) := by decide +kernel
theorem dX5_takeAct_136 : decode cX5_takeAct 136 = .ok (.dup, 1) := by decide +kernel
theorem dX5_takeAct_137 : decode cX5_takeAct 137 = .ok (.getfield 23, 3) := by decide +kernel
theorem dX5_takeAct_140 : decode cX5_takeAct 140 = .ok (.iconst 1, 1) := by decide +kernel
theorem dX5_takeAct_141 : decode cX5_takeAct 141 = .ok (.iadd, 1) := by decide +kernel
theorem dX5_takeAct_142 : decode cX5_takeAct 142 = .ok (.putfield 23, 3) := by decide +kernel
theorem dX5_takeAct_145 : decode cX5_takeAct 145 = .ok (.aload_n 0, 1) := by decide +kernel
theorem dX5_takeAct_146 : decode cX5_takeAct 146 = .ok (.invokevirtual 49, 3) := by decide +kernel
theorem dX5_takeAct_149 : decode cX5_takeAct 149 = .ok (.ifCond .eq 14, 3) := by decide +kernel
theorem dX5_takeAct_152 : decode cX5_takeAct 152 = .ok (.aload_n 0, 1) := by decide +kernel
theorem dX5_takeAct_153 : decode cX5_takeAct 153 = .ok (.invokevirtual 46, 3) := by decide +kernel
theorem dX5_takeAct_156 : decode cX5_takeAct 156 = .ok (.ifCond .eq 7, 3) := by decide +kernel
theorem dX5_takeAct_159 : decode cX5_takeAct 159 = .ok (.iconst 1, 1) := by decide +kernel
theorem dX5_takeAct_160 : decode cX5_takeAct 160 = .ok (.goto 4, 3) := by decide +kernel
theorem dX5_takeAct_163 : decode cX5_takeAct 163 = .ok (.iconst 0, 1) := by decide +kernel
theorem dX5_takeAct_164 : decode cX5_takeAct 164 = .ok (.ireturn, 1) := by decide +kernel
theorem dX5_takeAct_165 : decode cX5_takeAct 165 = .ok (.aload_n 0, 1) := by decide +kernel
theorem dX5_takeAct_166 : decode cX5_takeAct 166 = .ok (.dup, 1) := by decide +kernel
theorem dX5_takeAct_167 : decode cX5_takeAct 167 = .ok (.getfield 23, 3) := by decide +kernel
theorem dX5_takeAct_170 : decode cX5_takeAct 170 = .ok (.iconst 1, 1) := by decide +kernel
theorem dX5_takeAct_171 : decode cX5_takeAct 171 = .ok (.iadd, 1) := by decide +kernel
theorem dX5_takeAct_172 : decode cX5_takeAct 172 = .ok (.putfield 23, 3) := by decide +kernel
theorem dX5_takeAct_175 : decode cX5_takeAct 175 = .ok (.aload_n 0, 1) := by decide +kernel
theorem dX5_takeAct_176 : decode cX5_takeAct 176 = .ok (.invokevirtual 43, 3) := by decide +kernel
theorem dX5_takeAct_179 : decode cX5_takeAct 179 = .ok (.ifCond .eq 23, 3) := by decide +kernel
theorem dX5_takeAct_182 : decode cX5_takeAct 182 = .ok (.aload_n 0, 1) := by decide +kernel
theorem dX5_takeAct_183 : decode cX5_takeAct 183 = .ok (.bipush 44, 2) := by decide +kernel
theorem dX5_takeAct_185 : decode cX5_takeAct 185 = .ok (.invokevirtual 33, 3) := by decide +kernel
theorem dX5_takeAct_188 : decode cX5_takeAct 188 = .ok (.ifCond .eq 14, 3) := by decide +kernel
theorem dX5_takeAct_191 : decode cX5_takeAct 191 = .ok (.aload_n 0, 1) := by decide +kernel
theorem dX5_takeAct_192 : decode cX5_takeAct 192 = .ok (.invokevirtual 43, 3) := by decide +kernel
theorem dX5_takeAct_195 : decode cX5_takeAct 195 = .ok (.ifCond .eq 7, 3) := by decide +kernel
theorem dX5_takeAct_198 : decode cX5_takeAct 198 = .ok (.iconst 1, 1) := by decide +kernel
theorem dX5_takeAct_199 : decode cX5_takeAct 199 = .ok (.goto 4, 3) := by decide +kernel
theorem dX5_takeAct_202 : decode cX5_takeAct 202 = .ok (.iconst 0, 1) := by decide +kernel
theorem dX5_takeAct_203 : decode cX5_takeAct 203 = .ok (.ireturn, 1) := by decide +kernel
theorem dX5_takeAct_204 : decode cX5_takeAct 204 = .ok (.iconst 0, 1) := by decide +kernel
theorem dX5_takeAct_205 : decode cX5_takeAct 205 = .ok (.ireturn, 1) := by decide +kernel
theorem dX5_lastNumber_0 : decode cX5_lastNumber 0 = .ok (.aload_n 0, 1) := by decide +kernel
theorem dX5_lastNumber_1 : decode cX5_lastNumber 1 = .ok (.getfield 37, 3) := by decide +kernel
theorem dX5_lastNumber_4 : decode cX5_lastNumber 4 = .ok (.ifCond .le 17, 3) := by decide +kernel
theorem dX5_lastNumber_7 : decode cX5_lastNumber 7 = .ok (.aload_n 0, 1) := by decide +kernel
theorem dX5_lastNumber_8 : decode cX5_lastNumber 8 = .ok (.getfield 9, 3) := by decide +kernel
theorem dX5_lastNumber_11 : decode cX5_lastNumber 11 = .ok (.aload_n 0, 1) := by decide +kernel
theorem dX5_lastNumber_12 : decode cX5_lastNumber 12 = .ok (.getfield 37, 3) := by decide +kernel
theorem dX5_lastNumber_15 : decode cX5_lastNumber 15 = .ok (.iconst 1, 1) := by decide +kernel
theorem dX5_lastNumber_16 : decode cX5_lastNumber 16 = .ok (.isub, 1) := by decide +kernel
theorem dX5_lastNumber_17 : decode cX5_lastNumber 17 = .ok (.iaload, 1) := by decide +kernel
theorem dX5_lastNumber_18 : decode cX5_lastNumber 18 = .ok (.goto 4, 3) := by decide +kernel
theorem dX5_lastNumber_21 : decode cX5_lastNumber 21 = .ok (.iconst 0, 1) := by decide +kernel
theorem dX5_lastNumber_22 : decode cX5_lastNumber 22 = .ok (.ireturn, 1) := by decide +kernel
theorem dX5_takeSign_0 : decode cX5_takeSign 0 = .ok (.aload_n 0, 1) := by decide +kernel
theorem dX5_takeSign_1 : decode cX5_takeSign 1 = .ok (.getfield 23, 3) := by decide +kernel
theorem dX5_takeSign_4 : decode cX5_takeSign 4 = .ok (.aload_n 0, 1) := by decide +kernel
theorem dX5_takeSign_5 : decode cX5_takeSign 5 = .ok (.getfield 19, 3) := by decide +kernel
theorem dX5_takeSign_8 : decode cX5_takeSign 8 = .ok (.if_icmp .ge 16, 3) := by decide +kernel
theorem dX5_takeSign_11 : decode cX5_takeSign 11 = .ok (.aload_n 0, 1) := by decide +kernel
theorem dX5_takeSign_12 : decode cX5_takeSign 12 = .ok (.getfield 15, 3) := by decide +kernel
theorem dX5_takeSign_15 : decode cX5_takeSign 15 = .ok (.aload_n 0, 1) := by decide +kernel
theorem dX5_takeSign_16 : decode cX5_takeSign 16 = .ok (.getfield 23, 3) := by decide +kernel
theorem dX5_takeSign_19 : decode cX5_takeSign 19 = .ok (.baload, 1) := by decide +kernel
theorem dX5_takeSign_20 : decode cX5_takeSign 20 = .ok (.iload_n 1, 1) := by decide +kernel
theorem dX5_takeSign_21 : decode cX5_takeSign 21 = .ok (.if_icmp .eq 5, 3) := by decide +kernel
theorem dX5_takeSign_24 : decode cX5_takeSign 24 = .ok (.iconst 0, 1) := by decide +kernel
theorem dX5_takeSign_25 : decode cX5_takeSign 25 = .ok (.ireturn, 1) := by decide +kernel
theorem dX5_takeSign_26 : decode cX5_takeSign 26 = .ok (.aload_n 0, 1) := by decide +kernel
theorem dX5_takeSign_27 : decode cX5_takeSign 27 = .ok (.dup, 1) := by decide +kernel
theorem dX5_takeSign_28 : decode cX5_takeSign 28 = .ok (.getfield 23, 3) := by decide +kernel
theorem dX5_takeSign_31 : decode cX5_takeSign 31 = .ok (.iconst 1, 1) := by decide +kernel
theorem dX5_takeSign_32 : decode cX5_takeSign 32 = .ok (.iadd, 1) := by decide +kernel
theorem dX5_takeSign_33 : decode cX5_takeSign 33 = .ok (.putfield 23, 3) := by decide +kernel
theorem dX5_takeSign_36 : decode cX5_takeSign 36 = .ok (.iconst 1, 1) := by decide +kernel
theorem dX5_takeSign_37 : decode cX5_takeSign 37 = .ok (.ireturn, 1) := by decide +kernel
theorem dX5_takeParts_0 : decode cX5_takeParts 0 = .ok (.iconst 1, 1) := by decide +kernel
theorem dX5_takeParts_1 : decode cX5_takeParts 1 = .ok (.istore_n 1, 1) := by decide +kernel
theorem dX5_takeParts_2 : decode cX5_takeParts 2 = .ok (.iload_n 1, 1) := by decide +kernel
theorem dX5_takeParts_3 : decode cX5_takeParts 3 = .ok (.iconst 4, 1) := by decide +kernel
theorem dX5_takeParts_4 : decode cX5_takeParts 4 = .ok (.if_icmp .gt 50, 3) := by decide +kernel
theorem dX5_takeParts_7 : decode cX5_takeParts 7 = .ok (.aload_n 0, 1) := by decide +kernel
theorem dX5_takeParts_8 : decode cX5_takeParts 8 = .ok (.invokevirtual 43, 3) := by decide +kernel
theorem dX5_takeParts_11 : decode cX5_takeParts 11 = .ok (.ifCond .ne 5, 3) := by decide +kernel
theorem dX5_takeParts_14 : decode cX5_takeParts 14 = .ok (.iconst 0, 1) := by decide +kernel
theorem dX5_takeParts_15 : decode cX5_takeParts 15 = .ok (.ireturn, 1) := by decide +kernel
theorem dX5_takeParts_16 : decode cX5_takeParts 16 = .ok (.iload_n 1, 1) := by decide +kernel
theorem dX5_takeParts_17 : decode cX5_takeParts 17 = .ok (.iconst 2, 1) := by decide +kernel
theorem dX5_takeParts_18 : decode cX5_takeParts 18 = .ok (.if_icmp .lt 14, 3) := by decide +kernel
theorem dX5_takeParts_21 : decode cX5_takeParts 21 = .ok (.aload_n 0, 1) := by decide +kernel
theorem dX5_takeParts_22 : decode cX5_takeParts 22 = .ok (.bipush 58, 2) := by decide +kernel
theorem dX5_takeParts_24 : decode cX5_takeParts 24 = .ok (.invokevirtual 33, 3) := by decide +kernel
theorem dX5_takeParts_27 : decode cX5_takeParts 27 = .ok (.ifCond .eq 5, 3) := by decide +kernel
theorem dX5_takeParts_30 : decode cX5_takeParts 30 = .ok (.iconst 1, 1) := by decide +kernel
theorem dX5_takeParts_31 : decode cX5_takeParts 31 = .ok (.ireturn, 1) := by decide +kernel
theorem dX5_takeParts_32 : decode cX5_takeParts 32 = .ok (.iload_n 1, 1) := by decide +kernel
theorem dX5_takeParts_33 : decode cX5_takeParts 33 = .ok (.iconst 4, 1) := by decide +kernel
theorem dX5_takeParts_34 : decode cX5_takeParts 34 = .ok (.if_icmp .eq 12, 3) := by decide +kernel
theorem dX5_takeParts_37 : decode cX5_takeParts 37 = .ok (.aload_n 0, 1) := by decide +kernel
theorem dX5_takeParts_38 : decode cX5_takeParts 38 = .ok (.bipush 44, 2) := by decide +kernel
theorem dX5_takeParts_40 : decode cX5_takeParts 40 = .ok (.invokevirtual 33, 3) := by decide +kernel
theorem dX5_takeParts_43 : decode cX5_takeParts 43 = .ok (.ifCond .ne 5, 3) := by decide +kernel
theorem dX5_takeParts_46 : decode cX5_takeParts 46 = .ok (.iconst 0, 1) := by decide +kernel
theorem dX5_takeParts_47 : decode cX5_takeParts 47 = .ok (.ireturn, 1) := by decide +kernel
theorem dX5_takeParts_48 : decode cX5_takeParts 48 = .ok (.iinc 1 1, 3) := by decide +kernel
theorem dX5_takeParts_51 : decode cX5_takeParts 51 = .ok (.goto (-49), 3) := by decide +kernel
theorem dX5_takeParts_54 : decode cX5_takeParts 54 = .ok (.iconst 0, 1) := by decide +kernel
theorem dX5_takeParts_55 : decode cX5_takeParts 55 = .ok (.ireturn, 1) := by decide +kernel
theorem dX5_takeTwist_0 : decode cX5_takeTwist 0 = .ok (.aload_n 0, 1) := by decide +kernel
theorem dX5_takeTwist_1 : decode cX5_takeTwist 1 = .ok (.bipush 45, 2) := by decide +kernel
theorem dX5_takeTwist_3 : decode cX5_takeTwist 3 = .ok (.invokevirtual 33, 3) := by decide +kernel
theorem dX5_takeTwist_6 : decode cX5_takeTwist 6 = .ok (.istore_n 1, 1) := by decide +kernel
theorem dX5_takeTwist_7 : decode cX5_takeTwist 7 = .ok (.aload_n 0, 1) := by decide +kernel
theorem dX5_takeTwist_8 : decode cX5_takeTwist 8 = .ok (.invokevirtual 43, 3) := by decide +kernel
theorem dX5_takeTwist_11 : decode cX5_takeTwist 11 = .ok (.ifCond .ne 5, 3) := by decide +kernel
theorem dX5_takeTwist_14 : decode cX5_takeTwist 14 = .ok (.iconst 0, 1) := by decide +kernel
theorem dX5_takeTwist_15 : decode cX5_takeTwist 15 = .ok (.ireturn, 1) := by decide +kernel
theorem dX5_takeTwist_16 : decode cX5_takeTwist 16 = .ok (.iload_n 1, 1) := by decide +kernel
theorem dX5_takeTwist_17 : decode cX5_takeTwist 17 = .ok (.ifCond .eq 26, 3) := by decide +kernel
theorem dX5_takeTwist_20 : decode cX5_takeTwist 20 = .ok (.aload_n 0, 1) := by decide +kernel
theorem dX5_takeTwist_21 : decode cX5_takeTwist 21 = .ok (.getfield 9, 3) := by decide +kernel
theorem dX5_takeTwist_24 : decode cX5_takeTwist 24 = .ok (.aload_n 0, 1) := by decide +kernel
theorem dX5_takeTwist_25 : decode cX5_takeTwist 25 = .ok (.getfield 37, 3) := by decide +kernel
theorem dX5_takeTwist_28 : decode cX5_takeTwist 28 = .ok (.iconst 1, 1) := by decide +kernel
theorem dX5_takeTwist_29 : decode cX5_takeTwist 29 = .ok (.isub, 1) := by decide +kernel
theorem dX5_takeTwist_30 : decode cX5_takeTwist 30 = .ok (.aload_n 0, 1) := by decide +kernel
theorem dX5_takeTwist_31 : decode cX5_takeTwist 31 = .ok (.getfield 9, 3) := by decide +kernel
theorem dX5_takeTwist_34 : decode cX5_takeTwist 34 = .ok (.aload_n 0, 1) := by decide +kernel
theorem dX5_takeTwist_35 : decode cX5_takeTwist 35 = .ok (.getfield 37, 3) := by decide +kernel
theorem dX5_takeTwist_38 : decode cX5_takeTwist 38 = .ok (.iconst 1, 1) := by decide +kernel
theorem dX5_takeTwist_39 : decode cX5_takeTwist 39 = .ok (.isub, 1) := by decide +kernel
theorem dX5_takeTwist_40 : decode cX5_takeTwist 40 = .ok (.iaload, 1) := by decide +kernel
theorem dX5_takeTwist_41 : decode cX5_takeTwist 41 = .ok (.ineg, 1) := by decide +kernel
theorem dX5_takeTwist_42 : decode cX5_takeTwist 42 = .ok (.iastore, 1) := by decide +kernel
theorem dX5_takeTwist_43 : decode cX5_takeTwist 43 = .ok (.iconst 1, 1) := by decide +kernel
theorem dX5_takeTwist_44 : decode cX5_takeTwist 44 = .ok (.ireturn, 1) := by decide +kernel
theorem dX5_takeNumber_0 : decode cX5_takeNumber 0 = .ok (.iconst 0, 1) := by decide +kernel
theorem dX5_takeNumber_1 : decode cX5_takeNumber 1 = .ok (.istore_n 1, 1) := by decide +kernel
theorem dX5_takeNumber_2 : decode cX5_takeNumber 2 = .ok (.iconst 0, 1) := by decide +kernel
theorem dX5_takeNumber_3 : decode cX5_takeNumber 3 = .ok (.istore_n 2, 1) := by decide +kernel
theorem dX5_takeNumber_4 : decode cX5_takeNumber 4 = .ok (.iload_n 2, 1) := by decide +kernel
theorem dX5_takeNumber_5 : decode cX5_takeNumber 5 = .ok (.iconst 5, 1) := by decide +kernel
theorem dX5_takeNumber_6 : decode cX5_takeNumber 6 = .ok (.if_icmp .ge 76, 3) := by decide +kernel
theorem dX5_takeNumber_9 : decode cX5_takeNumber 9 = .ok (.aload_n 0, 1) := by decide +kernel
theorem dX5_takeNumber_10 : decode cX5_takeNumber 10 = .ok (.getfield 23, 3) := by decide +kernel
theorem dX5_takeNumber_13 : decode cX5_takeNumber 13 = .ok (.aload_n 0, 1) := by decide +kernel
theorem dX5_takeNumber_14 : decode cX5_takeNumber 14 = .ok (.getfield 19, 3) := by decide +kernel
theorem dX5_takeNumber_17 : decode cX5_takeNumber 17 = .ok (.if_icmp .ge 65, 3) := by decide +kernel
theorem dX5_takeNumber_20 : decode cX5_takeNumber 20 = .ok (.aload_n 0, 1) := by decide +kernel
theorem dX5_takeNumber_21 : decode cX5_takeNumber 21 = .ok (.getfield 15, 3) := by decide +kernel
theorem dX5_takeNumber_24 : decode cX5_takeNumber 24 = .ok (.aload_n 0, 1) := by decide +kernel
theorem dX5_takeNumber_25 : decode cX5_takeNumber 25 = .ok (.getfield 23, 3) := by decide +kernel
theorem dX5_takeNumber_28 : decode cX5_takeNumber 28 = .ok (.baload, 1) := by decide +kernel
theorem dX5_takeNumber_29 : decode cX5_takeNumber 29 = .ok (.bipush 48, 2) := by decide +kernel
theorem dX5_takeNumber_31 : decode cX5_takeNumber 31 = .ok (.if_icmp .lt 51, 3) := by decide +kernel
theorem dX5_takeNumber_34 : decode cX5_takeNumber 34 = .ok (.aload_n 0, 1) := by decide +kernel
theorem dX5_takeNumber_35 : decode cX5_takeNumber 35 = .ok (.getfield 15, 3) := by decide +kernel
theorem dX5_takeNumber_38 : decode cX5_takeNumber 38 = .ok (.aload_n 0, 1) := by decide +kernel
theorem dX5_takeNumber_39 : decode cX5_takeNumber 39 = .ok (.getfield 23, 3) := by decide +kernel
theorem dX5_takeNumber_42 : decode cX5_takeNumber 42 = .ok (.baload, 1) := by decide +kernel
theorem dX5_takeNumber_43 : decode cX5_takeNumber 43 = .ok (.bipush 57, 2) := by decide +kernel
theorem dX5_takeNumber_45 : decode cX5_takeNumber 45 = .ok (.if_icmp .gt 37, 3) := by decide +kernel
theorem dX5_takeNumber_48 : decode cX5_takeNumber 48 = .ok (.iload_n 1, 1) := by decide +kernel
theorem dX5_takeNumber_49 : decode cX5_takeNumber 49 = .ok (.bipush 10, 2) := by decide +kernel
theorem dX5_takeNumber_51 : decode cX5_takeNumber 51 = .ok (.imul, 1) := by decide +kernel
theorem dX5_takeNumber_52 : decode cX5_takeNumber 52 = .ok (.aload_n 0, 1) := by decide +kernel
theorem dX5_takeNumber_53 : decode cX5_takeNumber 53 = .ok (.getfield 15, 3) := by decide +kernel
theorem dX5_takeNumber_56 : decode cX5_takeNumber 56 = .ok (.aload_n 0, 1) := by decide +kernel
theorem dX5_takeNumber_57 : decode cX5_takeNumber 57 = .ok (.getfield 23, 3) := by decide +kernel
theorem dX5_takeNumber_60 : decode cX5_takeNumber 60 = .ok (.baload, 1) := by decide +kernel
theorem dX5_takeNumber_61 : decode cX5_takeNumber 61 = .ok (.iadd, 1) := by decide +kernel
theorem dX5_takeNumber_62 : decode cX5_takeNumber 62 = .ok (.bipush 48, 2) := by decide +kernel
theorem dX5_takeNumber_64 : decode cX5_takeNumber 64 = .ok (.isub, 1) := by decide +kernel
theorem dX5_takeNumber_65 : decode cX5_takeNumber 65 = .ok (.istore_n 1, 1) := by decide +kernel
theorem dX5_takeNumber_66 : decode cX5_takeNumber 66 = .ok (.iinc 2 1, 3) := by decide +kernel
theorem dX5_takeNumber_69 : decode cX5_takeNumber 69 = .ok (.aload_n 0, 1) := by decide +kernel
theorem dX5_takeNumber_70 : decode cX5_takeNumber 70 = .ok (.dup, 1) := by decide +kernel
theorem dX5_takeNumber_71 : decode cX5_takeNumber 71 = .ok (.getfield 23, 3) := by decide +kernel
theorem dX5_takeNumber_74 : decode cX5_takeNumber 74 = .ok (.iconst 1, 1) := by decide +kernel
theorem dX5_takeNumber_75 : decode cX5_takeNumber 75 = .ok (.iadd, 1) := by decide +kernel
theorem dX5_takeNumber_76 : decode cX5_takeNumber 76 = .ok (.putfield 23, 3) := by decide +kernel
theorem dX5_takeNumber_79 : decode cX5_takeNumber 79 = .ok (.goto (-75), 3) := by decide +kernel
theorem dX5_takeNumber_82 : decode cX5_takeNumber 82 = .ok (.iload_n 2, 1) := by decide +kernel
theorem dX5_takeNumber_83 : decode cX5_takeNumber 83 = .ok (.ifCond .eq 15, 3) := by decide +kernel
theorem dX5_takeNumber_86 : decode cX5_takeNumber 86 = .ok (.aload_n 0, 1) := by decide +kernel
theorem dX5_takeNumber_87 : decode cX5_takeNumber 87 = .ok (.getfield 37, 3) := by decide +kernel
theorem dX5_takeNumber_90 : decode cX5_takeNumber 90 = .ok (.aload_n 0, 1) := by decide +kernel
theorem dX5_takeNumber_91 : decode cX5_takeNumber 91 = .ok (.getfield 9, 3) := by decide +kernel
theorem dX5_takeNumber_94 : decode cX5_takeNumber 94 = .ok (.arraylength, 1) := by decide +kernel
theorem dX5_takeNumber_95 : decode cX5_takeNumber 95 = .ok (.if_icmp .lt 5, 3) := by decide +kernel
theorem dX5_takeNumber_98 : decode cX5_takeNumber 98 = .ok (.iconst 0, 1) := by decide +kernel
theorem dX5_takeNumber_99 : decode cX5_takeNumber 99 = .ok (.ireturn, 1) := by decide +kernel
theorem dX5_takeNumber_100 : decode cX5_takeNumber 100 = .ok (.aload_n 0, 1) := by decide +kernel
theorem dX5_takeNumber_101 : decode cX5_takeNumber 101 = .ok (.getfield 9, 3) := by decide +kernel
theorem dX5_takeNumber_104 : decode cX5_takeNumber 104 = .ok (.aload_n 0, 1) := by decide +kernel
theorem dX5_takeNumber_105 : decode cX5_takeNumber 105 = .ok (.getfield 37, 3) := by decide +kernel
theorem dX5_takeNumber_108 : decode cX5_takeNumber 108 = .ok (.iload_n 1, 1) := by decide +kernel
theorem dX5_takeNumber_109 : decode cX5_takeNumber 109 = .ok (.iastore, 1) := by decide +kernel
theorem dX5_takeNumber_110 : decode cX5_takeNumber 110 = .ok (.aload_n 0, 1) := by decide +kernel
theorem dX5_takeNumber_111 : decode cX5_takeNumber 111 = .ok (.dup, 1) := by decide +kernel
theorem dX5_takeNumber_112 : decode cX5_takeNumber 112 = .ok (.getfield 37, 3) := by decide +kernel
theorem dX5_takeNumber_115 : decode cX5_takeNumber 115 = .ok (.iconst 1, 1) := by decide +kernel
theorem dX5_takeNumber_116 : decode cX5_takeNumber 116 = .ok (.iadd, 1) := by decide +kernel
theorem dX5_takeNumber_117 : decode cX5_takeNumber 117 = .ok (.putfield 37, 3) := by decide +kernel
theorem dX5_takeNumber_120 : decode cX5_takeNumber 120 = .ok (.iconst 1, 1) := by decide +kernel
theorem dX5_takeNumber_121 : decode cX5_takeNumber 121 = .ok (.ireturn, 1) := by decide +kernel
theorem dX6_walk_0 : decode cX6_walk 0 = .ok (.aload_n 0, 1) := by decide +kernel
theorem dX6_walk_1 : decode cX6_walk 1 = .ok (.iconst 0, 1) := by decide +kernel
theorem dX6_walk_2 : decode cX6_walk 2 = .ok (.putfield 34, 3) := by decide +kernel
theorem dX6_walk_5 : decode cX6_walk 5 = .ok (.aload_n 0, 1) := by decide +kernel
theorem dX6_walk_6 : decode cX6_walk 6 = .ok (.aload_n 1, 1) := by decide +kernel
theorem dX6_walk_7 : decode cX6_walk 7 = .ok (.iload_n 2, 1) := by decide +kernel
theorem dX6_walk_8 : decode cX6_walk 8 = .ok (.iconst (-1), 1) := by decide +kernel
theorem dX6_walk_9 : decode cX6_walk 9 = .ok (.iload_n 3, 1) := by decide +kernel
theorem dX6_walk_10 : decode cX6_walk 10 = .ok (.invokevirtual 38, 3) := by decide +kernel
theorem dX6_walk_13 : decode cX6_walk 13 = .ok (.iconst 0, 1) := by decide +kernel
theorem dX6_walk_14 : decode cX6_walk 14 = .ok (.istore 4, 2) := by decide +kernel
theorem dX6_walk_16 : decode cX6_walk 16 = .ok (.iload 4, 2) := by decide +kernel
theorem dX6_walk_18 : decode cX6_walk 18 = .ok (.aload_n 0, 1) := by decide +kernel
theorem dX6_walk_19 : decode cX6_walk 19 = .ok (.getfield 34, 3) := by decide +kernel
theorem dX6_walk_22 : decode cX6_walk 22 = .ok (.if_icmp .ge 24, 3) := by decide +kernel
theorem dX6_walk_25 : decode cX6_walk 25 = .ok (.iload 4, 2) := by decide +kernel
theorem dX6_walk_27 : decode cX6_walk 27 = .ok (.bipush 85, 2) := by decide +kernel
theorem dX6_walk_29 : decode cX6_walk 29 = .ok (.if_icmp .ge 17, 3) := by decide +kernel
theorem dX6_walk_32 : decode cX6_walk 32 = .ok (.aload_n 0, 1) := by decide +kernel
theorem dX6_walk_33 : decode cX6_walk 33 = .ok (.aload_n 1, 1) := by decide +kernel
theorem dX6_walk_34 : decode cX6_walk 34 = .ok (.iload 4, 2) := by decide +kernel
theorem dX6_walk_36 : decode cX6_walk 36 = .ok (.iload_n 3, 1) := by decide +kernel
theorem dX6_walk_37 : decode cX6_walk 37 = .ok (.invokevirtual 42, 3) := by decide +kernel
theorem dX6_walk_40 : decode cX6_walk 40 = .ok (.iinc 4 1, 3) := by decide +kernel
theorem dX6_walk_43 : decode cX6_walk 43 = .ok (.goto (-27), 3) := by decide +kernel
theorem dX6_walk_46 : decode cX6_walk 46 = .ok (.return_, 1) := by decide +kernel
theorem dX6_addParts_0 : decode cX6_addParts 0 = .ok (.aload_n 0, 1) := by decide +kernel
theorem dX6_addParts_1 : decode cX6_addParts 1 = .ok (.getfield 34, 3) := by decide +kernel
theorem dX6_addParts_4 : decode cX6_addParts 4 = .ok (.istore 4, 2) := by decide +kernel
theorem dX6_addParts_6 : decode cX6_addParts 6 = .ok (.aload_n 1, 1) := by decide +kernel
theorem dX6_addParts_7 : decode cX6_addParts 7 = .ok (.aload_n 0, 1) := by decide +kernel
theorem dX6_addParts_8 : decode cX6_addParts 8 = .ok (.getfield 9, 3) := by decide +kernel
theorem dX6_addParts_11 : decode cX6_addParts 11 = .ok (.iload_n 2, 1) := by decide +kernel
theorem dX6_addParts_12 : decode cX6_addParts 12 = .ok (.iaload, 1) := by decide +kernel
theorem dX6_addParts_13 : decode cX6_addParts 13 = .ok (.iconst 4, 1) := by decide +kernel
theorem dX6_addParts_14 : decode cX6_addParts 14 = .ok (.invokevirtual 46, 3) := by decide +kernel
theorem dX6_addParts_17 : decode cX6_addParts 17 = .ok (.istore 5, 2) := by decide +kernel
theorem dX6_addParts_19 : decode cX6_addParts 19 = .ok (.iconst 0, 1) := by decide +kernel
theorem dX6_addParts_20 : decode cX6_addParts 20 = .ok (.istore 6, 2) := by decide +kernel
theorem dX6_addParts_22 : decode cX6_addParts 22 = .ok (.iload 6, 2) := by decide +kernel
theorem dX6_addParts_24 : decode cX6_addParts 24 = .ok (.iload 5, 2) := by decide +kernel
theorem dX6_addParts_26 : decode cX6_addParts 26 = .ok (.if_icmp .ge 91, 3) := by decide +kernel
theorem dX6_addParts_29 : decode cX6_addParts 29 = .ok (.aload_n 1, 1) := by decide +kernel
theorem dX6_addParts_30 : decode cX6_addParts 30 = .ok (.aload_n 0, 1) := by decide +kernel
theorem dX6_addParts_31 : decode cX6_addParts 31 = .ok (.getfield 9, 3) := by decide +kernel
theorem dX6_addParts_34 : decode cX6_addParts 34 = .ok (.iload_n 2, 1) := by decide +kernel
theorem dX6_addParts_35 : decode cX6_addParts 35 = .ok (.iaload, 1) := by decide +kernel
theorem dX6_addParts_36 : decode cX6_addParts 36 = .ok (.iload 6, 2) := by decide +kernel
theorem dX6_addParts_38 : decode cX6_addParts 38 = .ok (.invokevirtual 52, 3) := by decide +kernel
theorem dX6_addParts_41 : decode cX6_addParts 41 = .ok (.istore 7, 2) := by decide +kernel
theorem dX6_addParts_43 : decode cX6_addParts 43 = .ok (.iload 4, 2) := by decide +kernel
theorem dX6_addParts_45 : decode cX6_addParts 45 = .ok (.istore 8, 2) := by decide +kernel
theorem dX6_addParts_47 : decode cX6_addParts 47 = .ok (.iload 8, 2) := by decide +kernel
theorem dX6_addParts_49 : decode cX6_addParts 49 = .ok (.aload_n 0, 1) := by decide +kernel
theorem dX6_addParts_50 : decode cX6_addParts 50 = .ok (.getfield 34, 3) := by decide +kernel
theorem dX6_addParts_53 : decode cX6_addParts 53 = .ok (.if_icmp .ge 21, 3) := by decide +kernel
theorem dX6_addParts_56 : decode cX6_addParts 56 = .ok (.aload_n 0, 1) := by decide +kernel
theorem dX6_addParts_57 : decode cX6_addParts 57 = .ok (.getfield 9, 3) := by decide +kernel
theorem dX6_addParts_60 : decode cX6_addParts 60 = .ok (.iload 8, 2) := by decide +kernel
theorem dX6_addParts_62 : decode cX6_addParts 62 = .ok (.iaload, 1) := by decide +kernel
theorem dX6_addParts_63 : decode cX6_addParts 63 = .ok (.iload 7, 2) := by decide +kernel
theorem dX6_addParts_65 : decode cX6_addParts 65 = .ok (.if_icmp .eq 9, 3) := by decide +kernel
theorem dX6_addParts_68 : decode cX6_addParts 68 = .ok (.iinc 8 1, 3) := by decide +kernel
theorem dX6_addParts_71 : decode cX6_addParts 71 = .ok (.goto (-24), 3) := by decide +kernel
theorem dX6_addParts_74 : decode cX6_addParts 74 = .ok (.iload 8, 2) := by decide +kernel
theorem dX6_addParts_76 : decode cX6_addParts 76 = .ok (.aload_n 0, 1) := by decide +kernel
theorem dX6_addParts_77 : decode cX6_addParts 77 = .ok (.getfield 34, 3) := by decide +kernel
theorem dX6_addParts_80 : decode cX6_addParts 80 = .ok (.if_icmp .ge 22, 3) := by decide +kernel
theorem dX6_addParts_83 : decode cX6_addParts 83 = .ok (.aload_n 0, 1) := by decide +kernel
theorem dX6_addParts_84 : decode cX6_addParts 84 = .ok (.getfield 18, 3) := by decide +kernel
theorem dX6_addParts_87 : decode cX6_addParts 87 = .ok (.iload 8, 2) := by decide +kernel
theorem dX6_addParts_89 : decode cX6_addParts 89 = .ok (.dup2, 1) := by decide +kernel
theorem dX6_addParts_90 : decode cX6_addParts 90 = .ok (.iaload, 1) := by decide +kernel
theorem dX6_addParts_91 : decode cX6_addParts 91 = .ok (.aload_n 0, 1) := by decide +kernel
theorem dX6_addParts_92 : decode cX6_addParts 92 = .ok (.getfield 18, 3) := by decide +kernel
theorem dX6_addParts_95 : decode cX6_addParts 95 = .ok (.iload_n 2, 1) := by decide +kernel
theorem dX6_addParts_96 : decode cX6_addParts 96 = .ok (.iaload, 1) := by decide +kernel
theorem dX6_addParts_97 : decode cX6_addParts 97 = .ok (.iadd, 1) := by decide +kernel
theorem dX6_addParts_98 : decode cX6_addParts 98 = .ok (.iastore, 1) := by decide +kernel
theorem dX6_addParts_99 : decode cX6_addParts 99 = .ok (.goto 12, 3) := by decide +kernel
theorem dX6_addParts_102 : decode cX6_addParts 102 = .ok (.aload_n 0, 1) := by decide +kernel
theorem dX6_addParts_103 : decode cX6_addParts 103 = .ok (.aload_n 1, 1) := by decide +kernel
theorem dX6_addParts_104 : decode cX6_addParts 104 = .ok (.iload 7, 2) := by decide +kernel
theorem dX6_addParts_106 : decode cX6_addParts 106 = .ok (.iload_n 2, 1) := by decide +kernel
theorem dX6_addParts_107 : decode cX6_addParts 107 = .ok (.iload_n 3, 1) := by decide +kernel
theorem dX6_addParts_108 : decode cX6_addParts 108 = .ok (.invokevirtual 38, 3) := by decide +kernel
theorem dX6_addParts_111 : decode cX6_addParts 111 = .ok (.iinc 6 1, 3) := by decide +kernel
theorem dX6_addParts_114 : decode cX6_addParts 114 = .ok (.goto (-92), 3) := by decide +kernel
theorem dX6_addParts_117 : decode cX6_addParts 117 = .ok (.return_, 1) := by decide +kernel
theorem dX6_addPlace_0 : decode cX6_addPlace 0 = .ok (.aload_n 0, 1) := by decide +kernel
theorem dX6_addPlace_1 : decode cX6_addPlace 1 = .ok (.getfield 34, 3) := by decide +kernel
theorem dX6_addPlace_4 : decode cX6_addPlace 4 = .ok (.bipush 85, 2) := by decide +kernel
theorem dX6_addPlace_6 : decode cX6_addPlace 6 = .ok (.if_icmp .lt 4, 3) := by decide +kernel
theorem dX6_addPlace_9 : decode cX6_addPlace 9 = .ok (.return_, 1) := by decide +kernel
theorem dX6_addPlace_10 : decode cX6_addPlace 10 = .ok (.aload_n 0, 1) := by decide +kernel
theorem dX6_addPlace_11 : decode cX6_addPlace 11 = .ok (.getfield 9, 3) := by decide +kernel
theorem dX6_addPlace_14 : decode cX6_addPlace 14 = .ok (.aload_n 0, 1) := by decide +kernel
theorem dX6_addPlace_15 : decode cX6_addPlace 15 = .ok (.getfield 34, 3) := by decide +kernel
theorem dX6_addPlace_18 : decode cX6_addPlace 18 = .ok (.iload_n 2, 1) := by decide +kernel
theorem dX6_addPlace_19 : decode cX6_addPlace 19 = .ok (.iastore, 1) := by decide +kernel
theorem dX6_addPlace_20 : decode cX6_addPlace 20 = .ok (.aload_n 0, 1) := by decide +kernel
theorem dX6_addPlace_21 : decode cX6_addPlace 21 = .ok (.getfield 21, 3) := by decide +kernel
theorem dX6_addPlace_24 : decode cX6_addPlace 24 = .ok (.aload_n 0, 1) := by decide +kernel
theorem dX6_addPlace_25 : decode cX6_addPlace 25 = .ok (.getfield 34, 3) := by decide +kernel
theorem dX6_addPlace_28 : decode cX6_addPlace 28 = .ok (.iload_n 3, 1) := by decide +kernel
theorem dX6_addPlace_29 : decode cX6_addPlace 29 = .ok (.iastore, 1) := by decide +kernel
theorem dX6_addPlace_30 : decode cX6_addPlace 30 = .ok (.aload_n 0, 1) := by decide +kernel
theorem dX6_addPlace_31 : decode cX6_addPlace 31 = .ok (.getfield 15, 3) := by decide +kernel
theorem dX6_addPlace_34 : decode cX6_addPlace 34 = .ok (.aload_n 0, 1) := by decide +kernel
theorem dX6_addPlace_35 : decode cX6_addPlace 35 = .ok (.getfield 34, 3) := by decide +kernel
theorem dX6_addPlace_38 : decode cX6_addPlace 38 = .ok (.iload_n 2, 1) := by decide +kernel
theorem dX6_addPlace_39 : decode cX6_addPlace 39 = .ok (.iload 4, 2) := by decide +kernel
theorem dX6_addPlace_41 : decode cX6_addPlace 41 = .ok (.if_icmp .ne 7, 3) := by decide +kernel
theorem dX6_addPlace_44 : decode cX6_addPlace 44 = .ok (.iconst 0, 1) := by decide +kernel
theorem dX6_addPlace_45 : decode cX6_addPlace 45 = .ok (.goto 9, 3) := by decide +kernel
theorem dX6_addPlace_48 : decode cX6_addPlace 48 = .ok (.aload_n 1, 1) := by decide +kernel
theorem dX6_addPlace_49 : decode cX6_addPlace 49 = .ok (.iload_n 2, 1) := by decide +kernel
theorem dX6_addPlace_50 : decode cX6_addPlace 50 = .ok (.iconst 0, 1) := by decide +kernel
theorem dX6_addPlace_51 : decode cX6_addPlace 51 = .ok (.invokevirtual 46, 3) := by decide +kernel
theorem dX6_addPlace_54 : decode cX6_addPlace 54 = .ok (.iastore, 1) := by decide +kernel
theorem dX6_addPlace_55 : decode cX6_addPlace 55 = .ok (.aload_n 0, 1) := by decide +kernel
theorem dX6_addPlace_56 : decode cX6_addPlace 56 = .ok (.getfield 24, 3) := by decide +kernel
theorem dX6_addPlace_59 : decode cX6_addPlace 59 = .ok (.aload_n 0, 1) := by decide +kernel
theorem dX6_addPlace_60 : decode cX6_addPlace 60 = .ok (.getfield 34, 3) := by decide +kernel
theorem dX6_addPlace_63 : decode cX6_addPlace 63 = .ok (.iload_n 2, 1) := by decide +kernel
theorem dX6_addPlace_64 : decode cX6_addPlace 64 = .ok (.iload 4, 2) := by decide +kernel
theorem dX6_addPlace_66 : decode cX6_addPlace 66 = .ok (.if_icmp .eq 16, 3) := by decide +kernel
theorem dX6_addPlace_69 : decode cX6_addPlace 69 = .ok (.iload_n 3, 1) := by decide +kernel
theorem dX6_addPlace_70 : decode cX6_addPlace 70 = .ok (.ifCond .lt 16, 3) := by decide +kernel
theorem dX6_addPlace_73 : decode cX6_addPlace 73 = .ok (.aload_n 0, 1) := by decide +kernel
theorem dX6_addPlace_74 : decode cX6_addPlace 74 = .ok (.getfield 24, 3) := by decide +kernel
theorem dX6_addPlace_77 : decode cX6_addPlace 77 = .ok (.iload_n 3, 1) := by decide +kernel
theorem dX6_addPlace_78 : decode cX6_addPlace 78 = .ok (.baload, 1) := by decide +kernel
theorem dX6_addPlace_79 : decode cX6_addPlace 79 = .ok (.ifCond .eq 7, 3) := by decide +kernel
theorem dX6_addPlace_82 : decode cX6_addPlace 82 = .ok (.iconst 1, 1) := by decide +kernel
theorem dX6_addPlace_83 : decode cX6_addPlace 83 = .ok (.goto 4, 3) := by decide +kernel
theorem dX6_addPlace_86 : decode cX6_addPlace 86 = .ok (.iconst 0, 1) := by decide +kernel
theorem dX6_addPlace_87 : decode cX6_addPlace 87 = .ok (.bastore, 1) := by decide +kernel
theorem dX6_addPlace_88 : decode cX6_addPlace 88 = .ok (.aload_n 0, 1) := by decide +kernel
theorem dX6_addPlace_89 : decode cX6_addPlace 89 = .ok (.getfield 18, 3) := by decide +kernel
theorem dX6_addPlace_92 : decode cX6_addPlace 92 = .ok (.aload_n 0, 1) := by decide +kernel
theorem dX6_addPlace_93 : decode cX6_addPlace 93 = .ok (.getfield 34, 3) := by decide +kernel
theorem dX6_addPlace_96 : decode cX6_addPlace 96 = .ok (.iconst 1, 1) := by decide +kernel
theorem dX6_addPlace_97 : decode cX6_addPlace 97 = .ok (.iastore, 1) := by decide +kernel
theorem dX6_addPlace_98 : decode cX6_addPlace 98 = .ok (.iload_n 3, 1) := by decide +kernel
theorem dX6_addPlace_99 : decode cX6_addPlace 99 = .ok (.ifCond .lt 36, 3) := by decide +kernel
theorem dX6_addPlace_102 : decode cX6_addPlace 102 = .ok (.aload_n 0, 1) := by decide +kernel
theorem dX6_addPlace_103 : decode cX6_addPlace 103 = .ok (.getfield 15, 3) := by decide +kernel
theorem dX6_addPlace_106 : decode cX6_addPlace 106 = .ok (.aload_n 0, 1) := by decide +kernel
theorem dX6_addPlace_107 : decode cX6_addPlace 107 = .ok (.getfield 34, 3) := by decide +kernel
theorem dX6_addPlace_110 : decode cX6_addPlace 110 = .ok (.dup2, 1) := by decide +kernel
theorem dX6_addPlace_111 : decode cX6_addPlace 111 = .ok (.iaload, 1) := by decide +kernel
theorem dX6_addPlace_112 : decode cX6_addPlace 112 = .ok (.aload_n 0, 1) := by decide +kernel
theorem dX6_addPlace_113 : decode cX6_addPlace 113 = .ok (.getfield 15, 3) := by decide +kernel
theorem dX6_addPlace_116 : decode cX6_addPlace 116 = .ok (.iload_n 3, 1) := by decide +kernel
theorem dX6_addPlace_117 : decode cX6_addPlace 117 = .ok (.iaload, 1) := by decide +kernel
theorem dX6_addPlace_118 : decode cX6_addPlace 118 = .ok (.iadd, 1) := by decide +kernel
theorem dX6_addPlace_119 : decode cX6_addPlace 119 = .ok (.iastore, 1) := by decide +kernel
theorem dX6_addPlace_120 : decode cX6_addPlace 120 = .ok (.aload_n 0, 1) := by decide +kernel
theorem dX6_addPlace_121 : decode cX6_addPlace 121 = .ok (.getfield 18, 3) := by decide +kernel
theorem dX6_addPlace_124 : decode cX6_addPlace 124 = .ok (.aload_n 0, 1) := by decide +kernel
theorem dX6_addPlace_125 : decode cX6_addPlace 125 = .ok (.getfield 34, 3) := by decide +kernel
theorem dX6_addPlace_128 : decode cX6_addPlace 128 = .ok (.aload_n 0, 1) := by decide +kernel
theorem dX6_addPlace_129 : decode cX6_addPlace 129 = .ok (.getfield 18, 3) := by decide +kernel
theorem dX6_addPlace_132 : decode cX6_addPlace 132 = .ok (.iload_n 3, 1) := by decide +kernel
theorem dX6_addPlace_133 : decode cX6_addPlace 133 = .ok (.iaload, 1) := by decide +kernel
theorem dX6_addPlace_134 : decode cX6_addPlace 134 = .ok (.iastore, 1) := by decide +kernel
theorem dX6_addPlace_135 : decode cX6_addPlace 135 = .ok (.aload_n 0, 1) := by decide +kernel
theorem dX6_addPlace_136 : decode cX6_addPlace 136 = .ok (.dup, 1) := by decide +kernel
theorem dX6_addPlace_137 : decode cX6_addPlace 137 = .ok (.getfield 34, 3) := by decide +kernel
theorem dX6_addPlace_140 : decode cX6_addPlace 140 = .ok (.iconst 1, 1) := by decide +kernel
theorem dX6_addPlace_141 : decode cX6_addPlace 141 = .ok (.iadd, 1) := by decide +kernel
theorem dX6_addPlace_142 : decode cX6_addPlace 142 = .ok (.putfield 34, 3) := by decide +kernel
theorem dX6_addPlace_145 : decode cX6_addPlace 145 = .ok (.return_, 1) := by decide +kernel
theorem dX6_torqueBy_0 : decode cX6_torqueBy 0 = .ok (.aload_n 0, 1) := by decide +kernel
theorem dX6_torqueBy_1 : decode cX6_torqueBy 1 = .ok (.aload_n 1, 1) := by decide +kernel
theorem dX6_torqueBy_2 : decode cX6_torqueBy 2 = .ok (.iconst (-1), 1) := by decide +kernel
theorem dX6_torqueBy_3 : decode cX6_torqueBy 3 = .ok (.iload_n 2, 1) := by decide +kernel
theorem dX6_torqueBy_4 : decode cX6_torqueBy 4 = .ok (.invokevirtual 55, 3) := by decide +kernel
theorem dX6_torqueBy_7 : decode cX6_torqueBy 7 = .ok (.ireturn, 1) := by decide +kernel
theorem dX6_torqueWithout_0 : decode cX6_torqueWithout 0 = .ok (.iconst 0, 1) := by decide +kernel
theorem dX6_torqueWithout_1 : decode cX6_torqueWithout 1 = .ok (.istore 4, 2) := by decide +kernel
theorem dX6_torqueWithout_3 : decode cX6_torqueWithout 3 = .ok (.iconst 0, 1) := by decide +kernel
theorem dX6_torqueWithout_4 : decode cX6_torqueWithout 4 = .ok (.istore 5, 2) := by decide +kernel
theorem dX6_torqueWithout_6 : decode cX6_torqueWithout 6 = .ok (.iload 5, 2) := by decide +kernel
theorem dX6_torqueWithout_8 : decode cX6_torqueWithout 8 = .ok (.aload_n 0, 1) := by decide +kernel
theorem dX6_torqueWithout_9 : decode cX6_torqueWithout 9 = .ok (.getfield 34, 3) := by decide +kernel
theorem dX6_torqueWithout_12 : decode cX6_torqueWithout 12 = .ok (.if_icmp .ge 91, 3) := by decide +kernel
theorem dX6_torqueWithout_15 : decode cX6_torqueWithout 15 = .ok (.aload_n 0, 1) := by decide +kernel
theorem dX6_torqueWithout_16 : decode cX6_torqueWithout 16 = .ok (.getfield 9, 3) := by decide +kernel
theorem dX6_torqueWithout_19 : decode cX6_torqueWithout 19 = .ok (.iload 5, 2) := by decide +kernel
theorem dX6_torqueWithout_21 : decode cX6_torqueWithout 21 = .ok (.iaload, 1) := by decide +kernel
theorem dX6_torqueWithout_22 : decode cX6_torqueWithout 22 = .ok (.istore 6, 2) := by decide +kernel
theorem dX6_torqueWithout_24 : decode cX6_torqueWithout 24 = .ok (.iload 6, 2) := by decide +kernel
theorem dX6_torqueWithout_26 : decode cX6_torqueWithout 26 = .ok (.iload_n 2, 1) := by decide +kernel
theorem dX6_torqueWithout_27 : decode cX6_torqueWithout 27 = .ok (.if_icmp .eq 70, 3) := by decide +kernel
theorem dX6_torqueWithout_30 : decode cX6_torqueWithout 30 = .ok (.aload_n 0, 1) := by decide +kernel
theorem dX6_torqueWithout_31 : decode cX6_torqueWithout 31 = .ok (.iload 5, 2) := by decide +kernel
theorem dX6_torqueWithout_33 : decode cX6_torqueWithout 33 = .ok (.iload_n 3, 1) := by decide +kernel
theorem dX6_torqueWithout_34 : decode cX6_torqueWithout 34 = .ok (.invokevirtual 59, 3) := by decide +kernel
theorem dX6_torqueWithout_37 : decode cX6_torqueWithout 37 = .ok (.istore 7, 2) := by decide +kernel
theorem dX6_torqueWithout_39 : decode cX6_torqueWithout 39 = .ok (.aload_n 1, 1) := by decide +kernel
theorem dX6_torqueWithout_40 : decode cX6_torqueWithout 40 = .ok (.iload 6, 2) := by decide +kernel
theorem dX6_torqueWithout_42 : decode cX6_torqueWithout 42 = .ok (.iconst 4, 1) := by decide +kernel
theorem dX6_torqueWithout_43 : decode cX6_torqueWithout 43 = .ok (.invokevirtual 46, 3) := by decide +kernel
theorem dX6_torqueWithout_46 : decode cX6_torqueWithout 46 = .ok (.istore 8, 2) := by decide +kernel
theorem dX6_torqueWithout_48 : decode cX6_torqueWithout 48 = .ok (.iload 8, 2) := by decide +kernel
theorem dX6_torqueWithout_50 : decode cX6_torqueWithout 50 = .ok (.ifCond .le 11, 3) := by decide +kernel
theorem dX6_torqueWithout_53 : decode cX6_torqueWithout 53 = .ok (.iload 7, 2) := by decide +kernel
theorem dX6_torqueWithout_55 : decode cX6_torqueWithout 55 = .ok (.iload 8, 2) := by decide +kernel
theorem dX6_torqueWithout_57 : decode cX6_torqueWithout 57 = .ok (.imul, 1) := by decide +kernel
theorem dX6_torqueWithout_58 : decode cX6_torqueWithout 58 = .ok (.goto 22, 3) := by decide +kernel
theorem dX6_torqueWithout_61 : decode cX6_torqueWithout 61 = .ok (.aload_n 1, 1) := by decide +kernel
theorem dX6_torqueWithout_62 : decode cX6_torqueWithout 62 = .ok (.iload 6, 2) := by decide +kernel
theorem dX6_torqueWithout_64 : decode cX6_torqueWithout 64 = .ok (.iconst 2, 1) := by decide +kernel
theorem dX6_torqueWithout_65 : decode cX6_torqueWithout 65 = .ok (.invokevirtual 46, 3) := by decide +kernel
theorem dX6_torqueWithout_68 : decode cX6_torqueWithout 68 = .ok (.aload_n 1, 1) := by decide +kernel
theorem dX6_torqueWithout_69 : decode cX6_torqueWithout 69 = .ok (.iload 6, 2) := by decide +kernel
theorem dX6_torqueWithout_71 : decode cX6_torqueWithout 71 = .ok (.iconst 1, 1) := by decide +kernel
theorem dX6_torqueWithout_72 : decode cX6_torqueWithout 72 = .ok (.invokevirtual 46, 3) := by decide +kernel
theorem dX6_torqueWithout_75 : decode cX6_torqueWithout 75 = .ok (.iload 7, 2) := by decide +kernel
theorem dX6_torqueWithout_77 : decode cX6_torqueWithout 77 = .ok (.invokestatic 62, 3) := by decide +kernel
theorem dX6_torqueWithout_80 : decode cX6_torqueWithout 80 = .ok (.istore 9, 2) := by decide +kernel
theorem dX6_torqueWithout_82 : decode cX6_torqueWithout 82 = .ok (.iload 4, 2) := by decide +kernel
theorem dX6_torqueWithout_84 : decode cX6_torqueWithout 84 = .ok (.aload_n 0, 1) := by decide +kernel
theorem dX6_torqueWithout_85 : decode cX6_torqueWithout 85 = .ok (.getfield 18, 3) := by decide +kernel
theorem dX6_torqueWithout_88 : decode cX6_torqueWithout 88 = .ok (.iload 5, 2) := by decide +kernel
theorem dX6_torqueWithout_90 : decode cX6_torqueWithout 90 = .ok (.iaload, 1) := by decide +kernel
theorem dX6_torqueWithout_91 : decode cX6_torqueWithout 91 = .ok (.iload 9, 2) := by decide +kernel
theorem dX6_torqueWithout_93 : decode cX6_torqueWithout 93 = .ok (.imul, 1) := by decide +kernel
theorem dX6_torqueWithout_94 : decode cX6_torqueWithout 94 = .ok (.iadd, 1) := by decide +kernel
theorem dX6_torqueWithout_95 : decode cX6_torqueWithout 95 = .ok (.istore 4, 2) := by decide +kernel
theorem dX6_torqueWithout_97 : decode cX6_torqueWithout 97 = .ok (.iinc 5 1, 3) := by decide +kernel
theorem dX6_torqueWithout_100 : decode cX6_torqueWithout 100 = .ok (.goto (-94), 3) := by decide +kernel
theorem dX6_torqueWithout_103 : decode cX6_torqueWithout 103 = .ok (.iload 4, 2) := by decide +kernel
theorem dX6_torqueWithout_105 : decode cX6_torqueWithout 105 = .ok (.ireturn, 1) := by decide +kernel
theorem dX6_pullsOf_0 : decode cX6_pullsOf 0 = .ok (.iconst 0, 1) := by decide +kernel
theorem dX6_pullsOf_1 : decode cX6_pullsOf 1 = .ok (.istore 5, 2) := by decide +kernel
theorem dX6_pullsOf_3 : decode cX6_pullsOf 3 = .ok (.iconst 0, 1) := by decide +kernel
theorem dX6_pullsOf_4 : decode cX6_pullsOf 4 = .ok (.istore 6, 2) := by decide +kernel
theorem dX6_pullsOf_6 : decode cX6_pullsOf 6 = .ok (.iload 6, 2) := by decide +kernel
theorem dX6_pullsOf_8 : decode cX6_pullsOf 8 = .ok (.aload_n 0, 1) := by decide +kernel
theorem dX6_pullsOf_9 : decode cX6_pullsOf 9 = .ok (.getfield 34, 3) := by decide +kernel
theorem dX6_pullsOf_12 : decode cX6_pullsOf 12 = .ok (.if_icmp .ge 46, 3) := by decide +kernel
theorem dX6_pullsOf_15 : decode cX6_pullsOf 15 = .ok (.aload_n 0, 1) := by decide +kernel
theorem dX6_pullsOf_16 : decode cX6_pullsOf 16 = .ok (.getfield 9, 3) := by decide +kernel
theorem dX6_pullsOf_19 : decode cX6_pullsOf 19 = .ok (.iload 6, 2) := by decide +kernel
theorem dX6_pullsOf_21 : decode cX6_pullsOf 21 = .ok (.iaload, 1) := by decide +kernel
theorem dX6_pullsOf_22 : decode cX6_pullsOf 22 = .ok (.iload_n 1, 1) := by decide +kernel
theorem dX6_pullsOf_23 : decode cX6_pullsOf 23 = .ok (.if_icmp .ne 29, 3) := by decide +kernel
theorem dX6_pullsOf_26 : decode cX6_pullsOf 26 = .ok (.iload 5, 2) := by decide +kernel
theorem dX6_pullsOf_28 : decode cX6_pullsOf 28 = .ok (.aload_n 0, 1) := by decide +kernel
theorem dX6_pullsOf_29 : decode cX6_pullsOf 29 = .ok (.getfield 18, 3) := by decide +kernel
theorem dX6_pullsOf_32 : decode cX6_pullsOf 32 = .ok (.iload 6, 2) := by decide +kernel
theorem dX6_pullsOf_34 : decode cX6_pullsOf 34 = .ok (.iaload, 1) := by decide +kernel
theorem dX6_pullsOf_35 : decode cX6_pullsOf 35 = .ok (.iload_n 2, 1) := by decide +kernel
theorem dX6_pullsOf_36 : decode cX6_pullsOf 36 = .ok (.iload_n 3, 1) := by decide +kernel
theorem dX6_pullsOf_37 : decode cX6_pullsOf 37 = .ok (.aload_n 0, 1) := by decide +kernel
theorem dX6_pullsOf_38 : decode cX6_pullsOf 38 = .ok (.iload 6, 2) := by decide +kernel
theorem dX6_pullsOf_40 : decode cX6_pullsOf 40 = .ok (.iload 4, 2) := by decide +kernel
theorem dX6_pullsOf_42 : decode cX6_pullsOf 42 = .ok (.invokevirtual 59, 3) := by decide +kernel
theorem dX6_pullsOf_45 : decode cX6_pullsOf 45 = .ok (.invokestatic 62, 3) := by decide +kernel
theorem dX6_pullsOf_48 : decode cX6_pullsOf 48 = .ok (.imul, 1) := by decide +kernel
theorem dX6_pullsOf_49 : decode cX6_pullsOf 49 = .ok (.iadd, 1) := by decide +kernel
theorem dX6_pullsOf_50 : decode cX6_pullsOf 50 = .ok (.istore 5, 2) := by decide +kernel
theorem dX6_pullsOf_52 : decode cX6_pullsOf 52 = .ok (.iinc 6 1, 3) := by decide +kernel
theorem dX6_pullsOf_55 : decode cX6_pullsOf 55 = .ok (.goto (-49), 3) := by decide +kernel
theorem dX6_pullsOf_58 : decode cX6_pullsOf 58 = .ok (.iload 5, 2) := by decide +kernel
theorem dX6_pullsOf_60 : decode cX6_pullsOf 60 = .ok (.ireturn, 1) := by decide +kernel
theorem dX6_turnBy_0 : decode cX6_turnBy 0 = .ok (.aload_n 0, 1) := by decide +kernel
theorem dX6_turnBy_1 : decode cX6_turnBy 1 = .ok (.getfield 24, 3) := by decide +kernel
theorem dX6_turnBy_4 : decode cX6_turnBy 4 = .ok (.iload_n 1, 1) := by decide +kernel
theorem dX6_turnBy_5 : decode cX6_turnBy 5 = .ok (.baload, 1) := by decide +kernel
theorem dX6_turnBy_6 : decode cX6_turnBy 6 = .ok (.ifCond .eq 14, 3) := by decide +kernel
theorem dX6_turnBy_9 : decode cX6_turnBy 9 = .ok (.aload_n 0, 1) := by decide +kernel
theorem dX6_turnBy_10 : decode cX6_turnBy 10 = .ok (.getfield 15, 3) := by decide +kernel
theorem dX6_turnBy_13 : decode cX6_turnBy 13 = .ok (.iload_n 1, 1) := by decide +kernel
theorem dX6_turnBy_14 : decode cX6_turnBy 14 = .ok (.iaload, 1) := by decide +kernel
theorem dX6_turnBy_15 : decode cX6_turnBy 15 = .ok (.iload_n 2, 1) := by decide +kernel
theorem dX6_turnBy_16 : decode cX6_turnBy 16 = .ok (.iadd, 1) := by decide +kernel
theorem dX6_turnBy_17 : decode cX6_turnBy 17 = .ok (.goto 9, 3) := by decide +kernel
theorem dX6_turnBy_20 : decode cX6_turnBy 20 = .ok (.aload_n 0, 1) := by decide +kernel
theorem dX6_turnBy_21 : decode cX6_turnBy 21 = .ok (.getfield 15, 3) := by decide +kernel
theorem dX6_turnBy_24 : decode cX6_turnBy 24 = .ok (.iload_n 1, 1) := by decide +kernel
theorem dX6_turnBy_25 : decode cX6_turnBy 25 = .ok (.iaload, 1) := by decide +kernel
theorem dX6_turnBy_26 : decode cX6_turnBy 26 = .ok (.ireturn, 1) := by decide +kernel
theorem dX6_countFibres_0 : decode cX6_countFibres 0 = .ok (.aload_n 2, 1) := by decide +kernel
theorem dX6_countFibres_1 : decode cX6_countFibres 1 = .ok (.iconst 0, 1) := by decide +kernel
theorem dX6_countFibres_2 : decode cX6_countFibres 2 = .ok (.invokestatic 66, 3) := by decide +kernel
theorem dX6_countFibres_5 : decode cX6_countFibres 5 = .ok (.iconst 0, 1) := by decide +kernel
theorem dX6_countFibres_6 : decode cX6_countFibres 6 = .ok (.istore_n 3, 1) := by decide +kernel
theorem dX6_countFibres_7 : decode cX6_countFibres 7 = .ok (.iload_n 3, 1) := by decide +kernel
theorem dX6_countFibres_8 : decode cX6_countFibres 8 = .ok (.aload_n 0, 1) := by decide +kernel
theorem dX6_countFibres_9 : decode cX6_countFibres 9 = .ok (.getfield 34, 3) := by decide +kernel
theorem dX6_countFibres_12 : decode cX6_countFibres 12 = .ok (.if_icmp .ge 47, 3) := by decide +kernel
theorem dX6_countFibres_15 : decode cX6_countFibres 15 = .ok (.aload_n 1, 1) := by decide +kernel
theorem dX6_countFibres_16 : decode cX6_countFibres 16 = .ok (.aload_n 0, 1) := by decide +kernel
theorem dX6_countFibres_17 : decode cX6_countFibres 17 = .ok (.getfield 9, 3) := by decide +kernel
theorem dX6_countFibres_20 : decode cX6_countFibres 20 = .ok (.iload_n 3, 1) := by decide +kernel
theorem dX6_countFibres_21 : decode cX6_countFibres 21 = .ok (.iaload, 1) := by decide +kernel
theorem dX6_countFibres_22 : decode cX6_countFibres 22 = .ok (.iconst 2, 1) := by decide +kernel
theorem dX6_countFibres_23 : decode cX6_countFibres 23 = .ok (.invokevirtual 46, 3) := by decide +kernel
theorem dX6_countFibres_26 : decode cX6_countFibres 26 = .ok (.istore 4, 2) := by decide +kernel
theorem dX6_countFibres_28 : decode cX6_countFibres 28 = .ok (.iload 4, 2) := by decide +kernel
theorem dX6_countFibres_30 : decode cX6_countFibres 30 = .ok (.ifCond .lt 23, 3) := by decide +kernel
theorem dX6_countFibres_33 : decode cX6_countFibres 33 = .ok (.iload 4, 2) := by decide +kernel
theorem dX6_countFibres_35 : decode cX6_countFibres 35 = .ok (.aload_n 2, 1) := by decide +kernel
theorem dX6_countFibres_36 : decode cX6_countFibres 36 = .ok (.arraylength, 1) := by decide +kernel
theorem dX6_countFibres_37 : decode cX6_countFibres 37 = .ok (.if_icmp .ge 16, 3) := by decide +kernel
theorem dX6_countFibres_40 : decode cX6_countFibres 40 = .ok (.aload_n 2, 1) := by decide +kernel
theorem dX6_countFibres_41 : decode cX6_countFibres 41 = .ok (.iload 4, 2) := by decide +kernel
theorem dX6_countFibres_43 : decode cX6_countFibres 43 = .ok (.dup2, 1) := by decide +kernel
theorem dX6_countFibres_44 : decode cX6_countFibres 44 = .ok (.iaload, 1) := by decide +kernel
theorem dX6_countFibres_45 : decode cX6_countFibres 45 = .ok (.aload_n 0, 1) := by decide +kernel
theorem dX6_countFibres_46 : decode cX6_countFibres 46 = .ok (.getfield 18, 3) := by decide +kernel
theorem dX6_countFibres_49 : decode cX6_countFibres 49 = .ok (.iload_n 3, 1) := by decide +kernel
theorem dX6_countFibres_50 : decode cX6_countFibres 50 = .ok (.iaload, 1) := by decide +kernel
theorem dX6_countFibres_51 : decode cX6_countFibres 51 = .ok (.iadd, 1) := by decide +kernel
theorem dX6_countFibres_52 : decode cX6_countFibres 52 = .ok (.iastore, 1) := by decide +kernel
theorem dX6_countFibres_53 : decode cX6_countFibres 53 = .ok (.iinc 3 1, 3) := by decide +kernel
theorem dX6_countFibres_56 : decode cX6_countFibres 56 = .ok (.goto (-49), 3) := by decide +kernel
theorem dX6_countFibres_59 : decode cX6_countFibres 59 = .ok (.return_, 1) := by decide +kernel
theorem dX6_draw_0 : decode cX6_draw 0 = .ok (.aload_n 0, 1) := by decide +kernel
theorem dX6_draw_1 : decode cX6_draw 1 = .ok (.getfield 31, 3) := by decide +kernel
theorem dX6_draw_4 : decode cX6_draw 4 = .ok (.iconst 0, 1) := by decide +kernel
theorem dX6_draw_5 : decode cX6_draw 5 = .ok (.invokestatic 66, 3) := by decide +kernel
theorem dX6_draw_8 : decode cX6_draw 8 = .ok (.iconst 0, 1) := by decide +kernel
theorem dX6_draw_9 : decode cX6_draw 9 = .ok (.istore_n 3, 1) := by decide +kernel
theorem dX6_draw_10 : decode cX6_draw 10 = .ok (.iload_n 3, 1) := by decide +kernel
theorem dX6_draw_11 : decode cX6_draw 11 = .ok (.aload_n 0, 1) := by decide +kernel
theorem dX6_draw_12 : decode cX6_draw 12 = .ok (.getfield 34, 3) := by decide +kernel
theorem dX6_draw_15 : decode cX6_draw 15 = .ok (.if_icmp .ge 97, 3) := by decide +kernel
theorem dX6_draw_18 : decode cX6_draw 18 = .ok (.aload_n 0, 1) := by decide +kernel
theorem dX6_draw_19 : decode cX6_draw 19 = .ok (.getfield 21, 3) := by decide +kernel
theorem dX6_draw_22 : decode cX6_draw 22 = .ok (.iload_n 3, 1) := by decide +kernel
theorem dX6_draw_23 : decode cX6_draw 23 = .ok (.iaload, 1) := by decide +kernel
theorem dX6_draw_24 : decode cX6_draw 24 = .ok (.istore 4, 2) := by decide +kernel
theorem dX6_draw_26 : decode cX6_draw 26 = .ok (.aload_n 0, 1) := by decide +kernel
theorem dX6_draw_27 : decode cX6_draw 27 = .ok (.getfield 28, 3) := by decide +kernel
theorem dX6_draw_30 : decode cX6_draw 30 = .ok (.iload_n 3, 1) := by decide +kernel
theorem dX6_draw_31 : decode cX6_draw 31 = .ok (.iload 4, 2) := by decide +kernel
theorem dX6_draw_33 : decode cX6_draw 33 = .ok (.ifCond .ge 7, 3) := by decide +kernel
theorem dX6_draw_36 : decode cX6_draw 36 = .ok (.iload_n 2, 1) := by decide +kernel
theorem dX6_draw_37 : decode cX6_draw 37 = .ok (.goto 28, 3) := by decide +kernel
theorem dX6_draw_40 : decode cX6_draw 40 = .ok (.aload_n 0, 1) := by decide +kernel
theorem dX6_draw_41 : decode cX6_draw 41 = .ok (.getfield 28, 3) := by decide +kernel
theorem dX6_draw_44 : decode cX6_draw 44 = .ok (.iload 4, 2) := by decide +kernel
theorem dX6_draw_46 : decode cX6_draw 46 = .ok (.iaload, 1) := by decide +kernel
theorem dX6_draw_47 : decode cX6_draw 47 = .ok (.sipush 1000, 3) := by decide +kernel
theorem dX6_draw_50 : decode cX6_draw 50 = .ok (.imul, 1) := by decide +kernel
theorem dX6_draw_51 : decode cX6_draw 51 = .ok (.aload_n 1, 1) := by decide +kernel
theorem dX6_draw_52 : decode cX6_draw 52 = .ok (.aload_n 0, 1) := by decide +kernel
theorem dX6_draw_53 : decode cX6_draw 53 = .ok (.getfield 9, 3) := by decide +kernel
theorem dX6_draw_56 : decode cX6_draw 56 = .ok (.iload 4, 2) := by decide +kernel
theorem dX6_draw_58 : decode cX6_draw 58 = .ok (.iaload, 1) := by decide +kernel
theorem dX6_draw_59 : decode cX6_draw 59 = .ok (.invokevirtual 72, 3) := by decide +kernel
theorem dX6_draw_62 : decode cX6_draw 62 = .ok (.invokestatic 76, 3) := by decide +kernel
theorem dX6_draw_65 : decode cX6_draw 65 = .ok (.iastore, 1) := by decide +kernel
theorem dX6_draw_66 : decode cX6_draw 66 = .ok (.aload_n 1, 1) := by decide +kernel
theorem dX6_draw_67 : decode cX6_draw 67 = .ok (.aload_n 0, 1) := by decide +kernel
theorem dX6_draw_68 : decode cX6_draw 68 = .ok (.getfield 9, 3) := by decide +kernel
theorem dX6_draw_71 : decode cX6_draw 71 = .ok (.iload_n 3, 1) := by decide +kernel
theorem dX6_draw_72 : decode cX6_draw 72 = .ok (.iaload, 1) := by decide +kernel
theorem dX6_draw_73 : decode cX6_draw 73 = .ok (.invokevirtual 79, 3) := by decide +kernel
theorem dX6_draw_76 : decode cX6_draw 76 = .ok (.ifCond .eq 30, 3) := by decide +kernel
theorem dX6_draw_79 : decode cX6_draw 79 = .ok (.aload_n 0, 1) := by decide +kernel
theorem dX6_draw_80 : decode cX6_draw 80 = .ok (.getfield 31, 3) := by decide +kernel
theorem dX6_draw_83 : decode cX6_draw 83 = .ok (.aload_n 0, 1) := by decide +kernel
theorem dX6_draw_84 : decode cX6_draw 84 = .ok (.getfield 9, 3) := by decide +kernel
theorem dX6_draw_87 : decode cX6_draw 87 = .ok (.iload_n 3, 1) := by decide +kernel
theorem dX6_draw_88 : decode cX6_draw 88 = .ok (.iaload, 1) := by decide +kernel
theorem dX6_draw_89 : decode cX6_draw 89 = .ok (.dup2, 1) := by decide +kernel
theorem dX6_draw_90 : decode cX6_draw 90 = .ok (.iaload, 1) := by decide +kernel
theorem dX6_draw_91 : decode cX6_draw 91 = .ok (.aload_n 0, 1) := by decide +kernel
theorem dX6_draw_92 : decode cX6_draw 92 = .ok (.getfield 18, 3) := by decide +kernel
theorem dX6_draw_95 : decode cX6_draw 95 = .ok (.iload_n 3, 1) := by decide +kernel
theorem dX6_draw_96 : decode cX6_draw 96 = .ok (.iaload, 1) := by decide +kernel
theorem dX6_draw_97 : decode cX6_draw 97 = .ok (.aload_n 0, 1) := by decide +kernel
theorem dX6_draw_98 : decode cX6_draw 98 = .ok (.getfield 28, 3) := by decide +kernel
theorem dX6_draw_101 : decode cX6_draw 101 = .ok (.iload_n 3, 1) := by decide +kernel
theorem dX6_draw_102 : decode cX6_draw 102 = .ok (.iaload, 1) := by decide +kernel
theorem dX6_draw_103 : decode cX6_draw 103 = .ok (.imul, 1) := by decide +kernel
theorem dX6_draw_104 : decode cX6_draw 104 = .ok (.iadd, 1) := by decide +kernel
theorem dX6_draw_105 : decode cX6_draw 105 = .ok (.iastore, 1) := by decide +kernel
theorem dX6_draw_106 : decode cX6_draw 106 = .ok (.iinc 3 1, 3) := by decide +kernel
theorem dX6_draw_109 : decode cX6_draw 109 = .ok (.goto (-99), 3) := by decide +kernel
theorem dX6_draw_112 : decode cX6_draw 112 = .ok (.return_, 1) := by decide +kernel
theorem dX6_heavyOf_0 : decode cX6_heavyOf 0 = .ok (.iconst 0, 1) := by decide +kernel
theorem dX6_heavyOf_1 : decode cX6_heavyOf 1 = .ok (.istore_n 2, 1) := by decide +kernel
theorem dX6_heavyOf_2 : decode cX6_heavyOf 2 = .ok (.iconst 0, 1) := by decide +kernel
theorem dX6_heavyOf_3 : decode cX6_heavyOf 3 = .ok (.istore_n 3, 1) := by decide +kernel
theorem dX6_heavyOf_4 : decode cX6_heavyOf 4 = .ok (.iload_n 3, 1) := by decide +kernel
theorem dX6_heavyOf_5 : decode cX6_heavyOf 5 = .ok (.aload_n 1, 1) := by decide +kernel
theorem dX6_heavyOf_6 : decode cX6_heavyOf 6 = .ok (.getfield 83, 3) := by decide +kernel
theorem dX6_heavyOf_9 : decode cX6_heavyOf 9 = .ok (.if_icmp .ge 25, 3) := by decide +kernel
theorem dX6_heavyOf_12 : decode cX6_heavyOf 12 = .ok (.iload_n 2, 1) := by decide +kernel
theorem dX6_heavyOf_13 : decode cX6_heavyOf 13 = .ok (.aload_n 0, 1) := by decide +kernel
theorem dX6_heavyOf_14 : decode cX6_heavyOf 14 = .ok (.getfield 31, 3) := by decide +kernel
theorem dX6_heavyOf_17 : decode cX6_heavyOf 17 = .ok (.iload_n 3, 1) := by decide +kernel
theorem dX6_heavyOf_18 : decode cX6_heavyOf 18 = .ok (.iaload, 1) := by decide +kernel
theorem dX6_heavyOf_19 : decode cX6_heavyOf 19 = .ok (.aload_n 1, 1) := by decide +kernel
theorem dX6_heavyOf_20 : decode cX6_heavyOf 20 = .ok (.iload_n 3, 1) := by decide +kernel
theorem dX6_heavyOf_21 : decode cX6_heavyOf 21 = .ok (.iconst 1, 1) := by decide +kernel
theorem dX6_heavyOf_22 : decode cX6_heavyOf 22 = .ok (.invokevirtual 46, 3) := by decide +kernel
theorem dX6_heavyOf_25 : decode cX6_heavyOf 25 = .ok (.imul, 1) := by decide +kernel
theorem dX6_heavyOf_26 : decode cX6_heavyOf 26 = .ok (.iadd, 1) := by decide +kernel
theorem dX6_heavyOf_27 : decode cX6_heavyOf 27 = .ok (.istore_n 2, 1) := by decide +kernel
theorem dX6_heavyOf_28 : decode cX6_heavyOf 28 = .ok (.iinc 3 1, 3) := by decide +kernel
theorem dX6_heavyOf_31 : decode cX6_heavyOf 31 = .ok (.goto (-27), 3) := by decide +kernel
theorem dX6_heavyOf_34 : decode cX6_heavyOf 34 = .ok (.iload_n 2, 1) := by decide +kernel
theorem dX6_heavyOf_35 : decode cX6_heavyOf 35 = .ok (.bipush 100, 2) := by decide +kernel
theorem dX6_heavyOf_37 : decode cX6_heavyOf 37 = .ok (.idiv, 1) := by decide +kernel
theorem dX6_heavyOf_38 : decode cX6_heavyOf 38 = .ok (.ireturn, 1) := by decide +kernel
theorem dX6_isInStock_0 : decode cX6_isInStock 0 = .ok (.iconst 0, 1) := by decide +kernel
theorem dX6_isInStock_1 : decode cX6_isInStock 1 = .ok (.istore_n 2, 1) := by decide +kernel
theorem dX6_isInStock_2 : decode cX6_isInStock 2 = .ok (.iload_n 2, 1) := by decide +kernel
theorem dX6_isInStock_3 : decode cX6_isInStock 3 = .ok (.aload_n 1, 1) := by decide +kernel
theorem dX6_isInStock_4 : decode cX6_isInStock 4 = .ok (.getfield 83, 3) := by decide +kernel
theorem dX6_isInStock_7 : decode cX6_isInStock 7 = .ok (.if_icmp .ge 26, 3) := by decide +kernel
theorem dX6_isInStock_10 : decode cX6_isInStock 10 = .ok (.aload_n 0, 1) := by decide +kernel
theorem dX6_isInStock_11 : decode cX6_isInStock 11 = .ok (.getfield 31, 3) := by decide +kernel
theorem dX6_isInStock_14 : decode cX6_isInStock 14 = .ok (.iload_n 2, 1) := by decide +kernel
theorem dX6_isInStock_15 : decode cX6_isInStock 15 = .ok (.iaload, 1) := by decide +kernel
theorem dX6_isInStock_16 : decode cX6_isInStock 16 = .ok (.aload_n 1, 1) := by decide +kernel
theorem dX6_isInStock_17 : decode cX6_isInStock 17 = .ok (.iload_n 2, 1) := by decide +kernel
theorem dX6_isInStock_18 : decode cX6_isInStock 18 = .ok (.iconst 3, 1) := by decide +kernel
theorem dX6_isInStock_19 : decode cX6_isInStock 19 = .ok (.invokevirtual 46, 3) := by decide +kernel
theorem dX6_isInStock_22 : decode cX6_isInStock 22 = .ok (.if_icmp .le 5, 3) := by decide +kernel
theorem dX6_isInStock_25 : decode cX6_isInStock 25 = .ok (.iconst 0, 1) := by decide +kernel
theorem dX6_isInStock_26 : decode cX6_isInStock 26 = .ok (.ireturn, 1) := by decide +kernel
theorem dX6_isInStock_27 : decode cX6_isInStock 27 = .ok (.iinc 2 1, 3) := by decide +kernel
theorem dX6_isInStock_30 : decode cX6_isInStock 30 = .ok (.goto (-28), 3) := by decide +kernel
theorem dX6_isInStock_33 : decode cX6_isInStock 33 = .ok (.iconst 1, 1) := by decide +kernel
theorem dX6_isInStock_34 : decode cX6_isInStock 34 = .ok (.ireturn, 1) := by decide +kernel
theorem dX6_takeFromStock_0 : decode cX6_takeFromStock 0 = .ok (.iconst 0, 1) := by decide +kernel
theorem dX6_takeFromStock_1 : decode cX6_takeFromStock 1 = .ok (.istore_n 2, 1) := by decide +kernel
theorem dX6_takeFromStock_2 : decode cX6_takeFromStock 2 = .ok (.iload_n 2, 1) := by decide +kernel
theorem dX6_takeFromStock_3 : decode cX6_takeFromStock 3 = .ok (.aload_n 1, 1) := by decide +kernel
theorem dX6_takeFromStock_4 : decode cX6_takeFromStock 4 = .ok (.getfield 83, 3) := by decide +kernel
theorem dX6_takeFromStock_7 : decode cX6_takeFromStock 7 = .ok (.if_icmp .ge 28, 3) := by decide +kernel
theorem dX6_takeFromStock_10 : decode cX6_takeFromStock 10 = .ok (.aload_n 1, 1) := by decide +kernel
theorem dX6_takeFromStock_11 : decode cX6_takeFromStock 11 = .ok (.iload_n 2, 1) := by decide +kernel
theorem dX6_takeFromStock_12 : decode cX6_takeFromStock 12 = .ok (.iconst 3, 1) := by decide +kernel
theorem dX6_takeFromStock_13 : decode cX6_takeFromStock 13 = .ok (.aload_n 1, 1) := by decide +kernel
theorem dX6_takeFromStock_14 : decode cX6_takeFromStock 14 = .ok (.iload_n 2, 1) := by decide +kernel
theorem dX6_takeFromStock_15 : decode cX6_takeFromStock 15 = .ok (.iconst 3, 1) := by decide +kernel
theorem dX6_takeFromStock_16 : decode cX6_takeFromStock 16 = .ok (.invokevirtual 46, 3) := by decide +kernel
theorem dX6_takeFromStock_19 : decode cX6_takeFromStock 19 = .ok (.aload_n 0, 1) := by decide +kernel
theorem dX6_takeFromStock_20 : decode cX6_takeFromStock 20 = .ok (.getfield 31, 3) := by decide +kernel
theorem dX6_takeFromStock_23 : decode cX6_takeFromStock 23 = .ok (.iload_n 2, 1) := by decide +kernel
theorem dX6_takeFromStock_24 : decode cX6_takeFromStock 24 = .ok (.iaload, 1) := by decide +kernel
theorem dX6_takeFromStock_25 : decode cX6_takeFromStock 25 = .ok (.isub, 1) := by decide +kernel
theorem dX6_takeFromStock_26 : decode cX6_takeFromStock 26 = .ok (.invokevirtual 84, 3) := by decide +kernel
theorem dX6_takeFromStock_29 : decode cX6_takeFromStock 29 = .ok (.iinc 2 1, 3) := by decide +kernel
theorem dX6_takeFromStock_32 : decode cX6_takeFromStock 32 = .ok (.goto (-30), 3) := by decide +kernel
theorem dX6_takeFromStock_35 : decode cX6_takeFromStock 35 = .ok (.return_, 1) := by decide +kernel
theorem dX7_has_0 : decode cX7_has 0 = .ok (.iload_n 1, 1) := by decide +kernel
theorem dX7_has_1 : decode cX7_has 1 = .ok (.ifCond .lt 15, 3) := by decide +kernel
theorem dX7_has_4 : decode cX7_has 4 = .ok (.iload_n 1, 1) := by decide +kernel
theorem dX7_has_5 : decode cX7_has 5 = .ok (.aload_n 0, 1) := by decide +kernel
theorem dX7_has_6 : decode cX7_has 6 = .ok (.getfield 18, 3) := by decide +kernel
theorem dX7_has_9 : decode cX7_has 9 = .ok (.if_icmp .ge 7, 3) := by decide +kernel
theorem dX7_has_12 : decode cX7_has 12 = .ok (.iconst 1, 1) := by decide +kernel
theorem dX7_has_13 : decode cX7_has 13 = .ok (.goto 4, 3) := by decide +kernel
theorem dX7_has_16 : decode cX7_has 16 = .ok (.iconst 0, 1) := by decide +kernel
theorem dX7_has_17 : decode cX7_has 17 = .ok (.ireturn, 1) := by decide +kernel
theorem dX7_isThread_0 : decode cX7_isThread 0 = .ok (.aload_n 0, 1) := by decide +kernel
theorem dX7_isThread_1 : decode cX7_isThread 1 = .ok (.iload_n 1, 1) := by decide +kernel
theorem dX7_isThread_2 : decode cX7_isThread 2 = .ok (.invokevirtual 22, 3) := by decide +kernel
theorem dX7_isThread_5 : decode cX7_isThread 5 = .ok (.ifCond .eq 16, 3) := by decide +kernel
theorem dX7_isThread_8 : decode cX7_isThread 8 = .ok (.aload_n 0, 1) := by decide +kernel
theorem dX7_isThread_9 : decode cX7_isThread 9 = .ok (.iload_n 1, 1) := by decide +kernel
theorem dX7_isThread_10 : decode cX7_isThread 10 = .ok (.iconst 4, 1) := by decide +kernel
theorem dX7_isThread_11 : decode cX7_isThread 11 = .ok (.invokevirtual 26, 3) := by decide +kernel
theorem dX7_isThread_14 : decode cX7_isThread 14 = .ok (.ifCond .ne 7, 3) := by decide +kernel
theorem dX7_isThread_17 : decode cX7_isThread 17 = .ok (.iconst 1, 1) := by decide +kernel
theorem dX7_isThread_18 : decode cX7_isThread 18 = .ok (.goto 4, 3) := by decide +kernel
theorem dX7_isThread_21 : decode cX7_isThread 21 = .ok (.iconst 0, 1) := by decide +kernel
theorem dX7_isThread_22 : decode cX7_isThread 22 = .ok (.ireturn, 1) := by decide +kernel
theorem dX7_isInside_0 : decode cX7_isInside 0 = .ok (.aload_n 0, 1) := by decide +kernel
theorem dX7_isInside_1 : decode cX7_isInside 1 = .ok (.iload_n 2, 1) := by decide +kernel
theorem dX7_isInside_2 : decode cX7_isInside 2 = .ok (.bipush 7, 2) := by decide +kernel
theorem dX7_isInside_4 : decode cX7_isInside 4 = .ok (.invokevirtual 26, 3) := by decide +kernel
theorem dX7_isInside_7 : decode cX7_isInside 7 = .ok (.iload_n 1, 1) := by decide +kernel
theorem dX7_isInside_8 : decode cX7_isInside 8 = .ok (.ishr, 1) := by decide +kernel
theorem dX7_isInside_9 : decode cX7_isInside 9 = .ok (.iconst 1, 1) := by decide +kernel
theorem dX7_isInside_10 : decode cX7_isInside 10 = .ok (.iand, 1) := by decide +kernel
theorem dX7_isInside_11 : decode cX7_isInside 11 = .ok (.iconst 1, 1) := by decide +kernel
theorem dX7_isInside_12 : decode cX7_isInside 12 = .ok (.if_icmp .ne 7, 3) := by decide +kernel
theorem dX7_isInside_15 : decode cX7_isInside 15 = .ok (.iconst 1, 1) := by decide +kernel
theorem dX7_isInside_16 : decode cX7_isInside 16 = .ok (.goto 4, 3) := by decide +kernel
theorem dX7_isInside_19 : decode cX7_isInside 19 = .ok (.iconst 0, 1) := by decide +kernel
theorem dX7_isInside_20 : decode cX7_isInside 20 = .ok (.ireturn, 1) := by decide +kernel
theorem dX7_canBePart_0 : decode cX7_canBePart 0 = .ok (.aload_n 0, 1) := by decide +kernel
theorem dX7_canBePart_1 : decode cX7_canBePart 1 = .ok (.iload_n 1, 1) := by decide +kernel
theorem dX7_canBePart_2 : decode cX7_canBePart 2 = .ok (.invokevirtual 22, 3) := by decide +kernel
theorem dX7_canBePart_5 : decode cX7_canBePart 5 = .ok (.ifCond .eq 17, 3) := by decide +kernel
theorem dX7_canBePart_8 : decode cX7_canBePart 8 = .ok (.aload_n 0, 1) := by decide +kernel
theorem dX7_canBePart_9 : decode cX7_canBePart 9 = .ok (.iload_n 1, 1) := by decide +kernel
theorem dX7_canBePart_10 : decode cX7_canBePart 10 = .ok (.iconst 5, 1) := by decide +kernel
theorem dX7_canBePart_11 : decode cX7_canBePart 11 = .ok (.invokevirtual 26, 3) := by decide +kernel
theorem dX7_canBePart_14 : decode cX7_canBePart 14 = .ok (.iconst 3, 1) := by decide +kernel
theorem dX7_canBePart_15 : decode cX7_canBePart 15 = .ok (.if_icmp .ge 7, 3) := by decide +kernel
theorem dX7_canBePart_18 : decode cX7_canBePart 18 = .ok (.iconst 1, 1) := by decide +kernel
theorem dX7_canBePart_19 : decode cX7_canBePart 19 = .ok (.goto 4, 3) := by decide +kernel
theorem dX7_canBePart_22 : decode cX7_canBePart 22 = .ok (.iconst 0, 1) := by decide +kernel
theorem dX7_canBePart_23 : decode cX7_canBePart 23 = .ok (.ireturn, 1) := by decide +kernel
theorem dX7_fact_0 : decode cX7_fact 0 = .ok (.aload_n 0, 1) := by decide +kernel
theorem dX7_fact_1 : decode cX7_fact 1 = .ok (.getfield 9, 3) := by decide +kernel
theorem dX7_fact_4 : decode cX7_fact 4 = .ok (.iload_n 1, 1) := by decide +kernel
theorem dX7_fact_5 : decode cX7_fact 5 = .ok (.bipush 8, 2) := by decide +kernel
theorem dX7_fact_7 : decode cX7_fact 7 = .ok (.imul, 1) := by decide +kernel
theorem dX7_fact_8 : decode cX7_fact 8 = .ok (.iload_n 2, 1) := by decide +kernel
theorem dX7_fact_9 : decode cX7_fact 9 = .ok (.iadd, 1) := by decide +kernel
theorem dX7_fact_10 : decode cX7_fact 10 = .ok (.iaload, 1) := by decide +kernel
theorem dX7_fact_11 : decode cX7_fact 11 = .ok (.ireturn, 1) := by decide +kernel
theorem dX7_write_0 : decode cX7_write 0 = .ok (.aload_n 0, 1) := by decide +kernel
theorem dX7_write_1 : decode cX7_write 1 = .ok (.getfield 9, 3) := by decide +kernel
theorem dX7_write_4 : decode cX7_write 4 = .ok (.iload_n 1, 1) := by decide +kernel
theorem dX7_write_5 : decode cX7_write 5 = .ok (.bipush 8, 2) := by decide +kernel
theorem dX7_write_7 : decode cX7_write 7 = .ok (.imul, 1) := by decide +kernel
theorem dX7_write_8 : decode cX7_write 8 = .ok (.iload_n 2, 1) := by decide +kernel
theorem dX7_write_9 : decode cX7_write 9 = .ok (.iadd, 1) := by decide +kernel
theorem dX7_write_10 : decode cX7_write 10 = .ok (.iload_n 3, 1) := by decide +kernel
theorem dX7_write_11 : decode cX7_write 11 = .ok (.iastore, 1) := by decide +kernel
theorem dX7_write_12 : decode cX7_write 12 = .ok (.return_, 1) := by decide +kernel
theorem dX7_partAt_0 : decode cX7_partAt 0 = .ok (.aload_n 0, 1) := by decide +kernel
theorem dX7_partAt_1 : decode cX7_partAt 1 = .ok (.getfield 15, 3) := by decide +kernel
theorem dX7_partAt_4 : decode cX7_partAt 4 = .ok (.iload_n 1, 1) := by decide +kernel
theorem dX7_partAt_5 : decode cX7_partAt 5 = .ok (.iconst 4, 1) := by decide +kernel
theorem dX7_partAt_6 : decode cX7_partAt 6 = .ok (.imul, 1) := by decide +kernel
theorem dX7_partAt_7 : decode cX7_partAt 7 = .ok (.iload_n 2, 1) := by decide +kernel
theorem dX7_partAt_8 : decode cX7_partAt 8 = .ok (.iadd, 1) := by decide +kernel
theorem dX7_partAt_9 : decode cX7_partAt 9 = .ok (.iaload, 1) := by decide +kernel
theorem dX7_partAt_10 : decode cX7_partAt 10 = .ok (.ireturn, 1) := by decide +kernel
theorem dX7_by_0 : decode cX7_by 0 = .ok (.aload_n 0, 1) := by decide +kernel
theorem dX7_by_1 : decode cX7_by 1 = .ok (.iload_n 1, 1) := by decide +kernel
theorem dX7_by_2 : decode cX7_by 2 = .ok (.iconst 0, 1) := by decide +kernel
theorem dX7_by_3 : decode cX7_by 3 = .ok (.invokevirtual 26, 3) := by decide +kernel
theorem dX7_by_6 : decode cX7_by 6 = .ok (.aload_n 0, 1) := by decide +kernel
theorem dX7_by_7 : decode cX7_by 7 = .ok (.iload_n 1, 1) := by decide +kernel
theorem dX7_by_8 : decode cX7_by 8 = .ok (.iconst 4, 1) := by decide +kernel
theorem dX7_by_9 : decode cX7_by 9 = .ok (.invokevirtual 26, 3) := by decide +kernel
theorem dX7_by_12 : decode cX7_by 12 = .ok (.invokestatic 30, 3) := by decide +kernel
theorem dX7_by_15 : decode cX7_by 15 = .ok (.ireturn, 1) := by decide +kernel
theorem dX7_addThread_0 : decode cX7_addThread 0 = .ok (.iconst 2, 1) := by decide +kernel
theorem dX7_addThread_1 : decode cX7_addThread 1 = .ok (.iload_n 1, 1) := by decide +kernel
theorem dX7_addThread_2 : decode cX7_addThread 2 = .ok (.invokestatic 33, 3) := by decide +kernel
theorem dX7_addThread_5 : decode cX7_addThread 5 = .ok (.ifCond .eq 19, 3) := by decide +kernel
theorem dX7_addThread_8 : decode cX7_addThread 8 = .ok (.iconst 1, 1) := by decide +kernel
theorem dX7_addThread_9 : decode cX7_addThread 9 = .ok (.iload_n 2, 1) := by decide +kernel
theorem dX7_addThread_10 : decode cX7_addThread 10 = .ok (.invokestatic 33, 3) := by decide +kernel
theorem dX7_addThread_13 : decode cX7_addThread 13 = .ok (.ifCond .eq 11, 3) := by decide +kernel
theorem dX7_addThread_16 : decode cX7_addThread 16 = .ok (.iconst 0, 1) := by decide +kernel
theorem dX7_addThread_17 : decode cX7_addThread 17 = .ok (.iload_n 3, 1) := by decide +kernel
theorem dX7_addThread_18 : decode cX7_addThread 18 = .ok (.invokestatic 33, 3) := by decide +kernel
theorem dX7_addThread_21 : decode cX7_addThread 21 = .ok (.ifCond .ne 5, 3) := by decide +kernel
theorem dX7_addThread_24 : decode cX7_addThread 24 = .ok (.iconst (-1), 1) := by decide +kernel
theorem dX7_addThread_25 : decode cX7_addThread 25 = .ok (.ireturn, 1) := by decide +kernel
theorem dX7_addThread_26 : decode cX7_addThread 26 = .ok (.aload_n 0, 1) := by decide +kernel
theorem dX7_addThread_27 : decode cX7_addThread 27 = .ok (.getfield 18, 3) := by decide +kernel
theorem dX7_addThread_30 : decode cX7_addThread 30 = .ok (.bipush 16, 2) := by decide +kernel
theorem dX7_addThread_32 : decode cX7_addThread 32 = .ok (.if_icmp .lt 6, 3) := by decide +kernel
theorem dX7_addThread_35 : decode cX7_addThread 35 = .ok (.bipush (-3), 2) := by decide +kernel
theorem dX7_addThread_37 : decode cX7_addThread 37 = .ok (.ireturn, 1) := by decide +kernel
theorem dX7_addThread_38 : decode cX7_addThread 38 = .ok (.aload_n 0, 1) := by decide +kernel
theorem dX7_addThread_39 : decode cX7_addThread 39 = .ok (.getfield 18, 3) := by decide +kernel
theorem dX7_addThread_42 : decode cX7_addThread 42 = .ok (.istore 4, 2) := by decide +kernel
theorem dX7_addThread_44 : decode cX7_addThread 44 = .ok (.aload_n 0, 1) := by decide +kernel
theorem dX7_addThread_45 : decode cX7_addThread 45 = .ok (.dup, 1) := by decide +kernel
theorem dX7_addThread_46 : decode cX7_addThread 46 = .ok (.getfield 18, 3) := by decide +kernel
theorem dX7_addThread_49 : decode cX7_addThread 49 = .ok (.iconst 1, 1) := by decide +kernel
theorem dX7_addThread_50 : decode cX7_addThread 50 = .ok (.iadd, 1) := by decide +kernel
theorem dX7_addThread_51 : decode cX7_addThread 51 = .ok (.putfield 18, 3) := by decide +kernel
theorem dX7_addThread_54 : decode cX7_addThread 54 = .ok (.aload_n 0, 1) := by decide +kernel
theorem dX7_addThread_55 : decode cX7_addThread 55 = .ok (.iload 4, 2) := by decide +kernel
theorem dX7_addThread_57 : decode cX7_addThread 57 = .ok (.iconst 0, 1) := by decide +kernel
theorem dX7_addThread_58 : decode cX7_addThread 58 = .ok (.iload_n 3, 1) := by decide +kernel
theorem dX7_addThread_59 : decode cX7_addThread 59 = .ok (.invokevirtual 37, 3) := by decide +kernel
theorem dX7_addThread_62 : decode cX7_addThread 62 = .ok (.aload_n 0, 1) := by decide +kernel
theorem dX7_addThread_63 : decode cX7_addThread 63 = .ok (.iload 4, 2) := by decide +kernel
theorem dX7_addThread_65 : decode cX7_addThread 65 = .ok (.iconst 1, 1) := by decide +kernel
theorem dX7_addThread_66 : decode cX7_addThread 66 = .ok (.iload_n 2, 1) := by decide +kernel
theorem dX7_addThread_67 : decode cX7_addThread 67 = .ok (.invokevirtual 37, 3) := by decide +kernel
theorem dX7_addThread_70 : decode cX7_addThread 70 = .ok (.aload_n 0, 1) := by decide +kernel
theorem dX7_addThread_71 : decode cX7_addThread 71 = .ok (.iload 4, 2) := by decide +kernel
theorem dX7_addThread_73 : decode cX7_addThread 73 = .ok (.iconst 2, 1) := by decide +kernel
theorem dX7_addThread_74 : decode cX7_addThread 74 = .ok (.iload_n 1, 1) := by decide +kernel
theorem dX7_addThread_75 : decode cX7_addThread 75 = .ok (.invokevirtual 37, 3) := by decide +kernel
theorem dX7_addThread_78 : decode cX7_addThread 78 = .ok (.aload_n 0, 1) := by decide +kernel
theorem dX7_addThread_79 : decode cX7_addThread 79 = .ok (.iload 4, 2) := by decide +kernel
theorem dX7_addThread_81 : decode cX7_addThread 81 = .ok (.iconst 3, 1) := by decide +kernel
theorem dX7_addThread_82 : decode cX7_addThread 82 = .ok (.iconst 0, 1) := by decide +kernel
theorem dX7_addThread_83 : decode cX7_addThread 83 = .ok (.invokevirtual 37, 3) := by decide +kernel
theorem dX7_addThread_86 : decode cX7_addThread 86 = .ok (.aload_n 0, 1) := by decide +kernel
theorem dX7_addThread_87 : decode cX7_addThread 87 = .ok (.iload 4, 2) := by decide +kernel
theorem dX7_addThread_89 : decode cX7_addThread 89 = .ok (.iconst 4, 1) := by decide +kernel
theorem dX7_addThread_90 : decode cX7_addThread 90 = .ok (.iconst 0, 1) := by decide +kernel
theorem dX7_addThread_91 : decode cX7_addThread 91 = .ok (.invokevirtual 37, 3) := by decide +kernel
theorem dX7_addThread_94 : decode cX7_addThread 94 = .ok (.aload_n 0, 1) := by decide +kernel
theorem dX7_addThread_95 : decode cX7_addThread 95 = .ok (.iload 4, 2) := by decide +kernel
theorem dX7_addThread_97 : decode cX7_addThread 97 = .ok (.iconst 5, 1) := by decide +kernel
theorem dX7_addThread_98 : decode cX7_addThread 98 = .ok (.iconst 0, 1) := by decide +kernel
theorem dX7_addThread_99 : decode cX7_addThread 99 = .ok (.invokevirtual 37, 3) := by decide +kernel
theorem dX7_addThread_102 : decode cX7_addThread 102 = .ok (.aload_n 0, 1) := by decide +kernel
theorem dX7_addThread_103 : decode cX7_addThread 103 = .ok (.iload 4, 2) := by decide +kernel
theorem dX7_addThread_105 : decode cX7_addThread 105 = .ok (.bipush 6, 2) := by decide +kernel
theorem dX7_addThread_107 : decode cX7_addThread 107 = .ok (.iconst 1, 1) := by decide +kernel
theorem dX7_addThread_108 : decode cX7_addThread 108 = .ok (.invokevirtual 37, 3) := by decide +kernel
theorem dX7_addThread_111 : decode cX7_addThread 111 = .ok (.aload_n 0, 1) := by decide +kernel
theorem dX7_addThread_112 : decode cX7_addThread 112 = .ok (.iload 4, 2) := by decide +kernel
theorem dX7_addThread_114 : decode cX7_addThread 114 = .ok (.bipush 7, 2) := by decide +kernel
theorem dX7_addThread_116 : decode cX7_addThread 116 = .ok (.iconst 1, 1) := by decide +kernel
theorem dX7_addThread_117 : decode cX7_addThread 117 = .ok (.iload 4, 2) := by decide +kernel
theorem dX7_addThread_119 : decode cX7_addThread 119 = .ok (.ishl, 1) := by decide +kernel
theorem dX7_addThread_120 : decode cX7_addThread 120 = .ok (.invokevirtual 37, 3) := by decide +kernel
theorem dX7_addThread_123 : decode cX7_addThread 123 = .ok (.iload 4, 2) := by decide +kernel
theorem dX7_addThread_125 : decode cX7_addThread 125 = .ok (.ireturn, 1) := by decide +kernel
theorem dX7_addPlied_0 : decode cX7_addPlied 0 = .ok (.iconst 0, 1) := by decide +kernel
theorem dX7_addPlied_1 : decode cX7_addPlied 1 = .ok (.iload_n 3, 1) := by decide +kernel
theorem dX7_addPlied_2 : decode cX7_addPlied 2 = .ok (.invokestatic 33, 3) := by decide +kernel
theorem dX7_addPlied_5 : decode cX7_addPlied 5 = .ok (.ifCond .ne 5, 3) := by decide +kernel
theorem dX7_addPlied_8 : decode cX7_addPlied 8 = .ok (.iconst (-1), 1) := by decide +kernel
theorem dX7_addPlied_9 : decode cX7_addPlied 9 = .ok (.ireturn, 1) := by decide +kernel
theorem dX7_addPlied_10 : decode cX7_addPlied 10 = .ok (.iload_n 2, 1) := by decide +kernel
theorem dX7_addPlied_11 : decode cX7_addPlied 11 = .ok (.iconst 2, 1) := by decide +kernel
theorem dX7_addPlied_12 : decode cX7_addPlied 12 = .ok (.iconst 4, 1) := by decide +kernel
theorem dX7_addPlied_13 : decode cX7_addPlied 13 = .ok (.invokestatic 41, 3) := by decide +kernel
theorem dX7_addPlied_16 : decode cX7_addPlied 16 = .ok (.ifCond .eq 9, 3) := by decide +kernel
theorem dX7_addPlied_19 : decode cX7_addPlied 19 = .ok (.iload_n 2, 1) := by decide +kernel
theorem dX7_addPlied_20 : decode cX7_addPlied 20 = .ok (.aload_n 1, 1) := by decide +kernel
theorem dX7_addPlied_21 : decode cX7_addPlied 21 = .ok (.arraylength, 1) := by decide +kernel
theorem dX7_addPlied_22 : decode cX7_addPlied 22 = .ok (.if_icmp .le 6, 3) := by decide +kernel
theorem dX7_addPlied_25 : decode cX7_addPlied 25 = .ok (.bipush (-5), 2) := by decide +kernel
theorem dX7_addPlied_27 : decode cX7_addPlied 27 = .ok (.ireturn, 1) := by decide +kernel
theorem dX7_addPlied_28 : decode cX7_addPlied 28 = .ok (.iconst 0, 1) := by decide +kernel
theorem dX7_addPlied_29 : decode cX7_addPlied 29 = .ok (.istore 4, 2) := by decide +kernel
theorem dX7_addPlied_31 : decode cX7_addPlied 31 = .ok (.iload 4, 2) := by decide +kernel
theorem dX7_addPlied_33 : decode cX7_addPlied 33 = .ok (.iload_n 2, 1) := by decide +kernel
theorem dX7_addPlied_34 : decode cX7_addPlied 34 = .ok (.if_icmp .ge 23, 3) := by decide +kernel
theorem dX7_addPlied_37 : decode cX7_addPlied 37 = .ok (.aload_n 0, 1) := by decide +kernel
theorem dX7_addPlied_38 : decode cX7_addPlied 38 = .ok (.aload_n 1, 1) := by decide +kernel
theorem dX7_addPlied_39 : decode cX7_addPlied 39 = .ok (.iload 4, 2) := by decide +kernel
theorem dX7_addPlied_41 : decode cX7_addPlied 41 = .ok (.iaload, 1) := by decide +kernel
theorem dX7_addPlied_42 : decode cX7_addPlied 42 = .ok (.invokevirtual 45, 3) := by decide +kernel
theorem dX7_addPlied_45 : decode cX7_addPlied 45 = .ok (.ifCond .ne 6, 3) := by decide +kernel
theorem dX7_addPlied_48 : decode cX7_addPlied 48 = .ok (.bipush (-5), 2) := by decide +kernel
theorem dX7_addPlied_50 : decode cX7_addPlied 50 = .ok (.ireturn, 1) := by decide +kernel
theorem dX7_addPlied_51 : decode cX7_addPlied 51 = .ok (.iinc 4 1, 3) := by decide +kernel
theorem dX7_addPlied_54 : decode cX7_addPlied 54 = .ok (.goto (-23), 3) := by decide +kernel
theorem dX7_addPlied_57 : decode cX7_addPlied 57 = .ok (.aload_n 0, 1) := by decide +kernel
theorem dX7_addPlied_58 : decode cX7_addPlied 58 = .ok (.getfield 18, 3) := by decide +kernel
theorem dX7_addPlied_61 : decode cX7_addPlied 61 = .ok (.bipush 16, 2) := by decide +kernel
theorem dX7_addPlied_63 : decode cX7_addPlied 63 = .ok (.if_icmp .lt 6, 3) := by decide +kernel
theorem dX7_addPlied_66 : decode cX7_addPlied 66 = .ok (.bipush (-3), 2) := by decide +kernel
theorem dX7_addPlied_68 : decode cX7_addPlied 68 = .ok (.ireturn, 1) := by decide +kernel
theorem dX7_addPlied_69 : decode cX7_addPlied 69 = .ok (.aload_n 0, 1) := by decide +kernel
theorem dX7_addPlied_70 : decode cX7_addPlied 70 = .ok (.getfield 18, 3) := by decide +kernel
theorem dX7_addPlied_73 : decode cX7_addPlied 73 = .ok (.istore 4, 2) := by decide +kernel
theorem dX7_addPlied_75 : decode cX7_addPlied 75 = .ok (.aload_n 0, 1) := by decide +kernel
theorem dX7_addPlied_76 : decode cX7_addPlied 76 = .ok (.dup, 1) := by decide +kernel
theorem dX7_addPlied_77 : decode cX7_addPlied 77 = .ok (.getfield 18, 3) := by decide +kernel
theorem dX7_addPlied_80 : decode cX7_addPlied 80 = .ok (.iconst 1, 1) := by decide +kernel
theorem dX7_addPlied_81 : decode cX7_addPlied 81 = .ok (.iadd, 1) := by decide +kernel
theorem dX7_addPlied_82 : decode cX7_addPlied 82 = .ok (.putfield 18, 3) := by decide +kernel
theorem dX7_addPlied_85 : decode cX7_addPlied 85 = .ok (.aload_n 0, 1) := by decide +kernel
theorem dX7_addPlied_86 : decode cX7_addPlied 86 = .ok (.iload 4, 2) := by decide +kernel
theorem dX7_addPlied_88 : decode cX7_addPlied 88 = .ok (.iconst 0, 1) := by decide +kernel
theorem dX7_addPlied_89 : decode cX7_addPlied 89 = .ok (.iload_n 3, 1) := by decide +kernel
theorem dX7_addPlied_90 : decode cX7_addPlied 90 = .ok (.invokevirtual 37, 3) := by decide +kernel
theorem dX7_addPlied_93 : decode cX7_addPlied 93 = .ok (.aload_n 0, 1) := by decide +kernel
theorem dX7_addPlied_94 : decode cX7_addPlied 94 = .ok (.iload 4, 2) := by decide +kernel
theorem dX7_addPlied_96 : decode cX7_addPlied 96 = .ok (.iconst 1, 1) := by decide +kernel
theorem dX7_addPlied_97 : decode cX7_addPlied 97 = .ok (.iconst (-1), 1) := by decide +kernel
theorem dX7_addPlied_98 : decode cX7_addPlied 98 = .ok (.invokevirtual 37, 3) := by decide +kernel
theorem dX7_addPlied_101 : decode cX7_addPlied 101 = .ok (.aload_n 0, 1) := by decide +kernel
theorem dX7_addPlied_102 : decode cX7_addPlied 102 = .ok (.iload 4, 2) := by decide +kernel
theorem dX7_addPlied_104 : decode cX7_addPlied 104 = .ok (.iconst 2, 1) := by decide +kernel
theorem dX7_addPlied_105 : decode cX7_addPlied 105 = .ok (.iconst (-1), 1) := by decide +kernel
theorem dX7_addPlied_106 : decode cX7_addPlied 106 = .ok (.invokevirtual 37, 3) := by decide +kernel
theorem dX7_addPlied_109 : decode cX7_addPlied 109 = .ok (.aload_n 0, 1) := by decide +kernel
theorem dX7_addPlied_110 : decode cX7_addPlied 110 = .ok (.iload 4, 2) := by decide +kernel
theorem dX7_addPlied_112 : decode cX7_addPlied 112 = .ok (.iconst 3, 1) := by decide +kernel
theorem dX7_addPlied_113 : decode cX7_addPlied 113 = .ok (.iconst 0, 1) := by decide +kernel
theorem dX7_addPlied_114 : decode cX7_addPlied 114 = .ok (.invokevirtual 37, 3) := by decide +kernel
theorem dX7_addPlied_117 : decode cX7_addPlied 117 = .ok (.aload_n 0, 1) := by decide +kernel
theorem dX7_addPlied_118 : decode cX7_addPlied 118 = .ok (.iload 4, 2) := by decide +kernel
theorem dX7_addPlied_120 : decode cX7_addPlied 120 = .ok (.aload_n 1, 1) := by decide +kernel
theorem dX7_addPlied_121 : decode cX7_addPlied 121 = .ok (.iload_n 2, 1) := by decide +kernel
theorem dX7_addPlied_122 : decode cX7_addPlied 122 = .ok (.invokevirtual 48, 3) := by decide +kernel
theorem dX7_addPlied_125 : decode cX7_addPlied 125 = .ok (.iload 4, 2) := by decide +kernel
theorem dX7_addPlied_127 : decode cX7_addPlied 127 = .ok (.ireturn, 1) := by decide +kernel
theorem dX7_join_0 : decode cX7_join 0 = .ok (.iconst 0, 1) := by decide +kernel
theorem dX7_join_1 : decode cX7_join 1 = .ok (.istore 4, 2) := by decide +kernel
theorem dX7_join_3 : decode cX7_join 3 = .ok (.iconst 0, 1) := by decide +kernel
theorem dX7_join_4 : decode cX7_join 4 = .ok (.istore 5, 2) := by decide +kernel
theorem dX7_join_6 : decode cX7_join 6 = .ok (.iconst 1, 1) := by decide +kernel
theorem dX7_join_7 : decode cX7_join 7 = .ok (.iload_n 1, 1) := by decide +kernel
theorem dX7_join_8 : decode cX7_join 8 = .ok (.ishl, 1) := by decide +kernel
theorem dX7_join_9 : decode cX7_join 9 = .ok (.istore 6, 2) := by decide +kernel
theorem dX7_join_11 : decode cX7_join 11 = .ok (.iconst 0, 1) := by decide +kernel
theorem dX7_join_12 : decode cX7_join 12 = .ok (.istore 7, 2) := by decide +kernel
theorem dX7_join_14 : decode cX7_join 14 = .ok (.iload 7, 2) := by decide +kernel
theorem dX7_join_16 : decode cX7_join 16 = .ok (.iload_n 3, 1) := by decide +kernel
theorem dX7_join_17 : decode cX7_join 17 = .ok (.if_icmp .ge 70, 3) := by decide +kernel
theorem dX7_join_20 : decode cX7_join 20 = .ok (.aload_n 2, 1) := by decide +kernel
theorem dX7_join_21 : decode cX7_join 21 = .ok (.iload 7, 2) := by decide +kernel
theorem dX7_join_23 : decode cX7_join 23 = .ok (.iaload, 1) := by decide +kernel
theorem dX7_join_24 : decode cX7_join 24 = .ok (.istore 8, 2) := by decide +kernel
theorem dX7_join_26 : decode cX7_join 26 = .ok (.aload_n 0, 1) := by decide +kernel
theorem dX7_join_27 : decode cX7_join 27 = .ok (.getfield 15, 3) := by decide +kernel
theorem dX7_join_30 : decode cX7_join 30 = .ok (.iload_n 1, 1) := by decide +kernel
theorem dX7_join_31 : decode cX7_join 31 = .ok (.iconst 4, 1) := by decide +kernel
theorem dX7_join_32 : decode cX7_join 32 = .ok (.imul, 1) := by decide +kernel
theorem dX7_join_33 : decode cX7_join 33 = .ok (.iload 7, 2) := by decide +kernel
theorem dX7_join_35 : decode cX7_join 35 = .ok (.iadd, 1) := by decide +kernel
theorem dX7_join_36 : decode cX7_join 36 = .ok (.iload 8, 2) := by decide +kernel
theorem dX7_join_38 : decode cX7_join 38 = .ok (.iastore, 1) := by decide +kernel
theorem dX7_join_39 : decode cX7_join 39 = .ok (.iload 4, 2) := by decide +kernel
theorem dX7_join_41 : decode cX7_join 41 = .ok (.aload_n 0, 1) := by decide +kernel
theorem dX7_join_42 : decode cX7_join 42 = .ok (.iload 8, 2) := by decide +kernel
theorem dX7_join_44 : decode cX7_join 44 = .ok (.iconst 5, 1) := by decide +kernel
theorem dX7_join_45 : decode cX7_join 45 = .ok (.invokevirtual 26, 3) := by decide +kernel
theorem dX7_join_48 : decode cX7_join 48 = .ok (.iconst 1, 1) := by decide +kernel
theorem dX7_join_49 : decode cX7_join 49 = .ok (.iadd, 1) := by decide +kernel
theorem dX7_join_50 : decode cX7_join 50 = .ok (.invokestatic 52, 3) := by decide +kernel
theorem dX7_join_53 : decode cX7_join 53 = .ok (.istore 4, 2) := by decide +kernel
theorem dX7_join_55 : decode cX7_join 55 = .ok (.iload 5, 2) := by decide +kernel
theorem dX7_join_57 : decode cX7_join 57 = .ok (.aload_n 0, 1) := by decide +kernel
theorem dX7_join_58 : decode cX7_join 58 = .ok (.iload 8, 2) := by decide +kernel
theorem dX7_join_60 : decode cX7_join 60 = .ok (.bipush 6, 2) := by decide +kernel
theorem dX7_join_62 : decode cX7_join 62 = .ok (.invokevirtual 26, 3) := by decide +kernel
theorem dX7_join_65 : decode cX7_join 65 = .ok (.iadd, 1) := by decide +kernel
theorem dX7_join_66 : decode cX7_join 66 = .ok (.istore 5, 2) := by decide +kernel
theorem dX7_join_68 : decode cX7_join 68 = .ok (.iload 6, 2) := by decide +kernel
theorem dX7_join_70 : decode cX7_join 70 = .ok (.aload_n 0, 1) := by decide +kernel
theorem dX7_join_71 : decode cX7_join 71 = .ok (.iload 8, 2) := by decide +kernel
theorem dX7_join_73 : decode cX7_join 73 = .ok (.bipush 7, 2) := by decide +kernel
theorem dX7_join_75 : decode cX7_join 75 = .ok (.invokevirtual 26, 3) := by decide +kernel
theorem dX7_join_78 : decode cX7_join 78 = .ok (.ior, 1) := by decide +kernel
theorem dX7_join_79 : decode cX7_join 79 = .ok (.istore 6, 2) := by decide +kernel
theorem dX7_join_81 : decode cX7_join 81 = .ok (.iinc 7 1, 3) := by decide +kernel
theorem dX7_join_84 : decode cX7_join 84 = .ok (.goto (-70), 3) := by decide +kernel
theorem dX7_join_87 : decode cX7_join 87 = .ok (.aload_n 0, 1) := by decide +kernel
theorem dX7_join_88 : decode cX7_join 88 = .ok (.iload_n 1, 1) := by decide +kernel
theorem dX7_join_89 : decode cX7_join 89 = .ok (.iconst 4, 1) := by decide +kernel
theorem dX7_join_90 : decode cX7_join 90 = .ok (.iload_n 3, 1) := by decide +kernel
theorem dX7_join_91 : decode cX7_join 91 = .ok (.invokevirtual 37, 3) := by decide +kernel
theorem dX7_join_94 : decode cX7_join 94 = .ok (.aload_n 0, 1) := by decide +kernel
theorem dX7_join_95 : decode cX7_join 95 = .ok (.iload_n 1, 1) := by decide +kernel
theorem dX7_join_96 : decode cX7_join 96 = .ok (.iconst 5, 1) := by decide +kernel
theorem dX7_join_97 : decode cX7_join 97 = .ok (.iload 4, 2) := by decide +kernel
theorem dX7_join_99 : decode cX7_join 99 = .ok (.invokevirtual 37, 3) := by decide +kernel
theorem dX7_join_102 : decode cX7_join 102 = .ok (.aload_n 0, 1) := by decide +kernel
theorem dX7_join_103 : decode cX7_join 103 = .ok (.iload_n 1, 1) := by decide +kernel
theorem dX7_join_104 : decode cX7_join 104 = .ok (.bipush 6, 2) := by decide +kernel
theorem dX7_join_106 : decode cX7_join 106 = .ok (.iload 5, 2) := by decide +kernel
theorem dX7_join_108 : decode cX7_join 108 = .ok (.invokevirtual 37, 3) := by decide +kernel
theorem dX7_join_111 : decode cX7_join 111 = .ok (.aload_n 0, 1) := by decide +kernel
theorem dX7_join_112 : decode cX7_join 112 = .ok (.iload_n 1, 1) := by decide +kernel
theorem dX7_join_113 : decode cX7_join 113 = .ok (.bipush 7, 2) := by decide +kernel
theorem dX7_join_115 : decode cX7_join 115 = .ok (.iload 6, 2) := by decide +kernel
theorem dX7_join_117 : decode cX7_join 117 = .ok (.invokevirtual 37, 3) := by decide +kernel
theorem dX7_join_120 : decode cX7_join 120 = .ok (.return_, 1) := by decide +kernel
theorem dX7_tell_0 : decode cX7_tell 0 = .ok (.iload_n 1, 1) := by decide +kernel
theorem dX7_tell_1 : decode cX7_tell 1 = .ok (.iload_n 3, 1) := by decide +kernel
theorem dX7_tell_2 : decode cX7_tell 2 = .ok (.invokestatic 33, 3) := by decide +kernel
theorem dX7_tell_5 : decode cX7_tell 5 = .ok (.ifCond .eq 11, 3) := by decide +kernel
theorem dX7_tell_8 : decode cX7_tell 8 = .ok (.aload_n 0, 1) := by decide +kernel
theorem dX7_tell_9 : decode cX7_tell 9 = .ok (.iload_n 2, 1) := by decide +kernel
theorem dX7_tell_10 : decode cX7_tell 10 = .ok (.invokevirtual 22, 3) := by decide +kernel
theorem dX7_tell_13 : decode cX7_tell 13 = .ok (.ifCond .ne 6, 3) := by decide +kernel
theorem dX7_tell_16 : decode cX7_tell 16 = .ok (.ldc 57, 2) := by decide +kernel
theorem dX7_tell_18 : decode cX7_tell 18 = .ok (.ireturn, 1) := by decide +kernel
theorem dX7_tell_19 : decode cX7_tell 19 = .ok (.aload_n 0, 1) := by decide +kernel
theorem dX7_tell_20 : decode cX7_tell 20 = .ok (.iload_n 2, 1) := by decide +kernel
theorem dX7_tell_21 : decode cX7_tell 21 = .ok (.invokevirtual 58, 3) := by decide +kernel
theorem dX7_tell_24 : decode cX7_tell 24 = .ok (.ifCond .ne 17, 3) := by decide +kernel
theorem dX7_tell_27 : decode cX7_tell 27 = .ok (.iload_n 1, 1) := by decide +kernel
theorem dX7_tell_28 : decode cX7_tell 28 = .ok (.iconst 1, 1) := by decide +kernel
theorem dX7_tell_29 : decode cX7_tell 29 = .ok (.if_icmp .eq 8, 3) := by decide +kernel
theorem dX7_tell_32 : decode cX7_tell 32 = .ok (.iload_n 1, 1) := by decide +kernel
theorem dX7_tell_33 : decode cX7_tell 33 = .ok (.iconst 2, 1) := by decide +kernel
theorem dX7_tell_34 : decode cX7_tell 34 = .ok (.if_icmp .ne 7, 3) := by decide +kernel
theorem dX7_tell_37 : decode cX7_tell 37 = .ok (.sipush (-10000), 3) := by decide +kernel
theorem dX7_tell_40 : decode cX7_tell 40 = .ok (.ireturn, 1) := by decide +kernel
theorem dX7_tell_41 : decode cX7_tell 41 = .ok (.aload_n 0, 1) := by decide +kernel
theorem dX7_tell_42 : decode cX7_tell 42 = .ok (.iload_n 2, 1) := by decide +kernel
theorem dX7_tell_43 : decode cX7_tell 43 = .ok (.iload_n 1, 1) := by decide +kernel
theorem dX7_tell_44 : decode cX7_tell 44 = .ok (.invokevirtual 26, 3) := by decide +kernel
theorem dX7_tell_47 : decode cX7_tell 47 = .ok (.istore 4, 2) := by decide +kernel
theorem dX7_tell_49 : decode cX7_tell 49 = .ok (.aload_n 0, 1) := by decide +kernel
theorem dX7_tell_50 : decode cX7_tell 50 = .ok (.iload_n 2, 1) := by decide +kernel
theorem dX7_tell_51 : decode cX7_tell 51 = .ok (.iload_n 1, 1) := by decide +kernel
theorem dX7_tell_52 : decode cX7_tell 52 = .ok (.iload_n 3, 1) := by decide +kernel
theorem dX7_tell_53 : decode cX7_tell 53 = .ok (.invokevirtual 37, 3) := by decide +kernel
theorem dX7_tell_56 : decode cX7_tell 56 = .ok (.iload 4, 2) := by decide +kernel
theorem dX7_tell_58 : decode cX7_tell 58 = .ok (.ireturn, 1) := by decide +kernel
theorem dX7_copy_0 : decode cX7_copy 0 = .ok (.aload_n 0, 1) := by decide +kernel
theorem dX7_copy_1 : decode cX7_copy 1 = .ok (.aload_n 1, 1) := by decide +kernel
theorem dX7_copy_2 : decode cX7_copy 2 = .ok (.getfield 18, 3) := by decide +kernel
theorem dX7_copy_5 : decode cX7_copy 5 = .ok (.putfield 18, 3) := by decide +kernel
theorem dX7_copy_8 : decode cX7_copy 8 = .ok (.aload_n 1, 1) := by decide +kernel
theorem dX7_copy_9 : decode cX7_copy 9 = .ok (.getfield 9, 3) := by decide +kernel
theorem dX7_copy_12 : decode cX7_copy 12 = .ok (.iconst 0, 1) := by decide +kernel
theorem dX7_copy_13 : decode cX7_copy 13 = .ok (.aload_n 0, 1) := by decide +kernel
theorem dX7_copy_14 : decode cX7_copy 14 = .ok (.getfield 9, 3) := by decide +kernel
theorem dX7_copy_17 : decode cX7_copy 17 = .ok (.iconst 0, 1) := by decide +kernel
theorem dX7_copy_18 : decode cX7_copy 18 = .ok (.aload_n 0, 1) := by decide +kernel
theorem dX7_copy_19 : decode cX7_copy 19 = .ok (.getfield 9, 3) := by decide +kernel
theorem dX7_copy_22 : decode cX7_copy 22 = .ok (.arraylength, 1) := by decide +kernel
theorem dX7_copy_23 : decode cX7_copy 23 = .ok (.invokestatic 61, 3) := by decide +kernel
theorem dX7_copy_26 : decode cX7_copy 26 = .ok (.aload_n 1, 1) := by decide +kernel
theorem dX7_copy_27 : decode cX7_copy 27 = .ok (.getfield 15, 3) := by decide +kernel
theorem dX7_copy_30 : decode cX7_copy 30 = .ok (.iconst 0, 1) := by decide +kernel
theorem dX7_copy_31 : decode cX7_copy 31 = .ok (.aload_n 0, 1) := by decide +kernel
theorem dX7_copy_32 : decode cX7_copy 32 = .ok (.getfield 15, 3) := by decide +kernel
theorem dX7_copy_35 : decode cX7_copy 35 = .ok (.iconst 0, 1) := by decide +kernel
theorem dX7_copy_36 : decode cX7_copy 36 = .ok (.aload_n 0, 1) := by decide +kernel
theorem dX7_copy_37 : decode cX7_copy 37 = .ok (.getfield 15, 3) := by decide +kernel
theorem dX7_copy_40 : decode cX7_copy 40 = .ok (.arraylength, 1) := by decide +kernel
theorem dX7_copy_41 : decode cX7_copy 41 = .ok (.invokestatic 61, 3) := by decide +kernel
theorem dX7_copy_44 : decode cX7_copy 44 = .ok (.return_, 1) := by decide +kernel
theorem dX8_thread_0 : decode cX8_thread 0 = .ok (.aload_n 0, 1) := by decide +kernel
theorem dX8_thread_1 : decode cX8_thread 1 = .ok (.getfield 12, 3) := by decide +kernel
theorem dX8_thread_4 : decode cX8_thread 4 = .ok (.getfield 75, 3) := by decide +kernel
theorem dX8_thread_7 : decode cX8_thread 7 = .ok (.iload_n 1, 1) := by decide +kernel
theorem dX8_thread_8 : decode cX8_thread 8 = .ok (.iload_n 2, 1) := by decide +kernel
theorem dX8_thread_9 : decode cX8_thread 9 = .ok (.iload_n 3, 1) := by decide +kernel
theorem dX8_thread_10 : decode cX8_thread 10 = .ok (.invokevirtual 79, 3) := by decide +kernel
theorem dX8_thread_13 : decode cX8_thread 13 = .ok (.ireturn, 1) := by decide +kernel
theorem dX8_part_0 : decode cX8_part 0 = .ok (.aload_n 0, 1) := by decide +kernel
theorem dX8_part_1 : decode cX8_part 1 = .ok (.getfield 12, 3) := by decide +kernel
theorem dX8_part_4 : decode cX8_part 4 = .ok (.getfield 75, 3) := by decide +kernel
theorem dX8_part_7 : decode cX8_part 7 = .ok (.iload_n 1, 1) := by decide +kernel
theorem dX8_part_8 : decode cX8_part 8 = .ok (.invokevirtual 85, 3) := by decide +kernel
theorem dX8_part_11 : decode cX8_part 11 = .ok (.ifCond .ne 5, 3) := by decide +kernel
theorem dX8_part_14 : decode cX8_part 14 = .ok (.iconst (-1), 1) := by decide +kernel
theorem dX8_part_15 : decode cX8_part 15 = .ok (.ireturn, 1) := by decide +kernel
theorem dX8_part_16 : decode cX8_part 16 = .ok (.aload_n 0, 1) := by decide +kernel
theorem dX8_part_17 : decode cX8_part 17 = .ok (.getfield 89, 3) := by decide +kernel
theorem dX8_part_20 : decode cX8_part 20 = .ok (.iconst 4, 1) := by decide +kernel
theorem dX8_part_21 : decode cX8_part 21 = .ok (.if_icmp .lt 6, 3) := by decide +kernel
theorem dX8_part_24 : decode cX8_part 24 = .ok (.bipush (-3), 2) := by decide +kernel
theorem dX8_part_26 : decode cX8_part 26 = .ok (.ireturn, 1) := by decide +kernel
theorem dX8_part_27 : decode cX8_part 27 = .ok (.aload_n 0, 1) := by decide +kernel
theorem dX8_part_28 : decode cX8_part 28 = .ok (.getfield 12, 3) := by decide +kernel
theorem dX8_part_31 : decode cX8_part 31 = .ok (.getfield 75, 3) := by decide +kernel
theorem dX8_part_34 : decode cX8_part 34 = .ok (.iload_n 1, 1) := by decide +kernel
theorem dX8_part_35 : decode cX8_part 35 = .ok (.invokevirtual 93, 3) := by decide +kernel
theorem dX8_part_38 : decode cX8_part 38 = .ok (.ifCond .ne 6, 3) := by decide +kernel
theorem dX8_part_41 : decode cX8_part 41 = .ok (.bipush (-5), 2) := by decide +kernel
theorem dX8_part_43 : decode cX8_part 43 = .ok (.ireturn, 1) := by decide +kernel
theorem dX8_part_44 : decode cX8_part 44 = .ok (.aload_n 0, 1) := by decide +kernel
theorem dX8_part_45 : decode cX8_part 45 = .ok (.getfield 21, 3) := by decide +kernel
theorem dX8_part_48 : decode cX8_part 48 = .ok (.aload_n 0, 1) := by decide +kernel
theorem dX8_part_49 : decode cX8_part 49 = .ok (.getfield 89, 3) := by decide +kernel
theorem dX8_part_52 : decode cX8_part 52 = .ok (.iload_n 1, 1) := by decide +kernel
theorem dX8_part_53 : decode cX8_part 53 = .ok (.iastore, 1) := by decide +kernel
theorem dX8_part_54 : decode cX8_part 54 = .ok (.aload_n 0, 1) := by decide +kernel
theorem dX8_part_55 : decode cX8_part 55 = .ok (.dup, 1) := by decide +kernel
theorem dX8_part_56 : decode cX8_part 56 = .ok (.getfield 89, 3) := by decide +kernel
theorem dX8_part_59 : decode cX8_part 59 = .ok (.iconst 1, 1) := by decide +kernel
theorem dX8_part_60 : decode cX8_part 60 = .ok (.iadd, 1) := by decide +kernel
theorem dX8_part_61 : decode cX8_part 61 = .ok (.putfield 89, 3) := by decide +kernel
theorem dX8_part_64 : decode cX8_part 64 = .ok (.aload_n 0, 1) := by decide +kernel
theorem dX8_part_65 : decode cX8_part 65 = .ok (.getfield 89, 3) := by decide +kernel
theorem dX8_part_68 : decode cX8_part 68 = .ok (.ireturn, 1) := by decide +kernel
theorem dX8_ply_0 : decode cX8_ply 0 = .ok (.aload_n 0, 1) := by decide +kernel
theorem dX8_ply_1 : decode cX8_ply 1 = .ok (.getfield 12, 3) := by decide +kernel
theorem dX8_ply_4 : decode cX8_ply 4 = .ok (.getfield 75, 3) := by decide +kernel
theorem dX8_ply_7 : decode cX8_ply 7 = .ok (.aload_n 0, 1) := by decide +kernel
theorem dX8_ply_8 : decode cX8_ply 8 = .ok (.getfield 21, 3) := by decide +kernel
theorem dX8_ply_11 : decode cX8_ply 11 = .ok (.aload_n 0, 1) := by decide +kernel
theorem dX8_ply_12 : decode cX8_ply 12 = .ok (.getfield 89, 3) := by decide +kernel
theorem dX8_ply_15 : decode cX8_ply 15 = .ok (.iload_n 1, 1) := by decide +kernel
theorem dX8_ply_16 : decode cX8_ply 16 = .ok (.invokevirtual 96, 3) := by decide +kernel
theorem dX8_ply_19 : decode cX8_ply 19 = .ok (.istore_n 2, 1) := by decide +kernel
theorem dX8_ply_20 : decode cX8_ply 20 = .ok (.iload_n 2, 1) := by decide +kernel
theorem dX8_ply_21 : decode cX8_ply 21 = .ok (.ifCond .lt 8, 3) := by decide +kernel
theorem dX8_ply_24 : decode cX8_ply 24 = .ok (.aload_n 0, 1) := by decide +kernel
theorem dX8_ply_25 : decode cX8_ply 25 = .ok (.iconst 0, 1) := by decide +kernel
theorem dX8_ply_26 : decode cX8_ply 26 = .ok (.putfield 89, 3) := by decide +kernel
theorem dX8_ply_29 : decode cX8_ply 29 = .ok (.iload_n 2, 1) := by decide +kernel
theorem dX8_ply_30 : decode cX8_ply 30 = .ok (.ireturn, 1) := by decide +kernel
theorem dX8_clear_0 : decode cX8_clear 0 = .ok (.aload_n 0, 1) := by decide +kernel
theorem dX8_clear_1 : decode cX8_clear 1 = .ok (.getfield 12, 3) := by decide +kernel
theorem dX8_clear_4 : decode cX8_clear 4 = .ok (.getfield 75, 3) := by decide +kernel
theorem dX8_clear_7 : decode cX8_clear 7 = .ok (.getfield 100, 3) := by decide +kernel
theorem dX8_clear_10 : decode cX8_clear 10 = .ok (.istore_n 1, 1) := by decide +kernel
theorem dX8_clear_11 : decode cX8_clear 11 = .ok (.aload_n 0, 1) := by decide +kernel
theorem dX8_clear_12 : decode cX8_clear 12 = .ok (.getfield 12, 3) := by decide +kernel
theorem dX8_clear_15 : decode cX8_clear 15 = .ok (.invokevirtual 103, 3) := by decide +kernel
theorem dX8_clear_18 : decode cX8_clear 18 = .ok (.aload_n 0, 1) := by decide +kernel
theorem dX8_clear_19 : decode cX8_clear 19 = .ok (.iconst 0, 1) := by decide +kernel
theorem dX8_clear_20 : decode cX8_clear 20 = .ok (.putfield 89, 3) := by decide +kernel
theorem dX8_clear_23 : decode cX8_clear 23 = .ok (.aload_n 0, 1) := by decide +kernel
theorem dX8_clear_24 : decode cX8_clear 24 = .ok (.getfield 30, 3) := by decide +kernel
theorem dX8_clear_27 : decode cX8_clear 27 = .ok (.invokevirtual 106, 3) := by decide +kernel
theorem dX8_clear_30 : decode cX8_clear 30 = .ok (.iload_n 1, 1) := by decide +kernel
theorem dX8_clear_31 : decode cX8_clear 31 = .ok (.ireturn, 1) := by decide +kernel
theorem dX8_set_0 : decode cX8_set 0 = .ok (.aload_n 0, 1) := by decide +kernel
theorem dX8_set_1 : decode cX8_set 1 = .ok (.getfield 12, 3) := by decide +kernel
theorem dX8_set_4 : decode cX8_set 4 = .ok (.getfield 75, 3) := by decide +kernel
theorem dX8_set_7 : decode cX8_set 7 = .ok (.iload_n 1, 1) := by decide +kernel
theorem dX8_set_8 : decode cX8_set 8 = .ok (.iload_n 2, 1) := by decide +kernel
theorem dX8_set_9 : decode cX8_set 9 = .ok (.iload_n 3, 1) := by decide +kernel
theorem dX8_set_10 : decode cX8_set 10 = .ok (.invokevirtual 107, 3) := by decide +kernel
theorem dX8_set_13 : decode cX8_set 13 = .ok (.istore 4, 2) := by decide +kernel
theorem dX8_set_15 : decode cX8_set 15 = .ok (.iload 4, 2) := by decide +kernel
theorem dX8_set_17 : decode cX8_set 17 = .ok (.sipush (-10000), 3) := by decide +kernel
theorem dX8_set_20 : decode cX8_set 20 = .ok (.if_icmp .le 38, 3) := by decide +kernel
theorem dX8_set_23 : decode cX8_set 23 = .ok (.iload 4, 2) := by decide +kernel
theorem dX8_set_25 : decode cX8_set 25 = .ok (.iload_n 3, 1) := by decide +kernel
theorem dX8_set_26 : decode cX8_set 26 = .ok (.if_icmp .eq 32, 3) := by decide +kernel
theorem dX8_set_29 : decode cX8_set 29 = .ok (.aload_n 0, 1) := by decide +kernel
theorem dX8_set_30 : decode cX8_set 30 = .ok (.getfield 30, 3) := by decide +kernel
theorem dX8_set_33 : decode cX8_set 33 = .ok (.invokevirtual 110, 3) := by decide +kernel
theorem dX8_set_36 : decode cX8_set 36 = .ok (.ifCond .eq 11, 3) := by decide +kernel
theorem dX8_set_39 : decode cX8_set 39 = .ok (.aload_n 0, 1) := by decide +kernel
theorem dX8_set_40 : decode cX8_set 40 = .ok (.getfield 30, 3) := by decide +kernel
theorem dX8_set_43 : decode cX8_set 43 = .ok (.iconst 0, 1) := by decide +kernel
theorem dX8_set_44 : decode cX8_set 44 = .ok (.invokevirtual 114, 3) := by decide +kernel
theorem dX8_set_47 : decode cX8_set 47 = .ok (.aload_n 0, 1) := by decide +kernel
theorem dX8_set_48 : decode cX8_set 48 = .ok (.getfield 30, 3) := by decide +kernel
theorem dX8_set_51 : decode cX8_set 51 = .ok (.iload_n 1, 1) := by decide +kernel
theorem dX8_set_52 : decode cX8_set 52 = .ok (.iload_n 2, 1) := by decide +kernel
theorem dX8_set_53 : decode cX8_set 53 = .ok (.iload 4, 2) := by decide +kernel
theorem dX8_set_55 : decode cX8_set 55 = .ok (.invokevirtual 117, 3) := by decide +kernel
theorem dX8_set_58 : decode cX8_set 58 = .ok (.iload 4, 2) := by decide +kernel
theorem dX8_set_60 : decode cX8_set 60 = .ok (.ireturn, 1) := by decide +kernel
theorem dX8_of_0 : decode cX8_of 0 = .ok (.aload_n 0, 1) := by decide +kernel
theorem dX8_of_1 : decode cX8_of 1 = .ok (.getfield 12, 3) := by decide +kernel
theorem dX8_of_4 : decode cX8_of 4 = .ok (.getfield 75, 3) := by decide +kernel
theorem dX8_of_7 : decode cX8_of 7 = .ok (.iload_n 1, 1) := by decide +kernel
theorem dX8_of_8 : decode cX8_of 8 = .ok (.invokevirtual 85, 3) := by decide +kernel
theorem dX8_of_11 : decode cX8_of 11 = .ok (.ifCond .eq 13, 3) := by decide +kernel
theorem dX8_of_14 : decode cX8_of 14 = .ok (.iload_n 2, 1) := by decide +kernel
theorem dX8_of_15 : decode cX8_of 15 = .ok (.iconst 0, 1) := by decide +kernel
theorem dX8_of_16 : decode cX8_of 16 = .ok (.bipush 7, 2) := by decide +kernel
theorem dX8_of_18 : decode cX8_of 18 = .ok (.invokestatic 121, 3) := by decide +kernel
theorem dX8_of_21 : decode cX8_of 21 = .ok (.ifCond .ne 6, 3) := by decide +kernel
theorem dX8_of_24 : decode cX8_of 24 = .ok (.ldc 125, 2) := by decide +kernel
theorem dX8_of_26 : decode cX8_of 26 = .ok (.ireturn, 1) := by decide +kernel
theorem dX8_of_27 : decode cX8_of 27 = .ok (.iload_n 2, 1) := by decide +kernel
theorem dX8_of_28 : decode cX8_of 28 = .ok (.bipush 7, 2) := by decide +kernel
theorem dX8_of_30 : decode cX8_of 30 = .ok (.if_icmp .ne 17, 3) := by decide +kernel
theorem dX8_of_33 : decode cX8_of 33 = .ok (.aload_n 0, 1) := by decide +kernel
theorem dX8_of_34 : decode cX8_of 34 = .ok (.getfield 12, 3) := by decide +kernel
theorem dX8_of_37 : decode cX8_of 37 = .ok (.getfield 75, 3) := by decide +kernel
theorem dX8_of_40 : decode cX8_of 40 = .ok (.iload_n 1, 1) := by decide +kernel
theorem dX8_of_41 : decode cX8_of 41 = .ok (.invokevirtual 126, 3) := by decide +kernel
theorem dX8_of_44 : decode cX8_of 44 = .ok (.goto 15, 3) := by decide +kernel
theorem dX8_of_47 : decode cX8_of 47 = .ok (.aload_n 0, 1) := by decide +kernel
theorem dX8_of_48 : decode cX8_of 48 = .ok (.getfield 12, 3) := by decide +kernel
theorem dX8_of_51 : decode cX8_of 51 = .ok (.getfield 75, 3) := by decide +kernel
theorem dX8_of_54 : decode cX8_of 54 = .ok (.iload_n 1, 1) := by decide +kernel
theorem dX8_of_55 : decode cX8_of 55 = .ok (.iload_n 2, 1) := by decide +kernel
theorem dX8_of_56 : decode cX8_of 56 = .ok (.invokevirtual 130, 3) := by decide +kernel
theorem dX8_of_59 : decode cX8_of 59 = .ok (.ireturn, 1) := by decide +kernel
theorem dX8_partOf_0 : decode cX8_partOf 0 = .ok (.aload_n 0, 1) := by decide +kernel
theorem dX8_partOf_1 : decode cX8_partOf 1 = .ok (.getfield 12, 3) := by decide +kernel
theorem dX8_partOf_4 : decode cX8_partOf 4 = .ok (.getfield 75, 3) := by decide +kernel
theorem dX8_partOf_7 : decode cX8_partOf 7 = .ok (.iload_n 1, 1) := by decide +kernel
theorem dX8_partOf_8 : decode cX8_partOf 8 = .ok (.invokevirtual 85, 3) := by decide +kernel
theorem dX8_partOf_11 : decode cX8_partOf 11 = .ok (.ifCond .eq 7, 3) := by decide +kernel
theorem dX8_partOf_14 : decode cX8_partOf 14 = .ok (.iload_n 2, 1) := by decide +kernel
theorem dX8_partOf_15 : decode cX8_partOf 15 = .ok (.ifCond .ge 5, 3) := by decide +kernel
theorem dX8_partOf_18 : decode cX8_partOf 18 = .ok (.iconst (-1), 1) := by decide +kernel
theorem dX8_partOf_19 : decode cX8_partOf 19 = .ok (.ireturn, 1) := by decide +kernel
theorem dX8_partOf_20 : decode cX8_partOf 20 = .ok (.iload_n 2, 1) := by decide +kernel
theorem dX8_partOf_21 : decode cX8_partOf 21 = .ok (.aload_n 0, 1) := by decide +kernel
theorem dX8_partOf_22 : decode cX8_partOf 22 = .ok (.getfield 12, 3) := by decide +kernel
theorem dX8_partOf_25 : decode cX8_partOf 25 = .ok (.getfield 75, 3) := by decide +kernel
theorem dX8_partOf_28 : decode cX8_partOf 28 = .ok (.iload_n 1, 1) := by decide +kernel
theorem dX8_partOf_29 : decode cX8_partOf 29 = .ok (.iconst 4, 1) := by decide +kernel
theorem dX8_partOf_30 : decode cX8_partOf 30 = .ok (.invokevirtual 130, 3) := by decide +kernel
theorem dX8_partOf_33 : decode cX8_partOf 33 = .ok (.if_icmp .ge 18, 3) := by decide +kernel
theorem dX8_partOf_36 : decode cX8_partOf 36 = .ok (.aload_n 0, 1) := by decide +kernel
theorem dX8_partOf_37 : decode cX8_partOf 37 = .ok (.getfield 12, 3) := by decide +kernel
theorem dX8_partOf_40 : decode cX8_partOf 40 = .ok (.getfield 75, 3) := by decide +kernel
theorem dX8_partOf_43 : decode cX8_partOf 43 = .ok (.iload_n 1, 1) := by decide +kernel
theorem dX8_partOf_44 : decode cX8_partOf 44 = .ok (.iload_n 2, 1) := by decide +kernel
theorem dX8_partOf_45 : decode cX8_partOf 45 = .ok (.invokevirtual 134, 3) := by decide +kernel
theorem dX8_partOf_48 : decode cX8_partOf 48 = .ok (.goto 5, 3) := by decide +kernel
theorem dX8_partOf_51 : decode cX8_partOf 51 = .ok (.bipush (-2), 2) := by decide +kernel
theorem dX8_partOf_53 : decode cX8_partOf 53 = .ok (.ireturn, 1) := by decide +kernel
theorem dX8_leaf_0 : decode cX8_leaf 0 = .ok (.iload_n 3, 1) := by decide +kernel
theorem dX8_leaf_1 : decode cX8_leaf 1 = .ok (.iconst 0, 1) := by decide +kernel
theorem dX8_leaf_2 : decode cX8_leaf 2 = .ok (.iconst 1, 1) := by decide +kernel
theorem dX8_leaf_3 : decode cX8_leaf 3 = .ok (.invokestatic 121, 3) := by decide +kernel
theorem dX8_leaf_6 : decode cX8_leaf 6 = .ok (.ifCond .eq 22, 3) := by decide +kernel
theorem dX8_leaf_9 : decode cX8_leaf 9 = .ok (.aload_n 0, 1) := by decide +kernel
theorem dX8_leaf_10 : decode cX8_leaf 10 = .ok (.getfield 61, 3) := by decide +kernel
theorem dX8_leaf_13 : decode cX8_leaf 13 = .ok (.aload_n 0, 1) := by decide +kernel
theorem dX8_leaf_14 : decode cX8_leaf 14 = .ok (.getfield 12, 3) := by decide +kernel
theorem dX8_leaf_17 : decode cX8_leaf 17 = .ok (.getfield 75, 3) := by decide +kernel
theorem dX8_leaf_20 : decode cX8_leaf 20 = .ok (.iload_n 1, 1) := by decide +kernel
theorem dX8_leaf_21 : decode cX8_leaf 21 = .ok (.iload_n 2, 1) := by decide +kernel
theorem dX8_leaf_22 : decode cX8_leaf 22 = .ok (.invokevirtual 137, 3) := by decide +kernel
theorem dX8_leaf_25 : decode cX8_leaf 25 = .ok (.ifCond .ne 6, 3) := by decide +kernel
theorem dX8_leaf_28 : decode cX8_leaf 28 = .ok (.ldc 125, 2) := by decide +kernel
theorem dX8_leaf_30 : decode cX8_leaf 30 = .ok (.ireturn, 1) := by decide +kernel
theorem dX8_leaf_31 : decode cX8_leaf 31 = .ok (.iload_n 3, 1) := by decide +kernel
theorem dX8_leaf_32 : decode cX8_leaf 32 = .ok (.ifCond .ne 13, 3) := by decide +kernel
theorem dX8_leaf_35 : decode cX8_leaf 35 = .ok (.aload_n 0, 1) := by decide +kernel
theorem dX8_leaf_36 : decode cX8_leaf 36 = .ok (.getfield 61, 3) := by decide +kernel
theorem dX8_leaf_39 : decode cX8_leaf 39 = .ok (.getfield 141, 3) := by decide +kernel
theorem dX8_leaf_42 : decode cX8_leaf 42 = .ok (.goto 17, 3) := by decide +kernel
theorem dX8_leaf_45 : decode cX8_leaf 45 = .ok (.aload_n 0, 1) := by decide +kernel
theorem dX8_leaf_46 : decode cX8_leaf 46 = .ok (.getfield 61, 3) := by decide +kernel
theorem dX8_leaf_49 : decode cX8_leaf 49 = .ok (.aload_n 0, 1) := by decide +kernel
theorem dX8_leaf_50 : decode cX8_leaf 50 = .ok (.getfield 12, 3) := by decide +kernel
theorem dX8_leaf_53 : decode cX8_leaf 53 = .ok (.getfield 75, 3) := by decide +kernel
theorem dX8_leaf_56 : decode cX8_leaf 56 = .ok (.invokevirtual 144, 3) := by decide +kernel
theorem dX8_leaf_59 : decode cX8_leaf 59 = .ok (.ireturn, 1) := by decide +kernel
theorem dX8_torque_0 : decode cX8_torque 0 = .ok (.aload_n 0, 1) := by decide +kernel
theorem dX8_torque_1 : decode cX8_torque 1 = .ok (.getfield 12, 3) := by decide +kernel
theorem dX8_torque_4 : decode cX8_torque 4 = .ok (.getfield 75, 3) := by decide +kernel
theorem dX8_torque_7 : decode cX8_torque 7 = .ok (.iload_n 1, 1) := by decide +kernel
theorem dX8_torque_8 : decode cX8_torque 8 = .ok (.invokevirtual 85, 3) := by decide +kernel
theorem dX8_torque_11 : decode cX8_torque 11 = .ok (.ifCond .ne 6, 3) := by decide +kernel
theorem dX8_torque_14 : decode cX8_torque 14 = .ok (.ldc 125, 2) := by decide +kernel
theorem dX8_torque_16 : decode cX8_torque 16 = .ok (.ireturn, 1) := by decide +kernel
theorem dX8_torque_17 : decode cX8_torque 17 = .ok (.aload_n 0, 1) := by decide +kernel
theorem dX8_torque_18 : decode cX8_torque 18 = .ok (.iload_n 1, 1) := by decide +kernel
theorem dX8_torque_19 : decode cX8_torque 19 = .ok (.invokevirtual 148, 3) := by decide +kernel
theorem dX8_torque_22 : decode cX8_torque 22 = .ok (.istore_n 2, 1) := by decide +kernel
theorem dX8_torque_23 : decode cX8_torque 23 = .ok (.aload_n 0, 1) := by decide +kernel
theorem dX8_torque_24 : decode cX8_torque 24 = .ok (.getfield 54, 3) := by decide +kernel
theorem dX8_torque_27 : decode cX8_torque 27 = .ok (.aload_n 0, 1) := by decide +kernel
theorem dX8_torque_28 : decode cX8_torque 28 = .ok (.getfield 12, 3) := by decide +kernel
theorem dX8_torque_31 : decode cX8_torque 31 = .ok (.getfield 75, 3) := by decide +kernel
theorem dX8_torque_34 : decode cX8_torque 34 = .ok (.aload_n 0, 1) := by decide +kernel
theorem dX8_torque_35 : decode cX8_torque 35 = .ok (.getfield 34, 3) := by decide +kernel
theorem dX8_torque_38 : decode cX8_torque 38 = .ok (.invokevirtual 151, 3) := by decide +kernel
theorem dX8_torque_41 : decode cX8_torque 41 = .ok (.iload_n 2, 1) := by decide +kernel
theorem dX8_torque_42 : decode cX8_torque 42 = .ok (.ireturn, 1) := by decide +kernel
theorem dX8_tally_0 : decode cX8_tally 0 = .ok (.iload_n 1, 1) := by decide +kernel
theorem dX8_tally_1 : decode cX8_tally 1 = .ok (.iconst 0, 1) := by decide +kernel
theorem dX8_tally_2 : decode cX8_tally 2 = .ok (.iconst 3, 1) := by decide +kernel
theorem dX8_tally_3 : decode cX8_tally 3 = .ok (.invokestatic 121, 3) := by decide +kernel
theorem dX8_tally_6 : decode cX8_tally 6 = .ok (.ifCond .eq 12, 3) := by decide +kernel
theorem dX8_tally_9 : decode cX8_tally 9 = .ok (.aload_n 0, 1) := by decide +kernel
theorem dX8_tally_10 : decode cX8_tally 10 = .ok (.getfield 34, 3) := by decide +kernel
theorem dX8_tally_13 : decode cX8_tally 13 = .ok (.iload_n 1, 1) := by decide +kernel
theorem dX8_tally_14 : decode cX8_tally 14 = .ok (.iaload, 1) := by decide +kernel
theorem dX8_tally_15 : decode cX8_tally 15 = .ok (.goto 4, 3) := by decide +kernel
theorem dX8_tally_18 : decode cX8_tally 18 = .ok (.iconst (-1), 1) := by decide +kernel
theorem dX8_tally_19 : decode cX8_tally 19 = .ok (.ireturn, 1) := by decide +kernel
theorem dX8_kept_0 : decode cX8_kept 0 = .ok (.iload_n 3, 1) := by decide +kernel
theorem dX8_kept_1 : decode cX8_kept 1 = .ok (.iconst 0, 1) := by decide +kernel
theorem dX8_kept_2 : decode cX8_kept 2 = .ok (.iconst 1, 1) := by decide +kernel
theorem dX8_kept_3 : decode cX8_kept 3 = .ok (.invokestatic 121, 3) := by decide +kernel
theorem dX8_kept_6 : decode cX8_kept 6 = .ok (.ifCond .eq 22, 3) := by decide +kernel
theorem dX8_kept_9 : decode cX8_kept 9 = .ok (.aload_n 0, 1) := by decide +kernel
theorem dX8_kept_10 : decode cX8_kept 10 = .ok (.getfield 61, 3) := by decide +kernel
theorem dX8_kept_13 : decode cX8_kept 13 = .ok (.aload_n 0, 1) := by decide +kernel
theorem dX8_kept_14 : decode cX8_kept 14 = .ok (.getfield 12, 3) := by decide +kernel
theorem dX8_kept_17 : decode cX8_kept 17 = .ok (.getfield 75, 3) := by decide +kernel
theorem dX8_kept_20 : decode cX8_kept 20 = .ok (.iload_n 1, 1) := by decide +kernel
theorem dX8_kept_21 : decode cX8_kept 21 = .ok (.iload_n 2, 1) := by decide +kernel
theorem dX8_kept_22 : decode cX8_kept 22 = .ok (.invokevirtual 137, 3) := by decide +kernel
theorem dX8_kept_25 : decode cX8_kept 25 = .ok (.ifCond .ne 7, 3) := by decide +kernel
theorem dX8_kept_28 : decode cX8_kept 28 = .ok (.ldc2_w 155, 3) := by decide +kernel
theorem dX8_kept_31 : decode cX8_kept 31 = .ok (.lreturn, 1) := by decide +kernel
theorem dX8_kept_32 : decode cX8_kept 32 = .ok (.aload_n 0, 1) := by decide +kernel
theorem dX8_kept_33 : decode cX8_kept 33 = .ok (.getfield 61, 3) := by decide +kernel
theorem dX8_kept_36 : decode cX8_kept 36 = .ok (.aload_n 0, 1) := by decide +kernel
theorem dX8_kept_37 : decode cX8_kept 37 = .ok (.getfield 12, 3) := by decide +kernel
theorem dX8_kept_40 : decode cX8_kept 40 = .ok (.getfield 75, 3) := by decide +kernel
theorem dX8_kept_43 : decode cX8_kept 43 = .ok (.invokevirtual 157, 3) := by decide +kernel
theorem dX8_kept_46 : decode cX8_kept 46 = .ok (.lstore 4, 2) := by decide +kernel
theorem dX8_kept_48 : decode cX8_kept 48 = .ok (.aload_n 0, 1) := by decide +kernel
theorem dX8_kept_49 : decode cX8_kept 49 = .ok (.getfield 61, 3) := by decide +kernel
theorem dX8_kept_52 : decode cX8_kept 52 = .ok (.invokevirtual 161, 3) := by decide +kernel
theorem dX8_kept_55 : decode cX8_kept 55 = .ok (.lstore 6, 2) := by decide +kernel
theorem dX8_kept_57 : decode cX8_kept 57 = .ok (.lload 4, 2) := by decide +kernel
theorem dX8_kept_59 : decode cX8_kept 59 = .ok (.lload 6, 2) := by decide +kernel
theorem dX8_kept_61 : decode cX8_kept 61 = .ok (.invokestatic 165, 3) := by decide +kernel
theorem dX8_kept_64 : decode cX8_kept 64 = .ok (.lstore 8, 2) := by decide +kernel
theorem dX8_kept_66 : decode cX8_kept 66 = .ok (.lload 8, 2) := by decide +kernel
theorem dX8_kept_68 : decode cX8_kept 68 = .ok (.lconst 0, 1) := by decide +kernel
theorem dX8_kept_69 : decode cX8_kept 69 = .ok (.lcmp, 1) := by decide +kernel
theorem dX8_kept_70 : decode cX8_kept 70 = .ok (.ifCond .gt 7, 3) := by decide +kernel
theorem dX8_kept_73 : decode cX8_kept 73 = .ok (.ldc2_w 155, 3) := by decide +kernel
theorem dX8_kept_76 : decode cX8_kept 76 = .ok (.lreturn, 1) := by decide +kernel
theorem dX8_kept_77 : decode cX8_kept 77 = .ok (.iload_n 3, 1) := by decide +kernel
theorem dX8_kept_78 : decode cX8_kept 78 = .ok (.ifCond .ne 11, 3) := by decide +kernel
theorem dX8_kept_81 : decode cX8_kept 81 = .ok (.lload 4, 2) := by decide +kernel
theorem dX8_kept_83 : decode cX8_kept 83 = .ok (.lload 8, 2) := by decide +kernel
theorem dX8_kept_85 : decode cX8_kept 85 = .ok (.ldiv, 1) := by decide +kernel
theorem dX8_kept_86 : decode cX8_kept 86 = .ok (.goto 8, 3) := by decide +kernel
theorem dX8_kept_89 : decode cX8_kept 89 = .ok (.lload 6, 2) := by decide +kernel
theorem dX8_kept_91 : decode cX8_kept 91 = .ok (.lload 8, 2) := by decide +kernel
theorem dX8_kept_93 : decode cX8_kept 93 = .ok (.ldiv, 1) := by decide +kernel
theorem dX8_kept_94 : decode cX8_kept 94 = .ok (.lreturn, 1) := by decide +kernel
theorem dX8_needs_0 : decode cX8_needs 0 = .ok (.iload_n 3, 1) := by decide +kernel
theorem dX8_needs_1 : decode cX8_needs 1 = .ok (.iconst 0, 1) := by decide +kernel
theorem dX8_needs_2 : decode cX8_needs 2 = .ok (.sipush 9999, 3) := by decide +kernel
theorem dX8_needs_5 : decode cX8_needs 5 = .ok (.invokestatic 121, 3) := by decide +kernel
theorem dX8_needs_8 : decode cX8_needs 8 = .ok (.ifCond .eq 22, 3) := by decide +kernel
theorem dX8_needs_11 : decode cX8_needs 11 = .ok (.aload_n 0, 1) := by decide +kernel
theorem dX8_needs_12 : decode cX8_needs 12 = .ok (.getfield 61, 3) := by decide +kernel
theorem dX8_needs_15 : decode cX8_needs 15 = .ok (.aload_n 0, 1) := by decide +kernel
theorem dX8_needs_16 : decode cX8_needs 16 = .ok (.getfield 12, 3) := by decide +kernel
theorem dX8_needs_19 : decode cX8_needs 19 = .ok (.getfield 75, 3) := by decide +kernel
theorem dX8_needs_22 : decode cX8_needs 22 = .ok (.iload_n 1, 1) := by decide +kernel
theorem dX8_needs_23 : decode cX8_needs 23 = .ok (.iload_n 2, 1) := by decide +kernel
theorem dX8_needs_24 : decode cX8_needs 24 = .ok (.invokevirtual 137, 3) := by decide +kernel
theorem dX8_needs_27 : decode cX8_needs 27 = .ok (.ifCond .ne 5, 3) := by decide +kernel
theorem dX8_needs_30 : decode cX8_needs 30 = .ok (.iconst (-1), 1) := by decide +kernel
theorem dX8_needs_31 : decode cX8_needs 31 = .ok (.ireturn, 1) := by decide +kernel
theorem dX8_needs_32 : decode cX8_needs 32 = .ok (.aload_n 0, 1) := by decide +kernel
theorem dX8_needs_33 : decode cX8_needs 33 = .ok (.getfield 61, 3) := by decide +kernel
theorem dX8_needs_36 : decode cX8_needs 36 = .ok (.aload_n 0, 1) := by decide +kernel
theorem dX8_needs_37 : decode cX8_needs 37 = .ok (.getfield 12, 3) := by decide +kernel
theorem dX8_needs_40 : decode cX8_needs 40 = .ok (.getfield 75, 3) := by decide +kernel
theorem dX8_needs_43 : decode cX8_needs 43 = .ok (.iload_n 3, 1) := by decide +kernel
theorem dX8_needs_44 : decode cX8_needs 44 = .ok (.invokevirtual 169, 3) := by decide +kernel
theorem dX8_needs_47 : decode cX8_needs 47 = .ok (.ireturn, 1) := by decide +kernel
theorem dX8_heavy_0 : decode cX8_heavy 0 = .ok (.aload_n 0, 1) := by decide +kernel
theorem dX8_heavy_1 : decode cX8_heavy 1 = .ok (.getfield 12, 3) := by decide +kernel
theorem dX8_heavy_4 : decode cX8_heavy 4 = .ok (.getfield 75, 3) := by decide +kernel
theorem dX8_heavy_7 : decode cX8_heavy 7 = .ok (.iload_n 1, 1) := by decide +kernel
theorem dX8_heavy_8 : decode cX8_heavy 8 = .ok (.invokevirtual 85, 3) := by decide +kernel
theorem dX8_heavy_11 : decode cX8_heavy 11 = .ok (.ifCond .eq 14, 3) := by decide +kernel
theorem dX8_heavy_14 : decode cX8_heavy 14 = .ok (.iload_n 2, 1) := by decide +kernel
theorem dX8_heavy_15 : decode cX8_heavy 15 = .ok (.iconst 0, 1) := by decide +kernel
theorem dX8_heavy_16 : decode cX8_heavy 16 = .ok (.sipush 9999, 3) := by decide +kernel
theorem dX8_heavy_19 : decode cX8_heavy 19 = .ok (.invokestatic 121, 3) := by decide +kernel
theorem dX8_heavy_22 : decode cX8_heavy 22 = .ok (.ifCond .ne 5, 3) := by decide +kernel
theorem dX8_heavy_25 : decode cX8_heavy 25 = .ok (.iconst (-1), 1) := by decide +kernel
theorem dX8_heavy_26 : decode cX8_heavy 26 = .ok (.ireturn, 1) := by decide +kernel
theorem dX8_heavy_27 : decode cX8_heavy 27 = .ok (.aload_n 0, 1) := by decide +kernel
theorem dX8_heavy_28 : decode cX8_heavy 28 = .ok (.getfield 54, 3) := by decide +kernel
theorem dX8_heavy_31 : decode cX8_heavy 31 = .ok (.aload_n 0, 1) := by decide +kernel
theorem dX8_heavy_32 : decode cX8_heavy 32 = .ok (.getfield 12, 3) := by decide +kernel
theorem dX8_heavy_35 : decode cX8_heavy 35 = .ok (.getfield 75, 3) := by decide +kernel
theorem dX8_heavy_38 : decode cX8_heavy 38 = .ok (.iload_n 1, 1) := by decide +kernel
theorem dX8_heavy_39 : decode cX8_heavy 39 = .ok (.iconst (-1), 1) := by decide +kernel
theorem dX8_heavy_40 : decode cX8_heavy 40 = .ok (.invokevirtual 173, 3) := by decide +kernel
theorem dX8_heavy_43 : decode cX8_heavy 43 = .ok (.aload_n 0, 1) := by decide +kernel
theorem dX8_heavy_44 : decode cX8_heavy 44 = .ok (.getfield 54, 3) := by decide +kernel
theorem dX8_heavy_47 : decode cX8_heavy 47 = .ok (.aload_n 0, 1) := by decide +kernel
theorem dX8_heavy_48 : decode cX8_heavy 48 = .ok (.getfield 12, 3) := by decide +kernel
theorem dX8_heavy_51 : decode cX8_heavy 51 = .ok (.getfield 75, 3) := by decide +kernel
theorem dX8_heavy_54 : decode cX8_heavy 54 = .ok (.iload_n 2, 1) := by decide +kernel
theorem dX8_heavy_55 : decode cX8_heavy 55 = .ok (.invokevirtual 177, 3) := by decide +kernel
theorem dX8_heavy_58 : decode cX8_heavy 58 = .ok (.aload_n 0, 1) := by decide +kernel
theorem dX8_heavy_59 : decode cX8_heavy 59 = .ok (.getfield 54, 3) := by decide +kernel
theorem dX8_heavy_62 : decode cX8_heavy 62 = .ok (.aload_n 0, 1) := by decide +kernel
theorem dX8_heavy_63 : decode cX8_heavy 63 = .ok (.getfield 12, 3) := by decide +kernel
theorem dX8_heavy_66 : decode cX8_heavy 66 = .ok (.getfield 75, 3) := by decide +kernel
theorem dX8_heavy_69 : decode cX8_heavy 69 = .ok (.invokevirtual 181, 3) := by decide +kernel
theorem dX8_heavy_72 : decode cX8_heavy 72 = .ok (.ireturn, 1) := by decide +kernel
theorem dX8_balance_0 : decode cX8_balance 0 = .ok (.aload_n 0, 1) := by decide +kernel
theorem dX8_balance_1 : decode cX8_balance 1 = .ok (.getfield 12, 3) := by decide +kernel
theorem dX8_balance_4 : decode cX8_balance 4 = .ok (.getfield 75, 3) := by decide +kernel
theorem dX8_balance_7 : decode cX8_balance 7 = .ok (.iload_n 1, 1) := by decide +kernel
theorem dX8_balance_8 : decode cX8_balance 8 = .ok (.invokevirtual 85, 3) := by decide +kernel
theorem dX8_balance_11 : decode cX8_balance 11 = .ok (.ifCond .eq 26, 3) := by decide +kernel
theorem dX8_balance_14 : decode cX8_balance 14 = .ok (.aload_n 0, 1) := by decide +kernel
theorem dX8_balance_15 : decode cX8_balance 15 = .ok (.getfield 12, 3) := by decide +kernel
theorem dX8_balance_18 : decode cX8_balance 18 = .ok (.getfield 75, 3) := by decide +kernel
theorem dX8_balance_21 : decode cX8_balance 21 = .ok (.iload_n 2, 1) := by decide +kernel
theorem dX8_balance_22 : decode cX8_balance 22 = .ok (.invokevirtual 85, 3) := by decide +kernel
theorem dX8_balance_25 : decode cX8_balance 25 = .ok (.ifCond .eq 12, 3) := by decide +kernel
theorem dX8_balance_28 : decode cX8_balance 28 = .ok (.iload_n 3, 1) := by decide +kernel
theorem dX8_balance_29 : decode cX8_balance 29 = .ok (.iconst 0, 1) := by decide +kernel
theorem dX8_balance_30 : decode cX8_balance 30 = .ok (.iconst 1, 1) := by decide +kernel
theorem dX8_balance_31 : decode cX8_balance 31 = .ok (.invokestatic 121, 3) := by decide +kernel
theorem dX8_balance_34 : decode cX8_balance 34 = .ok (.ifCond .ne 6, 3) := by decide +kernel
theorem dX8_balance_37 : decode cX8_balance 37 = .ok (.ldc 125, 2) := by decide +kernel
theorem dX8_balance_39 : decode cX8_balance 39 = .ok (.ireturn, 1) := by decide +kernel
theorem dX8_balance_40 : decode cX8_balance 40 = .ok (.aload_n 0, 1) := by decide +kernel
theorem dX8_balance_41 : decode cX8_balance 41 = .ok (.getfield 12, 3) := by decide +kernel
theorem dX8_balance_44 : decode cX8_balance 44 = .ok (.getfield 75, 3) := by decide +kernel
theorem dX8_balance_47 : decode cX8_balance 47 = .ok (.iload_n 2, 1) := by decide +kernel
theorem dX8_balance_48 : decode cX8_balance 48 = .ok (.iload_n 1, 1) := by decide +kernel
theorem dX8_balance_49 : decode cX8_balance 49 = .ok (.invokevirtual 184, 3) := by decide +kernel
theorem dX8_balance_52 : decode cX8_balance 52 = .ok (.ifCond .ne 6, 3) := by decide +kernel
theorem dX8_balance_55 : decode cX8_balance 55 = .ok (.ldc 188, 2) := by decide +kernel
theorem dX8_balance_57 : decode cX8_balance 57 = .ok (.ireturn, 1) := by decide +kernel
theorem dX8_balance_58 : decode cX8_balance 58 = .ok (.aload_n 0, 1) := by decide +kernel
theorem dX8_balance_59 : decode cX8_balance 59 = .ok (.getfield 54, 3) := by decide +kernel
theorem dX8_balance_62 : decode cX8_balance 62 = .ok (.aload_n 0, 1) := by decide +kernel
theorem dX8_balance_63 : decode cX8_balance 63 = .ok (.getfield 12, 3) := by decide +kernel
theorem dX8_balance_66 : decode cX8_balance 66 = .ok (.getfield 75, 3) := by decide +kernel
theorem dX8_balance_69 : decode cX8_balance 69 = .ok (.iload_n 1, 1) := by decide +kernel
theorem dX8_balance_70 : decode cX8_balance 70 = .ok (.iload_n 2, 1) := by decide +kernel
theorem dX8_balance_71 : decode cX8_balance 71 = .ok (.invokevirtual 173, 3) := by decide +kernel
theorem dX8_balance_74 : decode cX8_balance 74 = .ok (.iconst 0, 1) := by decide +kernel
theorem dX8_balance_75 : decode cX8_balance 75 = .ok (.istore 4, 2) := by decide +kernel
theorem dX8_balance_77 : decode cX8_balance 77 = .ok (.aload_n 0, 1) := by decide +kernel
theorem dX8_balance_78 : decode cX8_balance 78 = .ok (.getfield 54, 3) := by decide +kernel
theorem dX8_balance_81 : decode cX8_balance 81 = .ok (.aload_n 0, 1) := by decide +kernel
theorem dX8_balance_82 : decode cX8_balance 82 = .ok (.getfield 12, 3) := by decide +kernel
theorem dX8_balance_85 : decode cX8_balance 85 = .ok (.getfield 75, 3) := by decide +kernel
theorem dX8_balance_88 : decode cX8_balance 88 = .ok (.iconst 0, 1) := by decide +kernel
theorem dX8_balance_89 : decode cX8_balance 89 = .ok (.invokevirtual 189, 3) := by decide +kernel
theorem dX8_balance_92 : decode cX8_balance 92 = .ok (.istore 5, 2) := by decide +kernel
theorem dX8_balance_94 : decode cX8_balance 94 = .ok (.iconst 1, 1) := by decide +kernel
theorem dX8_balance_95 : decode cX8_balance 95 = .ok (.istore 6, 2) := by decide +kernel
theorem dX8_balance_97 : decode cX8_balance 97 = .ok (.iload 6, 2) := by decide +kernel
theorem dX8_balance_99 : decode cX8_balance 99 = .ok (.bipush 99, 2) := by decide +kernel
theorem dX8_balance_101 : decode cX8_balance 101 = .ok (.if_icmp .gt 69, 3) := by decide +kernel
theorem dX8_balance_104 : decode cX8_balance 104 = .ok (.iconst (-1), 1) := by decide +kernel
theorem dX8_balance_105 : decode cX8_balance 105 = .ok (.istore 7, 2) := by decide +kernel
theorem dX8_balance_107 : decode cX8_balance 107 = .ok (.iload 7, 2) := by decide +kernel
theorem dX8_balance_109 : decode cX8_balance 109 = .ok (.iconst 1, 1) := by decide +kernel
theorem dX8_balance_110 : decode cX8_balance 110 = .ok (.if_icmp .gt 54, 3) := by decide +kernel
theorem dX8_balance_113 : decode cX8_balance 113 = .ok (.aload_n 0, 1) := by decide +kernel
theorem dX8_balance_114 : decode cX8_balance 114 = .ok (.getfield 54, 3) := by decide +kernel
theorem dX8_balance_117 : decode cX8_balance 117 = .ok (.aload_n 0, 1) := by decide +kernel
theorem dX8_balance_118 : decode cX8_balance 118 = .ok (.getfield 12, 3) := by decide +kernel
theorem dX8_balance_121 : decode cX8_balance 121 = .ok (.getfield 75, 3) := by decide +kernel
theorem dX8_balance_124 : decode cX8_balance 124 = .ok (.iload 7, 2) := by decide +kernel
theorem dX8_balance_126 : decode cX8_balance 126 = .ok (.iload 6, 2) := by decide +kernel
theorem dX8_balance_128 : decode cX8_balance 128 = .ok (.imul, 1) := by decide +kernel
theorem dX8_balance_129 : decode cX8_balance 129 = .ok (.invokevirtual 189, 3) := by decide +kernel
theorem dX8_balance_132 : decode cX8_balance 132 = .ok (.istore 8, 2) := by decide +kernel
theorem dX8_balance_134 : decode cX8_balance 134 = .ok (.iload 8, 2) := by decide +kernel
theorem dX8_balance_136 : decode cX8_balance 136 = .ok (.invokestatic 192, 3) := by decide +kernel
theorem dX8_balance_139 : decode cX8_balance 139 = .ok (.iload 5, 2) := by decide +kernel
theorem dX8_balance_141 : decode cX8_balance 141 = .ok (.invokestatic 192, 3) := by decide +kernel
theorem dX8_balance_144 : decode cX8_balance 144 = .ok (.if_icmp .ge 14, 3) := by decide +kernel
theorem dX8_balance_147 : decode cX8_balance 147 = .ok (.iload 8, 2) := by decide +kernel
theorem dX8_balance_149 : decode cX8_balance 149 = .ok (.istore 5, 2) := by decide +kernel
theorem dX8_balance_151 : decode cX8_balance 151 = .ok (.iload 7, 2) := by decide +kernel
theorem dX8_balance_153 : decode cX8_balance 153 = .ok (.iload 6, 2) := by decide +kernel
theorem dX8_balance_155 : decode cX8_balance 155 = .ok (.imul, 1) := by decide +kernel
theorem dX8_balance_156 : decode cX8_balance 156 = .ok (.istore 4, 2) := by decide +kernel
theorem dX8_balance_158 : decode cX8_balance 158 = .ok (.iinc 7 2, 3) := by decide +kernel
theorem dX8_balance_161 : decode cX8_balance 161 = .ok (.goto (-54), 3) := by decide +kernel
theorem dX8_balance_164 : decode cX8_balance 164 = .ok (.iinc 6 1, 3) := by decide +kernel
theorem dX8_balance_167 : decode cX8_balance 167 = .ok (.goto (-70), 3) := by decide +kernel
theorem dX8_balance_170 : decode cX8_balance 170 = .ok (.iload_n 3, 1) := by decide +kernel
theorem dX8_balance_171 : decode cX8_balance 171 = .ok (.ifCond .ne 8, 3) := by decide +kernel
theorem dX8_balance_174 : decode cX8_balance 174 = .ok (.iload 4, 2) := by decide +kernel
theorem dX8_balance_176 : decode cX8_balance 176 = .ok (.goto 5, 3) := by decide +kernel
theorem dX8_balance_179 : decode cX8_balance 179 = .ok (.iload 5, 2) := by decide +kernel
theorem dX8_balance_181 : decode cX8_balance 181 = .ok (.ireturn, 1) := by decide +kernel
theorem dX8_plan_0 : decode cX8_plan 0 = .ok (.aload_n 0, 1) := by decide +kernel
theorem dX8_plan_1 : decode cX8_plan 1 = .ok (.getfield 12, 3) := by decide +kernel
theorem dX8_plan_4 : decode cX8_plan 4 = .ok (.getfield 75, 3) := by decide +kernel
theorem dX8_plan_7 : decode cX8_plan 7 = .ok (.iload_n 1, 1) := by decide +kernel
theorem dX8_plan_8 : decode cX8_plan 8 = .ok (.invokevirtual 197, 3) := by decide +kernel
theorem dX8_plan_11 : decode cX8_plan 11 = .ok (.ifCond .eq 32, 3) := by decide +kernel
theorem dX8_plan_14 : decode cX8_plan 14 = .ok (.iconst 0, 1) := by decide +kernel
theorem dX8_plan_15 : decode cX8_plan 15 = .ok (.iload_n 2, 1) := by decide +kernel
theorem dX8_plan_16 : decode cX8_plan 16 = .ok (.invokestatic 200, 3) := by decide +kernel
theorem dX8_plan_19 : decode cX8_plan 19 = .ok (.ifCond .eq 24, 3) := by decide +kernel
theorem dX8_plan_22 : decode cX8_plan 22 = .ok (.iload_n 3, 1) := by decide +kernel
theorem dX8_plan_23 : decode cX8_plan 23 = .ok (.iconst 0, 1) := by decide +kernel
theorem dX8_plan_24 : decode cX8_plan 24 = .ok (.sipush 9999, 3) := by decide +kernel
theorem dX8_plan_27 : decode cX8_plan 27 = .ok (.invokestatic 121, 3) := by decide +kernel
theorem dX8_plan_30 : decode cX8_plan 30 = .ok (.ifCond .eq 13, 3) := by decide +kernel
theorem dX8_plan_33 : decode cX8_plan 33 = .ok (.iload 4, 2) := by decide +kernel
theorem dX8_plan_35 : decode cX8_plan 35 = .ok (.iconst 0, 1) := by decide +kernel
theorem dX8_plan_36 : decode cX8_plan 36 = .ok (.iconst 1, 1) := by decide +kernel
theorem dX8_plan_37 : decode cX8_plan 37 = .ok (.invokestatic 121, 3) := by decide +kernel
theorem dX8_plan_40 : decode cX8_plan 40 = .ok (.ifCond .ne 5, 3) := by decide +kernel
theorem dX8_plan_43 : decode cX8_plan 43 = .ok (.iconst (-1), 1) := by decide +kernel
theorem dX8_plan_44 : decode cX8_plan 44 = .ok (.ireturn, 1) := by decide +kernel
theorem dX8_plan_45 : decode cX8_plan 45 = .ok (.aload_n 0, 1) := by decide +kernel
theorem dX8_plan_46 : decode cX8_plan 46 = .ok (.getfield 12, 3) := by decide +kernel
theorem dX8_plan_49 : decode cX8_plan 49 = .ok (.getfield 75, 3) := by decide +kernel
theorem dX8_plan_52 : decode cX8_plan 52 = .ok (.iload_n 1, 1) := by decide +kernel
theorem dX8_plan_53 : decode cX8_plan 53 = .ok (.iconst 1, 1) := by decide +kernel
theorem dX8_plan_54 : decode cX8_plan 54 = .ok (.invokevirtual 130, 3) := by decide +kernel
theorem dX8_plan_57 : decode cX8_plan 57 = .ok (.istore 5, 2) := by decide +kernel
theorem dX8_plan_59 : decode cX8_plan 59 = .ok (.iconst 2, 1) := by decide +kernel
theorem dX8_plan_60 : decode cX8_plan 60 = .ok (.istore 6, 2) := by decide +kernel
theorem dX8_plan_62 : decode cX8_plan 62 = .ok (.iconst 3, 1) := by decide +kernel
theorem dX8_plan_63 : decode cX8_plan 63 = .ok (.istore 7, 2) := by decide +kernel
theorem dX8_plan_65 : decode cX8_plan 65 = .ok (.iload 7, 2) := by decide +kernel
theorem dX8_plan_67 : decode cX8_plan 67 = .ok (.iconst 4, 1) := by decide +kernel
theorem dX8_plan_68 : decode cX8_plan 68 = .ok (.if_icmp .gt 46, 3) := by decide +kernel
theorem dX8_plan_71 : decode cX8_plan 71 = .ok (.iload 5, 2) := by decide +kernel
theorem dX8_plan_73 : decode cX8_plan 73 = .ok (.iload_n 2, 1) := by decide +kernel
theorem dX8_plan_74 : decode cX8_plan 74 = .ok (.iload 7, 2) := by decide +kernel
theorem dX8_plan_76 : decode cX8_plan 76 = .ok (.invokestatic 203, 3) := by decide +kernel
theorem dX8_plan_79 : decode cX8_plan 79 = .ok (.iload_n 3, 1) := by decide +kernel
theorem dX8_plan_80 : decode cX8_plan 80 = .ok (.isub, 1) := by decide +kernel
theorem dX8_plan_81 : decode cX8_plan 81 = .ok (.invokestatic 192, 3) := by decide +kernel
theorem dX8_plan_84 : decode cX8_plan 84 = .ok (.istore 8, 2) := by decide +kernel
theorem dX8_plan_86 : decode cX8_plan 86 = .ok (.iload 8, 2) := by decide +kernel
theorem dX8_plan_88 : decode cX8_plan 88 = .ok (.iload 5, 2) := by decide +kernel
theorem dX8_plan_90 : decode cX8_plan 90 = .ok (.iload_n 2, 1) := by decide +kernel
theorem dX8_plan_91 : decode cX8_plan 91 = .ok (.iload 6, 2) := by decide +kernel
theorem dX8_plan_93 : decode cX8_plan 93 = .ok (.invokestatic 203, 3) := by decide +kernel
theorem dX8_plan_96 : decode cX8_plan 96 = .ok (.iload_n 3, 1) := by decide +kernel
theorem dX8_plan_97 : decode cX8_plan 97 = .ok (.isub, 1) := by decide +kernel
theorem dX8_plan_98 : decode cX8_plan 98 = .ok (.invokestatic 192, 3) := by decide +kernel
theorem dX8_plan_101 : decode cX8_plan 101 = .ok (.if_icmp .ge 7, 3) := by decide +kernel
theorem dX8_plan_104 : decode cX8_plan 104 = .ok (.iload 7, 2) := by decide +kernel
theorem dX8_plan_106 : decode cX8_plan 106 = .ok (.istore 6, 2) := by decide +kernel
theorem dX8_plan_108 : decode cX8_plan 108 = .ok (.iinc 7 1, 3) := by decide +kernel
theorem dX8_plan_111 : decode cX8_plan 111 = .ok (.goto (-46), 3) := by decide +kernel
theorem dX8_plan_114 : decode cX8_plan 114 = .ok (.iload 4, 2) := by decide +kernel
theorem dX8_plan_116 : decode cX8_plan 116 = .ok (.ifCond .ne 8, 3) := by decide +kernel
theorem dX8_plan_119 : decode cX8_plan 119 = .ok (.iload 6, 2) := by decide +kernel
theorem dX8_plan_121 : decode cX8_plan 121 = .ok (.goto 11, 3) := by decide +kernel
theorem dX8_plan_124 : decode cX8_plan 124 = .ok (.iload 5, 2) := by decide +kernel
theorem dX8_plan_126 : decode cX8_plan 126 = .ok (.iload_n 2, 1) := by decide +kernel
theorem dX8_plan_127 : decode cX8_plan 127 = .ok (.iload 6, 2) := by decide +kernel
theorem dX8_plan_129 : decode cX8_plan 129 = .ok (.invokestatic 203, 3) := by decide +kernel
theorem dX8_plan_132 : decode cX8_plan 132 = .ok (.ireturn, 1) := by decide +kernel
theorem dX8_can_0 : decode cX8_can 0 = .ok (.aload_n 0, 1) := by decide +kernel
theorem dX8_can_1 : decode cX8_can 1 = .ok (.getfield 12, 3) := by decide +kernel
theorem dX8_can_4 : decode cX8_can 4 = .ok (.getfield 75, 3) := by decide +kernel
theorem dX8_can_7 : decode cX8_can 7 = .ok (.iload_n 1, 1) := by decide +kernel
theorem dX8_can_8 : decode cX8_can 8 = .ok (.invokevirtual 85, 3) := by decide +kernel
theorem dX8_can_11 : decode cX8_can 11 = .ok (.ifCond .ne 5, 3) := by decide +kernel
theorem dX8_can_14 : decode cX8_can 14 = .ok (.iconst (-1), 1) := by decide +kernel
theorem dX8_can_15 : decode cX8_can 15 = .ok (.ireturn, 1) := by decide +kernel
theorem dX8_can_16 : decode cX8_can 16 = .ok (.aload_n 0, 1) := by decide +kernel
theorem dX8_can_17 : decode cX8_can 17 = .ok (.getfield 12, 3) := by decide +kernel
theorem dX8_can_20 : decode cX8_can 20 = .ok (.getfield 75, 3) := by decide +kernel
theorem dX8_can_23 : decode cX8_can 23 = .ok (.iload_n 1, 1) := by decide +kernel
theorem dX8_can_24 : decode cX8_can 24 = .ok (.invokevirtual 197, 3) := by decide +kernel
theorem dX8_can_27 : decode cX8_can 27 = .ok (.ifCond .eq 6, 3) := by decide +kernel
theorem dX8_can_30 : decode cX8_can 30 = .ok (.bipush (-5), 2) := by decide +kernel
theorem dX8_can_32 : decode cX8_can 32 = .ok (.ireturn, 1) := by decide +kernel
theorem dX8_can_33 : decode cX8_can 33 = .ok (.aload_n 0, 1) := by decide +kernel
theorem dX8_can_34 : decode cX8_can 34 = .ok (.getfield 54, 3) := by decide +kernel
theorem dX8_can_37 : decode cX8_can 37 = .ok (.aload_n 0, 1) := by decide +kernel
theorem dX8_can_38 : decode cX8_can 38 = .ok (.getfield 12, 3) := by decide +kernel
theorem dX8_can_41 : decode cX8_can 41 = .ok (.getfield 75, 3) := by decide +kernel
theorem dX8_can_44 : decode cX8_can 44 = .ok (.iload_n 1, 1) := by decide +kernel
theorem dX8_can_45 : decode cX8_can 45 = .ok (.iconst (-1), 1) := by decide +kernel
theorem dX8_can_46 : decode cX8_can 46 = .ok (.invokevirtual 173, 3) := by decide +kernel
theorem dX8_can_49 : decode cX8_can 49 = .ok (.iconst 0, 1) := by decide +kernel
theorem dX8_can_50 : decode cX8_can 50 = .ok (.istore_n 2, 1) := by decide +kernel
theorem dX8_can_51 : decode cX8_can 51 = .ok (.sipush 9999, 3) := by decide +kernel
theorem dX8_can_54 : decode cX8_can 54 = .ok (.ldc 206, 2) := by decide +kernel
theorem dX8_can_56 : decode cX8_can 56 = .ok (.aload_n 0, 1) := by decide +kernel
theorem dX8_can_57 : decode cX8_can 57 = .ok (.getfield 12, 3) := by decide +kernel
theorem dX8_can_60 : decode cX8_can 60 = .ok (.getfield 75, 3) := by decide +kernel
theorem dX8_can_63 : decode cX8_can 63 = .ok (.iload_n 1, 1) := by decide +kernel
theorem dX8_can_64 : decode cX8_can 64 = .ok (.iconst 3, 1) := by decide +kernel
theorem dX8_can_65 : decode cX8_can 65 = .ok (.invokevirtual 130, 3) := by decide +kernel
theorem dX8_can_68 : decode cX8_can 68 = .ok (.isub, 1) := by decide +kernel
theorem dX8_can_69 : decode cX8_can 69 = .ok (.invokestatic 207, 3) := by decide +kernel
theorem dX8_can_72 : decode cX8_can 72 = .ok (.istore_n 3, 1) := by decide +kernel
theorem dX8_can_73 : decode cX8_can 73 = .ok (.iconst 0, 1) := by decide +kernel
theorem dX8_can_74 : decode cX8_can 74 = .ok (.istore 4, 2) := by decide +kernel
theorem dX8_can_76 : decode cX8_can 76 = .ok (.iload 4, 2) := by decide +kernel
theorem dX8_can_78 : decode cX8_can 78 = .ok (.bipush 14, 2) := by decide +kernel
theorem dX8_can_80 : decode cX8_can 80 = .ok (.if_icmp .ge 67, 3) := by decide +kernel
theorem dX8_can_83 : decode cX8_can 83 = .ok (.iload_n 2, 1) := by decide +kernel
theorem dX8_can_84 : decode cX8_can 84 = .ok (.iload_n 3, 1) := by decide +kernel
theorem dX8_can_85 : decode cX8_can 85 = .ok (.if_icmp .ge 62, 3) := by decide +kernel
theorem dX8_can_88 : decode cX8_can 88 = .ok (.iload_n 2, 1) := by decide +kernel
theorem dX8_can_89 : decode cX8_can 89 = .ok (.iload_n 3, 1) := by decide +kernel
theorem dX8_can_90 : decode cX8_can 90 = .ok (.iadd, 1) := by decide +kernel
theorem dX8_can_91 : decode cX8_can 91 = .ok (.iconst 1, 1) := by decide +kernel
theorem dX8_can_92 : decode cX8_can 92 = .ok (.iadd, 1) := by decide +kernel
theorem dX8_can_93 : decode cX8_can 93 = .ok (.iconst 2, 1) := by decide +kernel
theorem dX8_can_94 : decode cX8_can 94 = .ok (.idiv, 1) := by decide +kernel
theorem dX8_can_95 : decode cX8_can 95 = .ok (.istore 5, 2) := by decide +kernel
theorem dX8_can_97 : decode cX8_can 97 = .ok (.aload_n 0, 1) := by decide +kernel
theorem dX8_can_98 : decode cX8_can 98 = .ok (.getfield 54, 3) := by decide +kernel
theorem dX8_can_101 : decode cX8_can 101 = .ok (.aload_n 0, 1) := by decide +kernel
theorem dX8_can_102 : decode cX8_can 102 = .ok (.getfield 12, 3) := by decide +kernel
theorem dX8_can_105 : decode cX8_can 105 = .ok (.getfield 75, 3) := by decide +kernel
theorem dX8_can_108 : decode cX8_can 108 = .ok (.iload 5, 2) := by decide +kernel
theorem dX8_can_110 : decode cX8_can 110 = .ok (.invokevirtual 177, 3) := by decide +kernel
theorem dX8_can_113 : decode cX8_can 113 = .ok (.aload_n 0, 1) := by decide +kernel
theorem dX8_can_114 : decode cX8_can 114 = .ok (.getfield 54, 3) := by decide +kernel
theorem dX8_can_117 : decode cX8_can 117 = .ok (.aload_n 0, 1) := by decide +kernel
theorem dX8_can_118 : decode cX8_can 118 = .ok (.getfield 12, 3) := by decide +kernel
theorem dX8_can_121 : decode cX8_can 121 = .ok (.getfield 75, 3) := by decide +kernel
theorem dX8_can_124 : decode cX8_can 124 = .ok (.invokevirtual 210, 3) := by decide +kernel
theorem dX8_can_127 : decode cX8_can 127 = .ok (.ifCond .eq 9, 3) := by decide +kernel
theorem dX8_can_130 : decode cX8_can 130 = .ok (.iload 5, 2) := by decide +kernel
theorem dX8_can_132 : decode cX8_can 132 = .ok (.istore_n 2, 1) := by decide +kernel
theorem dX8_can_133 : decode cX8_can 133 = .ok (.goto 8, 3) := by decide +kernel
theorem dX8_can_136 : decode cX8_can 136 = .ok (.iload 5, 2) := by decide +kernel
theorem dX8_can_138 : decode cX8_can 138 = .ok (.iconst 1, 1) := by decide +kernel
theorem dX8_can_139 : decode cX8_can 139 = .ok (.isub, 1) := by decide +kernel
theorem dX8_can_140 : decode cX8_can 140 = .ok (.istore_n 3, 1) := by decide +kernel
theorem dX8_can_141 : decode cX8_can 141 = .ok (.iinc 4 1, 3) := by decide +kernel
theorem dX8_can_144 : decode cX8_can 144 = .ok (.goto (-68), 3) := by decide +kernel
theorem dX8_can_147 : decode cX8_can 147 = .ok (.iload_n 2, 1) := by decide +kernel
theorem dX8_can_148 : decode cX8_can 148 = .ok (.ireturn, 1) := by decide +kernel
theorem dX8_alike_0 : decode cX8_alike 0 = .ok (.aload_n 0, 1) := by decide +kernel
theorem dX8_alike_1 : decode cX8_alike 1 = .ok (.getfield 12, 3) := by decide +kernel
theorem dX8_alike_4 : decode cX8_alike 4 = .ok (.getfield 75, 3) := by decide +kernel
theorem dX8_alike_7 : decode cX8_alike 7 = .ok (.iload_n 1, 1) := by decide +kernel
theorem dX8_alike_8 : decode cX8_alike 8 = .ok (.invokevirtual 85, 3) := by decide +kernel
theorem dX8_alike_11 : decode cX8_alike 11 = .ok (.ifCond .eq 26, 3) := by decide +kernel
theorem dX8_alike_14 : decode cX8_alike 14 = .ok (.aload_n 0, 1) := by decide +kernel
theorem dX8_alike_15 : decode cX8_alike 15 = .ok (.getfield 12, 3) := by decide +kernel
theorem dX8_alike_18 : decode cX8_alike 18 = .ok (.getfield 75, 3) := by decide +kernel
theorem dX8_alike_21 : decode cX8_alike 21 = .ok (.iload_n 2, 1) := by decide +kernel
theorem dX8_alike_22 : decode cX8_alike 22 = .ok (.invokevirtual 85, 3) := by decide +kernel
theorem dX8_alike_25 : decode cX8_alike 25 = .ok (.ifCond .eq 12, 3) := by decide +kernel
theorem dX8_alike_28 : decode cX8_alike 28 = .ok (.iload_n 3, 1) := by decide +kernel
theorem dX8_alike_29 : decode cX8_alike 29 = .ok (.iconst 0, 1) := by decide +kernel
theorem dX8_alike_30 : decode cX8_alike 30 = .ok (.iconst 1, 1) := by decide +kernel
theorem dX8_alike_31 : decode cX8_alike 31 = .ok (.invokestatic 121, 3) := by decide +kernel
theorem dX8_alike_34 : decode cX8_alike 34 = .ok (.ifCond .ne 5, 3) := by decide +kernel
theorem dX8_alike_37 : decode cX8_alike 37 = .ok (.iconst (-1), 1) := by decide +kernel
theorem dX8_alike_38 : decode cX8_alike 38 = .ok (.ireturn, 1) := by decide +kernel
theorem dX8_alike_39 : decode cX8_alike 39 = .ok (.aload_n 0, 1) := by decide +kernel
theorem dX8_alike_40 : decode cX8_alike 40 = .ok (.getfield 12, 3) := by decide +kernel
theorem dX8_alike_43 : decode cX8_alike 43 = .ok (.getfield 75, 3) := by decide +kernel
theorem dX8_alike_46 : decode cX8_alike 46 = .ok (.iload_n 1, 1) := by decide +kernel
theorem dX8_alike_47 : decode cX8_alike 47 = .ok (.iload_n 2, 1) := by decide +kernel
theorem dX8_alike_48 : decode cX8_alike 48 = .ok (.iload_n 3, 1) := by decide +kernel
theorem dX8_alike_49 : decode cX8_alike 49 = .ok (.ifCond .ne 7, 3) := by decide +kernel
theorem dX8_alike_52 : decode cX8_alike 52 = .ok (.iconst 1, 1) := by decide +kernel
theorem dX8_alike_53 : decode cX8_alike 53 = .ok (.goto 4, 3) := by decide +kernel
theorem dX8_alike_56 : decode cX8_alike 56 = .ok (.iconst (-1), 1) := by decide +kernel
theorem dX8_alike_57 : decode cX8_alike 57 = .ok (.iconst 0, 1) := by decide +kernel
theorem dX8_alike_58 : decode cX8_alike 58 = .ok (.invokestatic 214, 3) := by decide +kernel
theorem dX8_alike_61 : decode cX8_alike 61 = .ok (.ifCond .eq 7, 3) := by decide +kernel
theorem dX8_alike_64 : decode cX8_alike 64 = .ok (.iconst 1, 1) := by decide +kernel
theorem dX8_alike_65 : decode cX8_alike 65 = .ok (.goto 4, 3) := by decide +kernel
theorem dX8_alike_68 : decode cX8_alike 68 = .ok (.iconst 0, 1) := by decide +kernel
theorem dX8_alike_69 : decode cX8_alike 69 = .ok (.ireturn, 1) := by decide +kernel
theorem dX8_inside_0 : decode cX8_inside 0 = .ok (.aload_n 0, 1) := by decide +kernel
theorem dX8_inside_1 : decode cX8_inside 1 = .ok (.getfield 12, 3) := by decide +kernel
theorem dX8_inside_4 : decode cX8_inside 4 = .ok (.getfield 75, 3) := by decide +kernel
theorem dX8_inside_7 : decode cX8_inside 7 = .ok (.iload_n 1, 1) := by decide +kernel
theorem dX8_inside_8 : decode cX8_inside 8 = .ok (.invokevirtual 85, 3) := by decide +kernel
theorem dX8_inside_11 : decode cX8_inside 11 = .ok (.ifCond .eq 19, 3) := by decide +kernel
theorem dX8_inside_14 : decode cX8_inside 14 = .ok (.aload_n 0, 1) := by decide +kernel
theorem dX8_inside_15 : decode cX8_inside 15 = .ok (.getfield 12, 3) := by decide +kernel
theorem dX8_inside_18 : decode cX8_inside 18 = .ok (.getfield 75, 3) := by decide +kernel
theorem dX8_inside_21 : decode cX8_inside 21 = .ok (.iload_n 1, 1) := by decide +kernel
theorem dX8_inside_22 : decode cX8_inside 22 = .ok (.bipush 7, 2) := by decide +kernel
theorem dX8_inside_24 : decode cX8_inside 24 = .ok (.invokevirtual 130, 3) := by decide +kernel
theorem dX8_inside_27 : decode cX8_inside 27 = .ok (.goto 4, 3) := by decide +kernel
theorem dX8_inside_30 : decode cX8_inside 30 = .ok (.iconst (-1), 1) := by decide +kernel
theorem dX8_inside_31 : decode cX8_inside 31 = .ok (.ireturn, 1) := by decide +kernel
theorem dX8_make_0 : decode cX8_make 0 = .ok (.aload_n 0, 1) := by decide +kernel
theorem dX8_make_1 : decode cX8_make 1 = .ok (.iload_n 1, 1) := by decide +kernel
theorem dX8_make_2 : decode cX8_make 2 = .ok (.iload_n 2, 1) := by decide +kernel
theorem dX8_make_3 : decode cX8_make 3 = .ok (.invokevirtual 218, 3) := by decide +kernel
theorem dX8_make_6 : decode cX8_make 6 = .ok (.istore_n 3, 1) := by decide +kernel
theorem dX8_make_7 : decode cX8_make 7 = .ok (.iload_n 3, 1) := by decide +kernel
theorem dX8_make_8 : decode cX8_make 8 = .ok (.ifCond .lt 10, 3) := by decide +kernel
theorem dX8_make_11 : decode cX8_make 11 = .ok (.aload_n 0, 1) := by decide +kernel
theorem dX8_make_12 : decode cX8_make 12 = .ok (.getfield 30, 3) := by decide +kernel
theorem dX8_make_15 : decode cX8_make 15 = .ok (.invokevirtual 106, 3) := by decide +kernel
theorem dX8_make_18 : decode cX8_make 18 = .ok (.iload_n 3, 1) := by decide +kernel
theorem dX8_make_19 : decode cX8_make 19 = .ok (.ireturn, 1) := by decide +kernel
theorem dX8_lay_0 : decode cX8_lay 0 = .ok (.iload_n 1, 1) := by decide +kernel
theorem dX8_lay_1 : decode cX8_lay 1 = .ok (.iconst (-1), 1) := by decide +kernel
theorem dX8_lay_2 : decode cX8_lay 2 = .ok (.if_icmp .ne 15, 3) := by decide +kernel
theorem dX8_lay_5 : decode cX8_lay 5 = .ok (.aload_n 0, 1) := by decide +kernel
theorem dX8_lay_6 : decode cX8_lay 6 = .ok (.getfield 12, 3) := by decide +kernel
theorem dX8_lay_9 : decode cX8_lay 9 = .ok (.getfield 221, 3) := by decide +kernel
theorem dX8_lay_12 : decode cX8_lay 12 = .ok (.invokevirtual 106, 3) := by decide +kernel
theorem dX8_lay_15 : decode cX8_lay 15 = .ok (.iconst 0, 1) := by decide +kernel
theorem dX8_lay_16 : decode cX8_lay 16 = .ok (.ireturn, 1) := by decide +kernel
theorem dX8_lay_17 : decode cX8_lay 17 = .ok (.aload_n 0, 1) := by decide +kernel
theorem dX8_lay_18 : decode cX8_lay 18 = .ok (.getfield 12, 3) := by decide +kernel
theorem dX8_lay_21 : decode cX8_lay 21 = .ok (.getfield 75, 3) := by decide +kernel
theorem dX8_lay_24 : decode cX8_lay 24 = .ok (.iload_n 1, 1) := by decide +kernel
theorem dX8_lay_25 : decode cX8_lay 25 = .ok (.invokevirtual 85, 3) := by decide +kernel
theorem dX8_lay_28 : decode cX8_lay 28 = .ok (.ifCond .eq 22, 3) := by decide +kernel
theorem dX8_lay_31 : decode cX8_lay 31 = .ok (.iload_n 2, 1) := by decide +kernel
theorem dX8_lay_32 : decode cX8_lay 32 = .ok (.iconst 1, 1) := by decide +kernel
theorem dX8_lay_33 : decode cX8_lay 33 = .ok (.bipush 40, 2) := by decide +kernel
theorem dX8_lay_35 : decode cX8_lay 35 = .ok (.invokestatic 121, 3) := by decide +kernel
theorem dX8_lay_38 : decode cX8_lay 38 = .ok (.ifCond .eq 12, 3) := by decide +kernel
theorem dX8_lay_41 : decode cX8_lay 41 = .ok (.iload_n 3, 1) := by decide +kernel
theorem dX8_lay_42 : decode cX8_lay 42 = .ok (.iconst 0, 1) := by decide +kernel
theorem dX8_lay_43 : decode cX8_lay 43 = .ok (.iconst 1, 1) := by decide +kernel
theorem dX8_lay_44 : decode cX8_lay 44 = .ok (.invokestatic 121, 3) := by decide +kernel
theorem dX8_lay_47 : decode cX8_lay 47 = .ok (.ifCond .ne 5, 3) := by decide +kernel
theorem dX8_lay_50 : decode cX8_lay 50 = .ok (.iconst (-1), 1) := by decide +kernel
theorem dX8_lay_51 : decode cX8_lay 51 = .ok (.ireturn, 1) := by decide +kernel
theorem dX8_lay_52 : decode cX8_lay 52 = .ok (.aload_n 0, 1) := by decide +kernel
theorem dX8_lay_53 : decode cX8_lay 53 = .ok (.getfield 12, 3) := by decide +kernel
theorem dX8_lay_56 : decode cX8_lay 56 = .ok (.getfield 221, 3) := by decide +kernel
theorem dX8_lay_59 : decode cX8_lay 59 = .ok (.invokevirtual 110, 3) := by decide +kernel
theorem dX8_lay_62 : decode cX8_lay 62 = .ok (.ifCond .eq 6, 3) := by decide +kernel
theorem dX8_lay_65 : decode cX8_lay 65 = .ok (.bipush (-3), 2) := by decide +kernel
theorem dX8_lay_67 : decode cX8_lay 67 = .ok (.ireturn, 1) := by decide +kernel
theorem dX8_lay_68 : decode cX8_lay 68 = .ok (.aload_n 0, 1) := by decide +kernel
theorem dX8_lay_69 : decode cX8_lay 69 = .ok (.getfield 12, 3) := by decide +kernel
theorem dX8_lay_72 : decode cX8_lay 72 = .ok (.getfield 221, 3) := by decide +kernel
theorem dX8_lay_75 : decode cX8_lay 75 = .ok (.iload_n 1, 1) := by decide +kernel
theorem dX8_lay_76 : decode cX8_lay 76 = .ok (.iload_n 2, 1) := by decide +kernel
theorem dX8_lay_77 : decode cX8_lay 77 = .ok (.iload_n 3, 1) := by decide +kernel
theorem dX8_lay_78 : decode cX8_lay 78 = .ok (.invokevirtual 117, 3) := by decide +kernel
theorem dX8_lay_81 : decode cX8_lay 81 = .ok (.aload_n 0, 1) := by decide +kernel
theorem dX8_lay_82 : decode cX8_lay 82 = .ok (.getfield 12, 3) := by decide +kernel
theorem dX8_lay_85 : decode cX8_lay 85 = .ok (.getfield 221, 3) := by decide +kernel
theorem dX8_lay_88 : decode cX8_lay 88 = .ok (.getfield 224, 3) := by decide +kernel
theorem dX8_lay_91 : decode cX8_lay 91 = .ok (.ireturn, 1) := by decide +kernel
theorem dX8_skew_0 : decode cX8_skew 0 = .ok (.iload_n 1, 1) := by decide +kernel
theorem dX8_skew_1 : decode cX8_skew 1 = .ok (.iconst 0, 1) := by decide +kernel
theorem dX8_skew_2 : decode cX8_skew 2 = .ok (.aload_n 0, 1) := by decide +kernel
theorem dX8_skew_3 : decode cX8_skew 3 = .ok (.getfield 12, 3) := by decide +kernel
theorem dX8_skew_6 : decode cX8_skew 6 = .ok (.getfield 221, 3) := by decide +kernel
theorem dX8_skew_9 : decode cX8_skew 9 = .ok (.getfield 224, 3) := by decide +kernel
theorem dX8_skew_12 : decode cX8_skew 12 = .ok (.invokestatic 121, 3) := by decide +kernel
theorem dX8_skew_15 : decode cX8_skew 15 = .ok (.ifCond .ne 6, 3) := by decide +kernel
theorem dX8_skew_18 : decode cX8_skew 18 = .ok (.ldc 125, 2) := by decide +kernel
theorem dX8_skew_20 : decode cX8_skew 20 = .ok (.ireturn, 1) := by decide +kernel
theorem dX8_skew_21 : decode cX8_skew 21 = .ok (.aload_n 0, 1) := by decide +kernel
theorem dX8_skew_22 : decode cX8_skew 22 = .ok (.invokevirtual 225, 3) := by decide +kernel
theorem dX8_skew_25 : decode cX8_skew 25 = .ok (.aload_n 0, 1) := by decide +kernel
theorem dX8_skew_26 : decode cX8_skew 26 = .ok (.getfield 68, 3) := by decide +kernel
theorem dX8_skew_29 : decode cX8_skew 29 = .ok (.iload_n 1, 1) := by decide +kernel
theorem dX8_skew_30 : decode cX8_skew 30 = .ok (.invokevirtual 228, 3) := by decide +kernel
theorem dX8_skew_33 : decode cX8_skew 33 = .ok (.ireturn, 1) := by decide +kernel
theorem dX8_worst_0 : decode cX8_worst 0 = .ok (.aload_n 0, 1) := by decide +kernel
theorem dX8_worst_1 : decode cX8_worst 1 = .ok (.invokevirtual 225, 3) := by decide +kernel
theorem dX8_worst_4 : decode cX8_worst 4 = .ok (.aload_n 0, 1) := by decide +kernel
theorem dX8_worst_5 : decode cX8_worst 5 = .ok (.getfield 68, 3) := by decide +kernel
theorem dX8_worst_8 : decode cX8_worst 8 = .ok (.invokevirtual 231, 3) := by decide +kernel
theorem dX8_worst_11 : decode cX8_worst 11 = .ok (.ireturn, 1) := by decide +kernel
theorem dX8_order_0 : decode cX8_order 0 = .ok (.iload_n 1, 1) := by decide +kernel
theorem dX8_order_1 : decode cX8_order 1 = .ok (.iconst (-1), 1) := by decide +kernel
theorem dX8_order_2 : decode cX8_order 2 = .ok (.aload_n 0, 1) := by decide +kernel
theorem dX8_order_3 : decode cX8_order 3 = .ok (.getfield 12, 3) := by decide +kernel
theorem dX8_order_6 : decode cX8_order 6 = .ok (.getfield 221, 3) := by decide +kernel
theorem dX8_order_9 : decode cX8_order 9 = .ok (.getfield 224, 3) := by decide +kernel
theorem dX8_order_12 : decode cX8_order 12 = .ok (.iconst 1, 1) := by decide +kernel
theorem dX8_order_13 : decode cX8_order 13 = .ok (.isub, 1) := by decide +kernel
theorem dX8_order_14 : decode cX8_order 14 = .ok (.invokestatic 121, 3) := by decide +kernel
theorem dX8_order_17 : decode cX8_order 17 = .ok (.ifCond .ne 5, 3) := by decide +kernel
theorem dX8_order_20 : decode cX8_order 20 = .ok (.iconst (-1), 1) := by decide +kernel
theorem dX8_order_21 : decode cX8_order 21 = .ok (.ireturn, 1) := by decide +kernel
theorem dX8_order_22 : decode cX8_order 22 = .ok (.aload_n 0, 1) := by decide +kernel
theorem dX8_order_23 : decode cX8_order 23 = .ok (.invokevirtual 225, 3) := by decide +kernel
theorem dX8_order_26 : decode cX8_order 26 = .ok (.aload_n 0, 1) := by decide +kernel
theorem dX8_order_27 : decode cX8_order 27 = .ok (.getfield 68, 3) := by decide +kernel
theorem dX8_order_30 : decode cX8_order 30 = .ok (.invokevirtual 235, 3) := by decide +kernel
theorem dX8_order_33 : decode cX8_order 33 = .ok (.iload_n 1, 1) := by decide +kernel
theorem dX8_order_34 : decode cX8_order 34 = .ok (.ifCond .ge 13, 3) := by decide +kernel
theorem dX8_order_37 : decode cX8_order 37 = .ok (.aload_n 0, 1) := by decide +kernel
theorem dX8_order_38 : decode cX8_order 38 = .ok (.getfield 68, 3) := by decide +kernel
theorem dX8_order_41 : decode cX8_order 41 = .ok (.invokevirtual 238, 3) := by decide +kernel
theorem dX8_order_44 : decode cX8_order 44 = .ok (.goto 11, 3) := by decide +kernel
theorem dX8_order_47 : decode cX8_order 47 = .ok (.aload_n 0, 1) := by decide +kernel
theorem dX8_order_48 : decode cX8_order 48 = .ok (.getfield 68, 3) := by decide +kernel
theorem dX8_order_51 : decode cX8_order 51 = .ok (.iload_n 1, 1) := by decide +kernel
theorem dX8_order_52 : decode cX8_order 52 = .ok (.invokevirtual 241, 3) := by decide +kernel
theorem dX8_order_55 : decode cX8_order 55 = .ok (.ireturn, 1) := by decide +kernel
theorem dX8_turned_0 : decode cX8_turned 0 = .ok (.aload_n 0, 1) := by decide +kernel
theorem dX8_turned_1 : decode cX8_turned 1 = .ok (.invokevirtual 225, 3) := by decide +kernel
theorem dX8_turned_4 : decode cX8_turned 4 = .ok (.aload_n 0, 1) := by decide +kernel
theorem dX8_turned_5 : decode cX8_turned 5 = .ok (.getfield 68, 3) := by decide +kernel
theorem dX8_turned_8 : decode cX8_turned 8 = .ok (.invokevirtual 244, 3) := by decide +kernel
theorem dX8_turned_11 : decode cX8_turned 11 = .ok (.ireturn, 1) := by decide +kernel
theorem dX8_fits_0 : decode cX8_fits 0 = .ok (.aload_n 0, 1) := by decide +kernel
theorem dX8_fits_1 : decode cX8_fits 1 = .ok (.getfield 12, 3) := by decide +kernel
theorem dX8_fits_4 : decode cX8_fits 4 = .ok (.getfield 75, 3) := by decide +kernel
theorem dX8_fits_7 : decode cX8_fits 7 = .ok (.astore 6, 2) := by decide +kernel
theorem dX8_fits_9 : decode cX8_fits 9 = .ok (.aload_n 0, 1) := by decide +kernel
theorem dX8_fits_10 : decode cX8_fits 10 = .ok (.getfield 40, 3) := by decide +kernel
theorem dX8_fits_13 : decode cX8_fits 13 = .ok (.iload_n 1, 1) := by decide +kernel
theorem dX8_fits_14 : decode cX8_fits 14 = .ok (.invokevirtual 247, 3) := by decide +kernel
theorem dX8_fits_17 : decode cX8_fits 17 = .ok (.ifCond .eq 63, 3) := by decide +kernel
theorem dX8_fits_20 : decode cX8_fits 20 = .ok (.iload_n 2, 1) := by decide +kernel
theorem dX8_fits_21 : decode cX8_fits 21 = .ok (.iconst 0, 1) := by decide +kernel
theorem dX8_fits_22 : decode cX8_fits 22 = .ok (.bipush 40, 2) := by decide +kernel
theorem dX8_fits_24 : decode cX8_fits 24 = .ok (.invokestatic 121, 3) := by decide +kernel
theorem dX8_fits_27 : decode cX8_fits 27 = .ok (.ifCond .eq 53, 3) := by decide +kernel
theorem dX8_fits_30 : decode cX8_fits 30 = .ok (.aload 6, 2) := by decide +kernel
theorem dX8_fits_32 : decode cX8_fits 32 = .ok (.iload_n 3, 1) := by decide +kernel
theorem dX8_fits_33 : decode cX8_fits 33 = .ok (.invokevirtual 85, 3) := by decide +kernel
theorem dX8_fits_36 : decode cX8_fits 36 = .ok (.ifCond .eq 44, 3) := by decide +kernel
theorem dX8_fits_39 : decode cX8_fits 39 = .ok (.iload 4, 2) := by decide +kernel
theorem dX8_fits_41 : decode cX8_fits 41 = .ok (.ifCond .lt 39, 3) := by decide +kernel
theorem dX8_fits_44 : decode cX8_fits 44 = .ok (.aload 6, 2) := by decide +kernel
theorem dX8_fits_46 : decode cX8_fits 46 = .ok (.iload 4, 2) := by decide +kernel
theorem dX8_fits_48 : decode cX8_fits 48 = .ok (.bipush 16, 2) := by decide +kernel
theorem dX8_fits_50 : decode cX8_fits 50 = .ok (.idiv, 1) := by decide +kernel
theorem dX8_fits_51 : decode cX8_fits 51 = .ok (.invokevirtual 197, 3) := by decide +kernel
theorem dX8_fits_54 : decode cX8_fits 54 = .ok (.ifCond .eq 26, 3) := by decide +kernel
theorem dX8_fits_57 : decode cX8_fits 57 = .ok (.aload 6, 2) := by decide +kernel
theorem dX8_fits_59 : decode cX8_fits 59 = .ok (.iload 4, 2) := by decide +kernel
theorem dX8_fits_61 : decode cX8_fits 61 = .ok (.bipush 16, 2) := by decide +kernel
theorem dX8_fits_63 : decode cX8_fits 63 = .ok (.irem, 1) := by decide +kernel
theorem dX8_fits_64 : decode cX8_fits 64 = .ok (.invokevirtual 85, 3) := by decide +kernel
theorem dX8_fits_67 : decode cX8_fits 67 = .ok (.ifCond .eq 13, 3) := by decide +kernel
theorem dX8_fits_70 : decode cX8_fits 70 = .ok (.iload 5, 2) := by decide +kernel
theorem dX8_fits_72 : decode cX8_fits 72 = .ok (.iconst 0, 1) := by decide +kernel
theorem dX8_fits_73 : decode cX8_fits 73 = .ok (.iconst 2, 1) := by decide +kernel
theorem dX8_fits_74 : decode cX8_fits 74 = .ok (.invokestatic 121, 3) := by decide +kernel
theorem dX8_fits_77 : decode cX8_fits 77 = .ok (.ifCond .ne 5, 3) := by decide +kernel
theorem dX8_fits_80 : decode cX8_fits 80 = .ok (.iconst (-1), 1) := by decide +kernel
theorem dX8_fits_81 : decode cX8_fits 81 = .ok (.ireturn, 1) := by decide +kernel
theorem dX8_fits_82 : decode cX8_fits 82 = .ok (.iload 4, 2) := by decide +kernel
theorem dX8_fits_84 : decode cX8_fits 84 = .ok (.bipush 16, 2) := by decide +kernel
theorem dX8_fits_86 : decode cX8_fits 86 = .ok (.idiv, 1) := by decide +kernel
theorem dX8_fits_87 : decode cX8_fits 87 = .ok (.istore 7, 2) := by decide +kernel
theorem dX8_fits_89 : decode cX8_fits 89 = .ok (.iload 4, 2) := by decide +kernel
theorem dX8_fits_91 : decode cX8_fits 91 = .ok (.bipush 16, 2) := by decide +kernel
theorem dX8_fits_93 : decode cX8_fits 93 = .ok (.irem, 1) := by decide +kernel
theorem dX8_fits_94 : decode cX8_fits 94 = .ok (.istore 8, 2) := by decide +kernel
theorem dX8_fits_96 : decode cX8_fits 96 = .ok (.aload 6, 2) := by decide +kernel
theorem dX8_fits_98 : decode cX8_fits 98 = .ok (.iload 8, 2) := by decide +kernel
theorem dX8_fits_100 : decode cX8_fits 100 = .ok (.iload_n 3, 1) := by decide +kernel
theorem dX8_fits_101 : decode cX8_fits 101 = .ok (.invokevirtual 184, 3) := by decide +kernel
theorem dX8_fits_104 : decode cX8_fits 104 = .ok (.ifCond .ne 6, 3) := by decide +kernel
theorem dX8_fits_107 : decode cX8_fits 107 = .ok (.bipush (-5), 2) := by decide +kernel
theorem dX8_fits_109 : decode cX8_fits 109 = .ok (.ireturn, 1) := by decide +kernel
theorem dX8_fits_110 : decode cX8_fits 110 = .ok (.aload_n 0, 1) := by decide +kernel
theorem dX8_fits_111 : decode cX8_fits 111 = .ok (.getfield 40, 3) := by decide +kernel
theorem dX8_fits_114 : decode cX8_fits 114 = .ok (.iload_n 1, 1) := by decide +kernel
theorem dX8_fits_115 : decode cX8_fits 115 = .ok (.invokevirtual 248, 3) := by decide +kernel
theorem dX8_fits_118 : decode cX8_fits 118 = .ok (.ifCond .eq 6, 3) := by decide +kernel
theorem dX8_fits_121 : decode cX8_fits 121 = .ok (.bipush (-11), 2) := by decide +kernel
theorem dX8_fits_123 : decode cX8_fits 123 = .ok (.ireturn, 1) := by decide +kernel
theorem dX8_fits_124 : decode cX8_fits 124 = .ok (.iload_n 2, 1) := by decide +kernel
theorem dX8_fits_125 : decode cX8_fits 125 = .ok (.aload_n 0, 1) := by decide +kernel
theorem dX8_fits_126 : decode cX8_fits 126 = .ok (.getfield 40, 3) := by decide +kernel
theorem dX8_fits_129 : decode cX8_fits 129 = .ok (.iload_n 1, 1) := by decide +kernel
theorem dX8_fits_130 : decode cX8_fits 130 = .ok (.invokevirtual 251, 3) := by decide +kernel
theorem dX8_fits_133 : decode cX8_fits 133 = .ok (.if_icmp .le 6, 3) := by decide +kernel
theorem dX8_fits_136 : decode cX8_fits 136 = .ok (.bipush (-13), 2) := by decide +kernel
theorem dX8_fits_138 : decode cX8_fits 138 = .ok (.ireturn, 1) := by decide +kernel
theorem dX8_fits_139 : decode cX8_fits 139 = .ok (.aload_n 0, 1) := by decide +kernel
theorem dX8_fits_140 : decode cX8_fits 140 = .ok (.getfield 54, 3) := by decide +kernel
theorem dX8_fits_143 : decode cX8_fits 143 = .ok (.aload 6, 2) := by decide +kernel
theorem dX8_fits_145 : decode cX8_fits 145 = .ok (.iload_n 3, 1) := by decide +kernel
theorem dX8_fits_146 : decode cX8_fits 146 = .ok (.iload 8, 2) := by decide +kernel
theorem dX8_fits_148 : decode cX8_fits 148 = .ok (.invokevirtual 173, 3) := by decide +kernel
theorem dX8_fits_151 : decode cX8_fits 151 = .ok (.iconst 0, 1) := by decide +kernel
theorem dX8_fits_152 : decode cX8_fits 152 = .ok (.istore 9, 2) := by decide +kernel
theorem dX8_fits_154 : decode cX8_fits 154 = .ok (.iload 9, 2) := by decide +kernel
theorem dX8_fits_156 : decode cX8_fits 156 = .ok (.iload_n 2, 1) := by decide +kernel
theorem dX8_fits_157 : decode cX8_fits 157 = .ok (.if_icmp .ge 40, 3) := by decide +kernel
theorem dX8_fits_160 : decode cX8_fits 160 = .ok (.aload_n 0, 1) := by decide +kernel
theorem dX8_fits_161 : decode cX8_fits 161 = .ok (.getfield 72, 3) := by decide +kernel
theorem dX8_fits_164 : decode cX8_fits 164 = .ok (.iload 9, 2) := by decide +kernel
theorem dX8_fits_166 : decode cX8_fits 166 = .ok (.aload_n 0, 1) := by decide +kernel
theorem dX8_fits_167 : decode cX8_fits 167 = .ok (.getfield 40, 3) := by decide +kernel
theorem dX8_fits_170 : decode cX8_fits 170 = .ok (.iload_n 1, 1) := by decide +kernel
theorem dX8_fits_171 : decode cX8_fits 171 = .ok (.iload 9, 2) := by decide +kernel
theorem dX8_fits_173 : decode cX8_fits 173 = .ok (.invokevirtual 254, 3) := by decide +kernel
theorem dX8_fits_176 : decode cX8_fits 176 = .ok (.aload_n 0, 1) := by decide +kernel
theorem dX8_fits_177 : decode cX8_fits 177 = .ok (.getfield 54, 3) := by decide +kernel
theorem dX8_fits_180 : decode cX8_fits 180 = .ok (.aload 6, 2) := by decide +kernel
theorem dX8_fits_182 : decode cX8_fits 182 = .ok (.iload 7, 2) := by decide +kernel
theorem dX8_fits_184 : decode cX8_fits 184 = .ok (.iload 9, 2) := by decide +kernel
theorem dX8_fits_186 : decode cX8_fits 186 = .ok (.invokevirtual 257, 3) := by decide +kernel
theorem dX8_fits_189 : decode cX8_fits 189 = .ok (.isub, 1) := by decide +kernel
theorem dX8_fits_190 : decode cX8_fits 190 = .ok (.iastore, 1) := by decide +kernel
theorem dX8_fits_191 : decode cX8_fits 191 = .ok (.iinc 9 1, 3) := by decide +kernel
theorem dX8_fits_194 : decode cX8_fits 194 = .ok (.goto (-40), 3) := by decide +kernel
theorem dX8_fits_197 : decode cX8_fits 197 = .ok (.iload 5, 2) := by decide +kernel
theorem dX8_fits_199 : decode cX8_fits 199 = .ok (.ifCond .ne 13, 3) := by decide +kernel
theorem dX8_fits_202 : decode cX8_fits 202 = .ok (.aload_n 0, 1) := by decide +kernel
theorem dX8_fits_203 : decode cX8_fits 203 = .ok (.iload 7, 2) := by decide +kernel
theorem dX8_fits_205 : decode cX8_fits 205 = .ok (.iload_n 2, 1) := by decide +kernel
theorem dX8_fits_206 : decode cX8_fits 206 = .ok (.invokevirtual 261, 3) := by decide +kernel
theorem dX8_fits_209 : decode cX8_fits 209 = .ok (.goto 12, 3) := by decide +kernel
theorem dX8_fits_212 : decode cX8_fits 212 = .ok (.aload_n 0, 1) := by decide +kernel
theorem dX8_fits_213 : decode cX8_fits 213 = .ok (.iload 7, 2) := by decide +kernel
theorem dX8_fits_215 : decode cX8_fits 215 = .ok (.iload_n 2, 1) := by decide +kernel
theorem dX8_fits_216 : decode cX8_fits 216 = .ok (.iload 5, 2) := by decide +kernel
theorem dX8_fits_218 : decode cX8_fits 218 = .ok (.invokevirtual 264, 3) := by decide +kernel
theorem dX8_fits_221 : decode cX8_fits 221 = .ok (.ireturn, 1) := by decide +kernel
theorem dX8_job_0 : decode cX8_job 0 = .ok (.aload_n 0, 1) := by decide +kernel
theorem dX8_job_1 : decode cX8_job 1 = .ok (.getfield 12, 3) := by decide +kernel
theorem dX8_job_4 : decode cX8_job 4 = .ok (.getfield 75, 3) := by decide +kernel
theorem dX8_job_7 : decode cX8_job 7 = .ok (.iload_n 1, 1) := by decide +kernel
theorem dX8_job_8 : decode cX8_job 8 = .ok (.invokevirtual 85, 3) := by decide +kernel
theorem dX8_job_11 : decode cX8_job 11 = .ok (.ifCond .eq 14, 3) := by decide +kernel
theorem dX8_job_14 : decode cX8_job 14 = .ok (.iload_n 2, 1) := by decide +kernel
theorem dX8_job_15 : decode cX8_job 15 = .ok (.iconst 1, 1) := by decide +kernel
theorem dX8_job_16 : decode cX8_job 16 = .ok (.sipush 9999, 3) := by decide +kernel
theorem dX8_job_19 : decode cX8_job 19 = .ok (.invokestatic 121, 3) := by decide +kernel
theorem dX8_job_22 : decode cX8_job 22 = .ok (.ifCond .ne 5, 3) := by decide +kernel
theorem dX8_job_25 : decode cX8_job 25 = .ok (.iconst (-1), 1) := by decide +kernel
theorem dX8_job_26 : decode cX8_job 26 = .ok (.ireturn, 1) := by decide +kernel
theorem dX8_job_27 : decode cX8_job 27 = .ok (.aload_n 0, 1) := by decide +kernel
theorem dX8_job_28 : decode cX8_job 28 = .ok (.getfield 12, 3) := by decide +kernel
theorem dX8_job_31 : decode cX8_job 31 = .ok (.getfield 75, 3) := by decide +kernel
theorem dX8_job_34 : decode cX8_job 34 = .ok (.iload_n 1, 1) := by decide +kernel
theorem dX8_job_35 : decode cX8_job 35 = .ok (.invokevirtual 197, 3) := by decide +kernel
theorem dX8_job_38 : decode cX8_job 38 = .ok (.ifCond .eq 6, 3) := by decide +kernel
theorem dX8_job_41 : decode cX8_job 41 = .ok (.bipush (-5), 2) := by decide +kernel
theorem dX8_job_43 : decode cX8_job 43 = .ok (.ireturn, 1) := by decide +kernel
theorem dX8_job_44 : decode cX8_job 44 = .ok (.aload_n 0, 1) := by decide +kernel
theorem dX8_job_45 : decode cX8_job 45 = .ok (.getfield 12, 3) := by decide +kernel
theorem dX8_job_48 : decode cX8_job 48 = .ok (.getfield 267, 3) := by decide +kernel
theorem dX8_job_51 : decode cX8_job 51 = .ok (.invokevirtual 110, 3) := by decide +kernel
theorem dX8_job_54 : decode cX8_job 54 = .ok (.ifCond .eq 6, 3) := by decide +kernel
theorem dX8_job_57 : decode cX8_job 57 = .ok (.bipush (-3), 2) := by decide +kernel
theorem dX8_job_59 : decode cX8_job 59 = .ok (.ireturn, 1) := by decide +kernel
theorem dX8_job_60 : decode cX8_job 60 = .ok (.aload_n 0, 1) := by decide +kernel
theorem dX8_job_61 : decode cX8_job 61 = .ok (.getfield 12, 3) := by decide +kernel
theorem dX8_job_64 : decode cX8_job 64 = .ok (.getfield 267, 3) := by decide +kernel
theorem dX8_job_67 : decode cX8_job 67 = .ok (.iload_n 1, 1) := by decide +kernel
theorem dX8_job_68 : decode cX8_job 68 = .ok (.iload_n 2, 1) := by decide +kernel
theorem dX8_job_69 : decode cX8_job 69 = .ok (.iconst 0, 1) := by decide +kernel
theorem dX8_job_70 : decode cX8_job 70 = .ok (.invokevirtual 117, 3) := by decide +kernel
theorem dX8_job_73 : decode cX8_job 73 = .ok (.aload_n 0, 1) := by decide +kernel
theorem dX8_job_74 : decode cX8_job 74 = .ok (.getfield 12, 3) := by decide +kernel
theorem dX8_job_77 : decode cX8_job 77 = .ok (.getfield 267, 3) := by decide +kernel
theorem dX8_job_80 : decode cX8_job 80 = .ok (.getfield 224, 3) := by decide +kernel
theorem dX8_job_83 : decode cX8_job 83 = .ok (.ireturn, 1) := by decide +kernel
theorem dX8_do1_0 : decode cX8_do1 0 = .ok (.aload_n 0, 1) := by decide +kernel
theorem dX8_do1_1 : decode cX8_do1 1 = .ok (.getfield 12, 3) := by decide +kernel
theorem dX8_do1_4 : decode cX8_do1 4 = .ok (.getfield 267, 3) := by decide +kernel
theorem dX8_do1_7 : decode cX8_do1 7 = .ok (.astore_n 1, 1) := by decide +kernel
theorem dX8_do1_8 : decode cX8_do1 8 = .ok (.aload_n 1, 1) := by decide +kernel
theorem dX8_do1_9 : decode cX8_do1 9 = .ok (.getfield 224, 3) := by decide +kernel
theorem dX8_do1_12 : decode cX8_do1 12 = .ok (.ifCond .ne 6, 3) := by decide +kernel
theorem dX8_do1_15 : decode cX8_do1 15 = .ok (.bipush (-2), 2) := by decide +kernel
theorem dX8_do1_17 : decode cX8_do1 17 = .ok (.ireturn, 1) := by decide +kernel
theorem dX8_do1_18 : decode cX8_do1 18 = .ok (.aload_n 0, 1) := by decide +kernel
theorem dX8_do1_19 : decode cX8_do1 19 = .ok (.aload_n 1, 1) := by decide +kernel
theorem dX8_do1_20 : decode cX8_do1 20 = .ok (.iconst 0, 1) := by decide +kernel
theorem dX8_do1_21 : decode cX8_do1 21 = .ok (.iconst 0, 1) := by decide +kernel
theorem dX8_do1_22 : decode cX8_do1 22 = .ok (.invokevirtual 270, 3) := by decide +kernel
theorem dX8_do1_25 : decode cX8_do1 25 = .ok (.aload_n 1, 1) := by decide +kernel
theorem dX8_do1_26 : decode cX8_do1 26 = .ok (.iconst 0, 1) := by decide +kernel
theorem dX8_do1_27 : decode cX8_do1 27 = .ok (.iconst 1, 1) := by decide +kernel
theorem dX8_do1_28 : decode cX8_do1 28 = .ok (.invokevirtual 270, 3) := by decide +kernel
theorem dX8_do1_31 : decode cX8_do1 31 = .ok (.invokevirtual 218, 3) := by decide +kernel
theorem dX8_do1_34 : decode cX8_do1 34 = .ok (.ifCond .ge 6, 3) := by decide +kernel
theorem dX8_do1_37 : decode cX8_do1 37 = .ok (.bipush (-5), 2) := by decide +kernel
theorem dX8_do1_39 : decode cX8_do1 39 = .ok (.ireturn, 1) := by decide +kernel
theorem dX8_do1_40 : decode cX8_do1 40 = .ok (.aload_n 1, 1) := by decide +kernel
theorem dX8_do1_41 : decode cX8_do1 41 = .ok (.iconst 0, 1) := by decide +kernel
theorem dX8_do1_42 : decode cX8_do1 42 = .ok (.invokevirtual 114, 3) := by decide +kernel
theorem dX8_do1_45 : decode cX8_do1 45 = .ok (.aload_n 0, 1) := by decide +kernel
theorem dX8_do1_46 : decode cX8_do1 46 = .ok (.getfield 30, 3) := by decide +kernel
theorem dX8_do1_49 : decode cX8_do1 49 = .ok (.invokevirtual 106, 3) := by decide +kernel
theorem dX8_do1_52 : decode cX8_do1 52 = .ok (.aload_n 1, 1) := by decide +kernel
theorem dX8_do1_53 : decode cX8_do1 53 = .ok (.getfield 224, 3) := by decide +kernel
theorem dX8_do1_56 : decode cX8_do1 56 = .ok (.ireturn, 1) := by decide +kernel
theorem dX8_strike_0 : decode cX8_strike 0 = .ok (.aload_n 0, 1) := by decide +kernel
theorem dX8_strike_1 : decode cX8_strike 1 = .ok (.getfield 12, 3) := by decide +kernel
theorem dX8_strike_4 : decode cX8_strike 4 = .ok (.getfield 75, 3) := by decide +kernel
theorem dX8_strike_7 : decode cX8_strike 7 = .ok (.iload_n 1, 1) := by decide +kernel
theorem dX8_strike_8 : decode cX8_strike 8 = .ok (.invokevirtual 85, 3) := by decide +kernel
theorem dX8_strike_11 : decode cX8_strike 11 = .ok (.ifCond .ne 5, 3) := by decide +kernel
theorem dX8_strike_14 : decode cX8_strike 14 = .ok (.iconst (-1), 1) := by decide +kernel
theorem dX8_strike_15 : decode cX8_strike 15 = .ok (.ireturn, 1) := by decide +kernel
theorem dX8_strike_16 : decode cX8_strike 16 = .ok (.aload_n 0, 1) := by decide +kernel
theorem dX8_strike_17 : decode cX8_strike 17 = .ok (.getfield 12, 3) := by decide +kernel
theorem dX8_strike_20 : decode cX8_strike 20 = .ok (.getfield 267, 3) := by decide +kernel
theorem dX8_strike_23 : decode cX8_strike 23 = .ok (.getfield 224, 3) := by decide +kernel
theorem dX8_strike_26 : decode cX8_strike 26 = .ok (.istore_n 2, 1) := by decide +kernel
theorem dX8_strike_27 : decode cX8_strike 27 = .ok (.iload_n 2, 1) := by decide +kernel
theorem dX8_strike_28 : decode cX8_strike 28 = .ok (.iconst 1, 1) := by decide +kernel
theorem dX8_strike_29 : decode cX8_strike 29 = .ok (.isub, 1) := by decide +kernel
theorem dX8_strike_30 : decode cX8_strike 30 = .ok (.istore_n 3, 1) := by decide +kernel
theorem dX8_strike_31 : decode cX8_strike 31 = .ok (.iload_n 3, 1) := by decide +kernel
theorem dX8_strike_32 : decode cX8_strike 32 = .ok (.ifCond .lt 36, 3) := by decide +kernel
theorem dX8_strike_35 : decode cX8_strike 35 = .ok (.aload_n 0, 1) := by decide +kernel
theorem dX8_strike_36 : decode cX8_strike 36 = .ok (.getfield 12, 3) := by decide +kernel
theorem dX8_strike_39 : decode cX8_strike 39 = .ok (.getfield 267, 3) := by decide +kernel
theorem dX8_strike_42 : decode cX8_strike 42 = .ok (.iload_n 3, 1) := by decide +kernel
theorem dX8_strike_43 : decode cX8_strike 43 = .ok (.iconst 0, 1) := by decide +kernel
theorem dX8_strike_44 : decode cX8_strike 44 = .ok (.invokevirtual 270, 3) := by decide +kernel
theorem dX8_strike_47 : decode cX8_strike 47 = .ok (.iload_n 1, 1) := by decide +kernel
theorem dX8_strike_48 : decode cX8_strike 48 = .ok (.if_icmp .ne 14, 3) := by decide +kernel
theorem dX8_strike_51 : decode cX8_strike 51 = .ok (.aload_n 0, 1) := by decide +kernel
theorem dX8_strike_52 : decode cX8_strike 52 = .ok (.getfield 12, 3) := by decide +kernel
theorem dX8_strike_55 : decode cX8_strike 55 = .ok (.getfield 267, 3) := by decide +kernel
theorem dX8_strike_58 : decode cX8_strike 58 = .ok (.iload_n 3, 1) := by decide +kernel
theorem dX8_strike_59 : decode cX8_strike 59 = .ok (.invokevirtual 114, 3) := by decide +kernel
theorem dX8_strike_62 : decode cX8_strike 62 = .ok (.iinc 3 (-1), 3) := by decide +kernel
theorem dX8_strike_65 : decode cX8_strike 65 = .ok (.goto (-34), 3) := by decide +kernel
theorem dX8_strike_68 : decode cX8_strike 68 = .ok (.iload_n 2, 1) := by decide +kernel
theorem dX8_strike_69 : decode cX8_strike 69 = .ok (.aload_n 0, 1) := by decide +kernel
theorem dX8_strike_70 : decode cX8_strike 70 = .ok (.getfield 12, 3) := by decide +kernel
theorem dX8_strike_73 : decode cX8_strike 73 = .ok (.getfield 267, 3) := by decide +kernel
theorem dX8_strike_76 : decode cX8_strike 76 = .ok (.getfield 224, 3) := by decide +kernel
theorem dX8_strike_79 : decode cX8_strike 79 = .ok (.isub, 1) := by decide +kernel
theorem dX8_strike_80 : decode cX8_strike 80 = .ok (.ireturn, 1) := by decide +kernel
theorem dX8_about_0 : decode cX8_about 0 = .ok (.aload_n 0, 1) := by decide +kernel
theorem dX8_about_1 : decode cX8_about 1 = .ok (.getfield 12, 3) := by decide +kernel
theorem dX8_about_4 : decode cX8_about 4 = .ok (.getfield 267, 3) := by decide +kernel
theorem dX8_about_7 : decode cX8_about 7 = .ok (.invokevirtual 273, 3) := by decide +kernel
theorem dX8_about_10 : decode cX8_about 10 = .ok (.aload_n 0, 1) := by decide +kernel
theorem dX8_about_11 : decode cX8_about 11 = .ok (.getfield 12, 3) := by decide +kernel
theorem dX8_about_14 : decode cX8_about 14 = .ok (.getfield 267, 3) := by decide +kernel
theorem dX8_about_17 : decode cX8_about 17 = .ok (.getfield 224, 3) := by decide +kernel
theorem dX8_about_20 : decode cX8_about 20 = .ok (.ireturn, 1) := by decide +kernel
theorem dX8_jobOf_0 : decode cX8_jobOf 0 = .ok (.iload_n 2, 1) := by decide +kernel
theorem dX8_jobOf_1 : decode cX8_jobOf 1 = .ok (.iconst 0, 1) := by decide +kernel
theorem dX8_jobOf_2 : decode cX8_jobOf 2 = .ok (.iconst 1, 1) := by decide +kernel
theorem dX8_jobOf_3 : decode cX8_jobOf 3 = .ok (.invokestatic 121, 3) := by decide +kernel
theorem dX8_jobOf_6 : decode cX8_jobOf 6 = .ok (.ifCond .ne 5, 3) := by decide +kernel
theorem dX8_jobOf_9 : decode cX8_jobOf 9 = .ok (.iconst (-1), 1) := by decide +kernel
theorem dX8_jobOf_10 : decode cX8_jobOf 10 = .ok (.ireturn, 1) := by decide +kernel
theorem dX8_jobOf_11 : decode cX8_jobOf 11 = .ok (.iload_n 1, 1) := by decide +kernel
theorem dX8_jobOf_12 : decode cX8_jobOf 12 = .ok (.iconst 0, 1) := by decide +kernel
theorem dX8_jobOf_13 : decode cX8_jobOf 13 = .ok (.aload_n 0, 1) := by decide +kernel
theorem dX8_jobOf_14 : decode cX8_jobOf 14 = .ok (.getfield 12, 3) := by decide +kernel
theorem dX8_jobOf_17 : decode cX8_jobOf 17 = .ok (.getfield 267, 3) := by decide +kernel
theorem dX8_jobOf_20 : decode cX8_jobOf 20 = .ok (.getfield 224, 3) := by decide +kernel
theorem dX8_jobOf_23 : decode cX8_jobOf 23 = .ok (.iconst 1, 1) := by decide +kernel
theorem dX8_jobOf_24 : decode cX8_jobOf 24 = .ok (.isub, 1) := by decide +kernel
theorem dX8_jobOf_25 : decode cX8_jobOf 25 = .ok (.invokestatic 121, 3) := by decide +kernel
theorem dX8_jobOf_28 : decode cX8_jobOf 28 = .ok (.ifCond .eq 18, 3) := by decide +kernel
theorem dX8_jobOf_31 : decode cX8_jobOf 31 = .ok (.aload_n 0, 1) := by decide +kernel
theorem dX8_jobOf_32 : decode cX8_jobOf 32 = .ok (.getfield 12, 3) := by decide +kernel
theorem dX8_jobOf_35 : decode cX8_jobOf 35 = .ok (.getfield 267, 3) := by decide +kernel
theorem dX8_jobOf_38 : decode cX8_jobOf 38 = .ok (.iload_n 1, 1) := by decide +kernel
theorem dX8_jobOf_39 : decode cX8_jobOf 39 = .ok (.iload_n 2, 1) := by decide +kernel
theorem dX8_jobOf_40 : decode cX8_jobOf 40 = .ok (.invokevirtual 270, 3) := by decide +kernel
theorem dX8_jobOf_43 : decode cX8_jobOf 43 = .ok (.goto 5, 3) := by decide +kernel
theorem dX8_jobOf_46 : decode cX8_jobOf 46 = .ok (.bipush (-2), 2) := by decide +kernel
theorem dX8_jobOf_48 : decode cX8_jobOf 48 = .ok (.ireturn, 1) := by decide +kernel
theorem dX8_back_0 : decode cX8_back 0 = .ok (.aload_n 0, 1) := by decide +kernel
theorem dX8_back_1 : decode cX8_back 1 = .ok (.getfield 30, 3) := by decide +kernel
theorem dX8_back_4 : decode cX8_back 4 = .ok (.getfield 224, 3) := by decide +kernel
theorem dX8_back_7 : decode cX8_back 7 = .ok (.ifCond .ne 6, 3) := by decide +kernel
theorem dX8_back_10 : decode cX8_back 10 = .ok (.bipush (-5), 2) := by decide +kernel
theorem dX8_back_12 : decode cX8_back 12 = .ok (.ireturn, 1) := by decide +kernel
theorem dX8_back_13 : decode cX8_back 13 = .ok (.aload_n 0, 1) := by decide +kernel
theorem dX8_back_14 : decode cX8_back 14 = .ok (.getfield 30, 3) := by decide +kernel
theorem dX8_back_17 : decode cX8_back 17 = .ok (.getfield 224, 3) := by decide +kernel
theorem dX8_back_20 : decode cX8_back 20 = .ok (.iconst 1, 1) := by decide +kernel
theorem dX8_back_21 : decode cX8_back 21 = .ok (.isub, 1) := by decide +kernel
theorem dX8_back_22 : decode cX8_back 22 = .ok (.istore_n 1, 1) := by decide +kernel
theorem dX8_back_23 : decode cX8_back 23 = .ok (.aload_n 0, 1) := by decide +kernel
theorem dX8_back_24 : decode cX8_back 24 = .ok (.getfield 12, 3) := by decide +kernel
theorem dX8_back_27 : decode cX8_back 27 = .ok (.getfield 75, 3) := by decide +kernel
theorem dX8_back_30 : decode cX8_back 30 = .ok (.aload_n 0, 1) := by decide +kernel
theorem dX8_back_31 : decode cX8_back 31 = .ok (.getfield 30, 3) := by decide +kernel
theorem dX8_back_34 : decode cX8_back 34 = .ok (.iload_n 1, 1) := by decide +kernel
theorem dX8_back_35 : decode cX8_back 35 = .ok (.iconst 0, 1) := by decide +kernel
theorem dX8_back_36 : decode cX8_back 36 = .ok (.invokevirtual 270, 3) := by decide +kernel
theorem dX8_back_39 : decode cX8_back 39 = .ok (.aload_n 0, 1) := by decide +kernel
theorem dX8_back_40 : decode cX8_back 40 = .ok (.getfield 30, 3) := by decide +kernel
theorem dX8_back_43 : decode cX8_back 43 = .ok (.iload_n 1, 1) := by decide +kernel
theorem dX8_back_44 : decode cX8_back 44 = .ok (.iconst 1, 1) := by decide +kernel
theorem dX8_back_45 : decode cX8_back 45 = .ok (.invokevirtual 270, 3) := by decide +kernel
theorem dX8_back_48 : decode cX8_back 48 = .ok (.aload_n 0, 1) := by decide +kernel
theorem dX8_back_49 : decode cX8_back 49 = .ok (.getfield 30, 3) := by decide +kernel
theorem dX8_back_52 : decode cX8_back 52 = .ok (.iload_n 1, 1) := by decide +kernel
theorem dX8_back_53 : decode cX8_back 53 = .ok (.iconst 2, 1) := by decide +kernel
theorem dX8_back_54 : decode cX8_back 54 = .ok (.invokevirtual 270, 3) := by decide +kernel
theorem dX8_back_57 : decode cX8_back 57 = .ok (.invokevirtual 107, 3) := by decide +kernel
theorem dX8_back_60 : decode cX8_back 60 = .ok (.pop, 1) := by decide +kernel
theorem dX8_back_61 : decode cX8_back 61 = .ok (.aload_n 0, 1) := by decide +kernel
theorem dX8_back_62 : decode cX8_back 62 = .ok (.getfield 30, 3) := by decide +kernel
theorem dX8_back_65 : decode cX8_back 65 = .ok (.iload_n 1, 1) := by decide +kernel
theorem dX8_back_66 : decode cX8_back 66 = .ok (.invokevirtual 114, 3) := by decide +kernel
theorem dX8_back_69 : decode cX8_back 69 = .ok (.aload_n 0, 1) := by decide +kernel
theorem dX8_back_70 : decode cX8_back 70 = .ok (.getfield 30, 3) := by decide +kernel
theorem dX8_back_73 : decode cX8_back 73 = .ok (.getfield 224, 3) := by decide +kernel
theorem dX8_back_76 : decode cX8_back 76 = .ok (.ireturn, 1) := by decide +kernel
theorem dX8_feed_0 : decode cX8_feed 0 = .ok (.iload_n 1, 1) := by decide +kernel
theorem dX8_feed_1 : decode cX8_feed 1 = .ok (.bipush 32, 2) := by decide +kernel
theorem dX8_feed_3 : decode cX8_feed 3 = .ok (.bipush 126, 2) := by decide +kernel
theorem dX8_feed_5 : decode cX8_feed 5 = .ok (.invokestatic 121, 3) := by decide +kernel
theorem dX8_feed_8 : decode cX8_feed 8 = .ok (.ifCond .ne 5, 3) := by decide +kernel
theorem dX8_feed_11 : decode cX8_feed 11 = .ok (.iconst (-1), 1) := by decide +kernel
theorem dX8_feed_12 : decode cX8_feed 12 = .ok (.ireturn, 1) := by decide +kernel
theorem dX8_feed_13 : decode cX8_feed 13 = .ok (.aload_n 0, 1) := by decide +kernel
theorem dX8_feed_14 : decode cX8_feed 14 = .ok (.getfield 47, 3) := by decide +kernel
theorem dX8_feed_17 : decode cX8_feed 17 = .ok (.iload_n 1, 1) := by decide +kernel
theorem dX8_feed_18 : decode cX8_feed 18 = .ok (.invokevirtual 276, 3) := by decide +kernel
theorem dX8_feed_21 : decode cX8_feed 21 = .ok (.ifCond .eq 13, 3) := by decide +kernel
theorem dX8_feed_24 : decode cX8_feed 24 = .ok (.aload_n 0, 1) := by decide +kernel
theorem dX8_feed_25 : decode cX8_feed 25 = .ok (.getfield 47, 3) := by decide +kernel
theorem dX8_feed_28 : decode cX8_feed 28 = .ok (.getfield 278, 3) := by decide +kernel
theorem dX8_feed_31 : decode cX8_feed 31 = .ok (.goto 5, 3) := by decide +kernel
theorem dX8_feed_34 : decode cX8_feed 34 = .ok (.bipush (-3), 2) := by decide +kernel
theorem dX8_feed_36 : decode cX8_feed 36 = .ok (.ireturn, 1) := by decide +kernel
theorem dX8_wipe_0 : decode cX8_wipe 0 = .ok (.aload_n 0, 1) := by decide +kernel
theorem dX8_wipe_1 : decode cX8_wipe 1 = .ok (.getfield 47, 3) := by decide +kernel
theorem dX8_wipe_4 : decode cX8_wipe 4 = .ok (.getfield 278, 3) := by decide +kernel
theorem dX8_wipe_7 : decode cX8_wipe 7 = .ok (.istore_n 1, 1) := by decide +kernel
theorem dX8_wipe_8 : decode cX8_wipe 8 = .ok (.aload_n 0, 1) := by decide +kernel
theorem dX8_wipe_9 : decode cX8_wipe 9 = .ok (.getfield 47, 3) := by decide +kernel
theorem dX8_wipe_12 : decode cX8_wipe 12 = .ok (.iconst 0, 1) := by decide +kernel
theorem dX8_wipe_13 : decode cX8_wipe 13 = .ok (.putfield 278, 3) := by decide +kernel
theorem dX8_wipe_16 : decode cX8_wipe 16 = .ok (.iload_n 1, 1) := by decide +kernel
theorem dX8_wipe_17 : decode cX8_wipe 17 = .ok (.ireturn, 1) := by decide +kernel
theorem dX8_read_0 : decode cX8_read 0 = .ok (.aload_n 0, 1) := by decide +kernel
theorem dX8_read_1 : decode cX8_read 1 = .ok (.getfield 47, 3) := by decide +kernel
theorem dX8_read_4 : decode cX8_read 4 = .ok (.invokevirtual 279, 3) := by decide +kernel
theorem dX8_read_7 : decode cX8_read 7 = .ok (.istore_n 1, 1) := by decide +kernel
theorem dX8_read_8 : decode cX8_read 8 = .ok (.iload_n 1, 1) := by decide +kernel
theorem dX8_read_9 : decode cX8_read 9 = .ok (.iconst (-1), 1) := by decide +kernel
theorem dX8_read_10 : decode cX8_read 10 = .ok (.if_icmp .eq 16, 3) := by decide +kernel
theorem dX8_read_13 : decode cX8_read 13 = .ok (.aload_n 0, 1) := by decide +kernel
theorem dX8_read_14 : decode cX8_read 14 = .ok (.getfield 47, 3) := by decide +kernel
theorem dX8_read_17 : decode cX8_read 17 = .ok (.iconst 0, 1) := by decide +kernel
theorem dX8_read_18 : decode cX8_read 18 = .ok (.putfield 278, 3) := by decide +kernel
theorem dX8_read_21 : decode cX8_read 21 = .ok (.bipush (-100), 2) := by decide +kernel
theorem dX8_read_23 : decode cX8_read 23 = .ok (.iload_n 1, 1) := by decide +kernel
theorem dX8_read_24 : decode cX8_read 24 = .ok (.isub, 1) := by decide +kernel
theorem dX8_read_25 : decode cX8_read 25 = .ok (.ireturn, 1) := by decide +kernel
theorem dX8_read_26 : decode cX8_read 26 = .ok (.iconst 0, 1) := by decide +kernel
theorem dX8_read_27 : decode cX8_read 27 = .ok (.istore_n 2, 1) := by decide +kernel
theorem dX8_read_28 : decode cX8_read 28 = .ok (.iconst 0, 1) := by decide +kernel
theorem dX8_read_29 : decode cX8_read 29 = .ok (.istore_n 3, 1) := by decide +kernel
theorem dX8_read_30 : decode cX8_read 30 = .ok (.aload_n 0, 1) := by decide +kernel
theorem dX8_read_31 : decode cX8_read 31 = .ok (.getfield 47, 3) := by decide +kernel
theorem dX8_read_34 : decode cX8_read 34 = .ok (.invokevirtual 282, 3) := by decide +kernel
theorem dX8_read_37 : decode cX8_read 37 = .ok (.iload_n 2, 1) := by decide +kernel
theorem dX8_read_38 : decode cX8_read 38 = .ok (.bipush 80, 2) := by decide +kernel
theorem dX8_read_40 : decode cX8_read 40 = .ok (.if_icmp .ge 45, 3) := by decide +kernel
theorem dX8_read_43 : decode cX8_read 43 = .ok (.iload_n 3, 1) := by decide +kernel
theorem dX8_read_44 : decode cX8_read 44 = .ok (.ifCond .ne 41, 3) := by decide +kernel
theorem dX8_read_47 : decode cX8_read 47 = .ok (.aload_n 0, 1) := by decide +kernel
theorem dX8_read_48 : decode cX8_read 48 = .ok (.getfield 47, 3) := by decide +kernel
theorem dX8_read_51 : decode cX8_read 51 = .ok (.invokevirtual 285, 3) := by decide +kernel
theorem dX8_read_54 : decode cX8_read 54 = .ok (.ifCond .eq 31, 3) := by decide +kernel
theorem dX8_read_57 : decode cX8_read 57 = .ok (.aload_n 0, 1) := by decide +kernel
theorem dX8_read_58 : decode cX8_read 58 = .ok (.invokevirtual 288, 3) := by decide +kernel
theorem dX8_read_61 : decode cX8_read 61 = .ok (.ifCond .eq 19, 3) := by decide +kernel
theorem dX8_read_64 : decode cX8_read 64 = .ok (.iinc 2 1, 3) := by decide +kernel
theorem dX8_read_67 : decode cX8_read 67 = .ok (.aload_n 0, 1) := by decide +kernel
theorem dX8_read_68 : decode cX8_read 68 = .ok (.getfield 47, 3) := by decide +kernel
theorem dX8_read_71 : decode cX8_read 71 = .ok (.bipush 59, 2) := by decide +kernel
theorem dX8_read_73 : decode cX8_read 73 = .ok (.invokevirtual 291, 3) := by decide +kernel
theorem dX8_read_76 : decode cX8_read 76 = .ok (.pop, 1) := by decide +kernel
theorem dX8_read_77 : decode cX8_read 77 = .ok (.goto (-40), 3) := by decide +kernel
theorem dX8_read_80 : decode cX8_read 80 = .ok (.iconst 1, 1) := by decide +kernel
theorem dX8_read_81 : decode cX8_read 81 = .ok (.istore_n 3, 1) := by decide +kernel
theorem dX8_read_82 : decode cX8_read 82 = .ok (.goto (-45), 3) := by decide +kernel
theorem dX8_read_85 : decode cX8_read 85 = .ok (.aload_n 0, 1) := by decide +kernel
theorem dX8_read_86 : decode cX8_read 86 = .ok (.getfield 47, 3) := by decide +kernel
theorem dX8_read_89 : decode cX8_read 89 = .ok (.iconst 0, 1) := by decide +kernel
theorem dX8_read_90 : decode cX8_read 90 = .ok (.putfield 278, 3) := by decide +kernel
theorem dX8_read_93 : decode cX8_read 93 = .ok (.iload_n 2, 1) := by decide +kernel
theorem dX8_read_94 : decode cX8_read 94 = .ok (.ifCond .le 10, 3) := by decide +kernel
theorem dX8_read_97 : decode cX8_read 97 = .ok (.aload_n 0, 1) := by decide +kernel
theorem dX8_read_98 : decode cX8_read 98 = .ok (.getfield 30, 3) := by decide +kernel
theorem dX8_read_101 : decode cX8_read 101 = .ok (.invokevirtual 106, 3) := by decide +kernel
theorem dX8_read_104 : decode cX8_read 104 = .ok (.iload_n 3, 1) := by decide +kernel
theorem dX8_read_105 : decode cX8_read 105 = .ok (.ifCond .eq 11, 3) := by decide +kernel
theorem dX8_read_108 : decode cX8_read 108 = .ok (.sipush (-200), 3) := by decide +kernel
theorem dX8_read_111 : decode cX8_read 111 = .ok (.iload_n 2, 1) := by decide +kernel
theorem dX8_read_112 : decode cX8_read 112 = .ok (.isub, 1) := by decide +kernel
theorem dX8_read_113 : decode cX8_read 113 = .ok (.goto 4, 3) := by decide +kernel
theorem dX8_read_116 : decode cX8_read 116 = .ok (.iload_n 2, 1) := by decide +kernel
theorem dX8_read_117 : decode cX8_read 117 = .ok (.ireturn, 1) := by decide +kernel
theorem dX8_row_0 : decode cX8_row 0 = .ok (.aload_n 0, 1) := by decide +kernel
theorem dX8_row_1 : decode cX8_row 1 = .ok (.getfield 40, 3) := by decide +kernel
theorem dX8_row_4 : decode cX8_row 4 = .ok (.iload_n 1, 1) := by decide +kernel
theorem dX8_row_5 : decode cX8_row 5 = .ok (.invokevirtual 247, 3) := by decide +kernel
theorem dX8_row_8 : decode cX8_row 8 = .ok (.ifCond .eq 9, 3) := by decide +kernel
theorem dX8_row_11 : decode cX8_row 11 = .ok (.iload_n 2, 1) := by decide +kernel
theorem dX8_row_12 : decode cX8_row 12 = .ok (.bipush 40, 2) := by decide +kernel
theorem dX8_row_14 : decode cX8_row 14 = .ok (.if_icmp .le 5, 3) := by decide +kernel
theorem dX8_row_17 : decode cX8_row 17 = .ok (.iconst (-1), 1) := by decide +kernel
theorem dX8_row_18 : decode cX8_row 18 = .ok (.ireturn, 1) := by decide +kernel
theorem dX8_row_19 : decode cX8_row 19 = .ok (.iload_n 2, 1) := by decide +kernel
theorem dX8_row_20 : decode cX8_row 20 = .ok (.iconst (-1), 1) := by decide +kernel
theorem dX8_row_21 : decode cX8_row 21 = .ok (.if_icmp .ge 6, 3) := by decide +kernel
theorem dX8_row_24 : decode cX8_row 24 = .ok (.bipush (-14), 2) := by decide +kernel
theorem dX8_row_26 : decode cX8_row 26 = .ok (.ireturn, 1) := by decide +kernel
theorem dX8_row_27 : decode cX8_row 27 = .ok (.aload_n 0, 1) := by decide +kernel
theorem dX8_row_28 : decode cX8_row 28 = .ok (.getfield 40, 3) := by decide +kernel
theorem dX8_row_31 : decode cX8_row 31 = .ok (.iload_n 1, 1) := by decide +kernel
theorem dX8_row_32 : decode cX8_row 32 = .ok (.iload_n 2, 1) := by decide +kernel
theorem dX8_row_33 : decode cX8_row 33 = .ok (.invokevirtual 295, 3) := by decide +kernel
theorem dX8_row_36 : decode cX8_row 36 = .ok (.iconst 1, 1) := by decide +kernel
theorem dX8_row_37 : decode cX8_row 37 = .ok (.ireturn, 1) := by decide +kernel
theorem dX8_put_0 : decode cX8_put 0 = .ok (.aload_n 0, 1) := by decide +kernel
theorem dX8_put_1 : decode cX8_put 1 = .ok (.getfield 40, 3) := by decide +kernel
theorem dX8_put_4 : decode cX8_put 4 = .ok (.iload_n 1, 1) := by decide +kernel
theorem dX8_put_5 : decode cX8_put 5 = .ok (.invokevirtual 247, 3) := by decide +kernel
theorem dX8_put_8 : decode cX8_put 8 = .ok (.ifCond .ne 5, 3) := by decide +kernel
theorem dX8_put_11 : decode cX8_put 11 = .ok (.iconst (-1), 1) := by decide +kernel
theorem dX8_put_12 : decode cX8_put 12 = .ok (.ireturn, 1) := by decide +kernel
theorem dX8_put_13 : decode cX8_put 13 = .ok (.aload_n 0, 1) := by decide +kernel
theorem dX8_put_14 : decode cX8_put 14 = .ok (.getfield 40, 3) := by decide +kernel
theorem dX8_put_17 : decode cX8_put 17 = .ok (.iload_n 1, 1) := by decide +kernel
theorem dX8_put_18 : decode cX8_put 18 = .ok (.invokevirtual 248, 3) := by decide +kernel
theorem dX8_put_21 : decode cX8_put 21 = .ok (.ifCond .eq 6, 3) := by decide +kernel
theorem dX8_put_24 : decode cX8_put 24 = .ok (.bipush (-11), 2) := by decide +kernel
theorem dX8_put_26 : decode cX8_put 26 = .ok (.ireturn, 1) := by decide +kernel
theorem dX8_put_27 : decode cX8_put 27 = .ok (.aload_n 0, 1) := by decide +kernel
theorem dX8_put_28 : decode cX8_put 28 = .ok (.getfield 40, 3) := by decide +kernel
theorem dX8_put_31 : decode cX8_put 31 = .ok (.iload_n 1, 1) := by decide +kernel
theorem dX8_put_32 : decode cX8_put 32 = .ok (.iload_n 2, 1) := by decide +kernel
theorem dX8_put_33 : decode cX8_put 33 = .ok (.invokevirtual 299, 3) := by decide +kernel
theorem dX8_put_36 : decode cX8_put 36 = .ok (.ifCond .ne 6, 3) := by decide +kernel
theorem dX8_put_39 : decode cX8_put 39 = .ok (.bipush (-13), 2) := by decide +kernel
theorem dX8_put_41 : decode cX8_put 41 = .ok (.ireturn, 1) := by decide +kernel
theorem dX8_put_42 : decode cX8_put 42 = .ok (.aload_n 0, 1) := by decide +kernel
theorem dX8_put_43 : decode cX8_put 43 = .ok (.getfield 40, 3) := by decide +kernel
theorem dX8_put_46 : decode cX8_put 46 = .ok (.iload_n 1, 1) := by decide +kernel
theorem dX8_put_47 : decode cX8_put 47 = .ok (.iload_n 2, 1) := by decide +kernel
theorem dX8_put_48 : decode cX8_put 48 = .ok (.iload_n 3, 1) := by decide +kernel
theorem dX8_put_49 : decode cX8_put 49 = .ok (.invokevirtual 302, 3) := by decide +kernel
theorem dX8_put_52 : decode cX8_put 52 = .ok (.iconst 1, 1) := by decide +kernel
theorem dX8_put_53 : decode cX8_put 53 = .ok (.ireturn, 1) := by decide +kernel
theorem dX8_get_0 : decode cX8_get 0 = .ok (.aload_n 0, 1) := by decide +kernel
theorem dX8_get_1 : decode cX8_get 1 = .ok (.getfield 40, 3) := by decide +kernel
theorem dX8_get_4 : decode cX8_get 4 = .ok (.iload_n 1, 1) := by decide +kernel
theorem dX8_get_5 : decode cX8_get 5 = .ok (.invokevirtual 247, 3) := by decide +kernel
theorem dX8_get_8 : decode cX8_get 8 = .ok (.ifCond .eq 27, 3) := by decide +kernel
theorem dX8_get_11 : decode cX8_get 11 = .ok (.aload_n 0, 1) := by decide +kernel
theorem dX8_get_12 : decode cX8_get 12 = .ok (.getfield 40, 3) := by decide +kernel
theorem dX8_get_15 : decode cX8_get 15 = .ok (.iload_n 1, 1) := by decide +kernel
theorem dX8_get_16 : decode cX8_get 16 = .ok (.iload_n 2, 1) := by decide +kernel
theorem dX8_get_17 : decode cX8_get 17 = .ok (.invokevirtual 299, 3) := by decide +kernel
theorem dX8_get_20 : decode cX8_get 20 = .ok (.ifCond .eq 15, 3) := by decide +kernel
theorem dX8_get_23 : decode cX8_get 23 = .ok (.aload_n 0, 1) := by decide +kernel
theorem dX8_get_24 : decode cX8_get 24 = .ok (.getfield 40, 3) := by decide +kernel
theorem dX8_get_27 : decode cX8_get 27 = .ok (.iload_n 1, 1) := by decide +kernel
theorem dX8_get_28 : decode cX8_get 28 = .ok (.iload_n 2, 1) := by decide +kernel
theorem dX8_get_29 : decode cX8_get 29 = .ok (.invokevirtual 254, 3) := by decide +kernel
theorem dX8_get_32 : decode cX8_get 32 = .ok (.goto 5, 3) := by decide +kernel
theorem dX8_get_35 : decode cX8_get 35 = .ok (.ldc 125, 2) := by decide +kernel
theorem dX8_get_37 : decode cX8_get 37 = .ok (.ireturn, 1) := by decide +kernel
theorem dX8_film_0 : decode cX8_film 0 = .ok (.aload_n 0, 1) := by decide +kernel
theorem dX8_film_1 : decode cX8_film 1 = .ok (.getfield 40, 3) := by decide +kernel
theorem dX8_film_4 : decode cX8_film 4 = .ok (.iload_n 1, 1) := by decide +kernel
theorem dX8_film_5 : decode cX8_film 5 = .ok (.invokevirtual 247, 3) := by decide +kernel
theorem dX8_film_8 : decode cX8_film 8 = .ok (.ifCond .eq 42, 3) := by decide +kernel
theorem dX8_film_11 : decode cX8_film 11 = .ok (.iload_n 2, 1) := by decide +kernel
theorem dX8_film_12 : decode cX8_film 12 = .ok (.iconst 0, 1) := by decide +kernel
theorem dX8_film_13 : decode cX8_film 13 = .ok (.bipush 40, 2) := by decide +kernel
theorem dX8_film_15 : decode cX8_film 15 = .ok (.invokestatic 121, 3) := by decide +kernel
theorem dX8_film_18 : decode cX8_film 18 = .ok (.ifCond .eq 32, 3) := by decide +kernel
theorem dX8_film_21 : decode cX8_film 21 = .ok (.aload_n 0, 1) := by decide +kernel
theorem dX8_film_22 : decode cX8_film 22 = .ok (.getfield 12, 3) := by decide +kernel
theorem dX8_film_25 : decode cX8_film 25 = .ok (.getfield 75, 3) := by decide +kernel
theorem dX8_film_28 : decode cX8_film 28 = .ok (.iload_n 3, 1) := by decide +kernel
theorem dX8_film_29 : decode cX8_film 29 = .ok (.invokevirtual 85, 3) := by decide +kernel
theorem dX8_film_32 : decode cX8_film 32 = .ok (.ifCond .eq 18, 3) := by decide +kernel
theorem dX8_film_35 : decode cX8_film 35 = .ok (.aload_n 0, 1) := by decide +kernel
theorem dX8_film_36 : decode cX8_film 36 = .ok (.getfield 12, 3) := by decide +kernel
theorem dX8_film_39 : decode cX8_film 39 = .ok (.getfield 75, 3) := by decide +kernel
theorem dX8_film_42 : decode cX8_film 42 = .ok (.iload 4, 2) := by decide +kernel
theorem dX8_film_44 : decode cX8_film 44 = .ok (.invokevirtual 85, 3) := by decide +kernel
theorem dX8_film_47 : decode cX8_film 47 = .ok (.ifCond .ne 5, 3) := by decide +kernel
theorem dX8_film_50 : decode cX8_film 50 = .ok (.iconst (-1), 1) := by decide +kernel
theorem dX8_film_51 : decode cX8_film 51 = .ok (.ireturn, 1) := by decide +kernel
theorem dX8_film_52 : decode cX8_film 52 = .ok (.aload_n 0, 1) := by decide +kernel
theorem dX8_film_53 : decode cX8_film 53 = .ok (.getfield 12, 3) := by decide +kernel
theorem dX8_film_56 : decode cX8_film 56 = .ok (.getfield 75, 3) := by decide +kernel
theorem dX8_film_59 : decode cX8_film 59 = .ok (.iload 4, 2) := by decide +kernel
theorem dX8_film_61 : decode cX8_film 61 = .ok (.iload_n 3, 1) := by decide +kernel
theorem dX8_film_62 : decode cX8_film 62 = .ok (.invokevirtual 184, 3) := by decide +kernel
theorem dX8_film_65 : decode cX8_film 65 = .ok (.ifCond .ne 6, 3) := by decide +kernel
theorem dX8_film_68 : decode cX8_film 68 = .ok (.bipush (-5), 2) := by decide +kernel
theorem dX8_film_70 : decode cX8_film 70 = .ok (.ireturn, 1) := by decide +kernel
theorem dX8_film_71 : decode cX8_film 71 = .ok (.aload_n 0, 1) := by decide +kernel
theorem dX8_film_72 : decode cX8_film 72 = .ok (.getfield 54, 3) := by decide +kernel
theorem dX8_film_75 : decode cX8_film 75 = .ok (.aload_n 0, 1) := by decide +kernel
theorem dX8_film_76 : decode cX8_film 76 = .ok (.getfield 12, 3) := by decide +kernel
theorem dX8_film_79 : decode cX8_film 79 = .ok (.getfield 75, 3) := by decide +kernel
theorem dX8_film_82 : decode cX8_film 82 = .ok (.iload_n 3, 1) := by decide +kernel
theorem dX8_film_83 : decode cX8_film 83 = .ok (.iload 4, 2) := by decide +kernel
theorem dX8_film_85 : decode cX8_film 85 = .ok (.invokevirtual 173, 3) := by decide +kernel
theorem dX8_film_88 : decode cX8_film 88 = .ok (.aload_n 0, 1) := by decide +kernel
theorem dX8_film_89 : decode cX8_film 89 = .ok (.getfield 40, 3) := by decide +kernel
theorem dX8_film_92 : decode cX8_film 92 = .ok (.iload_n 1, 1) := by decide +kernel
theorem dX8_film_93 : decode cX8_film 93 = .ok (.iload_n 2, 1) := by decide +kernel
theorem dX8_film_94 : decode cX8_film 94 = .ok (.invokevirtual 295, 3) := by decide +kernel
theorem dX8_film_97 : decode cX8_film 97 = .ok (.iconst 0, 1) := by decide +kernel
theorem dX8_film_98 : decode cX8_film 98 = .ok (.istore 5, 2) := by decide +kernel
theorem dX8_film_100 : decode cX8_film 100 = .ok (.iload 5, 2) := by decide +kernel
theorem dX8_film_102 : decode cX8_film 102 = .ok (.iload_n 2, 1) := by decide +kernel
theorem dX8_film_103 : decode cX8_film 103 = .ok (.if_icmp .ge 35, 3) := by decide +kernel
theorem dX8_film_106 : decode cX8_film 106 = .ok (.aload_n 0, 1) := by decide +kernel
theorem dX8_film_107 : decode cX8_film 107 = .ok (.getfield 40, 3) := by decide +kernel
theorem dX8_film_110 : decode cX8_film 110 = .ok (.iload_n 1, 1) := by decide +kernel
theorem dX8_film_111 : decode cX8_film 111 = .ok (.iload 5, 2) := by decide +kernel
theorem dX8_film_113 : decode cX8_film 113 = .ok (.aload_n 0, 1) := by decide +kernel
theorem dX8_film_114 : decode cX8_film 114 = .ok (.getfield 54, 3) := by decide +kernel
theorem dX8_film_117 : decode cX8_film 117 = .ok (.aload_n 0, 1) := by decide +kernel
theorem dX8_film_118 : decode cX8_film 118 = .ok (.getfield 12, 3) := by decide +kernel
theorem dX8_film_121 : decode cX8_film 121 = .ok (.getfield 75, 3) := by decide +kernel
theorem dX8_film_124 : decode cX8_film 124 = .ok (.iload 5, 2) := by decide +kernel
theorem dX8_film_126 : decode cX8_film 126 = .ok (.invokevirtual 189, 3) := by decide +kernel
theorem dX8_film_129 : decode cX8_film 129 = .ok (.invokevirtual 302, 3) := by decide +kernel
theorem dX8_film_132 : decode cX8_film 132 = .ok (.iinc 5 1, 3) := by decide +kernel
theorem dX8_film_135 : decode cX8_film 135 = .ok (.goto (-35), 3) := by decide +kernel
theorem dX8_film_138 : decode cX8_film 138 = .ok (.iload_n 2, 1) := by decide +kernel
theorem dX8_film_139 : decode cX8_film 139 = .ok (.ireturn, 1) := by decide +kernel
theorem dX8_image_0 : decode cX8_image 0 = .ok (.aload_n 0, 1) := by decide +kernel
theorem dX8_image_1 : decode cX8_image 1 = .ok (.getfield 18, 3) := by decide +kernel
theorem dX8_image_4 : decode cX8_image 4 = .ok (.aload_n 0, 1) := by decide +kernel
theorem dX8_image_5 : decode cX8_image 5 = .ok (.getfield 12, 3) := by decide +kernel
theorem dX8_image_8 : decode cX8_image 8 = .ok (.invokevirtual 305, 3) := by decide +kernel
theorem dX8_image_11 : decode cX8_image 11 = .ok (.aload_n 0, 1) := by decide +kernel
theorem dX8_image_12 : decode cX8_image 12 = .ok (.iconst 1, 1) := by decide +kernel
theorem dX8_image_13 : decode cX8_image 13 = .ok (.putfield 309, 3) := by decide +kernel
theorem dX8_image_16 : decode cX8_image 16 = .ok (.aload_n 0, 1) := by decide +kernel
theorem dX8_image_17 : decode cX8_image 17 = .ok (.getfield 12, 3) := by decide +kernel
theorem dX8_image_20 : decode cX8_image 20 = .ok (.getfield 75, 3) := by decide +kernel
theorem dX8_image_23 : decode cX8_image 23 = .ok (.getfield 100, 3) := by decide +kernel
theorem dX8_image_26 : decode cX8_image 26 = .ok (.ireturn, 1) := by decide +kernel
theorem dX8_undo_0 : decode cX8_undo 0 = .ok (.aload_n 0, 1) := by decide +kernel
theorem dX8_undo_1 : decode cX8_undo 1 = .ok (.getfield 309, 3) := by decide +kernel
theorem dX8_undo_4 : decode cX8_undo 4 = .ok (.ifCond .ne 6, 3) := by decide +kernel
theorem dX8_undo_7 : decode cX8_undo 7 = .ok (.bipush (-5), 2) := by decide +kernel
theorem dX8_undo_9 : decode cX8_undo 9 = .ok (.ireturn, 1) := by decide +kernel
theorem dX8_undo_10 : decode cX8_undo 10 = .ok (.aload_n 0, 1) := by decide +kernel
theorem dX8_undo_11 : decode cX8_undo 11 = .ok (.getfield 12, 3) := by decide +kernel
theorem dX8_undo_14 : decode cX8_undo 14 = .ok (.aload_n 0, 1) := by decide +kernel
theorem dX8_undo_15 : decode cX8_undo 15 = .ok (.getfield 18, 3) := by decide +kernel
theorem dX8_undo_18 : decode cX8_undo 18 = .ok (.invokevirtual 305, 3) := by decide +kernel
theorem dX8_undo_21 : decode cX8_undo 21 = .ok (.aload_n 0, 1) := by decide +kernel
theorem dX8_undo_22 : decode cX8_undo 22 = .ok (.iconst 0, 1) := by decide +kernel
theorem dX8_undo_23 : decode cX8_undo 23 = .ok (.putfield 89, 3) := by decide +kernel
theorem dX8_undo_26 : decode cX8_undo 26 = .ok (.aload_n 0, 1) := by decide +kernel
theorem dX8_undo_27 : decode cX8_undo 27 = .ok (.getfield 30, 3) := by decide +kernel
theorem dX8_undo_30 : decode cX8_undo 30 = .ok (.invokevirtual 106, 3) := by decide +kernel
theorem dX8_undo_33 : decode cX8_undo 33 = .ok (.aload_n 0, 1) := by decide +kernel
theorem dX8_undo_34 : decode cX8_undo 34 = .ok (.getfield 12, 3) := by decide +kernel
theorem dX8_undo_37 : decode cX8_undo 37 = .ok (.getfield 75, 3) := by decide +kernel
theorem dX8_undo_40 : decode cX8_undo 40 = .ok (.getfield 100, 3) := by decide +kernel
theorem dX8_undo_43 : decode cX8_undo 43 = .ok (.ireturn, 1) := by decide +kernel
theorem dX8_count_0 : decode cX8_count 0 = .ok (.iload_n 1, 1) := by decide +kernel
theorem dX8_count_1 : decode cX8_count 1 = .ok (.tableswitch 102 0 6 #[43, 54, 59, 70, 81, 89, 97], 43) := by decide +kernel
theorem dX8_count_44 : decode cX8_count 44 = .ok (.aload_n 0, 1) := by decide +kernel
theorem dX8_count_45 : decode cX8_count 45 = .ok (.getfield 12, 3) := by decide +kernel
theorem dX8_count_48 : decode cX8_count 48 = .ok (.getfield 75, 3) := by decide +kernel
theorem dX8_count_51 : decode cX8_count 51 = .ok (.getfield 100, 3) := by decide +kernel
theorem dX8_count_54 : decode cX8_count 54 = .ok (.ireturn, 1) := by decide +kernel
theorem dX8_count_55 : decode cX8_count 55 = .ok (.aload_n 0, 1) := by decide +kernel
theorem dX8_count_56 : decode cX8_count 56 = .ok (.getfield 89, 3) := by decide +kernel
theorem dX8_count_59 : decode cX8_count 59 = .ok (.ireturn, 1) := by decide +kernel
theorem dX8_count_60 : decode cX8_count 60 = .ok (.aload_n 0, 1) := by decide +kernel
theorem dX8_count_61 : decode cX8_count 61 = .ok (.getfield 12, 3) := by decide +kernel
theorem dX8_count_64 : decode cX8_count 64 = .ok (.getfield 221, 3) := by decide +kernel
theorem dX8_count_67 : decode cX8_count 67 = .ok (.getfield 224, 3) := by decide +kernel
theorem dX8_count_70 : decode cX8_count 70 = .ok (.ireturn, 1) := by decide +kernel
theorem dX8_count_71 : decode cX8_count 71 = .ok (.aload_n 0, 1) := by decide +kernel
theorem dX8_count_72 : decode cX8_count 72 = .ok (.getfield 12, 3) := by decide +kernel
theorem dX8_count_75 : decode cX8_count 75 = .ok (.getfield 267, 3) := by decide +kernel
theorem dX8_count_78 : decode cX8_count 78 = .ok (.getfield 224, 3) := by decide +kernel
theorem dX8_count_81 : decode cX8_count 81 = .ok (.ireturn, 1) := by decide +kernel
theorem dX8_count_82 : decode cX8_count 82 = .ok (.aload_n 0, 1) := by decide +kernel
theorem dX8_count_83 : decode cX8_count 83 = .ok (.getfield 30, 3) := by decide +kernel
theorem dX8_count_86 : decode cX8_count 86 = .ok (.getfield 224, 3) := by decide +kernel
theorem dX8_count_89 : decode cX8_count 89 = .ok (.ireturn, 1) := by decide +kernel
theorem dX8_count_90 : decode cX8_count 90 = .ok (.aload_n 0, 1) := by decide +kernel
theorem dX8_count_91 : decode cX8_count 91 = .ok (.getfield 47, 3) := by decide +kernel
theorem dX8_count_94 : decode cX8_count 94 = .ok (.getfield 278, 3) := by decide +kernel
theorem dX8_count_97 : decode cX8_count 97 = .ok (.ireturn, 1) := by decide +kernel
theorem dX8_count_98 : decode cX8_count 98 = .ok (.aload_n 0, 1) := by decide +kernel
theorem dX8_count_99 : decode cX8_count 99 = .ok (.invokevirtual 313, 3) := by decide +kernel
theorem dX8_count_102 : decode cX8_count 102 = .ok (.ireturn, 1) := by decide +kernel
theorem dX8_count_103 : decode cX8_count 103 = .ok (.iconst (-1), 1) := by decide +kernel
theorem dX8_count_104 : decode cX8_count 104 = .ok (.ireturn, 1) := by decide +kernel
theorem dX8_torqueOf_0 : decode cX8_torqueOf 0 = .ok (.aload_n 0, 1) := by decide +kernel
theorem dX8_torqueOf_1 : decode cX8_torqueOf 1 = .ok (.getfield 54, 3) := by decide +kernel
theorem dX8_torqueOf_4 : decode cX8_torqueOf 4 = .ok (.aload_n 0, 1) := by decide +kernel
theorem dX8_torqueOf_5 : decode cX8_torqueOf 5 = .ok (.getfield 12, 3) := by decide +kernel
theorem dX8_torqueOf_8 : decode cX8_torqueOf 8 = .ok (.getfield 75, 3) := by decide +kernel
theorem dX8_torqueOf_11 : decode cX8_torqueOf 11 = .ok (.iload_n 1, 1) := by decide +kernel
theorem dX8_torqueOf_12 : decode cX8_torqueOf 12 = .ok (.iconst (-1), 1) := by decide +kernel
theorem dX8_torqueOf_13 : decode cX8_torqueOf 13 = .ok (.invokevirtual 173, 3) := by decide +kernel
theorem dX8_torqueOf_16 : decode cX8_torqueOf 16 = .ok (.aload_n 0, 1) := by decide +kernel
theorem dX8_torqueOf_17 : decode cX8_torqueOf 17 = .ok (.getfield 54, 3) := by decide +kernel
theorem dX8_torqueOf_20 : decode cX8_torqueOf 20 = .ok (.aload_n 0, 1) := by decide +kernel
theorem dX8_torqueOf_21 : decode cX8_torqueOf 21 = .ok (.getfield 12, 3) := by decide +kernel
theorem dX8_torqueOf_24 : decode cX8_torqueOf 24 = .ok (.getfield 75, 3) := by decide +kernel
theorem dX8_torqueOf_27 : decode cX8_torqueOf 27 = .ok (.iconst 0, 1) := by decide +kernel
theorem dX8_torqueOf_28 : decode cX8_torqueOf 28 = .ok (.invokevirtual 189, 3) := by decide +kernel
theorem dX8_torqueOf_31 : decode cX8_torqueOf 31 = .ok (.ireturn, 1) := by decide +kernel
theorem dX8_countBalanced_0 : decode cX8_countBalanced 0 = .ok (.iconst 0, 1) := by decide +kernel
theorem dX8_countBalanced_1 : decode cX8_countBalanced 1 = .ok (.istore_n 1, 1) := by decide +kernel
theorem dX8_countBalanced_2 : decode cX8_countBalanced 2 = .ok (.iconst 0, 1) := by decide +kernel
theorem dX8_countBalanced_3 : decode cX8_countBalanced 3 = .ok (.istore_n 2, 1) := by decide +kernel
theorem dX8_countBalanced_4 : decode cX8_countBalanced 4 = .ok (.iload_n 2, 1) := by decide +kernel
theorem dX8_countBalanced_5 : decode cX8_countBalanced 5 = .ok (.aload_n 0, 1) := by decide +kernel
theorem dX8_countBalanced_6 : decode cX8_countBalanced 6 = .ok (.getfield 12, 3) := by decide +kernel
theorem dX8_countBalanced_9 : decode cX8_countBalanced 9 = .ok (.getfield 75, 3) := by decide +kernel
theorem dX8_countBalanced_12 : decode cX8_countBalanced 12 = .ok (.getfield 100, 3) := by decide +kernel
theorem dX8_countBalanced_15 : decode cX8_countBalanced 15 = .ok (.if_icmp .ge 20, 3) := by decide +kernel
theorem dX8_countBalanced_18 : decode cX8_countBalanced 18 = .ok (.aload_n 0, 1) := by decide +kernel
theorem dX8_countBalanced_19 : decode cX8_countBalanced 19 = .ok (.iload_n 2, 1) := by decide +kernel
theorem dX8_countBalanced_20 : decode cX8_countBalanced 20 = .ok (.invokevirtual 148, 3) := by decide +kernel
theorem dX8_countBalanced_23 : decode cX8_countBalanced 23 = .ok (.ifCond .ne 6, 3) := by decide +kernel
theorem dX8_countBalanced_26 : decode cX8_countBalanced 26 = .ok (.iinc 1 1, 3) := by decide +kernel
theorem dX8_countBalanced_29 : decode cX8_countBalanced 29 = .ok (.iinc 2 1, 3) := by decide +kernel
theorem dX8_countBalanced_32 : decode cX8_countBalanced 32 = .ok (.goto (-28), 3) := by decide +kernel
theorem dX8_countBalanced_35 : decode cX8_countBalanced 35 = .ok (.iload_n 1, 1) := by decide +kernel
theorem dX8_countBalanced_36 : decode cX8_countBalanced 36 = .ok (.ireturn, 1) := by decide +kernel
theorem dX8_weighLayers_0 : decode cX8_weighLayers 0 = .ok (.aload_n 0, 1) := by decide +kernel
theorem dX8_weighLayers_1 : decode cX8_weighLayers 1 = .ok (.getfield 12, 3) := by decide +kernel
theorem dX8_weighLayers_4 : decode cX8_weighLayers 4 = .ok (.getfield 221, 3) := by decide +kernel
theorem dX8_weighLayers_7 : decode cX8_weighLayers 7 = .ok (.astore_n 1, 1) := by decide +kernel
theorem dX8_weighLayers_8 : decode cX8_weighLayers 8 = .ok (.aload_n 0, 1) := by decide +kernel
theorem dX8_weighLayers_9 : decode cX8_weighLayers 9 = .ok (.getfield 68, 3) := by decide +kernel
theorem dX8_weighLayers_12 : decode cX8_weighLayers 12 = .ok (.aload_n 1, 1) := by decide +kernel
theorem dX8_weighLayers_13 : decode cX8_weighLayers 13 = .ok (.getfield 224, 3) := by decide +kernel
theorem dX8_weighLayers_16 : decode cX8_weighLayers 16 = .ok (.putfield 316, 3) := by decide +kernel
theorem dX8_weighLayers_19 : decode cX8_weighLayers 19 = .ok (.iconst 0, 1) := by decide +kernel
theorem dX8_weighLayers_20 : decode cX8_weighLayers 20 = .ok (.istore_n 2, 1) := by decide +kernel
theorem dX8_weighLayers_21 : decode cX8_weighLayers 21 = .ok (.iload_n 2, 1) := by decide +kernel
theorem dX8_weighLayers_22 : decode cX8_weighLayers 22 = .ok (.aload_n 1, 1) := by decide +kernel
theorem dX8_weighLayers_23 : decode cX8_weighLayers 23 = .ok (.getfield 224, 3) := by decide +kernel
theorem dX8_weighLayers_26 : decode cX8_weighLayers 26 = .ok (.if_icmp .ge 52, 3) := by decide +kernel
theorem dX8_weighLayers_29 : decode cX8_weighLayers 29 = .ok (.aload_n 0, 1) := by decide +kernel
theorem dX8_weighLayers_30 : decode cX8_weighLayers 30 = .ok (.aload_n 1, 1) := by decide +kernel
theorem dX8_weighLayers_31 : decode cX8_weighLayers 31 = .ok (.iload_n 2, 1) := by decide +kernel
theorem dX8_weighLayers_32 : decode cX8_weighLayers 32 = .ok (.iconst 0, 1) := by decide +kernel
theorem dX8_weighLayers_33 : decode cX8_weighLayers 33 = .ok (.invokevirtual 270, 3) := by decide +kernel
theorem dX8_weighLayers_36 : decode cX8_weighLayers 36 = .ok (.invokevirtual 148, 3) := by decide +kernel
theorem dX8_weighLayers_39 : decode cX8_weighLayers 39 = .ok (.aload_n 1, 1) := by decide +kernel
theorem dX8_weighLayers_40 : decode cX8_weighLayers 40 = .ok (.iload_n 2, 1) := by decide +kernel
theorem dX8_weighLayers_41 : decode cX8_weighLayers 41 = .ok (.iconst 1, 1) := by decide +kernel
theorem dX8_weighLayers_42 : decode cX8_weighLayers 42 = .ok (.invokevirtual 270, 3) := by decide +kernel
theorem dX8_weighLayers_45 : decode cX8_weighLayers 45 = .ok (.imul, 1) := by decide +kernel
theorem dX8_weighLayers_46 : decode cX8_weighLayers 46 = .ok (.istore_n 3, 1) := by decide +kernel
theorem dX8_weighLayers_47 : decode cX8_weighLayers 47 = .ok (.aload_n 0, 1) := by decide +kernel
theorem dX8_weighLayers_48 : decode cX8_weighLayers 48 = .ok (.getfield 68, 3) := by decide +kernel
theorem dX8_weighLayers_51 : decode cX8_weighLayers 51 = .ok (.getfield 317, 3) := by decide +kernel
theorem dX8_weighLayers_54 : decode cX8_weighLayers 54 = .ok (.iload_n 2, 1) := by decide +kernel
theorem dX8_weighLayers_55 : decode cX8_weighLayers 55 = .ok (.aload_n 1, 1) := by decide +kernel
theorem dX8_weighLayers_56 : decode cX8_weighLayers 56 = .ok (.iload_n 2, 1) := by decide +kernel
theorem dX8_weighLayers_57 : decode cX8_weighLayers 57 = .ok (.iconst 2, 1) := by decide +kernel
theorem dX8_weighLayers_58 : decode cX8_weighLayers 58 = .ok (.invokevirtual 270, 3) := by decide +kernel
theorem dX8_weighLayers_61 : decode cX8_weighLayers 61 = .ok (.iconst 1, 1) := by decide +kernel
theorem dX8_weighLayers_62 : decode cX8_weighLayers 62 = .ok (.if_icmp .ne 8, 3) := by decide +kernel
theorem dX8_weighLayers_65 : decode cX8_weighLayers 65 = .ok (.iload_n 3, 1) := by decide +kernel
theorem dX8_weighLayers_66 : decode cX8_weighLayers 66 = .ok (.ineg, 1) := by decide +kernel
theorem dX8_weighLayers_67 : decode cX8_weighLayers 67 = .ok (.goto 4, 3) := by decide +kernel
theorem dX8_weighLayers_70 : decode cX8_weighLayers 70 = .ok (.iload_n 3, 1) := by decide +kernel
theorem dX8_weighLayers_71 : decode cX8_weighLayers 71 = .ok (.iastore, 1) := by decide +kernel
theorem dX8_weighLayers_72 : decode cX8_weighLayers 72 = .ok (.iinc 2 1, 3) := by decide +kernel
theorem dX8_weighLayers_75 : decode cX8_weighLayers 75 = .ok (.goto (-54), 3) := by decide +kernel
theorem dX8_weighLayers_78 : decode cX8_weighLayers 78 = .ok (.return_, 1) := by decide +kernel
theorem dX8_makeYards_0 : decode cX8_makeYards 0 = .ok (.aload_n 0, 1) := by decide +kernel
theorem dX8_makeYards_1 : decode cX8_makeYards 1 = .ok (.getfield 12, 3) := by decide +kernel
theorem dX8_makeYards_4 : decode cX8_makeYards 4 = .ok (.getfield 75, 3) := by decide +kernel
theorem dX8_makeYards_7 : decode cX8_makeYards 7 = .ok (.astore_n 3, 1) := by decide +kernel
theorem dX8_makeYards_8 : decode cX8_makeYards 8 = .ok (.aload_n 3, 1) := by decide +kernel
theorem dX8_makeYards_9 : decode cX8_makeYards 9 = .ok (.iload_n 1, 1) := by decide +kernel
theorem dX8_makeYards_10 : decode cX8_makeYards 10 = .ok (.invokevirtual 85, 3) := by decide +kernel
theorem dX8_makeYards_13 : decode cX8_makeYards 13 = .ok (.ifCond .eq 14, 3) := by decide +kernel
theorem dX8_makeYards_16 : decode cX8_makeYards 16 = .ok (.iload_n 2, 1) := by decide +kernel
theorem dX8_makeYards_17 : decode cX8_makeYards 17 = .ok (.iconst 1, 1) := by decide +kernel
theorem dX8_makeYards_18 : decode cX8_makeYards 18 = .ok (.sipush 9999, 3) := by decide +kernel
theorem dX8_makeYards_21 : decode cX8_makeYards 21 = .ok (.invokestatic 121, 3) := by decide +kernel
theorem dX8_makeYards_24 : decode cX8_makeYards 24 = .ok (.ifCond .ne 5, 3) := by decide +kernel
theorem dX8_makeYards_27 : decode cX8_makeYards 27 = .ok (.iconst (-1), 1) := by decide +kernel
theorem dX8_makeYards_28 : decode cX8_makeYards 28 = .ok (.ireturn, 1) := by decide +kernel
theorem dX8_makeYards_29 : decode cX8_makeYards 29 = .ok (.aload_n 3, 1) := by decide +kernel
theorem dX8_makeYards_30 : decode cX8_makeYards 30 = .ok (.iload_n 1, 1) := by decide +kernel
theorem dX8_makeYards_31 : decode cX8_makeYards 31 = .ok (.invokevirtual 197, 3) := by decide +kernel
theorem dX8_makeYards_34 : decode cX8_makeYards 34 = .ok (.ifCond .ne 16, 3) := by decide +kernel
theorem dX8_makeYards_37 : decode cX8_makeYards 37 = .ok (.aload_n 3, 1) := by decide +kernel
theorem dX8_makeYards_38 : decode cX8_makeYards 38 = .ok (.iload_n 1, 1) := by decide +kernel
theorem dX8_makeYards_39 : decode cX8_makeYards 39 = .ok (.iconst 3, 1) := by decide +kernel
theorem dX8_makeYards_40 : decode cX8_makeYards 40 = .ok (.invokevirtual 130, 3) := by decide +kernel
theorem dX8_makeYards_43 : decode cX8_makeYards 43 = .ok (.iload_n 2, 1) := by decide +kernel
theorem dX8_makeYards_44 : decode cX8_makeYards 44 = .ok (.iadd, 1) := by decide +kernel
theorem dX8_makeYards_45 : decode cX8_makeYards 45 = .ok (.ldc 206, 2) := by decide +kernel
theorem dX8_makeYards_47 : decode cX8_makeYards 47 = .ok (.if_icmp .le 6, 3) := by decide +kernel
theorem dX8_makeYards_50 : decode cX8_makeYards 50 = .ok (.bipush (-5), 2) := by decide +kernel
theorem dX8_makeYards_52 : decode cX8_makeYards 52 = .ok (.ireturn, 1) := by decide +kernel
theorem dX8_makeYards_53 : decode cX8_makeYards 53 = .ok (.aload_n 0, 1) := by decide +kernel
theorem dX8_makeYards_54 : decode cX8_makeYards 54 = .ok (.getfield 54, 3) := by decide +kernel
theorem dX8_makeYards_57 : decode cX8_makeYards 57 = .ok (.aload_n 3, 1) := by decide +kernel
theorem dX8_makeYards_58 : decode cX8_makeYards 58 = .ok (.iload_n 1, 1) := by decide +kernel
theorem dX8_makeYards_59 : decode cX8_makeYards 59 = .ok (.iconst (-1), 1) := by decide +kernel
theorem dX8_makeYards_60 : decode cX8_makeYards 60 = .ok (.invokevirtual 173, 3) := by decide +kernel
theorem dX8_makeYards_63 : decode cX8_makeYards 63 = .ok (.aload_n 0, 1) := by decide +kernel
theorem dX8_makeYards_64 : decode cX8_makeYards 64 = .ok (.getfield 54, 3) := by decide +kernel
theorem dX8_makeYards_67 : decode cX8_makeYards 67 = .ok (.aload_n 3, 1) := by decide +kernel
theorem dX8_makeYards_68 : decode cX8_makeYards 68 = .ok (.iload_n 2, 1) := by decide +kernel
theorem dX8_makeYards_69 : decode cX8_makeYards 69 = .ok (.invokevirtual 177, 3) := by decide +kernel
theorem dX8_makeYards_72 : decode cX8_makeYards 72 = .ok (.aload_n 0, 1) := by decide +kernel
theorem dX8_makeYards_73 : decode cX8_makeYards 73 = .ok (.getfield 54, 3) := by decide +kernel
theorem dX8_makeYards_76 : decode cX8_makeYards 76 = .ok (.aload_n 3, 1) := by decide +kernel
theorem dX8_makeYards_77 : decode cX8_makeYards 77 = .ok (.invokevirtual 210, 3) := by decide +kernel
theorem dX8_makeYards_80 : decode cX8_makeYards 80 = .ok (.ifCond .ne 6, 3) := by decide +kernel
theorem dX8_makeYards_83 : decode cX8_makeYards 83 = .ok (.bipush (-5), 2) := by decide +kernel
theorem dX8_makeYards_85 : decode cX8_makeYards 85 = .ok (.ireturn, 1) := by decide +kernel
theorem dX8_makeYards_86 : decode cX8_makeYards 86 = .ok (.aload_n 0, 1) := by decide +kernel
theorem dX8_makeYards_87 : decode cX8_makeYards 87 = .ok (.getfield 54, 3) := by decide +kernel
theorem dX8_makeYards_90 : decode cX8_makeYards 90 = .ok (.aload_n 3, 1) := by decide +kernel
theorem dX8_makeYards_91 : decode cX8_makeYards 91 = .ok (.invokevirtual 320, 3) := by decide +kernel
theorem dX8_makeYards_94 : decode cX8_makeYards 94 = .ok (.aload_n 3, 1) := by decide +kernel
theorem dX8_makeYards_95 : decode cX8_makeYards 95 = .ok (.iload_n 1, 1) := by decide +kernel
theorem dX8_makeYards_96 : decode cX8_makeYards 96 = .ok (.iconst 3, 1) := by decide +kernel
theorem dX8_makeYards_97 : decode cX8_makeYards 97 = .ok (.aload_n 3, 1) := by decide +kernel
theorem dX8_makeYards_98 : decode cX8_makeYards 98 = .ok (.iload_n 1, 1) := by decide +kernel
theorem dX8_makeYards_99 : decode cX8_makeYards 99 = .ok (.iconst 3, 1) := by decide +kernel
theorem dX8_makeYards_100 : decode cX8_makeYards 100 = .ok (.invokevirtual 130, 3) := by decide +kernel
theorem dX8_makeYards_103 : decode cX8_makeYards 103 = .ok (.iload_n 2, 1) := by decide +kernel
theorem dX8_makeYards_104 : decode cX8_makeYards 104 = .ok (.iadd, 1) := by decide +kernel
theorem dX8_makeYards_105 : decode cX8_makeYards 105 = .ok (.invokevirtual 324, 3) := by decide +kernel
theorem dX8_makeYards_108 : decode cX8_makeYards 108 = .ok (.aload_n 3, 1) := by decide +kernel
theorem dX8_makeYards_109 : decode cX8_makeYards 109 = .ok (.iload_n 1, 1) := by decide +kernel
theorem dX8_makeYards_110 : decode cX8_makeYards 110 = .ok (.iconst 3, 1) := by decide +kernel
theorem dX8_makeYards_111 : decode cX8_makeYards 111 = .ok (.invokevirtual 130, 3) := by decide +kernel
theorem dX8_makeYards_114 : decode cX8_makeYards 114 = .ok (.ireturn, 1) := by decide +kernel
theorem dX8_fittingFibres_0 : decode cX8_fittingFibres 0 = .ok (.iconst 0, 1) := by decide +kernel
theorem dX8_fittingFibres_1 : decode cX8_fittingFibres 1 = .ok (.istore_n 3, 1) := by decide +kernel
theorem dX8_fittingFibres_2 : decode cX8_fittingFibres 2 = .ok (.iconst 0, 1) := by decide +kernel
theorem dX8_fittingFibres_3 : decode cX8_fittingFibres 3 = .ok (.istore 4, 2) := by decide +kernel
theorem dX8_fittingFibres_5 : decode cX8_fittingFibres 5 = .ok (.iload 4, 2) := by decide +kernel
theorem dX8_fittingFibres_7 : decode cX8_fittingFibres 7 = .ok (.iconst 4, 1) := by decide +kernel
theorem dX8_fittingFibres_8 : decode cX8_fittingFibres 8 = .ok (.if_icmp .ge 39, 3) := by decide +kernel
theorem dX8_fittingFibres_11 : decode cX8_fittingFibres 11 = .ok (.aload_n 0, 1) := by decide +kernel
theorem dX8_fittingFibres_12 : decode cX8_fittingFibres 12 = .ok (.iload_n 1, 1) := by decide +kernel
theorem dX8_fittingFibres_13 : decode cX8_fittingFibres 13 = .ok (.iload 4, 2) := by decide +kernel
theorem dX8_fittingFibres_15 : decode cX8_fittingFibres 15 = .ok (.aload_n 0, 1) := by decide +kernel
theorem dX8_fittingFibres_16 : decode cX8_fittingFibres 16 = .ok (.getfield 12, 3) := by decide +kernel
theorem dX8_fittingFibres_19 : decode cX8_fittingFibres 19 = .ok (.getfield 75, 3) := by decide +kernel
theorem dX8_fittingFibres_22 : decode cX8_fittingFibres 22 = .ok (.iload_n 1, 1) := by decide +kernel
theorem dX8_fittingFibres_23 : decode cX8_fittingFibres 23 = .ok (.iconst 1, 1) := by decide +kernel
theorem dX8_fittingFibres_24 : decode cX8_fittingFibres 24 = .ok (.invokevirtual 130, 3) := by decide +kernel
theorem dX8_fittingFibres_27 : decode cX8_fittingFibres 27 = .ok (.iload_n 2, 1) := by decide +kernel
theorem dX8_fittingFibres_28 : decode cX8_fittingFibres 28 = .ok (.invokevirtual 325, 3) := by decide +kernel
theorem dX8_fittingFibres_31 : decode cX8_fittingFibres 31 = .ok (.ifCond .eq 10, 3) := by decide +kernel
theorem dX8_fittingFibres_34 : decode cX8_fittingFibres 34 = .ok (.iload_n 3, 1) := by decide +kernel
theorem dX8_fittingFibres_35 : decode cX8_fittingFibres 35 = .ok (.iconst 1, 1) := by decide +kernel
theorem dX8_fittingFibres_36 : decode cX8_fittingFibres 36 = .ok (.iload 4, 2) := by decide +kernel
theorem dX8_fittingFibres_38 : decode cX8_fittingFibres 38 = .ok (.ishl, 1) := by decide +kernel
theorem dX8_fittingFibres_39 : decode cX8_fittingFibres 39 = .ok (.ior, 1) := by decide +kernel
theorem dX8_fittingFibres_40 : decode cX8_fittingFibres 40 = .ok (.istore_n 3, 1) := by decide +kernel
theorem dX8_fittingFibres_41 : decode cX8_fittingFibres 41 = .ok (.iinc 4 1, 3) := by decide +kernel
theorem dX8_fittingFibres_44 : decode cX8_fittingFibres 44 = .ok (.goto (-39), 3) := by decide +kernel
theorem dX8_fittingFibres_47 : decode cX8_fittingFibres 47 = .ok (.iload_n 3, 1) := by decide +kernel
theorem dX8_fittingFibres_48 : decode cX8_fittingFibres 48 = .ok (.ireturn, 1) := by decide +kernel
theorem dX8_fittingWeights_0 : decode cX8_fittingWeights 0 = .ok (.iconst 0, 1) := by decide +kernel
theorem dX8_fittingWeights_1 : decode cX8_fittingWeights 1 = .ok (.istore 4, 2) := by decide +kernel
theorem dX8_fittingWeights_3 : decode cX8_fittingWeights 3 = .ok (.bipush (-2), 2) := by decide +kernel
theorem dX8_fittingWeights_5 : decode cX8_fittingWeights 5 = .ok (.istore 5, 2) := by decide +kernel
theorem dX8_fittingWeights_7 : decode cX8_fittingWeights 7 = .ok (.bipush 99, 2) := by decide +kernel
theorem dX8_fittingWeights_9 : decode cX8_fittingWeights 9 = .ok (.istore 6, 2) := by decide +kernel
theorem dX8_fittingWeights_11 : decode cX8_fittingWeights 11 = .ok (.iload 6, 2) := by decide +kernel
theorem dX8_fittingWeights_13 : decode cX8_fittingWeights 13 = .ok (.iconst 1, 1) := by decide +kernel
theorem dX8_fittingWeights_14 : decode cX8_fittingWeights 14 = .ok (.if_icmp .lt 39, 3) := by decide +kernel
theorem dX8_fittingWeights_17 : decode cX8_fittingWeights 17 = .ok (.aload_n 0, 1) := by decide +kernel
theorem dX8_fittingWeights_18 : decode cX8_fittingWeights 18 = .ok (.iload_n 1, 1) := by decide +kernel
theorem dX8_fittingWeights_19 : decode cX8_fittingWeights 19 = .ok (.aload_n 0, 1) := by decide +kernel
theorem dX8_fittingWeights_20 : decode cX8_fittingWeights 20 = .ok (.getfield 12, 3) := by decide +kernel
theorem dX8_fittingWeights_23 : decode cX8_fittingWeights 23 = .ok (.getfield 75, 3) := by decide +kernel
theorem dX8_fittingWeights_26 : decode cX8_fittingWeights 26 = .ok (.iload_n 1, 1) := by decide +kernel
theorem dX8_fittingWeights_27 : decode cX8_fittingWeights 27 = .ok (.iconst 2, 1) := by decide +kernel
theorem dX8_fittingWeights_28 : decode cX8_fittingWeights 28 = .ok (.invokevirtual 130, 3) := by decide +kernel
theorem dX8_fittingWeights_31 : decode cX8_fittingWeights 31 = .ok (.iload 6, 2) := by decide +kernel
theorem dX8_fittingWeights_33 : decode cX8_fittingWeights 33 = .ok (.iload_n 2, 1) := by decide +kernel
theorem dX8_fittingWeights_34 : decode cX8_fittingWeights 34 = .ok (.invokevirtual 325, 3) := by decide +kernel
theorem dX8_fittingWeights_37 : decode cX8_fittingWeights 37 = .ok (.ifCond .eq 10, 3) := by decide +kernel
theorem dX8_fittingWeights_40 : decode cX8_fittingWeights 40 = .ok (.iinc 4 1, 3) := by decide +kernel
theorem dX8_fittingWeights_43 : decode cX8_fittingWeights 43 = .ok (.iload 6, 2) := by decide +kernel
theorem dX8_fittingWeights_45 : decode cX8_fittingWeights 45 = .ok (.istore 5, 2) := by decide +kernel
theorem dX8_fittingWeights_47 : decode cX8_fittingWeights 47 = .ok (.iinc 6 (-1), 3) := by decide +kernel
theorem dX8_fittingWeights_50 : decode cX8_fittingWeights 50 = .ok (.goto (-39), 3) := by decide +kernel
theorem dX8_fittingWeights_53 : decode cX8_fittingWeights 53 = .ok (.iload_n 3, 1) := by decide +kernel
theorem dX8_fittingWeights_54 : decode cX8_fittingWeights 54 = .ok (.iconst 1, 1) := by decide +kernel
theorem dX8_fittingWeights_55 : decode cX8_fittingWeights 55 = .ok (.if_icmp .ne 8, 3) := by decide +kernel
theorem dX8_fittingWeights_58 : decode cX8_fittingWeights 58 = .ok (.iload 4, 2) := by decide +kernel
theorem dX8_fittingWeights_60 : decode cX8_fittingWeights 60 = .ok (.goto 5, 3) := by decide +kernel
theorem dX8_fittingWeights_63 : decode cX8_fittingWeights 63 = .ok (.iload 5, 2) := by decide +kernel
theorem dX8_fittingWeights_65 : decode cX8_fittingWeights 65 = .ok (.ireturn, 1) := by decide +kernel
theorem dX8_isFitting_0 : decode cX8_isFitting 0 = .ok (.iconst 0, 1) := by decide +kernel
theorem dX8_isFitting_1 : decode cX8_isFitting 1 = .ok (.istore 5, 2) := by decide +kernel
theorem dX8_isFitting_3 : decode cX8_isFitting 3 = .ok (.iload 5, 2) := by decide +kernel
theorem dX8_isFitting_5 : decode cX8_isFitting 5 = .ok (.iload 4, 2) := by decide +kernel
theorem dX8_isFitting_7 : decode cX8_isFitting 7 = .ok (.if_icmp .ge 33, 3) := by decide +kernel
theorem dX8_isFitting_10 : decode cX8_isFitting 10 = .ok (.aload_n 0, 1) := by decide +kernel
theorem dX8_isFitting_11 : decode cX8_isFitting 11 = .ok (.getfield 54, 3) := by decide +kernel
theorem dX8_isFitting_14 : decode cX8_isFitting 14 = .ok (.iload_n 1, 1) := by decide +kernel
theorem dX8_isFitting_15 : decode cX8_isFitting 15 = .ok (.iload_n 2, 1) := by decide +kernel
theorem dX8_isFitting_16 : decode cX8_isFitting 16 = .ok (.iload_n 3, 1) := by decide +kernel
theorem dX8_isFitting_17 : decode cX8_isFitting 17 = .ok (.iload 5, 2) := by decide +kernel
theorem dX8_isFitting_19 : decode cX8_isFitting 19 = .ok (.invokevirtual 329, 3) := by decide +kernel
theorem dX8_isFitting_22 : decode cX8_isFitting 22 = .ok (.aload_n 0, 1) := by decide +kernel
theorem dX8_isFitting_23 : decode cX8_isFitting 23 = .ok (.getfield 72, 3) := by decide +kernel
theorem dX8_isFitting_26 : decode cX8_isFitting 26 = .ok (.iload 5, 2) := by decide +kernel
theorem dX8_isFitting_28 : decode cX8_isFitting 28 = .ok (.iaload, 1) := by decide +kernel
theorem dX8_isFitting_29 : decode cX8_isFitting 29 = .ok (.if_icmp .eq 5, 3) := by decide +kernel
theorem dX8_isFitting_32 : decode cX8_isFitting 32 = .ok (.iconst 0, 1) := by decide +kernel
theorem dX8_isFitting_33 : decode cX8_isFitting 33 = .ok (.ireturn, 1) := by decide +kernel
theorem dX8_isFitting_34 : decode cX8_isFitting 34 = .ok (.iinc 5 1, 3) := by decide +kernel
theorem dX8_isFitting_37 : decode cX8_isFitting 37 = .ok (.goto (-34), 3) := by decide +kernel
theorem dX8_isFitting_40 : decode cX8_isFitting 40 = .ok (.iconst 1, 1) := by decide +kernel
theorem dX8_isFitting_41 : decode cX8_isFitting 41 = .ok (.ireturn, 1) := by decide +kernel
theorem dX8_doAct_0 : decode cX8_doAct 0 = .ok (.aload_n 0, 1) := by decide +kernel
theorem dX8_doAct_1 : decode cX8_doAct 1 = .ok (.getfield 47, 3) := by decide +kernel
theorem dX8_doAct_4 : decode cX8_doAct 4 = .ok (.getfield 333, 3) := by decide +kernel
theorem dX8_doAct_7 : decode cX8_doAct 7 = .ok (.astore_n 1, 1) := by decide +kernel
theorem dX8_doAct_8 : decode cX8_doAct 8 = .ok (.aload_n 0, 1) := by decide +kernel
theorem dX8_doAct_9 : decode cX8_doAct 9 = .ok (.getfield 47, 3) := by decide +kernel
theorem dX8_doAct_12 : decode cX8_doAct 12 = .ok (.getfield 336, 3) := by decide +kernel
theorem dX8_doAct_15 : decode cX8_doAct 15 = .ok (.tableswitch 154 109 116 #[135, 154, 154, 73, 154, 154, 109, 45], 45) := by decide +kernel
theorem dX8_doAct_60 : decode cX8_doAct 60 = .ok (.aload_n 0, 1) := by decide +kernel
theorem dX8_doAct_61 : decode cX8_doAct 61 = .ok (.getfield 12, 3) := by decide +kernel
theorem dX8_doAct_64 : decode cX8_doAct 64 = .ok (.getfield 75, 3) := by decide +kernel
theorem dX8_doAct_67 : decode cX8_doAct 67 = .ok (.aload_n 1, 1) := by decide +kernel
theorem dX8_doAct_68 : decode cX8_doAct 68 = .ok (.iconst 0, 1) := by decide +kernel
theorem dX8_doAct_69 : decode cX8_doAct 69 = .ok (.iaload, 1) := by decide +kernel
theorem dX8_doAct_70 : decode cX8_doAct 70 = .ok (.aload_n 1, 1) := by decide +kernel
theorem dX8_doAct_71 : decode cX8_doAct 71 = .ok (.iconst 1, 1) := by decide +kernel
theorem dX8_doAct_72 : decode cX8_doAct 72 = .ok (.iaload, 1) := by decide +kernel
theorem dX8_doAct_73 : decode cX8_doAct 73 = .ok (.aload_n 1, 1) := by decide +kernel
theorem dX8_doAct_74 : decode cX8_doAct 74 = .ok (.iconst 2, 1) := by decide +kernel
theorem dX8_doAct_75 : decode cX8_doAct 75 = .ok (.iaload, 1) := by decide +kernel
theorem dX8_doAct_76 : decode cX8_doAct 76 = .ok (.invokevirtual 79, 3) := by decide +kernel
theorem dX8_doAct_79 : decode cX8_doAct 79 = .ok (.ifCond .lt 7, 3) := by decide +kernel
theorem dX8_doAct_82 : decode cX8_doAct 82 = .ok (.iconst 1, 1) := by decide +kernel
theorem dX8_doAct_83 : decode cX8_doAct 83 = .ok (.goto 4, 3) := by decide +kernel
theorem dX8_doAct_86 : decode cX8_doAct 86 = .ok (.iconst 0, 1) := by decide +kernel
theorem dX8_doAct_87 : decode cX8_doAct 87 = .ok (.ireturn, 1) := by decide +kernel
theorem dX8_doAct_88 : decode cX8_doAct 88 = .ok (.aload_n 0, 1) := by decide +kernel
theorem dX8_doAct_89 : decode cX8_doAct 89 = .ok (.getfield 12, 3) := by decide +kernel
theorem dX8_doAct_92 : decode cX8_doAct 92 = .ok (.getfield 75, 3) := by decide +kernel
theorem dX8_doAct_95 : decode cX8_doAct 95 = .ok (.aload_n 1, 1) := by decide +kernel
theorem dX8_doAct_96 : decode cX8_doAct 96 = .ok (.aload_n 0, 1) := by decide +kernel
theorem dX8_doAct_97 : decode cX8_doAct 97 = .ok (.getfield 47, 3) := by decide +kernel
theorem dX8_doAct_100 : decode cX8_doAct 100 = .ok (.getfield 339, 3) := by decide +kernel
theorem dX8_doAct_103 : decode cX8_doAct 103 = .ok (.iconst 1, 1) := by decide +kernel
theorem dX8_doAct_104 : decode cX8_doAct 104 = .ok (.isub, 1) := by decide +kernel
theorem dX8_doAct_105 : decode cX8_doAct 105 = .ok (.aload_n 0, 1) := by decide +kernel
theorem dX8_doAct_106 : decode cX8_doAct 106 = .ok (.getfield 47, 3) := by decide +kernel
theorem dX8_doAct_109 : decode cX8_doAct 109 = .ok (.invokevirtual 342, 3) := by decide +kernel
theorem dX8_doAct_112 : decode cX8_doAct 112 = .ok (.invokevirtual 96, 3) := by decide +kernel
theorem dX8_doAct_115 : decode cX8_doAct 115 = .ok (.ifCond .lt 7, 3) := by decide +kernel
theorem dX8_doAct_118 : decode cX8_doAct 118 = .ok (.iconst 1, 1) := by decide +kernel
theorem dX8_doAct_119 : decode cX8_doAct 119 = .ok (.goto 4, 3) := by decide +kernel
theorem dX8_doAct_122 : decode cX8_doAct 122 = .ok (.iconst 0, 1) := by decide +kernel
theorem dX8_doAct_123 : decode cX8_doAct 123 = .ok (.ireturn, 1) := by decide +kernel
theorem dX8_doAct_124 : decode cX8_doAct 124 = .ok (.aload_n 0, 1) := by decide +kernel
theorem dX8_doAct_125 : decode cX8_doAct 125 = .ok (.getfield 12, 3) := by decide +kernel
theorem dX8_doAct_128 : decode cX8_doAct 128 = .ok (.getfield 75, 3) := by decide +kernel
theorem dX8_doAct_131 : decode cX8_doAct 131 = .ok (.iconst 3, 1) := by decide +kernel
theorem dX8_doAct_132 : decode cX8_doAct 132 = .ok (.aload_n 1, 1) := by decide +kernel
theorem dX8_doAct_133 : decode cX8_doAct 133 = .ok (.iconst 0, 1) := by decide +kernel
theorem dX8_doAct_134 : decode cX8_doAct 134 = .ok (.iaload, 1) := by decide +kernel
theorem dX8_doAct_135 : decode cX8_doAct 135 = .ok (.aload_n 1, 1) := by decide +kernel
theorem dX8_doAct_136 : decode cX8_doAct 136 = .ok (.iconst 1, 1) := by decide +kernel
theorem dX8_doAct_137 : decode cX8_doAct 137 = .ok (.iaload, 1) := by decide +kernel
theorem dX8_doAct_138 : decode cX8_doAct 138 = .ok (.invokevirtual 107, 3) := by decide +kernel
theorem dX8_doAct_141 : decode cX8_doAct 141 = .ok (.ifCond .lt 7, 3) := by decide +kernel
theorem dX8_doAct_144 : decode cX8_doAct 144 = .ok (.iconst 1, 1) := by decide +kernel
theorem dX8_doAct_145 : decode cX8_doAct 145 = .ok (.goto 4, 3) := by decide +kernel
theorem dX8_doAct_148 : decode cX8_doAct 148 = .ok (.iconst 0, 1) := by decide +kernel
theorem dX8_doAct_149 : decode cX8_doAct 149 = .ok (.ireturn, 1) := by decide +kernel
theorem dX8_doAct_150 : decode cX8_doAct 150 = .ok (.aload_n 0, 1) := by decide +kernel
theorem dX8_doAct_151 : decode cX8_doAct 151 = .ok (.aload_n 1, 1) := by decide +kernel
theorem dX8_doAct_152 : decode cX8_doAct 152 = .ok (.iconst 0, 1) := by decide +kernel
theorem dX8_doAct_153 : decode cX8_doAct 153 = .ok (.iaload, 1) := by decide +kernel
theorem dX8_doAct_154 : decode cX8_doAct 154 = .ok (.aload_n 1, 1) := by decide +kernel
theorem dX8_doAct_155 : decode cX8_doAct 155 = .ok (.iconst 1, 1) := by decide +kernel
theorem dX8_doAct_156 : decode cX8_doAct 156 = .ok (.iaload, 1) := by decide +kernel
theorem dX8_doAct_157 : decode cX8_doAct 157 = .ok (.invokevirtual 218, 3) := by decide +kernel
theorem dX8_doAct_160 : decode cX8_doAct 160 = .ok (.ifCond .lt 7, 3) := by decide +kernel
theorem dX8_doAct_163 : decode cX8_doAct 163 = .ok (.iconst 1, 1) := by decide +kernel
theorem dX8_doAct_164 : decode cX8_doAct 164 = .ok (.goto 4, 3) := by decide +kernel
theorem dX8_doAct_167 : decode cX8_doAct 167 = .ok (.iconst 0, 1) := by decide +kernel
theorem dX8_doAct_168 : decode cX8_doAct 168 = .ok (.ireturn, 1) := by decide +kernel
theorem dX8_doAct_169 : decode cX8_doAct 169 = .ok (.iconst 0, 1) := by decide +kernel
theorem dX8_doAct_170 : decode cX8_doAct 170 = .ok (.ireturn, 1) := by decide +kernel
theorem dX8_inRange_0 : decode cX8_inRange 0 = .ok (.iload_n 0, 1) := by decide +kernel
theorem dX8_inRange_1 : decode cX8_inRange 1 = .ok (.iload_n 1, 1) := by decide +kernel
theorem dX8_inRange_2 : decode cX8_inRange 2 = .ok (.if_icmp .lt 12, 3) := by decide +kernel
theorem dX8_inRange_5 : decode cX8_inRange 5 = .ok (.iload_n 0, 1) := by decide +kernel
theorem dX8_inRange_6 : decode cX8_inRange 6 = .ok (.iload_n 2, 1) := by decide +kernel
theorem dX8_inRange_7 : decode cX8_inRange 7 = .ok (.if_icmp .gt 7, 3) := by decide +kernel
theorem dX8_inRange_10 : decode cX8_inRange 10 = .ok (.iconst 1, 1) := by decide +kernel
theorem dX8_inRange_11 : decode cX8_inRange 11 = .ok (.goto 4, 3) := by decide +kernel
theorem dX8_inRange_14 : decode cX8_inRange 14 = .ok (.iconst 0, 1) := by decide +kernel
theorem dX8_inRange_15 : decode cX8_inRange 15 = .ok (.ireturn, 1) := by decide +kernel
theorem dX8_canBeTold_0 : decode cX8_canBeTold 0 = .ok (.iload_n 0, 1) := by decide +kernel
theorem dX8_canBeTold_1 : decode cX8_canBeTold 1 = .ok (.iconst 0, 1) := by decide +kernel
theorem dX8_canBeTold_2 : decode cX8_canBeTold 2 = .ok (.iconst 3, 1) := by decide +kernel
theorem dX8_canBeTold_3 : decode cX8_canBeTold 3 = .ok (.invokestatic 121, 3) := by decide +kernel
theorem dX8_canBeTold_6 : decode cX8_canBeTold 6 = .ok (.ifCond .eq 24, 3) := by decide +kernel
theorem dX8_canBeTold_9 : decode cX8_canBeTold 9 = .ok (.iload_n 1, 1) := by decide +kernel
theorem dX8_canBeTold_10 : decode cX8_canBeTold 10 = .ok (.getstatic 345, 3) := by decide +kernel
theorem dX8_canBeTold_13 : decode cX8_canBeTold 13 = .ok (.iload_n 0, 1) := by decide +kernel
theorem dX8_canBeTold_14 : decode cX8_canBeTold 14 = .ok (.iaload, 1) := by decide +kernel
theorem dX8_canBeTold_15 : decode cX8_canBeTold 15 = .ok (.getstatic 348, 3) := by decide +kernel
theorem dX8_canBeTold_18 : decode cX8_canBeTold 18 = .ok (.iload_n 0, 1) := by decide +kernel
theorem dX8_canBeTold_19 : decode cX8_canBeTold 19 = .ok (.iaload, 1) := by decide +kernel
theorem dX8_canBeTold_20 : decode cX8_canBeTold 20 = .ok (.invokestatic 121, 3) := by decide +kernel
theorem dX8_canBeTold_23 : decode cX8_canBeTold 23 = .ok (.ifCond .eq 7, 3) := by decide +kernel
theorem dX8_canBeTold_26 : decode cX8_canBeTold 26 = .ok (.iconst 1, 1) := by decide +kernel
theorem dX8_canBeTold_27 : decode cX8_canBeTold 27 = .ok (.goto 4, 3) := by decide +kernel
theorem dX8_canBeTold_30 : decode cX8_canBeTold 30 = .ok (.iconst 0, 1) := by decide +kernel
theorem dX8_canBeTold_31 : decode cX8_canBeTold 31 = .ok (.ireturn, 1) := by decide +kernel
theorem dX8_cutUp_0 : decode cX8_cutUp 0 = .ok (.iload_n 1, 1) := by decide +kernel
theorem dX8_cutUp_1 : decode cX8_cutUp 1 = .ok (.ifCond .gt 7, 3) := by decide +kernel
theorem dX8_cutUp_4 : decode cX8_cutUp 4 = .ok (.iconst 0, 1) := by decide +kernel
theorem dX8_cutUp_5 : decode cX8_cutUp 5 = .ok (.goto 10, 3) := by decide +kernel
theorem dX8_cutUp_8 : decode cX8_cutUp 8 = .ok (.iload_n 0, 1) := by decide +kernel
theorem dX8_cutUp_9 : decode cX8_cutUp 9 = .ok (.iload_n 1, 1) := by decide +kernel
theorem dX8_cutUp_10 : decode cX8_cutUp 10 = .ok (.iadd, 1) := by decide +kernel
theorem dX8_cutUp_11 : decode cX8_cutUp 11 = .ok (.iconst 1, 1) := by decide +kernel
theorem dX8_cutUp_12 : decode cX8_cutUp 12 = .ok (.isub, 1) := by decide +kernel
theorem dX8_cutUp_13 : decode cX8_cutUp 13 = .ok (.iload_n 1, 1) := by decide +kernel
theorem dX8_cutUp_14 : decode cX8_cutUp 14 = .ok (.idiv, 1) := by decide +kernel
theorem dX8_cutUp_15 : decode cX8_cutUp 15 = .ok (.ireturn, 1) := by decide +kernel
theorem dX8_byOfPlied_0 : decode cX8_byOfPlied 0 = .ok (.sipush 1000, 3) := by decide +kernel
theorem dX8_byOfPlied_3 : decode cX8_byOfPlied 3 = .ok (.iload_n 0, 1) := by decide +kernel
theorem dX8_byOfPlied_4 : decode cX8_byOfPlied 4 = .ok (.invokestatic 192, 3) := by decide +kernel
theorem dX8_byOfPlied_7 : decode cX8_byOfPlied 7 = .ok (.iload_n 1, 1) := by decide +kernel
theorem dX8_byOfPlied_8 : decode cX8_byOfPlied 8 = .ok (.imul, 1) := by decide +kernel
theorem dX8_byOfPlied_9 : decode cX8_byOfPlied 9 = .ok (.isub, 1) := by decide +kernel
theorem dX8_byOfPlied_10 : decode cX8_byOfPlied 10 = .ok (.ireturn, 1) := by decide +kernel
theorem dX8_plannedHeavy_0 : decode cX8_plannedHeavy 0 = .ok (.iload_n 2, 1) := by decide +kernel
theorem dX8_plannedHeavy_1 : decode cX8_plannedHeavy 1 = .ok (.iload_n 0, 1) := by decide +kernel
theorem dX8_plannedHeavy_2 : decode cX8_plannedHeavy 2 = .ok (.imul, 1) := by decide +kernel
theorem dX8_plannedHeavy_3 : decode cX8_plannedHeavy 3 = .ok (.ldc_w 351, 3) := by decide +kernel
theorem dX8_plannedHeavy_6 : decode cX8_plannedHeavy 6 = .ok (.iload_n 1, 1) := by decide +kernel
theorem dX8_plannedHeavy_7 : decode cX8_plannedHeavy 7 = .ok (.iload_n 2, 1) := by decide +kernel
theorem dX8_plannedHeavy_8 : decode cX8_plannedHeavy 8 = .ok (.invokestatic 352, 3) := by decide +kernel
theorem dX8_plannedHeavy_11 : decode cX8_plannedHeavy 11 = .ok (.invokestatic 355, 3) := by decide +kernel
theorem dX8_plannedHeavy_14 : decode cX8_plannedHeavy 14 = .ok (.imul, 1) := by decide +kernel
theorem dX8_plannedHeavy_15 : decode cX8_plannedHeavy 15 = .ok (.bipush 100, 2) := by decide +kernel
theorem dX8_plannedHeavy_17 : decode cX8_plannedHeavy 17 = .ok (.idiv, 1) := by decide +kernel
theorem dX8_plannedHeavy_18 : decode cX8_plannedHeavy 18 = .ok (.ireturn, 1) := by decide +kernel
theorem dX8_fibrePull_0 : decode cX8_fibrePull 0 = .ok (.iload_n 0, 1) := by decide +kernel
theorem dX8_fibrePull_1 : decode cX8_fibrePull 1 = .ok (.tableswitch 50 1 3 #[27, 33, 39], 27) := by decide +kernel
theorem dX8_fibrePull_28 : decode cX8_fibrePull 28 = .ok (.iconst 2, 1) := by decide +kernel
theorem dX8_fibrePull_29 : decode cX8_fibrePull 29 = .ok (.iload_n 1, 1) := by decide +kernel
theorem dX8_fibrePull_30 : decode cX8_fibrePull 30 = .ok (.imul, 1) := by decide +kernel
theorem dX8_fibrePull_31 : decode cX8_fibrePull 31 = .ok (.iload_n 2, 1) := by decide +kernel
theorem dX8_fibrePull_32 : decode cX8_fibrePull 32 = .ok (.imul, 1) := by decide +kernel
theorem dX8_fibrePull_33 : decode cX8_fibrePull 33 = .ok (.ireturn, 1) := by decide +kernel
theorem dX8_fibrePull_34 : decode cX8_fibrePull 34 = .ok (.iload_n 1, 1) := by decide +kernel
theorem dX8_fibrePull_35 : decode cX8_fibrePull 35 = .ok (.iload_n 2, 1) := by decide +kernel
theorem dX8_fibrePull_36 : decode cX8_fibrePull 36 = .ok (.imul, 1) := by decide +kernel
theorem dX8_fibrePull_37 : decode cX8_fibrePull 37 = .ok (.iconst 2, 1) := by decide +kernel
theorem dX8_fibrePull_38 : decode cX8_fibrePull 38 = .ok (.idiv, 1) := by decide +kernel
theorem dX8_fibrePull_39 : decode cX8_fibrePull 39 = .ok (.ireturn, 1) := by decide +kernel
theorem dX8_fibrePull_40 : decode cX8_fibrePull 40 = .ok (.iload_n 1, 1) := by decide +kernel
theorem dX8_fibrePull_41 : decode cX8_fibrePull 41 = .ok (.iload_n 2, 1) := by decide +kernel
theorem dX8_fibrePull_42 : decode cX8_fibrePull 42 = .ok (.imul, 1) := by decide +kernel
theorem dX8_fibrePull_43 : decode cX8_fibrePull 43 = .ok (.iload_n 1, 1) := by decide +kernel
theorem dX8_fibrePull_44 : decode cX8_fibrePull 44 = .ok (.iload_n 2, 1) := by decide +kernel
theorem dX8_fibrePull_45 : decode cX8_fibrePull 45 = .ok (.invokestatic 358, 3) := by decide +kernel
theorem dX8_fibrePull_48 : decode cX8_fibrePull 48 = .ok (.imul, 1) := by decide +kernel
theorem dX8_fibrePull_49 : decode cX8_fibrePull 49 = .ok (.iadd, 1) := by decide +kernel
theorem dX8_fibrePull_50 : decode cX8_fibrePull 50 = .ok (.ireturn, 1) := by decide +kernel
theorem dX8_fibrePull_51 : decode cX8_fibrePull 51 = .ok (.iload_n 1, 1) := by decide +kernel
theorem dX8_fibrePull_52 : decode cX8_fibrePull 52 = .ok (.iload_n 2, 1) := by decide +kernel
theorem dX8_fibrePull_53 : decode cX8_fibrePull 53 = .ok (.imul, 1) := by decide +kernel
theorem dX8_fibrePull_54 : decode cX8_fibrePull 54 = .ok (.ireturn, 1) := by decide +kernel
theorem dX8_beyondEase_0 : decode cX8_beyondEase 0 = .ok (.iload_n 0, 1) := by decide +kernel
theorem dX8_beyondEase_1 : decode cX8_beyondEase 1 = .ok (.bipush 20, 2) := by decide +kernel
theorem dX8_beyondEase_3 : decode cX8_beyondEase 3 = .ok (.if_icmp .le 8, 3) := by decide +kernel
theorem dX8_beyondEase_6 : decode cX8_beyondEase 6 = .ok (.iload_n 0, 1) := by decide +kernel
theorem dX8_beyondEase_7 : decode cX8_beyondEase 7 = .ok (.bipush 20, 2) := by decide +kernel
theorem dX8_beyondEase_9 : decode cX8_beyondEase 9 = .ok (.isub, 1) := by decide +kernel
theorem dX8_beyondEase_10 : decode cX8_beyondEase 10 = .ok (.ireturn, 1) := by decide +kernel
theorem dX8_beyondEase_11 : decode cX8_beyondEase 11 = .ok (.iload_n 0, 1) := by decide +kernel
theorem dX8_beyondEase_12 : decode cX8_beyondEase 12 = .ok (.bipush (-20), 2) := by decide +kernel
theorem dX8_beyondEase_14 : decode cX8_beyondEase 14 = .ok (.if_icmp .ge 10, 3) := by decide +kernel
theorem dX8_beyondEase_17 : decode cX8_beyondEase 17 = .ok (.iload_n 0, 1) := by decide +kernel
theorem dX8_beyondEase_18 : decode cX8_beyondEase 18 = .ok (.bipush 20, 2) := by decide +kernel
theorem dX8_beyondEase_20 : decode cX8_beyondEase 20 = .ok (.iadd, 1) := by decide +kernel
theorem dX8_beyondEase_21 : decode cX8_beyondEase 21 = .ok (.goto 4, 3) := by decide +kernel
theorem dX8_beyondEase_24 : decode cX8_beyondEase 24 = .ok (.iconst 0, 1) := by decide +kernel
theorem dX8_beyondEase_25 : decode cX8_beyondEase 25 = .ok (.ireturn, 1) := by decide +kernel
theorem dX8_commonDivisor_0 : decode cX8_commonDivisor 0 = .ok (.lload_n 0, 1) := by decide +kernel
theorem dX8_commonDivisor_1 : decode cX8_commonDivisor 1 = .ok (.lstore 4, 2) := by decide +kernel
theorem dX8_commonDivisor_3 : decode cX8_commonDivisor 3 = .ok (.lload_n 2, 1) := by decide +kernel
theorem dX8_commonDivisor_4 : decode cX8_commonDivisor 4 = .ok (.lstore 6, 2) := by decide +kernel
theorem dX8_commonDivisor_6 : decode cX8_commonDivisor 6 = .ok (.iconst 0, 1) := by decide +kernel
theorem dX8_commonDivisor_7 : decode cX8_commonDivisor 7 = .ok (.istore 8, 2) := by decide +kernel
theorem dX8_commonDivisor_9 : decode cX8_commonDivisor 9 = .ok (.iload 8, 2) := by decide +kernel
theorem dX8_commonDivisor_11 : decode cX8_commonDivisor 11 = .ok (.sipush 128, 3) := by decide +kernel
theorem dX8_commonDivisor_14 : decode cX8_commonDivisor 14 = .ok (.if_icmp .ge 31, 3) := by decide +kernel
theorem dX8_commonDivisor_17 : decode cX8_commonDivisor 17 = .ok (.lload 6, 2) := by decide +kernel
theorem dX8_commonDivisor_19 : decode cX8_commonDivisor 19 = .ok (.lconst 0, 1) := by decide +kernel
theorem dX8_commonDivisor_20 : decode cX8_commonDivisor 20 = .ok (.lcmp, 1) := by decide +kernel
theorem dX8_commonDivisor_21 : decode cX8_commonDivisor 21 = .ok (.ifCond .eq 24, 3) := by decide +kernel
theorem dX8_commonDivisor_24 : decode cX8_commonDivisor 24 = .ok (.lload 4, 2) := by decide +kernel
theorem dX8_commonDivisor_26 : decode cX8_commonDivisor 26 = .ok (.lload 6, 2) := by decide +kernel
theorem dX8_commonDivisor_28 : decode cX8_commonDivisor 28 = .ok (.lrem, 1) := by decide +kernel
theorem dX8_commonDivisor_29 : decode cX8_commonDivisor 29 = .ok (.lstore 9, 2) := by decide +kernel
theorem dX8_commonDivisor_31 : decode cX8_commonDivisor 31 = .ok (.lload 6, 2) := by decide +kernel
theorem dX8_commonDivisor_33 : decode cX8_commonDivisor 33 = .ok (.lstore 4, 2) := by decide +kernel
theorem dX8_commonDivisor_35 : decode cX8_commonDivisor 35 = .ok (.lload 9, 2) := by decide +kernel
theorem dX8_commonDivisor_37 : decode cX8_commonDivisor 37 = .ok (.lstore 6, 2) := by decide +kernel
theorem dX8_commonDivisor_39 : decode cX8_commonDivisor 39 = .ok (.iinc 8 1, 3) := by decide +kernel
theorem dX8_commonDivisor_42 : decode cX8_commonDivisor 42 = .ok (.goto (-33), 3) := by decide +kernel
theorem dX8_commonDivisor_45 : decode cX8_commonDivisor 45 = .ok (.lload 4, 2) := by decide +kernel
theorem dX8_commonDivisor_47 : decode cX8_commonDivisor 47 = .ok (.lreturn, 1) := by decide +kernel
theorem dX8_areAlike_0 : decode cX8_areAlike 0 = .ok (.aload_n 0, 1) := by decide +kernel
theorem dX8_areAlike_1 : decode cX8_areAlike 1 = .ok (.iload_n 1, 1) := by decide +kernel
theorem dX8_areAlike_2 : decode cX8_areAlike 2 = .ok (.iconst 4, 1) := by decide +kernel
theorem dX8_areAlike_3 : decode cX8_areAlike 3 = .ok (.invokevirtual 130, 3) := by decide +kernel
theorem dX8_areAlike_6 : decode cX8_areAlike 6 = .ok (.istore 5, 2) := by decide +kernel
theorem dX8_areAlike_8 : decode cX8_areAlike 8 = .ok (.iload 4, 2) := by decide +kernel
theorem dX8_areAlike_10 : decode cX8_areAlike 10 = .ok (.iconst 3, 1) := by decide +kernel
theorem dX8_areAlike_11 : decode cX8_areAlike 11 = .ok (.if_icmp .gt 61, 3) := by decide +kernel
theorem dX8_areAlike_14 : decode cX8_areAlike 14 = .ok (.iload 5, 2) := by decide +kernel
theorem dX8_areAlike_16 : decode cX8_areAlike 16 = .ok (.aload_n 0, 1) := by decide +kernel
theorem dX8_areAlike_17 : decode cX8_areAlike 17 = .ok (.iload_n 2, 1) := by decide +kernel
theorem dX8_areAlike_18 : decode cX8_areAlike 18 = .ok (.iconst 4, 1) := by decide +kernel
theorem dX8_areAlike_19 : decode cX8_areAlike 19 = .ok (.invokevirtual 130, 3) := by decide +kernel
theorem dX8_areAlike_22 : decode cX8_areAlike 22 = .ok (.if_icmp .ne 50, 3) := by decide +kernel
theorem dX8_areAlike_25 : decode cX8_areAlike 25 = .ok (.aload_n 0, 1) := by decide +kernel
theorem dX8_areAlike_26 : decode cX8_areAlike 26 = .ok (.iload_n 1, 1) := by decide +kernel
theorem dX8_areAlike_27 : decode cX8_areAlike 27 = .ok (.iconst 0, 1) := by decide +kernel
theorem dX8_areAlike_28 : decode cX8_areAlike 28 = .ok (.invokevirtual 130, 3) := by decide +kernel
theorem dX8_areAlike_31 : decode cX8_areAlike 31 = .ok (.iload_n 3, 1) := by decide +kernel
theorem dX8_areAlike_32 : decode cX8_areAlike 32 = .ok (.aload_n 0, 1) := by decide +kernel
theorem dX8_areAlike_33 : decode cX8_areAlike 33 = .ok (.iload_n 2, 1) := by decide +kernel
theorem dX8_areAlike_34 : decode cX8_areAlike 34 = .ok (.iconst 0, 1) := by decide +kernel
theorem dX8_areAlike_35 : decode cX8_areAlike 35 = .ok (.invokevirtual 130, 3) := by decide +kernel
theorem dX8_areAlike_38 : decode cX8_areAlike 38 = .ok (.imul, 1) := by decide +kernel
theorem dX8_areAlike_39 : decode cX8_areAlike 39 = .ok (.if_icmp .ne 33, 3) := by decide +kernel
theorem dX8_areAlike_42 : decode cX8_areAlike 42 = .ok (.aload_n 0, 1) := by decide +kernel
theorem dX8_areAlike_43 : decode cX8_areAlike 43 = .ok (.iload_n 1, 1) := by decide +kernel
theorem dX8_areAlike_44 : decode cX8_areAlike 44 = .ok (.iconst 2, 1) := by decide +kernel
theorem dX8_areAlike_45 : decode cX8_areAlike 45 = .ok (.invokevirtual 130, 3) := by decide +kernel
theorem dX8_areAlike_48 : decode cX8_areAlike 48 = .ok (.aload_n 0, 1) := by decide +kernel
theorem dX8_areAlike_49 : decode cX8_areAlike 49 = .ok (.iload_n 2, 1) := by decide +kernel
theorem dX8_areAlike_50 : decode cX8_areAlike 50 = .ok (.iconst 2, 1) := by decide +kernel
theorem dX8_areAlike_51 : decode cX8_areAlike 51 = .ok (.invokevirtual 130, 3) := by decide +kernel
theorem dX8_areAlike_54 : decode cX8_areAlike 54 = .ok (.if_icmp .ne 18, 3) := by decide +kernel
theorem dX8_areAlike_57 : decode cX8_areAlike 57 = .ok (.aload_n 0, 1) := by decide +kernel
theorem dX8_areAlike_58 : decode cX8_areAlike 58 = .ok (.iload_n 1, 1) := by decide +kernel
theorem dX8_areAlike_59 : decode cX8_areAlike 59 = .ok (.iconst 1, 1) := by decide +kernel
theorem dX8_areAlike_60 : decode cX8_areAlike 60 = .ok (.invokevirtual 130, 3) := by decide +kernel
theorem dX8_areAlike_63 : decode cX8_areAlike 63 = .ok (.aload_n 0, 1) := by decide +kernel
theorem dX8_areAlike_64 : decode cX8_areAlike 64 = .ok (.iload_n 2, 1) := by decide +kernel
theorem dX8_areAlike_65 : decode cX8_areAlike 65 = .ok (.iconst 1, 1) := by decide +kernel
theorem dX8_areAlike_66 : decode cX8_areAlike 66 = .ok (.invokevirtual 130, 3) := by decide +kernel
theorem dX8_areAlike_69 : decode cX8_areAlike 69 = .ok (.if_icmp .eq 5, 3) := by decide +kernel
theorem dX8_areAlike_72 : decode cX8_areAlike 72 = .ok (.iconst 0, 1) := by decide +kernel
theorem dX8_areAlike_73 : decode cX8_areAlike 73 = .ok (.ireturn, 1) := by decide +kernel
theorem dX8_areAlike_74 : decode cX8_areAlike 74 = .ok (.iconst 0, 1) := by decide +kernel
theorem dX8_areAlike_75 : decode cX8_areAlike 75 = .ok (.istore 6, 2) := by decide +kernel
theorem dX8_areAlike_77 : decode cX8_areAlike 77 = .ok (.iload 6, 2) := by decide +kernel
theorem dX8_areAlike_79 : decode cX8_areAlike 79 = .ok (.iload 5, 2) := by decide +kernel
theorem dX8_areAlike_81 : decode cX8_areAlike 81 = .ok (.if_icmp .ge 37, 3) := by decide +kernel
theorem dX8_areAlike_84 : decode cX8_areAlike 84 = .ok (.aload_n 0, 1) := by decide +kernel
theorem dX8_areAlike_85 : decode cX8_areAlike 85 = .ok (.aload_n 0, 1) := by decide +kernel
theorem dX8_areAlike_86 : decode cX8_areAlike 86 = .ok (.iload_n 1, 1) := by decide +kernel
theorem dX8_areAlike_87 : decode cX8_areAlike 87 = .ok (.iload 6, 2) := by decide +kernel
theorem dX8_areAlike_89 : decode cX8_areAlike 89 = .ok (.invokevirtual 134, 3) := by decide +kernel
theorem dX8_areAlike_92 : decode cX8_areAlike 92 = .ok (.aload_n 0, 1) := by decide +kernel
theorem dX8_areAlike_93 : decode cX8_areAlike 93 = .ok (.iload_n 2, 1) := by decide +kernel
theorem dX8_areAlike_94 : decode cX8_areAlike 94 = .ok (.iload 6, 2) := by decide +kernel
theorem dX8_areAlike_96 : decode cX8_areAlike 96 = .ok (.invokevirtual 134, 3) := by decide +kernel
theorem dX8_areAlike_99 : decode cX8_areAlike 99 = .ok (.iload_n 3, 1) := by decide +kernel
theorem dX8_areAlike_100 : decode cX8_areAlike 100 = .ok (.iload 4, 2) := by decide +kernel
theorem dX8_areAlike_102 : decode cX8_areAlike 102 = .ok (.iconst 1, 1) := by decide +kernel
theorem dX8_areAlike_103 : decode cX8_areAlike 103 = .ok (.iadd, 1) := by decide +kernel
theorem dX8_areAlike_104 : decode cX8_areAlike 104 = .ok (.invokestatic 214, 3) := by decide +kernel
theorem dX8_areAlike_107 : decode cX8_areAlike 107 = .ok (.ifCond .ne 5, 3) := by decide +kernel
theorem dX8_areAlike_110 : decode cX8_areAlike 110 = .ok (.iconst 0, 1) := by decide +kernel
theorem dX8_areAlike_111 : decode cX8_areAlike 111 = .ok (.ireturn, 1) := by decide +kernel
theorem dX8_areAlike_112 : decode cX8_areAlike 112 = .ok (.iinc 6 1, 3) := by decide +kernel
theorem dX8_areAlike_115 : decode cX8_areAlike 115 = .ok (.goto (-38), 3) := by decide +kernel
theorem dX8_areAlike_118 : decode cX8_areAlike 118 = .ok (.iconst 1, 1) := by decide +kernel
theorem dX8_areAlike_119 : decode cX8_areAlike 119 = .ok (.ireturn, 1) := by decide +kernel
theorem dX9_in_0 : decode cX9_in 0 = .ok (.iload_n 0, 1) := by decide +kernel
theorem dX9_in_1 : decode cX9_in 1 = .ok (.iload_n 1, 1) := by decide +kernel
theorem dX9_in_2 : decode cX9_in 2 = .ok (.if_icmp .lt 12, 3) := by decide +kernel
theorem dX9_in_5 : decode cX9_in 5 = .ok (.iload_n 0, 1) := by decide +kernel
theorem dX9_in_6 : decode cX9_in 6 = .ok (.iload_n 2, 1) := by decide +kernel
theorem dX9_in_7 : decode cX9_in 7 = .ok (.if_icmp .gt 7, 3) := by decide +kernel
theorem dX9_in_10 : decode cX9_in 10 = .ok (.iconst 1, 1) := by decide +kernel
theorem dX9_in_11 : decode cX9_in 11 = .ok (.goto 4, 3) := by decide +kernel
theorem dX9_in_14 : decode cX9_in 14 = .ok (.iconst 0, 1) := by decide +kernel
theorem dX9_in_15 : decode cX9_in 15 = .ok (.ireturn, 1) := by decide +kernel
theorem dX9_isYarn_0 : decode cX9_isYarn 0 = .ok (.iload_n 1, 1) := by decide +kernel
theorem dX9_isYarn_1 : decode cX9_isYarn 1 = .ok (.iconst 0, 1) := by decide +kernel
theorem dX9_isYarn_2 : decode cX9_isYarn 2 = .ok (.aload_n 0, 1) := by decide +kernel
theorem dX9_isYarn_3 : decode cX9_isYarn 3 = .ok (.getfield 139, 3) := by decide +kernel
theorem dX9_isYarn_6 : decode cX9_isYarn 6 = .ok (.iconst 1, 1) := by decide +kernel
theorem dX9_isYarn_7 : decode cX9_isYarn 7 = .ok (.isub, 1) := by decide +kernel
theorem dX9_isYarn_8 : decode cX9_isYarn 8 = .ok (.invokestatic 143, 3) := by decide +kernel
theorem dX9_isYarn_11 : decode cX9_isYarn 11 = .ok (.ireturn, 1) := by decide +kernel
theorem dX9_isThread_0 : decode cX9_isThread 0 = .ok (.aload_n 0, 1) := by decide +kernel
theorem dX9_isThread_1 : decode cX9_isThread 1 = .ok (.iload_n 1, 1) := by decide +kernel
theorem dX9_isThread_2 : decode cX9_isThread 2 = .ok (.invokevirtual 147, 3) := by decide +kernel
theorem dX9_isThread_5 : decode cX9_isThread 5 = .ok (.ifCond .eq 16, 3) := by decide +kernel
theorem dX9_isThread_8 : decode cX9_isThread 8 = .ok (.aload_n 0, 1) := by decide +kernel
theorem dX9_isThread_9 : decode cX9_isThread 9 = .ok (.getfield 9, 3) := by decide +kernel
theorem dX9_isThread_12 : decode cX9_isThread 12 = .ok (.iload_n 1, 1) := by decide +kernel
theorem dX9_isThread_13 : decode cX9_isThread 13 = .ok (.iaload, 1) := by decide +kernel
theorem dX9_isThread_14 : decode cX9_isThread 14 = .ok (.ifCond .ne 7, 3) := by decide +kernel
theorem dX9_isThread_17 : decode cX9_isThread 17 = .ok (.iconst 1, 1) := by decide +kernel
theorem dX9_isThread_18 : decode cX9_isThread 18 = .ok (.goto 4, 3) := by decide +kernel
theorem dX9_isThread_21 : decode cX9_isThread 21 = .ok (.iconst 0, 1) := by decide +kernel
theorem dX9_isThread_22 : decode cX9_isThread 22 = .ok (.ireturn, 1) := by decide +kernel
theorem dX9_sizeOf_0 : decode cX9_sizeOf 0 = .ok (.iload_n 0, 1) := by decide +kernel
theorem dX9_sizeOf_1 : decode cX9_sizeOf 1 = .ok (.ifCond .ge 8, 3) := by decide +kernel
theorem dX9_sizeOf_4 : decode cX9_sizeOf 4 = .ok (.iload_n 0, 1) := by decide +kernel
theorem dX9_sizeOf_5 : decode cX9_sizeOf 5 = .ok (.ineg, 1) := by decide +kernel
theorem dX9_sizeOf_6 : decode cX9_sizeOf 6 = .ok (.goto 4, 3) := by decide +kernel
theorem dX9_sizeOf_9 : decode cX9_sizeOf 9 = .ok (.iload_n 0, 1) := by decide +kernel
theorem dX9_sizeOf_10 : decode cX9_sizeOf 10 = .ok (.ireturn, 1) := by decide +kernel
theorem dX9_depthOf_0 : decode cX9_depthOf 0 = .ok (.iconst 0, 1) := by decide +kernel
theorem dX9_depthOf_1 : decode cX9_depthOf 1 = .ok (.istore_n 2, 1) := by decide +kernel
theorem dX9_depthOf_2 : decode cX9_depthOf 2 = .ok (.iconst 0, 1) := by decide +kernel
theorem dX9_depthOf_3 : decode cX9_depthOf 3 = .ok (.istore_n 3, 1) := by decide +kernel
theorem dX9_depthOf_4 : decode cX9_depthOf 4 = .ok (.iload_n 3, 1) := by decide +kernel
theorem dX9_depthOf_5 : decode cX9_depthOf 5 = .ok (.aload_n 0, 1) := by decide +kernel
theorem dX9_depthOf_6 : decode cX9_depthOf 6 = .ok (.getfield 9, 3) := by decide +kernel
theorem dX9_depthOf_9 : decode cX9_depthOf 9 = .ok (.iload_n 1, 1) := by decide +kernel
theorem dX9_depthOf_10 : decode cX9_depthOf 10 = .ok (.iaload, 1) := by decide +kernel
theorem dX9_depthOf_11 : decode cX9_depthOf 11 = .ok (.if_icmp .ge 40, 3) := by decide +kernel
theorem dX9_depthOf_14 : decode cX9_depthOf 14 = .ok (.iconst 1, 1) := by decide +kernel
theorem dX9_depthOf_15 : decode cX9_depthOf 15 = .ok (.aload_n 0, 1) := by decide +kernel
theorem dX9_depthOf_16 : decode cX9_depthOf 16 = .ok (.aload_n 0, 1) := by decide +kernel
theorem dX9_depthOf_17 : decode cX9_depthOf 17 = .ok (.getfield 15, 3) := by decide +kernel
theorem dX9_depthOf_20 : decode cX9_depthOf 20 = .ok (.iconst 4, 1) := by decide +kernel
theorem dX9_depthOf_21 : decode cX9_depthOf 21 = .ok (.iload_n 1, 1) := by decide +kernel
theorem dX9_depthOf_22 : decode cX9_depthOf 22 = .ok (.imul, 1) := by decide +kernel
theorem dX9_depthOf_23 : decode cX9_depthOf 23 = .ok (.iload_n 3, 1) := by decide +kernel
theorem dX9_depthOf_24 : decode cX9_depthOf 24 = .ok (.iadd, 1) := by decide +kernel
theorem dX9_depthOf_25 : decode cX9_depthOf 25 = .ok (.iaload, 1) := by decide +kernel
theorem dX9_depthOf_26 : decode cX9_depthOf 26 = .ok (.invokevirtual 151, 3) := by decide +kernel
theorem dX9_depthOf_29 : decode cX9_depthOf 29 = .ok (.iadd, 1) := by decide +kernel
theorem dX9_depthOf_30 : decode cX9_depthOf 30 = .ok (.istore 4, 2) := by decide +kernel
theorem dX9_depthOf_32 : decode cX9_depthOf 32 = .ok (.iload 4, 2) := by decide +kernel
theorem dX9_depthOf_34 : decode cX9_depthOf 34 = .ok (.iload_n 2, 1) := by decide +kernel
theorem dX9_depthOf_35 : decode cX9_depthOf 35 = .ok (.if_icmp .le 8, 3) := by decide +kernel
theorem dX9_depthOf_38 : decode cX9_depthOf 38 = .ok (.iload 4, 2) := by decide +kernel
theorem dX9_depthOf_40 : decode cX9_depthOf 40 = .ok (.goto 4, 3) := by decide +kernel
theorem dX9_depthOf_43 : decode cX9_depthOf 43 = .ok (.iload_n 2, 1) := by decide +kernel
theorem dX9_depthOf_44 : decode cX9_depthOf 44 = .ok (.istore_n 2, 1) := by decide +kernel
theorem dX9_depthOf_45 : decode cX9_depthOf 45 = .ok (.iinc 3 1, 3) := by decide +kernel
theorem dX9_depthOf_48 : decode cX9_depthOf 48 = .ok (.goto (-44), 3) := by decide +kernel
theorem dX9_depthOf_51 : decode cX9_depthOf 51 = .ok (.iload_n 2, 1) := by decide +kernel
theorem dX9_depthOf_52 : decode cX9_depthOf 52 = .ok (.ireturn, 1) := by decide +kernel
theorem dX9_bitsOf_0 : decode cX9_bitsOf 0 = .ok (.iconst 1, 1) := by decide +kernel
theorem dX9_bitsOf_1 : decode cX9_bitsOf 1 = .ok (.iload_n 1, 1) := by decide +kernel
theorem dX9_bitsOf_2 : decode cX9_bitsOf 2 = .ok (.ishl, 1) := by decide +kernel
theorem dX9_bitsOf_3 : decode cX9_bitsOf 3 = .ok (.istore_n 2, 1) := by decide +kernel
theorem dX9_bitsOf_4 : decode cX9_bitsOf 4 = .ok (.iconst 0, 1) := by decide +kernel
theorem dX9_bitsOf_5 : decode cX9_bitsOf 5 = .ok (.istore_n 3, 1) := by decide +kernel
theorem dX9_bitsOf_6 : decode cX9_bitsOf 6 = .ok (.iload_n 3, 1) := by decide +kernel
theorem dX9_bitsOf_7 : decode cX9_bitsOf 7 = .ok (.aload_n 0, 1) := by decide +kernel
theorem dX9_bitsOf_8 : decode cX9_bitsOf 8 = .ok (.getfield 9, 3) := by decide +kernel
theorem dX9_bitsOf_11 : decode cX9_bitsOf 11 = .ok (.iload_n 1, 1) := by decide +kernel
theorem dX9_bitsOf_12 : decode cX9_bitsOf 12 = .ok (.iaload, 1) := by decide +kernel
theorem dX9_bitsOf_13 : decode cX9_bitsOf 13 = .ok (.if_icmp .ge 26, 3) := by decide +kernel
theorem dX9_bitsOf_16 : decode cX9_bitsOf 16 = .ok (.iload_n 2, 1) := by decide +kernel
theorem dX9_bitsOf_17 : decode cX9_bitsOf 17 = .ok (.aload_n 0, 1) := by decide +kernel
theorem dX9_bitsOf_18 : decode cX9_bitsOf 18 = .ok (.aload_n 0, 1) := by decide +kernel
theorem dX9_bitsOf_19 : decode cX9_bitsOf 19 = .ok (.getfield 15, 3) := by decide +kernel
theorem dX9_bitsOf_22 : decode cX9_bitsOf 22 = .ok (.iconst 4, 1) := by decide +kernel
theorem dX9_bitsOf_23 : decode cX9_bitsOf 23 = .ok (.iload_n 1, 1) := by decide +kernel
theorem dX9_bitsOf_24 : decode cX9_bitsOf 24 = .ok (.imul, 1) := by decide +kernel
theorem dX9_bitsOf_25 : decode cX9_bitsOf 25 = .ok (.iload_n 3, 1) := by decide +kernel
theorem dX9_bitsOf_26 : decode cX9_bitsOf 26 = .ok (.iadd, 1) := by decide +kernel
theorem dX9_bitsOf_27 : decode cX9_bitsOf 27 = .ok (.iaload, 1) := by decide +kernel
theorem dX9_bitsOf_28 : decode cX9_bitsOf 28 = .ok (.invokevirtual 155, 3) := by decide +kernel
theorem dX9_bitsOf_31 : decode cX9_bitsOf 31 = .ok (.ior, 1) := by decide +kernel
theorem dX9_bitsOf_32 : decode cX9_bitsOf 32 = .ok (.istore_n 2, 1) := by decide +kernel
theorem dX9_bitsOf_33 : decode cX9_bitsOf 33 = .ok (.iinc 3 1, 3) := by decide +kernel
theorem dX9_bitsOf_36 : decode cX9_bitsOf 36 = .ok (.goto (-30), 3) := by decide +kernel
theorem dX9_bitsOf_39 : decode cX9_bitsOf 39 = .ok (.iload_n 2, 1) := by decide +kernel
theorem dX9_bitsOf_40 : decode cX9_bitsOf 40 = .ok (.ireturn, 1) := by decide +kernel
theorem dX9_isIn_0 : decode cX9_isIn 0 = .ok (.aload_n 0, 1) := by decide +kernel
theorem dX9_isIn_1 : decode cX9_isIn 1 = .ok (.iload_n 1, 1) := by decide +kernel
theorem dX9_isIn_2 : decode cX9_isIn 2 = .ok (.invokevirtual 155, 3) := by decide +kernel
theorem dX9_isIn_5 : decode cX9_isIn 5 = .ok (.iload_n 2, 1) := by decide +kernel
theorem dX9_isIn_6 : decode cX9_isIn 6 = .ok (.ishr, 1) := by decide +kernel
theorem dX9_isIn_7 : decode cX9_isIn 7 = .ok (.iconst 1, 1) := by decide +kernel
theorem dX9_isIn_8 : decode cX9_isIn 8 = .ok (.iand, 1) := by decide +kernel
theorem dX9_isIn_9 : decode cX9_isIn 9 = .ok (.iconst 1, 1) := by decide +kernel
theorem dX9_isIn_10 : decode cX9_isIn 10 = .ok (.if_icmp .ne 7, 3) := by decide +kernel
theorem dX9_isIn_13 : decode cX9_isIn 13 = .ok (.iconst 1, 1) := by decide +kernel
theorem dX9_isIn_14 : decode cX9_isIn 14 = .ok (.goto 4, 3) := by decide +kernel
theorem dX9_isIn_17 : decode cX9_isIn 17 = .ok (.iconst 0, 1) := by decide +kernel
theorem dX9_isIn_18 : decode cX9_isIn 18 = .ok (.ireturn, 1) := by decide +kernel
theorem dX9_pull_0 : decode cX9_pull 0 = .ok (.iload_n 1, 1) := by decide +kernel
theorem dX9_pull_1 : decode cX9_pull 1 = .ok (.iload_n 2, 1) := by decide +kernel
theorem dX9_pull_2 : decode cX9_pull 2 = .ok (.imul, 1) := by decide +kernel
theorem dX9_pull_3 : decode cX9_pull 3 = .ok (.istore_n 3, 1) := by decide +kernel
theorem dX9_pull_4 : decode cX9_pull 4 = .ok (.iload_n 0, 1) := by decide +kernel
theorem dX9_pull_5 : decode cX9_pull 5 = .ok (.ifCond .ne 5, 3) := by decide +kernel
theorem dX9_pull_8 : decode cX9_pull 8 = .ok (.iload_n 3, 1) := by decide +kernel
theorem dX9_pull_9 : decode cX9_pull 9 = .ok (.ireturn, 1) := by decide +kernel
theorem dX9_pull_10 : decode cX9_pull 10 = .ok (.iload_n 0, 1) := by decide +kernel
theorem dX9_pull_11 : decode cX9_pull 11 = .ok (.iconst 1, 1) := by decide +kernel
theorem dX9_pull_12 : decode cX9_pull 12 = .ok (.if_icmp .ne 7, 3) := by decide +kernel
theorem dX9_pull_15 : decode cX9_pull 15 = .ok (.iconst 2, 1) := by decide +kernel
theorem dX9_pull_16 : decode cX9_pull 16 = .ok (.iload_n 3, 1) := by decide +kernel
theorem dX9_pull_17 : decode cX9_pull 17 = .ok (.imul, 1) := by decide +kernel
theorem dX9_pull_18 : decode cX9_pull 18 = .ok (.ireturn, 1) := by decide +kernel
theorem dX9_pull_19 : decode cX9_pull 19 = .ok (.iload_n 0, 1) := by decide +kernel
theorem dX9_pull_20 : decode cX9_pull 20 = .ok (.iconst 2, 1) := by decide +kernel
theorem dX9_pull_21 : decode cX9_pull 21 = .ok (.if_icmp .ne 7, 3) := by decide +kernel
theorem dX9_pull_24 : decode cX9_pull 24 = .ok (.iload_n 3, 1) := by decide +kernel
theorem dX9_pull_25 : decode cX9_pull 25 = .ok (.iconst 2, 1) := by decide +kernel
theorem dX9_pull_26 : decode cX9_pull 26 = .ok (.idiv, 1) := by decide +kernel
theorem dX9_pull_27 : decode cX9_pull 27 = .ok (.ireturn, 1) := by decide +kernel
theorem dX9_pull_28 : decode cX9_pull 28 = .ok (.iload_n 2, 1) := by decide +kernel
theorem dX9_pull_29 : decode cX9_pull 29 = .ok (.bipush 20, 2) := by decide +kernel
theorem dX9_pull_31 : decode cX9_pull 31 = .ok (.if_icmp .le 14, 3) := by decide +kernel
theorem dX9_pull_34 : decode cX9_pull 34 = .ok (.iload_n 3, 1) := by decide +kernel
theorem dX9_pull_35 : decode cX9_pull 35 = .ok (.iload_n 1, 1) := by decide +kernel
theorem dX9_pull_36 : decode cX9_pull 36 = .ok (.iload_n 2, 1) := by decide +kernel
theorem dX9_pull_37 : decode cX9_pull 37 = .ok (.bipush 20, 2) := by decide +kernel
theorem dX9_pull_39 : decode cX9_pull 39 = .ok (.isub, 1) := by decide +kernel
theorem dX9_pull_40 : decode cX9_pull 40 = .ok (.imul, 1) := by decide +kernel
theorem dX9_pull_41 : decode cX9_pull 41 = .ok (.iadd, 1) := by decide +kernel
theorem dX9_pull_42 : decode cX9_pull 42 = .ok (.goto 21, 3) := by decide +kernel
theorem dX9_pull_45 : decode cX9_pull 45 = .ok (.iload_n 2, 1) := by decide +kernel
theorem dX9_pull_46 : decode cX9_pull 46 = .ok (.bipush (-20), 2) := by decide +kernel
theorem dX9_pull_48 : decode cX9_pull 48 = .ok (.if_icmp .ge 14, 3) := by decide +kernel
theorem dX9_pull_51 : decode cX9_pull 51 = .ok (.iload_n 3, 1) := by decide +kernel
theorem dX9_pull_52 : decode cX9_pull 52 = .ok (.iload_n 1, 1) := by decide +kernel
theorem dX9_pull_53 : decode cX9_pull 53 = .ok (.iload_n 2, 1) := by decide +kernel
theorem dX9_pull_54 : decode cX9_pull 54 = .ok (.bipush 20, 2) := by decide +kernel
theorem dX9_pull_56 : decode cX9_pull 56 = .ok (.iadd, 1) := by decide +kernel
theorem dX9_pull_57 : decode cX9_pull 57 = .ok (.imul, 1) := by decide +kernel
theorem dX9_pull_58 : decode cX9_pull 58 = .ok (.iadd, 1) := by decide +kernel
theorem dX9_pull_59 : decode cX9_pull 59 = .ok (.goto 4, 3) := by decide +kernel
theorem dX9_pull_62 : decode cX9_pull 62 = .ok (.iload_n 3, 1) := by decide +kernel
theorem dX9_pull_63 : decode cX9_pull 63 = .ok (.ireturn, 1) := by decide +kernel
theorem dX9_torqueIn_0 : decode cX9_torqueIn 0 = .ok (.iload_n 2, 1) := by decide +kernel
theorem dX9_torqueIn_1 : decode cX9_torqueIn 1 = .ok (.aload_n 0, 1) := by decide +kernel
theorem dX9_torqueIn_2 : decode cX9_torqueIn 2 = .ok (.getfield 24, 3) := by decide +kernel
theorem dX9_torqueIn_5 : decode cX9_torqueIn 5 = .ok (.iload_n 1, 1) := by decide +kernel
theorem dX9_torqueIn_6 : decode cX9_torqueIn 6 = .ok (.iaload, 1) := by decide +kernel
theorem dX9_torqueIn_7 : decode cX9_torqueIn 7 = .ok (.iadd, 1) := by decide +kernel
theorem dX9_torqueIn_8 : decode cX9_torqueIn 8 = .ok (.istore_n 3, 1) := by decide +kernel
theorem dX9_torqueIn_9 : decode cX9_torqueIn 9 = .ok (.aload_n 0, 1) := by decide +kernel
theorem dX9_torqueIn_10 : decode cX9_torqueIn 10 = .ok (.getfield 9, 3) := by decide +kernel
theorem dX9_torqueIn_13 : decode cX9_torqueIn 13 = .ok (.iload_n 1, 1) := by decide +kernel
theorem dX9_torqueIn_14 : decode cX9_torqueIn 14 = .ok (.iaload, 1) := by decide +kernel
theorem dX9_torqueIn_15 : decode cX9_torqueIn 15 = .ok (.ifCond .ne 20, 3) := by decide +kernel
theorem dX9_torqueIn_18 : decode cX9_torqueIn 18 = .ok (.aload_n 0, 1) := by decide +kernel
theorem dX9_torqueIn_19 : decode cX9_torqueIn 19 = .ok (.getfield 18, 3) := by decide +kernel
theorem dX9_torqueIn_22 : decode cX9_torqueIn 22 = .ok (.iload_n 1, 1) := by decide +kernel
theorem dX9_torqueIn_23 : decode cX9_torqueIn 23 = .ok (.iaload, 1) := by decide +kernel
theorem dX9_torqueIn_24 : decode cX9_torqueIn 24 = .ok (.aload_n 0, 1) := by decide +kernel
theorem dX9_torqueIn_25 : decode cX9_torqueIn 25 = .ok (.getfield 21, 3) := by decide +kernel
theorem dX9_torqueIn_28 : decode cX9_torqueIn 28 = .ok (.iload_n 1, 1) := by decide +kernel
theorem dX9_torqueIn_29 : decode cX9_torqueIn 29 = .ok (.iaload, 1) := by decide +kernel
theorem dX9_torqueIn_30 : decode cX9_torqueIn 30 = .ok (.iload_n 3, 1) := by decide +kernel
theorem dX9_torqueIn_31 : decode cX9_torqueIn 31 = .ok (.invokestatic 158, 3) := by decide +kernel
theorem dX9_torqueIn_34 : decode cX9_torqueIn 34 = .ok (.ireturn, 1) := by decide +kernel
theorem dX9_torqueIn_35 : decode cX9_torqueIn 35 = .ok (.iload_n 3, 1) := by decide +kernel
theorem dX9_torqueIn_36 : decode cX9_torqueIn 36 = .ok (.aload_n 0, 1) := by decide +kernel
theorem dX9_torqueIn_37 : decode cX9_torqueIn 37 = .ok (.getfield 9, 3) := by decide +kernel
theorem dX9_torqueIn_40 : decode cX9_torqueIn 40 = .ok (.iload_n 1, 1) := by decide +kernel
theorem dX9_torqueIn_41 : decode cX9_torqueIn 41 = .ok (.iaload, 1) := by decide +kernel
theorem dX9_torqueIn_42 : decode cX9_torqueIn 42 = .ok (.imul, 1) := by decide +kernel
theorem dX9_torqueIn_43 : decode cX9_torqueIn 43 = .ok (.istore 4, 2) := by decide +kernel
theorem dX9_torqueIn_45 : decode cX9_torqueIn 45 = .ok (.iconst 0, 1) := by decide +kernel
theorem dX9_torqueIn_46 : decode cX9_torqueIn 46 = .ok (.istore 5, 2) := by decide +kernel
theorem dX9_torqueIn_48 : decode cX9_torqueIn 48 = .ok (.iload 5, 2) := by decide +kernel
theorem dX9_torqueIn_50 : decode cX9_torqueIn 50 = .ok (.aload_n 0, 1) := by decide +kernel
theorem dX9_torqueIn_51 : decode cX9_torqueIn 51 = .ok (.getfield 9, 3) := by decide +kernel
theorem dX9_torqueIn_54 : decode cX9_torqueIn 54 = .ok (.iload_n 1, 1) := by decide +kernel
theorem dX9_torqueIn_55 : decode cX9_torqueIn 55 = .ok (.iaload, 1) := by decide +kernel
theorem dX9_torqueIn_56 : decode cX9_torqueIn 56 = .ok (.if_icmp .ge 30, 3) := by decide +kernel
theorem dX9_torqueIn_59 : decode cX9_torqueIn 59 = .ok (.iload 4, 2) := by decide +kernel
theorem dX9_torqueIn_61 : decode cX9_torqueIn 61 = .ok (.aload_n 0, 1) := by decide +kernel
theorem dX9_torqueIn_62 : decode cX9_torqueIn 62 = .ok (.aload_n 0, 1) := by decide +kernel
theorem dX9_torqueIn_63 : decode cX9_torqueIn 63 = .ok (.getfield 15, 3) := by decide +kernel
theorem dX9_torqueIn_66 : decode cX9_torqueIn 66 = .ok (.iconst 4, 1) := by decide +kernel
theorem dX9_torqueIn_67 : decode cX9_torqueIn 67 = .ok (.iload_n 1, 1) := by decide +kernel
theorem dX9_torqueIn_68 : decode cX9_torqueIn 68 = .ok (.imul, 1) := by decide +kernel
theorem dX9_torqueIn_69 : decode cX9_torqueIn 69 = .ok (.iload 5, 2) := by decide +kernel
theorem dX9_torqueIn_71 : decode cX9_torqueIn 71 = .ok (.iadd, 1) := by decide +kernel
theorem dX9_torqueIn_72 : decode cX9_torqueIn 72 = .ok (.iaload, 1) := by decide +kernel
theorem dX9_torqueIn_73 : decode cX9_torqueIn 73 = .ok (.iload_n 3, 1) := by decide +kernel
theorem dX9_torqueIn_74 : decode cX9_torqueIn 74 = .ok (.invokevirtual 162, 3) := by decide +kernel
theorem dX9_torqueIn_77 : decode cX9_torqueIn 77 = .ok (.iadd, 1) := by decide +kernel
theorem dX9_torqueIn_78 : decode cX9_torqueIn 78 = .ok (.istore 4, 2) := by decide +kernel
theorem dX9_torqueIn_80 : decode cX9_torqueIn 80 = .ok (.iinc 5 1, 3) := by decide +kernel
theorem dX9_torqueIn_83 : decode cX9_torqueIn 83 = .ok (.goto (-35), 3) := by decide +kernel
theorem dX9_torqueIn_86 : decode cX9_torqueIn 86 = .ok (.iload 4, 2) := by decide +kernel
theorem dX9_torqueIn_88 : decode cX9_torqueIn 88 = .ok (.ireturn, 1) := by decide +kernel
theorem dX9_torqueOf_0 : decode cX9_torqueOf 0 = .ok (.aload_n 0, 1) := by decide +kernel
theorem dX9_torqueOf_1 : decode cX9_torqueOf 1 = .ok (.iload_n 1, 1) := by decide +kernel
theorem dX9_torqueOf_2 : decode cX9_torqueOf 2 = .ok (.iconst 0, 1) := by decide +kernel
theorem dX9_torqueOf_3 : decode cX9_torqueOf 3 = .ok (.invokevirtual 162, 3) := by decide +kernel
theorem dX9_torqueOf_6 : decode cX9_torqueOf 6 = .ok (.ireturn, 1) := by decide +kernel
theorem dX9_tallyIn_0 : decode cX9_tallyIn 0 = .ok (.aload_n 0, 1) := by decide +kernel
theorem dX9_tallyIn_1 : decode cX9_tallyIn 1 = .ok (.getfield 9, 3) := by decide +kernel
theorem dX9_tallyIn_4 : decode cX9_tallyIn 4 = .ok (.iload_n 1, 1) := by decide +kernel
theorem dX9_tallyIn_5 : decode cX9_tallyIn 5 = .ok (.iaload, 1) := by decide +kernel
theorem dX9_tallyIn_6 : decode cX9_tallyIn 6 = .ok (.ifCond .ne 18, 3) := by decide +kernel
theorem dX9_tallyIn_9 : decode cX9_tallyIn 9 = .ok (.aload_n 0, 1) := by decide +kernel
theorem dX9_tallyIn_10 : decode cX9_tallyIn 10 = .ok (.getfield 66, 3) := by decide +kernel
theorem dX9_tallyIn_13 : decode cX9_tallyIn 13 = .ok (.aload_n 0, 1) := by decide +kernel
theorem dX9_tallyIn_14 : decode cX9_tallyIn 14 = .ok (.getfield 18, 3) := by decide +kernel
theorem dX9_tallyIn_17 : decode cX9_tallyIn 17 = .ok (.iload_n 1, 1) := by decide +kernel
theorem dX9_tallyIn_18 : decode cX9_tallyIn 18 = .ok (.iaload, 1) := by decide +kernel
theorem dX9_tallyIn_19 : decode cX9_tallyIn 19 = .ok (.dup2, 1) := by decide +kernel
theorem dX9_tallyIn_20 : decode cX9_tallyIn 20 = .ok (.iaload, 1) := by decide +kernel
theorem dX9_tallyIn_21 : decode cX9_tallyIn 21 = .ok (.iconst 1, 1) := by decide +kernel
theorem dX9_tallyIn_22 : decode cX9_tallyIn 22 = .ok (.iadd, 1) := by decide +kernel
theorem dX9_tallyIn_23 : decode cX9_tallyIn 23 = .ok (.iastore, 1) := by decide +kernel
theorem dX9_tallyIn_24 : decode cX9_tallyIn 24 = .ok (.iconst 0, 1) := by decide +kernel
theorem dX9_tallyIn_25 : decode cX9_tallyIn 25 = .ok (.istore_n 2, 1) := by decide +kernel
theorem dX9_tallyIn_26 : decode cX9_tallyIn 26 = .ok (.iload_n 2, 1) := by decide +kernel
theorem dX9_tallyIn_27 : decode cX9_tallyIn 27 = .ok (.aload_n 0, 1) := by decide +kernel
theorem dX9_tallyIn_28 : decode cX9_tallyIn 28 = .ok (.getfield 9, 3) := by decide +kernel
theorem dX9_tallyIn_31 : decode cX9_tallyIn 31 = .ok (.iload_n 1, 1) := by decide +kernel
theorem dX9_tallyIn_32 : decode cX9_tallyIn 32 = .ok (.iaload, 1) := by decide +kernel
theorem dX9_tallyIn_33 : decode cX9_tallyIn 33 = .ok (.if_icmp .ge 23, 3) := by decide +kernel
theorem dX9_tallyIn_36 : decode cX9_tallyIn 36 = .ok (.aload_n 0, 1) := by decide +kernel
theorem dX9_tallyIn_37 : decode cX9_tallyIn 37 = .ok (.aload_n 0, 1) := by decide +kernel
theorem dX9_tallyIn_38 : decode cX9_tallyIn 38 = .ok (.getfield 15, 3) := by decide +kernel
theorem dX9_tallyIn_41 : decode cX9_tallyIn 41 = .ok (.iconst 4, 1) := by decide +kernel
theorem dX9_tallyIn_42 : decode cX9_tallyIn 42 = .ok (.iload_n 1, 1) := by decide +kernel
theorem dX9_tallyIn_43 : decode cX9_tallyIn 43 = .ok (.imul, 1) := by decide +kernel
theorem dX9_tallyIn_44 : decode cX9_tallyIn 44 = .ok (.iload_n 2, 1) := by decide +kernel
theorem dX9_tallyIn_45 : decode cX9_tallyIn 45 = .ok (.iadd, 1) := by decide +kernel
theorem dX9_tallyIn_46 : decode cX9_tallyIn 46 = .ok (.iaload, 1) := by decide +kernel
theorem dX9_tallyIn_47 : decode cX9_tallyIn 47 = .ok (.invokevirtual 166, 3) := by decide +kernel
theorem dX9_tallyIn_50 : decode cX9_tallyIn 50 = .ok (.iinc 2 1, 3) := by decide +kernel
theorem dX9_tallyIn_53 : decode cX9_tallyIn 53 = .ok (.goto (-27), 3) := by decide +kernel
theorem dX9_tallyIn_56 : decode cX9_tallyIn 56 = .ok (.return_, 1) := by decide +kernel
theorem dX9_byOf_0 : decode cX9_byOf 0 = .ok (.aload_n 0, 1) := by decide +kernel
theorem dX9_byOf_1 : decode cX9_byOf 1 = .ok (.getfield 9, 3) := by decide +kernel
theorem dX9_byOf_4 : decode cX9_byOf 4 = .ok (.iload_n 1, 1) := by decide +kernel
theorem dX9_byOf_5 : decode cX9_byOf 5 = .ok (.iaload, 1) := by decide +kernel
theorem dX9_byOf_6 : decode cX9_byOf 6 = .ok (.ifCond .ne 9, 3) := by decide +kernel
theorem dX9_byOf_9 : decode cX9_byOf 9 = .ok (.sipush 1000, 3) := by decide +kernel
theorem dX9_byOf_12 : decode cX9_byOf 12 = .ok (.goto 23, 3) := by decide +kernel
theorem dX9_byOf_15 : decode cX9_byOf 15 = .ok (.sipush 1000, 3) := by decide +kernel
theorem dX9_byOf_18 : decode cX9_byOf 18 = .ok (.aload_n 0, 1) := by decide +kernel
theorem dX9_byOf_19 : decode cX9_byOf 19 = .ok (.getfield 24, 3) := by decide +kernel
theorem dX9_byOf_22 : decode cX9_byOf 22 = .ok (.iload_n 1, 1) := by decide +kernel
theorem dX9_byOf_23 : decode cX9_byOf 23 = .ok (.iaload, 1) := by decide +kernel
theorem dX9_byOf_24 : decode cX9_byOf 24 = .ok (.invokestatic 170, 3) := by decide +kernel
theorem dX9_byOf_27 : decode cX9_byOf 27 = .ok (.aload_n 0, 1) := by decide +kernel
theorem dX9_byOf_28 : decode cX9_byOf 28 = .ok (.getfield 9, 3) := by decide +kernel
theorem dX9_byOf_31 : decode cX9_byOf 31 = .ok (.iload_n 1, 1) := by decide +kernel
theorem dX9_byOf_32 : decode cX9_byOf 32 = .ok (.iaload, 1) := by decide +kernel
theorem dX9_byOf_33 : decode cX9_byOf 33 = .ok (.imul, 1) := by decide +kernel
theorem dX9_byOf_34 : decode cX9_byOf 34 = .ok (.isub, 1) := by decide +kernel
theorem dX9_byOf_35 : decode cX9_byOf 35 = .ok (.ireturn, 1) := by decide +kernel
theorem dX9_walk_0 : decode cX9_walk 0 = .ok (.iload_n 2, 1) := by decide +kernel
theorem dX9_walk_1 : decode cX9_walk 1 = .ok (.aload_n 0, 1) := by decide +kernel
theorem dX9_walk_2 : decode cX9_walk 2 = .ok (.getfield 24, 3) := by decide +kernel
theorem dX9_walk_5 : decode cX9_walk 5 = .ok (.iload_n 1, 1) := by decide +kernel
theorem dX9_walk_6 : decode cX9_walk 6 = .ok (.iaload, 1) := by decide +kernel
theorem dX9_walk_7 : decode cX9_walk 7 = .ok (.iadd, 1) := by decide +kernel
theorem dX9_walk_8 : decode cX9_walk 8 = .ok (.istore 8, 2) := by decide +kernel
theorem dX9_walk_10 : decode cX9_walk 10 = .ok (.aload_n 0, 1) := by decide +kernel
theorem dX9_walk_11 : decode cX9_walk 11 = .ok (.getfield 9, 3) := by decide +kernel
theorem dX9_walk_14 : decode cX9_walk 14 = .ok (.iload_n 1, 1) := by decide +kernel
theorem dX9_walk_15 : decode cX9_walk 15 = .ok (.iaload, 1) := by decide +kernel
theorem dX9_walk_16 : decode cX9_walk 16 = .ok (.ifCond .ne 67, 3) := by decide +kernel
theorem dX9_walk_19 : decode cX9_walk 19 = .ok (.aload_n 0, 1) := by decide +kernel
theorem dX9_walk_20 : decode cX9_walk 20 = .ok (.getfield 102, 3) := by decide +kernel
theorem dX9_walk_23 : decode cX9_walk 23 = .ok (.aload_n 0, 1) := by decide +kernel
theorem dX9_walk_24 : decode cX9_walk 24 = .ok (.getfield 173, 3) := by decide +kernel
theorem dX9_walk_27 : decode cX9_walk 27 = .ok (.iload_n 1, 1) := by decide +kernel
theorem dX9_walk_28 : decode cX9_walk 28 = .ok (.iastore, 1) := by decide +kernel
theorem dX9_walk_29 : decode cX9_walk 29 = .ok (.aload_n 0, 1) := by decide +kernel
theorem dX9_walk_30 : decode cX9_walk 30 = .ok (.getfield 105, 3) := by decide +kernel
theorem dX9_walk_33 : decode cX9_walk 33 = .ok (.aload_n 0, 1) := by decide +kernel
theorem dX9_walk_34 : decode cX9_walk 34 = .ok (.getfield 173, 3) := by decide +kernel
theorem dX9_walk_37 : decode cX9_walk 37 = .ok (.iload 8, 2) := by decide +kernel
theorem dX9_walk_39 : decode cX9_walk 39 = .ok (.iastore, 1) := by decide +kernel
theorem dX9_walk_40 : decode cX9_walk 40 = .ok (.aload_n 0, 1) := by decide +kernel
theorem dX9_walk_41 : decode cX9_walk 41 = .ok (.getfield 108, 3) := by decide +kernel
theorem dX9_walk_44 : decode cX9_walk 44 = .ok (.aload_n 0, 1) := by decide +kernel
theorem dX9_walk_45 : decode cX9_walk 45 = .ok (.getfield 173, 3) := by decide +kernel
theorem dX9_walk_48 : decode cX9_walk 48 = .ok (.iload_n 3, 1) := by decide +kernel
theorem dX9_walk_49 : decode cX9_walk 49 = .ok (.iastore, 1) := by decide +kernel
theorem dX9_walk_50 : decode cX9_walk 50 = .ok (.aload_n 0, 1) := by decide +kernel
theorem dX9_walk_51 : decode cX9_walk 51 = .ok (.getfield 111, 3) := by decide +kernel
theorem dX9_walk_54 : decode cX9_walk 54 = .ok (.aload_n 0, 1) := by decide +kernel
theorem dX9_walk_55 : decode cX9_walk 55 = .ok (.getfield 173, 3) := by decide +kernel
theorem dX9_walk_58 : decode cX9_walk 58 = .ok (.lload 4, 2) := by decide +kernel
theorem dX9_walk_60 : decode cX9_walk 60 = .ok (.lastore, 1) := by decide +kernel
theorem dX9_walk_61 : decode cX9_walk 61 = .ok (.aload_n 0, 1) := by decide +kernel
theorem dX9_walk_62 : decode cX9_walk 62 = .ok (.getfield 115, 3) := by decide +kernel
theorem dX9_walk_65 : decode cX9_walk 65 = .ok (.aload_n 0, 1) := by decide +kernel
theorem dX9_walk_66 : decode cX9_walk 66 = .ok (.getfield 173, 3) := by decide +kernel
theorem dX9_walk_69 : decode cX9_walk 69 = .ok (.lload 6, 2) := by decide +kernel
theorem dX9_walk_71 : decode cX9_walk 71 = .ok (.lastore, 1) := by decide +kernel
theorem dX9_walk_72 : decode cX9_walk 72 = .ok (.aload_n 0, 1) := by decide +kernel
theorem dX9_walk_73 : decode cX9_walk 73 = .ok (.dup, 1) := by decide +kernel
theorem dX9_walk_74 : decode cX9_walk 74 = .ok (.getfield 173, 3) := by decide +kernel
theorem dX9_walk_77 : decode cX9_walk 77 = .ok (.iconst 1, 1) := by decide +kernel
theorem dX9_walk_78 : decode cX9_walk 78 = .ok (.iadd, 1) := by decide +kernel
theorem dX9_walk_79 : decode cX9_walk 79 = .ok (.putfield 173, 3) := by decide +kernel
theorem dX9_walk_82 : decode cX9_walk 82 = .ok (.return_, 1) := by decide +kernel
theorem dX9_walk_83 : decode cX9_walk 83 = .ok (.aload_n 0, 1) := by decide +kernel
theorem dX9_walk_84 : decode cX9_walk 84 = .ok (.iload_n 1, 1) := by decide +kernel
theorem dX9_walk_85 : decode cX9_walk 85 = .ok (.invokevirtual 176, 3) := by decide +kernel
theorem dX9_walk_88 : decode cX9_walk 88 = .ok (.istore 9, 2) := by decide +kernel
theorem dX9_walk_90 : decode cX9_walk 90 = .ok (.iload_n 3, 1) := by decide +kernel
theorem dX9_walk_91 : decode cX9_walk 91 = .ok (.sipush 1000, 3) := by decide +kernel
theorem dX9_walk_94 : decode cX9_walk 94 = .ok (.imul, 1) := by decide +kernel
theorem dX9_walk_95 : decode cX9_walk 95 = .ok (.iload 9, 2) := by decide +kernel
theorem dX9_walk_97 : decode cX9_walk 97 = .ok (.iadd, 1) := by decide +kernel
theorem dX9_walk_98 : decode cX9_walk 98 = .ok (.iconst 1, 1) := by decide +kernel
theorem dX9_walk_99 : decode cX9_walk 99 = .ok (.isub, 1) := by decide +kernel
theorem dX9_walk_100 : decode cX9_walk 100 = .ok (.iload 9, 2) := by decide +kernel
theorem dX9_walk_102 : decode cX9_walk 102 = .ok (.idiv, 1) := by decide +kernel
theorem dX9_walk_103 : decode cX9_walk 103 = .ok (.istore 10, 2) := by decide +kernel
theorem dX9_walk_105 : decode cX9_walk 105 = .ok (.iconst 0, 1) := by decide +kernel
theorem dX9_walk_106 : decode cX9_walk 106 = .ok (.istore 11, 2) := by decide +kernel
theorem dX9_walk_108 : decode cX9_walk 108 = .ok (.iload 11, 2) := by decide +kernel
theorem dX9_walk_110 : decode cX9_walk 110 = .ok (.aload_n 0, 1) := by decide +kernel
theorem dX9_walk_111 : decode cX9_walk 111 = .ok (.getfield 9, 3) := by decide +kernel
theorem dX9_walk_114 : decode cX9_walk 114 = .ok (.iload_n 1, 1) := by decide +kernel
theorem dX9_walk_115 : decode cX9_walk 115 = .ok (.iaload, 1) := by decide +kernel
theorem dX9_walk_116 : decode cX9_walk 116 = .ok (.if_icmp .ge 40, 3) := by decide +kernel
theorem dX9_walk_119 : decode cX9_walk 119 = .ok (.aload_n 0, 1) := by decide +kernel
theorem dX9_walk_120 : decode cX9_walk 120 = .ok (.aload_n 0, 1) := by decide +kernel
theorem dX9_walk_121 : decode cX9_walk 121 = .ok (.getfield 15, 3) := by decide +kernel
theorem dX9_walk_124 : decode cX9_walk 124 = .ok (.iconst 4, 1) := by decide +kernel
theorem dX9_walk_125 : decode cX9_walk 125 = .ok (.iload_n 1, 1) := by decide +kernel
theorem dX9_walk_126 : decode cX9_walk 126 = .ok (.imul, 1) := by decide +kernel
theorem dX9_walk_127 : decode cX9_walk 127 = .ok (.iload 11, 2) := by decide +kernel
theorem dX9_walk_129 : decode cX9_walk 129 = .ok (.iadd, 1) := by decide +kernel
theorem dX9_walk_130 : decode cX9_walk 130 = .ok (.iaload, 1) := by decide +kernel
theorem dX9_walk_131 : decode cX9_walk 131 = .ok (.iload 8, 2) := by decide +kernel
theorem dX9_walk_133 : decode cX9_walk 133 = .ok (.iload 10, 2) := by decide +kernel
theorem dX9_walk_135 : decode cX9_walk 135 = .ok (.lload 4, 2) := by decide +kernel
theorem dX9_walk_137 : decode cX9_walk 137 = .ok (.iload 9, 2) := by decide +kernel
theorem dX9_walk_139 : decode cX9_walk 139 = .ok (.i2l, 1) := by decide +kernel
theorem dX9_walk_140 : decode cX9_walk 140 = .ok (.lmul, 1) := by decide +kernel
theorem dX9_walk_141 : decode cX9_walk 141 = .ok (.lload 6, 2) := by decide +kernel
theorem dX9_walk_143 : decode cX9_walk 143 = .ok (.ldc2_w 179, 3) := by decide +kernel
theorem dX9_walk_146 : decode cX9_walk 146 = .ok (.lmul, 1) := by decide +kernel
theorem dX9_walk_147 : decode cX9_walk 147 = .ok (.invokevirtual 181, 3) := by decide +kernel
theorem dX9_walk_150 : decode cX9_walk 150 = .ok (.iinc 11 1, 3) := by decide +kernel
theorem dX9_walk_153 : decode cX9_walk 153 = .ok (.goto (-45), 3) := by decide +kernel
theorem dX9_walk_156 : decode cX9_walk 156 = .ok (.return_, 1) := by decide +kernel
theorem dX9_walkOver_0 : decode cX9_walkOver 0 = .ok (.aload_n 0, 1) := by decide +kernel
theorem dX9_walkOver_1 : decode cX9_walkOver 1 = .ok (.iconst 0, 1) := by decide +kernel
theorem dX9_walkOver_2 : decode cX9_walkOver 2 = .ok (.putfield 173, 3) := by decide +kernel
theorem dX9_walkOver_5 : decode cX9_walkOver 5 = .ok (.aload_n 0, 1) := by decide +kernel
theorem dX9_walkOver_6 : decode cX9_walkOver 6 = .ok (.iload_n 1, 1) := by decide +kernel
theorem dX9_walkOver_7 : decode cX9_walkOver 7 = .ok (.iconst 0, 1) := by decide +kernel
theorem dX9_walkOver_8 : decode cX9_walkOver 8 = .ok (.iload_n 2, 1) := by decide +kernel
theorem dX9_walkOver_9 : decode cX9_walkOver 9 = .ok (.lconst 1, 1) := by decide +kernel
theorem dX9_walkOver_10 : decode cX9_walkOver 10 = .ok (.lconst 1, 1) := by decide +kernel
theorem dX9_walkOver_11 : decode cX9_walkOver 11 = .ok (.invokevirtual 181, 3) := by decide +kernel
theorem dX9_walkOver_14 : decode cX9_walkOver 14 = .ok (.return_, 1) := by decide +kernel
theorem dX9_heavyOf_0 : decode cX9_heavyOf 0 = .ok (.aload_n 0, 1) := by decide +kernel
theorem dX9_heavyOf_1 : decode cX9_heavyOf 1 = .ok (.iload_n 1, 1) := by decide +kernel
theorem dX9_heavyOf_2 : decode cX9_heavyOf 2 = .ok (.iload_n 2, 1) := by decide +kernel
theorem dX9_heavyOf_3 : decode cX9_heavyOf 3 = .ok (.invokevirtual 185, 3) := by decide +kernel
theorem dX9_heavyOf_6 : decode cX9_heavyOf 6 = .ok (.iconst 0, 1) := by decide +kernel
theorem dX9_heavyOf_7 : decode cX9_heavyOf 7 = .ok (.istore_n 3, 1) := by decide +kernel
theorem dX9_heavyOf_8 : decode cX9_heavyOf 8 = .ok (.iconst 0, 1) := by decide +kernel
theorem dX9_heavyOf_9 : decode cX9_heavyOf 9 = .ok (.istore 4, 2) := by decide +kernel
theorem dX9_heavyOf_11 : decode cX9_heavyOf 11 = .ok (.iload 4, 2) := by decide +kernel
theorem dX9_heavyOf_13 : decode cX9_heavyOf 13 = .ok (.aload_n 0, 1) := by decide +kernel
theorem dX9_heavyOf_14 : decode cX9_heavyOf 14 = .ok (.getfield 173, 3) := by decide +kernel
theorem dX9_heavyOf_17 : decode cX9_heavyOf 17 = .ok (.if_icmp .ge 32, 3) := by decide +kernel
theorem dX9_heavyOf_20 : decode cX9_heavyOf 20 = .ok (.iload_n 3, 1) := by decide +kernel
theorem dX9_heavyOf_21 : decode cX9_heavyOf 21 = .ok (.aload_n 0, 1) := by decide +kernel
theorem dX9_heavyOf_22 : decode cX9_heavyOf 22 = .ok (.getfield 21, 3) := by decide +kernel
theorem dX9_heavyOf_25 : decode cX9_heavyOf 25 = .ok (.aload_n 0, 1) := by decide +kernel
theorem dX9_heavyOf_26 : decode cX9_heavyOf 26 = .ok (.getfield 102, 3) := by decide +kernel
theorem dX9_heavyOf_29 : decode cX9_heavyOf 29 = .ok (.iload 4, 2) := by decide +kernel
theorem dX9_heavyOf_31 : decode cX9_heavyOf 31 = .ok (.iaload, 1) := by decide +kernel
theorem dX9_heavyOf_32 : decode cX9_heavyOf 32 = .ok (.iaload, 1) := by decide +kernel
theorem dX9_heavyOf_33 : decode cX9_heavyOf 33 = .ok (.aload_n 0, 1) := by decide +kernel
theorem dX9_heavyOf_34 : decode cX9_heavyOf 34 = .ok (.getfield 108, 3) := by decide +kernel
theorem dX9_heavyOf_37 : decode cX9_heavyOf 37 = .ok (.iload 4, 2) := by decide +kernel
theorem dX9_heavyOf_39 : decode cX9_heavyOf 39 = .ok (.iaload, 1) := by decide +kernel
theorem dX9_heavyOf_40 : decode cX9_heavyOf 40 = .ok (.imul, 1) := by decide +kernel
theorem dX9_heavyOf_41 : decode cX9_heavyOf 41 = .ok (.iadd, 1) := by decide +kernel
theorem dX9_heavyOf_42 : decode cX9_heavyOf 42 = .ok (.istore_n 3, 1) := by decide +kernel
theorem dX9_heavyOf_43 : decode cX9_heavyOf 43 = .ok (.iinc 4 1, 3) := by decide +kernel
theorem dX9_heavyOf_46 : decode cX9_heavyOf 46 = .ok (.goto (-35), 3) := by decide +kernel
theorem dX9_heavyOf_49 : decode cX9_heavyOf 49 = .ok (.iload_n 3, 1) := by decide +kernel
theorem dX9_heavyOf_50 : decode cX9_heavyOf 50 = .ok (.bipush 100, 2) := by decide +kernel
theorem dX9_heavyOf_52 : decode cX9_heavyOf 52 = .ok (.idiv, 1) := by decide +kernel
theorem dX9_heavyOf_53 : decode cX9_heavyOf 53 = .ok (.ireturn, 1) := by decide +kernel
theorem dX9_common_0 : decode cX9_common 0 = .ok (.lload_n 0, 1) := by decide +kernel
theorem dX9_common_1 : decode cX9_common 1 = .ok (.lstore 4, 2) := by decide +kernel
theorem dX9_common_3 : decode cX9_common 3 = .ok (.lload_n 2, 1) := by decide +kernel
theorem dX9_common_4 : decode cX9_common 4 = .ok (.lstore 6, 2) := by decide +kernel
theorem dX9_common_6 : decode cX9_common 6 = .ok (.lload 6, 2) := by decide +kernel
theorem dX9_common_8 : decode cX9_common 8 = .ok (.lconst 0, 1) := by decide +kernel
theorem dX9_common_9 : decode cX9_common 9 = .ok (.lcmp, 1) := by decide +kernel
theorem dX9_common_10 : decode cX9_common 10 = .ok (.ifCond .eq 21, 3) := by decide +kernel
theorem dX9_common_13 : decode cX9_common 13 = .ok (.lload 4, 2) := by decide +kernel
theorem dX9_common_15 : decode cX9_common 15 = .ok (.lload 6, 2) := by decide +kernel
theorem dX9_common_17 : decode cX9_common 17 = .ok (.lrem, 1) := by decide +kernel
theorem dX9_common_18 : decode cX9_common 18 = .ok (.lstore 8, 2) := by decide +kernel
theorem dX9_common_20 : decode cX9_common 20 = .ok (.lload 6, 2) := by decide +kernel
theorem dX9_common_22 : decode cX9_common 22 = .ok (.lstore 4, 2) := by decide +kernel
theorem dX9_common_24 : decode cX9_common 24 = .ok (.lload 8, 2) := by decide +kernel
theorem dX9_common_26 : decode cX9_common 26 = .ok (.lstore 6, 2) := by decide +kernel
theorem dX9_common_28 : decode cX9_common 28 = .ok (.goto (-22), 3) := by decide +kernel
theorem dX9_common_31 : decode cX9_common 31 = .ok (.lload 4, 2) := by decide +kernel
theorem dX9_common_33 : decode cX9_common 33 = .ok (.lreturn, 1) := by decide +kernel
theorem dX9_lacks_0 : decode cX9_lacks 0 = .ok (.aload_n 0, 1) := by decide +kernel
theorem dX9_lacks_1 : decode cX9_lacks 1 = .ok (.iload_n 1, 1) := by decide +kernel
theorem dX9_lacks_2 : decode cX9_lacks 2 = .ok (.iload_n 2, 1) := by decide +kernel
theorem dX9_lacks_3 : decode cX9_lacks 3 = .ok (.invokevirtual 185, 3) := by decide +kernel
theorem dX9_lacks_6 : decode cX9_lacks 6 = .ok (.iconst 0, 1) := by decide +kernel
theorem dX9_lacks_7 : decode cX9_lacks 7 = .ok (.istore_n 3, 1) := by decide +kernel
theorem dX9_lacks_8 : decode cX9_lacks 8 = .ok (.iload_n 3, 1) := by decide +kernel
theorem dX9_lacks_9 : decode cX9_lacks 9 = .ok (.aload_n 0, 1) := by decide +kernel
theorem dX9_lacks_10 : decode cX9_lacks 10 = .ok (.getfield 139, 3) := by decide +kernel
theorem dX9_lacks_13 : decode cX9_lacks 13 = .ok (.if_icmp .ge 16, 3) := by decide +kernel
theorem dX9_lacks_16 : decode cX9_lacks 16 = .ok (.aload_n 0, 1) := by decide +kernel
theorem dX9_lacks_17 : decode cX9_lacks 17 = .ok (.getfield 118, 3) := by decide +kernel
theorem dX9_lacks_20 : decode cX9_lacks 20 = .ok (.iload_n 3, 1) := by decide +kernel
theorem dX9_lacks_21 : decode cX9_lacks 21 = .ok (.iconst 0, 1) := by decide +kernel
theorem dX9_lacks_22 : decode cX9_lacks 22 = .ok (.iastore, 1) := by decide +kernel
theorem dX9_lacks_23 : decode cX9_lacks 23 = .ok (.iinc 3 1, 3) := by decide +kernel
theorem dX9_lacks_26 : decode cX9_lacks 26 = .ok (.goto (-18), 3) := by decide +kernel
theorem dX9_lacks_29 : decode cX9_lacks 29 = .ok (.iconst 0, 1) := by decide +kernel
theorem dX9_lacks_30 : decode cX9_lacks 30 = .ok (.istore_n 3, 1) := by decide +kernel
theorem dX9_lacks_31 : decode cX9_lacks 31 = .ok (.iload_n 3, 1) := by decide +kernel
theorem dX9_lacks_32 : decode cX9_lacks 32 = .ok (.aload_n 0, 1) := by decide +kernel
theorem dX9_lacks_33 : decode cX9_lacks 33 = .ok (.getfield 173, 3) := by decide +kernel
theorem dX9_lacks_36 : decode cX9_lacks 36 = .ok (.if_icmp .ge 29, 3) := by decide +kernel
theorem dX9_lacks_39 : decode cX9_lacks 39 = .ok (.aload_n 0, 1) := by decide +kernel
theorem dX9_lacks_40 : decode cX9_lacks 40 = .ok (.getfield 118, 3) := by decide +kernel
theorem dX9_lacks_43 : decode cX9_lacks 43 = .ok (.aload_n 0, 1) := by decide +kernel
theorem dX9_lacks_44 : decode cX9_lacks 44 = .ok (.getfield 102, 3) := by decide +kernel
theorem dX9_lacks_47 : decode cX9_lacks 47 = .ok (.iload_n 3, 1) := by decide +kernel
theorem dX9_lacks_48 : decode cX9_lacks 48 = .ok (.iaload, 1) := by decide +kernel
theorem dX9_lacks_49 : decode cX9_lacks 49 = .ok (.dup2, 1) := by decide +kernel
theorem dX9_lacks_50 : decode cX9_lacks 50 = .ok (.iaload, 1) := by decide +kernel
theorem dX9_lacks_51 : decode cX9_lacks 51 = .ok (.aload_n 0, 1) := by decide +kernel
theorem dX9_lacks_52 : decode cX9_lacks 52 = .ok (.getfield 108, 3) := by decide +kernel
theorem dX9_lacks_55 : decode cX9_lacks 55 = .ok (.iload_n 3, 1) := by decide +kernel
theorem dX9_lacks_56 : decode cX9_lacks 56 = .ok (.iaload, 1) := by decide +kernel
theorem dX9_lacks_57 : decode cX9_lacks 57 = .ok (.iadd, 1) := by decide +kernel
theorem dX9_lacks_58 : decode cX9_lacks 58 = .ok (.iastore, 1) := by decide +kernel
theorem dX9_lacks_59 : decode cX9_lacks 59 = .ok (.iinc 3 1, 3) := by decide +kernel
theorem dX9_lacks_62 : decode cX9_lacks 62 = .ok (.goto (-31), 3) := by decide +kernel
theorem dX9_lacks_65 : decode cX9_lacks 65 = .ok (.aload_n 0, 1) := by decide +kernel
theorem dX9_lacks_66 : decode cX9_lacks 66 = .ok (.getfield 27, 3) := by decide +kernel
theorem dX9_lacks_69 : decode cX9_lacks 69 = .ok (.iload_n 1, 1) := by decide +kernel
theorem dX9_lacks_70 : decode cX9_lacks 70 = .ok (.iaload, 1) := by decide +kernel
theorem dX9_lacks_71 : decode cX9_lacks 71 = .ok (.iload_n 2, 1) := by decide +kernel
theorem dX9_lacks_72 : decode cX9_lacks 72 = .ok (.iadd, 1) := by decide +kernel
theorem dX9_lacks_73 : decode cX9_lacks 73 = .ok (.ldc 189, 2) := by decide +kernel
theorem dX9_lacks_75 : decode cX9_lacks 75 = .ok (.if_icmp .le 7, 3) := by decide +kernel
theorem dX9_lacks_78 : decode cX9_lacks 78 = .ok (.iconst 1, 1) := by decide +kernel
theorem dX9_lacks_79 : decode cX9_lacks 79 = .ok (.goto 4, 3) := by decide +kernel
theorem dX9_lacks_82 : decode cX9_lacks 82 = .ok (.iconst 0, 1) := by decide +kernel
theorem dX9_lacks_83 : decode cX9_lacks 83 = .ok (.istore_n 3, 1) := by decide +kernel
theorem dX9_lacks_84 : decode cX9_lacks 84 = .ok (.iconst 0, 1) := by decide +kernel
theorem dX9_lacks_85 : decode cX9_lacks 85 = .ok (.istore 4, 2) := by decide +kernel
theorem dX9_lacks_87 : decode cX9_lacks 87 = .ok (.iload 4, 2) := by decide +kernel
theorem dX9_lacks_89 : decode cX9_lacks 89 = .ok (.aload_n 0, 1) := by decide +kernel
theorem dX9_lacks_90 : decode cX9_lacks 90 = .ok (.getfield 139, 3) := by decide +kernel
theorem dX9_lacks_93 : decode cX9_lacks 93 = .ok (.if_icmp .ge 36, 3) := by decide +kernel
theorem dX9_lacks_96 : decode cX9_lacks 96 = .ok (.iload_n 3, 1) := by decide +kernel
theorem dX9_lacks_97 : decode cX9_lacks 97 = .ok (.ifCond .ne 20, 3) := by decide +kernel
theorem dX9_lacks_100 : decode cX9_lacks 100 = .ok (.aload_n 0, 1) := by decide +kernel
theorem dX9_lacks_101 : decode cX9_lacks 101 = .ok (.getfield 118, 3) := by decide +kernel
theorem dX9_lacks_104 : decode cX9_lacks 104 = .ok (.iload 4, 2) := by decide +kernel
theorem dX9_lacks_106 : decode cX9_lacks 106 = .ok (.iaload, 1) := by decide +kernel
theorem dX9_lacks_107 : decode cX9_lacks 107 = .ok (.aload_n 0, 1) := by decide +kernel
theorem dX9_lacks_108 : decode cX9_lacks 108 = .ok (.getfield 27, 3) := by decide +kernel
theorem dX9_lacks_111 : decode cX9_lacks 111 = .ok (.iload 4, 2) := by decide +kernel
theorem dX9_lacks_113 : decode cX9_lacks 113 = .ok (.iaload, 1) := by decide +kernel
theorem dX9_lacks_114 : decode cX9_lacks 114 = .ok (.if_icmp .le 7, 3) := by decide +kernel
theorem dX9_lacks_117 : decode cX9_lacks 117 = .ok (.iconst 1, 1) := by decide +kernel
theorem dX9_lacks_118 : decode cX9_lacks 118 = .ok (.goto 4, 3) := by decide +kernel
theorem dX9_lacks_121 : decode cX9_lacks 121 = .ok (.iconst 0, 1) := by decide +kernel
theorem dX9_lacks_122 : decode cX9_lacks 122 = .ok (.istore_n 3, 1) := by decide +kernel
theorem dX9_lacks_123 : decode cX9_lacks 123 = .ok (.iinc 4 1, 3) := by decide +kernel
theorem dX9_lacks_126 : decode cX9_lacks 126 = .ok (.goto (-39), 3) := by decide +kernel
theorem dX9_lacks_129 : decode cX9_lacks 129 = .ok (.iload_n 3, 1) := by decide +kernel
theorem dX9_lacks_130 : decode cX9_lacks 130 = .ok (.ireturn, 1) := by decide +kernel
theorem dX9_isMade_0 : decode cX9_isMade 0 = .ok (.aload_n 0, 1) := by decide +kernel
theorem dX9_isMade_1 : decode cX9_isMade 1 = .ok (.iload_n 1, 1) := by decide +kernel
theorem dX9_isMade_2 : decode cX9_isMade 2 = .ok (.iload_n 2, 1) := by decide +kernel
theorem dX9_isMade_3 : decode cX9_isMade 3 = .ok (.invokevirtual 190, 3) := by decide +kernel
theorem dX9_isMade_6 : decode cX9_isMade 6 = .ok (.ifCond .eq 5, 3) := by decide +kernel
theorem dX9_isMade_9 : decode cX9_isMade 9 = .ok (.iconst 0, 1) := by decide +kernel
theorem dX9_isMade_10 : decode cX9_isMade 10 = .ok (.ireturn, 1) := by decide +kernel
theorem dX9_isMade_11 : decode cX9_isMade 11 = .ok (.iconst 0, 1) := by decide +kernel
theorem dX9_isMade_12 : decode cX9_isMade 12 = .ok (.istore_n 3, 1) := by decide +kernel
theorem dX9_isMade_13 : decode cX9_isMade 13 = .ok (.iload_n 3, 1) := by decide +kernel
theorem dX9_isMade_14 : decode cX9_isMade 14 = .ok (.aload_n 0, 1) := by decide +kernel
theorem dX9_isMade_15 : decode cX9_isMade 15 = .ok (.getfield 139, 3) := by decide +kernel
theorem dX9_isMade_18 : decode cX9_isMade 18 = .ok (.if_icmp .ge 24, 3) := by decide +kernel
theorem dX9_isMade_21 : decode cX9_isMade 21 = .ok (.aload_n 0, 1) := by decide +kernel
theorem dX9_isMade_22 : decode cX9_isMade 22 = .ok (.getfield 27, 3) := by decide +kernel
theorem dX9_isMade_25 : decode cX9_isMade 25 = .ok (.iload_n 3, 1) := by decide +kernel
theorem dX9_isMade_26 : decode cX9_isMade 26 = .ok (.dup2, 1) := by decide +kernel
theorem dX9_isMade_27 : decode cX9_isMade 27 = .ok (.iaload, 1) := by decide +kernel
theorem dX9_isMade_28 : decode cX9_isMade 28 = .ok (.aload_n 0, 1) := by decide +kernel
theorem dX9_isMade_29 : decode cX9_isMade 29 = .ok (.getfield 118, 3) := by decide +kernel
theorem dX9_isMade_32 : decode cX9_isMade 32 = .ok (.iload_n 3, 1) := by decide +kernel
theorem dX9_isMade_33 : decode cX9_isMade 33 = .ok (.iaload, 1) := by decide +kernel
theorem dX9_isMade_34 : decode cX9_isMade 34 = .ok (.isub, 1) := by decide +kernel
theorem dX9_isMade_35 : decode cX9_isMade 35 = .ok (.iastore, 1) := by decide +kernel
theorem dX9_isMade_36 : decode cX9_isMade 36 = .ok (.iinc 3 1, 3) := by decide +kernel
theorem dX9_isMade_39 : decode cX9_isMade 39 = .ok (.goto (-26), 3) := by decide +kernel
theorem dX9_isMade_42 : decode cX9_isMade 42 = .ok (.aload_n 0, 1) := by decide +kernel
theorem dX9_isMade_43 : decode cX9_isMade 43 = .ok (.getfield 27, 3) := by decide +kernel
theorem dX9_isMade_46 : decode cX9_isMade 46 = .ok (.iload_n 1, 1) := by decide +kernel
theorem dX9_isMade_47 : decode cX9_isMade 47 = .ok (.dup2, 1) := by decide +kernel
theorem dX9_isMade_48 : decode cX9_isMade 48 = .ok (.iaload, 1) := by decide +kernel
theorem dX9_isMade_49 : decode cX9_isMade 49 = .ok (.iload_n 2, 1) := by decide +kernel
theorem dX9_isMade_50 : decode cX9_isMade 50 = .ok (.iadd, 1) := by decide +kernel
theorem dX9_isMade_51 : decode cX9_isMade 51 = .ok (.iastore, 1) := by decide +kernel
theorem dX9_isMade_52 : decode cX9_isMade 52 = .ok (.iconst 1, 1) := by decide +kernel
theorem dX9_isMade_53 : decode cX9_isMade 53 = .ok (.ireturn, 1) := by decide +kernel
theorem dX9_thread_0 : decode cX9_thread 0 = .ok (.iload_n 1, 1) := by decide +kernel
theorem dX9_thread_1 : decode cX9_thread 1 = .ok (.iconst 0, 1) := by decide +kernel
theorem dX9_thread_2 : decode cX9_thread 2 = .ok (.iconst 3, 1) := by decide +kernel
theorem dX9_thread_3 : decode cX9_thread 3 = .ok (.invokestatic 143, 3) := by decide +kernel
theorem dX9_thread_6 : decode cX9_thread 6 = .ok (.ifCond .eq 24, 3) := by decide +kernel
theorem dX9_thread_9 : decode cX9_thread 9 = .ok (.iload_n 2, 1) := by decide +kernel
theorem dX9_thread_10 : decode cX9_thread 10 = .ok (.iconst 1, 1) := by decide +kernel
theorem dX9_thread_11 : decode cX9_thread 11 = .ok (.bipush 99, 2) := by decide +kernel
theorem dX9_thread_13 : decode cX9_thread 13 = .ok (.invokestatic 143, 3) := by decide +kernel
theorem dX9_thread_16 : decode cX9_thread 16 = .ok (.ifCond .eq 14, 3) := by decide +kernel
theorem dX9_thread_19 : decode cX9_thread 19 = .ok (.iload_n 3, 1) := by decide +kernel
theorem dX9_thread_20 : decode cX9_thread 20 = .ok (.bipush (-99), 2) := by decide +kernel
theorem dX9_thread_22 : decode cX9_thread 22 = .ok (.bipush 99, 2) := by decide +kernel
theorem dX9_thread_24 : decode cX9_thread 24 = .ok (.invokestatic 143, 3) := by decide +kernel
theorem dX9_thread_27 : decode cX9_thread 27 = .ok (.ifCond .ne 5, 3) := by decide +kernel
theorem dX9_thread_30 : decode cX9_thread 30 = .ok (.iconst (-1), 1) := by decide +kernel
theorem dX9_thread_31 : decode cX9_thread 31 = .ok (.ireturn, 1) := by decide +kernel
theorem dX9_thread_32 : decode cX9_thread 32 = .ok (.aload_n 0, 1) := by decide +kernel
theorem dX9_thread_33 : decode cX9_thread 33 = .ok (.getfield 139, 3) := by decide +kernel
theorem dX9_thread_36 : decode cX9_thread 36 = .ok (.bipush 16, 2) := by decide +kernel
theorem dX9_thread_38 : decode cX9_thread 38 = .ok (.if_icmp .ne 6, 3) := by decide +kernel
theorem dX9_thread_41 : decode cX9_thread 41 = .ok (.bipush (-3), 2) := by decide +kernel
theorem dX9_thread_43 : decode cX9_thread 43 = .ok (.ireturn, 1) := by decide +kernel
theorem dX9_thread_44 : decode cX9_thread 44 = .ok (.aload_n 0, 1) := by decide +kernel
theorem dX9_thread_45 : decode cX9_thread 45 = .ok (.getfield 9, 3) := by decide +kernel
theorem dX9_thread_48 : decode cX9_thread 48 = .ok (.aload_n 0, 1) := by decide +kernel
theorem dX9_thread_49 : decode cX9_thread 49 = .ok (.getfield 139, 3) := by decide +kernel
theorem dX9_thread_52 : decode cX9_thread 52 = .ok (.iconst 0, 1) := by decide +kernel
theorem dX9_thread_53 : decode cX9_thread 53 = .ok (.iastore, 1) := by decide +kernel
theorem dX9_thread_54 : decode cX9_thread 54 = .ok (.aload_n 0, 1) := by decide +kernel
theorem dX9_thread_55 : decode cX9_thread 55 = .ok (.getfield 18, 3) := by decide +kernel
theorem dX9_thread_58 : decode cX9_thread 58 = .ok (.aload_n 0, 1) := by decide +kernel
theorem dX9_thread_59 : decode cX9_thread 59 = .ok (.getfield 139, 3) := by decide +kernel
theorem dX9_thread_62 : decode cX9_thread 62 = .ok (.iload_n 1, 1) := by decide +kernel
theorem dX9_thread_63 : decode cX9_thread 63 = .ok (.iastore, 1) := by decide +kernel
theorem dX9_thread_64 : decode cX9_thread 64 = .ok (.aload_n 0, 1) := by decide +kernel
theorem dX9_thread_65 : decode cX9_thread 65 = .ok (.getfield 21, 3) := by decide +kernel
theorem dX9_thread_68 : decode cX9_thread 68 = .ok (.aload_n 0, 1) := by decide +kernel
theorem dX9_thread_69 : decode cX9_thread 69 = .ok (.getfield 139, 3) := by decide +kernel
theorem dX9_thread_72 : decode cX9_thread 72 = .ok (.iload_n 2, 1) := by decide +kernel
theorem dX9_thread_73 : decode cX9_thread 73 = .ok (.iastore, 1) := by decide +kernel
theorem dX9_thread_74 : decode cX9_thread 74 = .ok (.aload_n 0, 1) := by decide +kernel
theorem dX9_thread_75 : decode cX9_thread 75 = .ok (.getfield 24, 3) := by decide +kernel
theorem dX9_thread_78 : decode cX9_thread 78 = .ok (.aload_n 0, 1) := by decide +kernel
theorem dX9_thread_79 : decode cX9_thread 79 = .ok (.getfield 139, 3) := by decide +kernel
theorem dX9_thread_82 : decode cX9_thread 82 = .ok (.iload_n 3, 1) := by decide +kernel
theorem dX9_thread_83 : decode cX9_thread 83 = .ok (.iastore, 1) := by decide +kernel
theorem dX9_thread_84 : decode cX9_thread 84 = .ok (.aload_n 0, 1) := by decide +kernel
theorem dX9_thread_85 : decode cX9_thread 85 = .ok (.getfield 27, 3) := by decide +kernel
theorem dX9_thread_88 : decode cX9_thread 88 = .ok (.aload_n 0, 1) := by decide +kernel
theorem dX9_thread_89 : decode cX9_thread 89 = .ok (.getfield 139, 3) := by decide +kernel
theorem dX9_thread_92 : decode cX9_thread 92 = .ok (.iconst 0, 1) := by decide +kernel
theorem dX9_thread_93 : decode cX9_thread 93 = .ok (.iastore, 1) := by decide +kernel
theorem dX9_thread_94 : decode cX9_thread 94 = .ok (.aload_n 0, 1) := by decide +kernel
theorem dX9_thread_95 : decode cX9_thread 95 = .ok (.dup, 1) := by decide +kernel
theorem dX9_thread_96 : decode cX9_thread 96 = .ok (.getfield 139, 3) := by decide +kernel
theorem dX9_thread_99 : decode cX9_thread 99 = .ok (.iconst 1, 1) := by decide +kernel
theorem dX9_thread_100 : decode cX9_thread 100 = .ok (.iadd, 1) := by decide +kernel
theorem dX9_thread_101 : decode cX9_thread 101 = .ok (.putfield 139, 3) := by decide +kernel
theorem dX9_thread_104 : decode cX9_thread 104 = .ok (.aload_n 0, 1) := by decide +kernel
theorem dX9_thread_105 : decode cX9_thread 105 = .ok (.getfield 139, 3) := by decide +kernel
theorem dX9_thread_108 : decode cX9_thread 108 = .ok (.iconst 1, 1) := by decide +kernel
theorem dX9_thread_109 : decode cX9_thread 109 = .ok (.isub, 1) := by decide +kernel
theorem dX9_thread_110 : decode cX9_thread 110 = .ok (.ireturn, 1) := by decide +kernel
theorem dX9_part_0 : decode cX9_part 0 = .ok (.aload_n 0, 1) := by decide +kernel
theorem dX9_part_1 : decode cX9_part 1 = .ok (.iload_n 1, 1) := by decide +kernel
theorem dX9_part_2 : decode cX9_part 2 = .ok (.invokevirtual 147, 3) := by decide +kernel
theorem dX9_part_5 : decode cX9_part 5 = .ok (.ifCond .ne 5, 3) := by decide +kernel
theorem dX9_part_8 : decode cX9_part 8 = .ok (.iconst (-1), 1) := by decide +kernel
theorem dX9_part_9 : decode cX9_part 9 = .ok (.ireturn, 1) := by decide +kernel
theorem dX9_part_10 : decode cX9_part 10 = .ok (.aload_n 0, 1) := by decide +kernel
theorem dX9_part_11 : decode cX9_part 11 = .ok (.getfield 194, 3) := by decide +kernel
theorem dX9_part_14 : decode cX9_part 14 = .ok (.iconst 4, 1) := by decide +kernel
theorem dX9_part_15 : decode cX9_part 15 = .ok (.if_icmp .ne 6, 3) := by decide +kernel
theorem dX9_part_18 : decode cX9_part 18 = .ok (.bipush (-3), 2) := by decide +kernel
theorem dX9_part_20 : decode cX9_part 20 = .ok (.ireturn, 1) := by decide +kernel
theorem dX9_part_21 : decode cX9_part 21 = .ok (.aload_n 0, 1) := by decide +kernel
theorem dX9_part_22 : decode cX9_part 22 = .ok (.iload_n 1, 1) := by decide +kernel
theorem dX9_part_23 : decode cX9_part 23 = .ok (.invokevirtual 151, 3) := by decide +kernel
theorem dX9_part_26 : decode cX9_part 26 = .ok (.iconst 3, 1) := by decide +kernel
theorem dX9_part_27 : decode cX9_part 27 = .ok (.if_icmp .ne 6, 3) := by decide +kernel
theorem dX9_part_30 : decode cX9_part 30 = .ok (.bipush (-5), 2) := by decide +kernel
theorem dX9_part_32 : decode cX9_part 32 = .ok (.ireturn, 1) := by decide +kernel
theorem dX9_part_33 : decode cX9_part 33 = .ok (.aload_n 0, 1) := by decide +kernel
theorem dX9_part_34 : decode cX9_part 34 = .ok (.getfield 30, 3) := by decide +kernel
theorem dX9_part_37 : decode cX9_part 37 = .ok (.aload_n 0, 1) := by decide +kernel
theorem dX9_part_38 : decode cX9_part 38 = .ok (.getfield 194, 3) := by decide +kernel
theorem dX9_part_41 : decode cX9_part 41 = .ok (.iload_n 1, 1) := by decide +kernel
theorem dX9_part_42 : decode cX9_part 42 = .ok (.iastore, 1) := by decide +kernel
theorem dX9_part_43 : decode cX9_part 43 = .ok (.aload_n 0, 1) := by decide +kernel
theorem dX9_part_44 : decode cX9_part 44 = .ok (.dup, 1) := by decide +kernel
theorem dX9_part_45 : decode cX9_part 45 = .ok (.getfield 194, 3) := by decide +kernel
theorem dX9_part_48 : decode cX9_part 48 = .ok (.iconst 1, 1) := by decide +kernel
theorem dX9_part_49 : decode cX9_part 49 = .ok (.iadd, 1) := by decide +kernel
theorem dX9_part_50 : decode cX9_part 50 = .ok (.putfield 194, 3) := by decide +kernel
theorem dX9_part_53 : decode cX9_part 53 = .ok (.aload_n 0, 1) := by decide +kernel
theorem dX9_part_54 : decode cX9_part 54 = .ok (.getfield 194, 3) := by decide +kernel
theorem dX9_part_57 : decode cX9_part 57 = .ok (.ireturn, 1) := by decide +kernel
theorem dX9_ply_0 : decode cX9_ply 0 = .ok (.iload_n 1, 1) := by decide +kernel
theorem dX9_ply_1 : decode cX9_ply 1 = .ok (.bipush (-99), 2) := by decide +kernel
theorem dX9_ply_3 : decode cX9_ply 3 = .ok (.bipush 99, 2) := by decide +kernel
theorem dX9_ply_5 : decode cX9_ply 5 = .ok (.invokestatic 143, 3) := by decide +kernel
theorem dX9_ply_8 : decode cX9_ply 8 = .ok (.ifCond .ne 5, 3) := by decide +kernel
theorem dX9_ply_11 : decode cX9_ply 11 = .ok (.iconst (-1), 1) := by decide +kernel
theorem dX9_ply_12 : decode cX9_ply 12 = .ok (.ireturn, 1) := by decide +kernel
theorem dX9_ply_13 : decode cX9_ply 13 = .ok (.aload_n 0, 1) := by decide +kernel
theorem dX9_ply_14 : decode cX9_ply 14 = .ok (.getfield 194, 3) := by decide +kernel
theorem dX9_ply_17 : decode cX9_ply 17 = .ok (.iconst 2, 1) := by decide +kernel
theorem dX9_ply_18 : decode cX9_ply 18 = .ok (.if_icmp .ge 6, 3) := by decide +kernel
theorem dX9_ply_21 : decode cX9_ply 21 = .ok (.bipush (-5), 2) := by decide +kernel
theorem dX9_ply_23 : decode cX9_ply 23 = .ok (.ireturn, 1) := by decide +kernel
theorem dX9_ply_24 : decode cX9_ply 24 = .ok (.aload_n 0, 1) := by decide +kernel
theorem dX9_ply_25 : decode cX9_ply 25 = .ok (.getfield 139, 3) := by decide +kernel
theorem dX9_ply_28 : decode cX9_ply 28 = .ok (.bipush 16, 2) := by decide +kernel
theorem dX9_ply_30 : decode cX9_ply 30 = .ok (.if_icmp .ne 6, 3) := by decide +kernel
theorem dX9_ply_33 : decode cX9_ply 33 = .ok (.bipush (-3), 2) := by decide +kernel
theorem dX9_ply_35 : decode cX9_ply 35 = .ok (.ireturn, 1) := by decide +kernel
theorem dX9_ply_36 : decode cX9_ply 36 = .ok (.iconst 0, 1) := by decide +kernel
theorem dX9_ply_37 : decode cX9_ply 37 = .ok (.istore_n 2, 1) := by decide +kernel
theorem dX9_ply_38 : decode cX9_ply 38 = .ok (.iload_n 2, 1) := by decide +kernel
theorem dX9_ply_39 : decode cX9_ply 39 = .ok (.aload_n 0, 1) := by decide +kernel
theorem dX9_ply_40 : decode cX9_ply 40 = .ok (.getfield 194, 3) := by decide +kernel
theorem dX9_ply_43 : decode cX9_ply 43 = .ok (.if_icmp .ge 28, 3) := by decide +kernel
theorem dX9_ply_46 : decode cX9_ply 46 = .ok (.aload_n 0, 1) := by decide +kernel
theorem dX9_ply_47 : decode cX9_ply 47 = .ok (.getfield 15, 3) := by decide +kernel
theorem dX9_ply_50 : decode cX9_ply 50 = .ok (.iconst 4, 1) := by decide +kernel
theorem dX9_ply_51 : decode cX9_ply 51 = .ok (.aload_n 0, 1) := by decide +kernel
theorem dX9_ply_52 : decode cX9_ply 52 = .ok (.getfield 139, 3) := by decide +kernel
theorem dX9_ply_55 : decode cX9_ply 55 = .ok (.imul, 1) := by decide +kernel
theorem dX9_ply_56 : decode cX9_ply 56 = .ok (.iload_n 2, 1) := by decide +kernel
theorem dX9_ply_57 : decode cX9_ply 57 = .ok (.iadd, 1) := by decide +kernel
theorem dX9_ply_58 : decode cX9_ply 58 = .ok (.aload_n 0, 1) := by decide +kernel
theorem dX9_ply_59 : decode cX9_ply 59 = .ok (.getfield 30, 3) := by decide +kernel
theorem dX9_ply_62 : decode cX9_ply 62 = .ok (.iload_n 2, 1) := by decide +kernel
theorem dX9_ply_63 : decode cX9_ply 63 = .ok (.iaload, 1) := by decide +kernel
theorem dX9_ply_64 : decode cX9_ply 64 = .ok (.iastore, 1) := by decide +kernel
theorem dX9_ply_65 : decode cX9_ply 65 = .ok (.iinc 2 1, 3) := by decide +kernel
theorem dX9_ply_68 : decode cX9_ply 68 = .ok (.goto (-30), 3) := by decide +kernel
theorem dX9_ply_71 : decode cX9_ply 71 = .ok (.aload_n 0, 1) := by decide +kernel
theorem dX9_ply_72 : decode cX9_ply 72 = .ok (.aload_n 0, 1) := by decide +kernel
theorem dX9_ply_73 : decode cX9_ply 73 = .ok (.getfield 194, 3) := by decide +kernel
theorem dX9_ply_76 : decode cX9_ply 76 = .ok (.iload_n 1, 1) := by decide +kernel
theorem dX9_ply_77 : decode cX9_ply 77 = .ok (.invokevirtual 197, 3) := by decide +kernel
theorem dX9_ply_80 : decode cX9_ply 80 = .ok (.istore_n 2, 1) := by decide +kernel
theorem dX9_ply_81 : decode cX9_ply 81 = .ok (.aload_n 0, 1) := by decide +kernel
theorem dX9_ply_82 : decode cX9_ply 82 = .ok (.iconst 0, 1) := by decide +kernel
theorem dX9_ply_83 : decode cX9_ply 83 = .ok (.putfield 194, 3) := by decide +kernel
theorem dX9_ply_86 : decode cX9_ply 86 = .ok (.iload_n 2, 1) := by decide +kernel
theorem dX9_ply_87 : decode cX9_ply 87 = .ok (.ireturn, 1) := by decide +kernel
theorem dX9_plied_0 : decode cX9_plied 0 = .ok (.aload_n 0, 1) := by decide +kernel
theorem dX9_plied_1 : decode cX9_plied 1 = .ok (.getfield 9, 3) := by decide +kernel
theorem dX9_plied_4 : decode cX9_plied 4 = .ok (.aload_n 0, 1) := by decide +kernel
theorem dX9_plied_5 : decode cX9_plied 5 = .ok (.getfield 139, 3) := by decide +kernel
theorem dX9_plied_8 : decode cX9_plied 8 = .ok (.iload_n 1, 1) := by decide +kernel
theorem dX9_plied_9 : decode cX9_plied 9 = .ok (.iastore, 1) := by decide +kernel
theorem dX9_plied_10 : decode cX9_plied 10 = .ok (.aload_n 0, 1) := by decide +kernel
theorem dX9_plied_11 : decode cX9_plied 11 = .ok (.getfield 18, 3) := by decide +kernel
theorem dX9_plied_14 : decode cX9_plied 14 = .ok (.aload_n 0, 1) := by decide +kernel
theorem dX9_plied_15 : decode cX9_plied 15 = .ok (.getfield 139, 3) := by decide +kernel
theorem dX9_plied_18 : decode cX9_plied 18 = .ok (.iconst (-1), 1) := by decide +kernel
theorem dX9_plied_19 : decode cX9_plied 19 = .ok (.iastore, 1) := by decide +kernel
theorem dX9_plied_20 : decode cX9_plied 20 = .ok (.aload_n 0, 1) := by decide +kernel
theorem dX9_plied_21 : decode cX9_plied 21 = .ok (.getfield 21, 3) := by decide +kernel
theorem dX9_plied_24 : decode cX9_plied 24 = .ok (.aload_n 0, 1) := by decide +kernel
theorem dX9_plied_25 : decode cX9_plied 25 = .ok (.getfield 139, 3) := by decide +kernel
theorem dX9_plied_28 : decode cX9_plied 28 = .ok (.iconst (-1), 1) := by decide +kernel
theorem dX9_plied_29 : decode cX9_plied 29 = .ok (.iastore, 1) := by decide +kernel
theorem dX9_plied_30 : decode cX9_plied 30 = .ok (.aload_n 0, 1) := by decide +kernel
theorem dX9_plied_31 : decode cX9_plied 31 = .ok (.getfield 24, 3) := by decide +kernel
theorem dX9_plied_34 : decode cX9_plied 34 = .ok (.aload_n 0, 1) := by decide +kernel
theorem dX9_plied_35 : decode cX9_plied 35 = .ok (.getfield 139, 3) := by decide +kernel
theorem dX9_plied_38 : decode cX9_plied 38 = .ok (.iload_n 2, 1) := by decide +kernel
theorem dX9_plied_39 : decode cX9_plied 39 = .ok (.iastore, 1) := by decide +kernel
theorem dX9_plied_40 : decode cX9_plied 40 = .ok (.aload_n 0, 1) := by decide +kernel
theorem dX9_plied_41 : decode cX9_plied 41 = .ok (.getfield 27, 3) := by decide +kernel
theorem dX9_plied_44 : decode cX9_plied 44 = .ok (.aload_n 0, 1) := by decide +kernel
theorem dX9_plied_45 : decode cX9_plied 45 = .ok (.getfield 139, 3) := by decide +kernel
theorem dX9_plied_48 : decode cX9_plied 48 = .ok (.iconst 0, 1) := by decide +kernel
theorem dX9_plied_49 : decode cX9_plied 49 = .ok (.iastore, 1) := by decide +kernel
theorem dX9_plied_50 : decode cX9_plied 50 = .ok (.aload_n 0, 1) := by decide +kernel
theorem dX9_plied_51 : decode cX9_plied 51 = .ok (.dup, 1) := by decide +kernel
theorem dX9_plied_52 : decode cX9_plied 52 = .ok (.getfield 139, 3) := by decide +kernel
theorem dX9_plied_55 : decode cX9_plied 55 = .ok (.iconst 1, 1) := by decide +kernel
theorem dX9_plied_56 : decode cX9_plied 56 = .ok (.iadd, 1) := by decide +kernel
theorem dX9_plied_57 : decode cX9_plied 57 = .ok (.putfield 139, 3) := by decide +kernel
theorem dX9_plied_60 : decode cX9_plied 60 = .ok (.aload_n 0, 1) := by decide +kernel
theorem dX9_plied_61 : decode cX9_plied 61 = .ok (.getfield 139, 3) := by decide +kernel
theorem dX9_plied_64 : decode cX9_plied 64 = .ok (.iconst 1, 1) := by decide +kernel
theorem dX9_plied_65 : decode cX9_plied 65 = .ok (.isub, 1) := by decide +kernel
theorem dX9_plied_66 : decode cX9_plied 66 = .ok (.ireturn, 1) := by decide +kernel
theorem dX9_clear_0 : decode cX9_clear 0 = .ok (.aload_n 0, 1) := by decide +kernel
theorem dX9_clear_1 : decode cX9_clear 1 = .ok (.getfield 139, 3) := by decide +kernel
theorem dX9_clear_4 : decode cX9_clear 4 = .ok (.istore_n 1, 1) := by decide +kernel
theorem dX9_clear_5 : decode cX9_clear 5 = .ok (.aload_n 0, 1) := by decide +kernel
theorem dX9_clear_6 : decode cX9_clear 6 = .ok (.iconst 0, 1) := by decide +kernel
theorem dX9_clear_7 : decode cX9_clear 7 = .ok (.putfield 139, 3) := by decide +kernel
theorem dX9_clear_10 : decode cX9_clear 10 = .ok (.aload_n 0, 1) := by decide +kernel
theorem dX9_clear_11 : decode cX9_clear 11 = .ok (.iconst 0, 1) := by decide +kernel
theorem dX9_clear_12 : decode cX9_clear 12 = .ok (.putfield 194, 3) := by decide +kernel
theorem dX9_clear_15 : decode cX9_clear 15 = .ok (.aload_n 0, 1) := by decide +kernel
theorem dX9_clear_16 : decode cX9_clear 16 = .ok (.iconst 0, 1) := by decide +kernel
theorem dX9_clear_17 : decode cX9_clear 17 = .ok (.putfield 200, 3) := by decide +kernel
theorem dX9_clear_20 : decode cX9_clear 20 = .ok (.aload_n 0, 1) := by decide +kernel
theorem dX9_clear_21 : decode cX9_clear 21 = .ok (.iconst 0, 1) := by decide +kernel
theorem dX9_clear_22 : decode cX9_clear 22 = .ok (.putfield 203, 3) := by decide +kernel
theorem dX9_clear_25 : decode cX9_clear 25 = .ok (.aload_n 0, 1) := by decide +kernel
theorem dX9_clear_26 : decode cX9_clear 26 = .ok (.iconst 0, 1) := by decide +kernel
theorem dX9_clear_27 : decode cX9_clear 27 = .ok (.putfield 206, 3) := by decide +kernel
theorem dX9_clear_30 : decode cX9_clear 30 = .ok (.iload_n 1, 1) := by decide +kernel
theorem dX9_clear_31 : decode cX9_clear 31 = .ok (.ireturn, 1) := by decide +kernel
theorem dX9_toldOf_0 : decode cX9_toldOf 0 = .ok (.iload_n 2, 1) := by decide +kernel
theorem dX9_toldOf_1 : decode cX9_toldOf 1 = .ok (.ifCond .ne 12, 3) := by decide +kernel
theorem dX9_toldOf_4 : decode cX9_toldOf 4 = .ok (.aload_n 0, 1) := by decide +kernel
theorem dX9_toldOf_5 : decode cX9_toldOf 5 = .ok (.getfield 24, 3) := by decide +kernel
theorem dX9_toldOf_8 : decode cX9_toldOf 8 = .ok (.iload_n 1, 1) := by decide +kernel
theorem dX9_toldOf_9 : decode cX9_toldOf 9 = .ok (.iaload, 1) := by decide +kernel
theorem dX9_toldOf_10 : decode cX9_toldOf 10 = .ok (.goto 37, 3) := by decide +kernel
theorem dX9_toldOf_13 : decode cX9_toldOf 13 = .ok (.iload_n 2, 1) := by decide +kernel
theorem dX9_toldOf_14 : decode cX9_toldOf 14 = .ok (.iconst 1, 1) := by decide +kernel
theorem dX9_toldOf_15 : decode cX9_toldOf 15 = .ok (.if_icmp .ne 12, 3) := by decide +kernel
theorem dX9_toldOf_18 : decode cX9_toldOf 18 = .ok (.aload_n 0, 1) := by decide +kernel
theorem dX9_toldOf_19 : decode cX9_toldOf 19 = .ok (.getfield 21, 3) := by decide +kernel
theorem dX9_toldOf_22 : decode cX9_toldOf 22 = .ok (.iload_n 1, 1) := by decide +kernel
theorem dX9_toldOf_23 : decode cX9_toldOf 23 = .ok (.iaload, 1) := by decide +kernel
theorem dX9_toldOf_24 : decode cX9_toldOf 24 = .ok (.goto 23, 3) := by decide +kernel
theorem dX9_toldOf_27 : decode cX9_toldOf 27 = .ok (.iload_n 2, 1) := by decide +kernel
theorem dX9_toldOf_28 : decode cX9_toldOf 28 = .ok (.iconst 2, 1) := by decide +kernel
theorem dX9_toldOf_29 : decode cX9_toldOf 29 = .ok (.if_icmp .ne 12, 3) := by decide +kernel
theorem dX9_toldOf_32 : decode cX9_toldOf 32 = .ok (.aload_n 0, 1) := by decide +kernel
theorem dX9_toldOf_33 : decode cX9_toldOf 33 = .ok (.getfield 18, 3) := by decide +kernel
theorem dX9_toldOf_36 : decode cX9_toldOf 36 = .ok (.iload_n 1, 1) := by decide +kernel
theorem dX9_toldOf_37 : decode cX9_toldOf 37 = .ok (.iaload, 1) := by decide +kernel
theorem dX9_toldOf_38 : decode cX9_toldOf 38 = .ok (.goto 9, 3) := by decide +kernel
theorem dX9_toldOf_41 : decode cX9_toldOf 41 = .ok (.aload_n 0, 1) := by decide +kernel
theorem dX9_toldOf_42 : decode cX9_toldOf 42 = .ok (.getfield 27, 3) := by decide +kernel
theorem dX9_toldOf_45 : decode cX9_toldOf 45 = .ok (.iload_n 1, 1) := by decide +kernel
theorem dX9_toldOf_46 : decode cX9_toldOf 46 = .ok (.iaload, 1) := by decide +kernel
theorem dX9_toldOf_47 : decode cX9_toldOf 47 = .ok (.ireturn, 1) := by decide +kernel
theorem dX9_become_0 : decode cX9_become 0 = .ok (.iload_n 2, 1) := by decide +kernel
theorem dX9_become_1 : decode cX9_become 1 = .ok (.ifCond .ne 13, 3) := by decide +kernel
theorem dX9_become_4 : decode cX9_become 4 = .ok (.aload_n 0, 1) := by decide +kernel
theorem dX9_become_5 : decode cX9_become 5 = .ok (.getfield 24, 3) := by decide +kernel
theorem dX9_become_8 : decode cX9_become 8 = .ok (.iload_n 1, 1) := by decide +kernel
theorem dX9_become_9 : decode cX9_become 9 = .ok (.iload_n 3, 1) := by decide +kernel
theorem dX9_become_10 : decode cX9_become 10 = .ok (.iastore, 1) := by decide +kernel
theorem dX9_become_11 : decode cX9_become 11 = .ok (.goto 40, 3) := by decide +kernel
theorem dX9_become_14 : decode cX9_become 14 = .ok (.iload_n 2, 1) := by decide +kernel
theorem dX9_become_15 : decode cX9_become 15 = .ok (.iconst 1, 1) := by decide +kernel
theorem dX9_become_16 : decode cX9_become 16 = .ok (.if_icmp .ne 13, 3) := by decide +kernel
theorem dX9_become_19 : decode cX9_become 19 = .ok (.aload_n 0, 1) := by decide +kernel
theorem dX9_become_20 : decode cX9_become 20 = .ok (.getfield 21, 3) := by decide +kernel
theorem dX9_become_23 : decode cX9_become 23 = .ok (.iload_n 1, 1) := by decide +kernel
theorem dX9_become_24 : decode cX9_become 24 = .ok (.iload_n 3, 1) := by decide +kernel
theorem dX9_become_25 : decode cX9_become 25 = .ok (.iastore, 1) := by decide +kernel
theorem dX9_become_26 : decode cX9_become 26 = .ok (.goto 25, 3) := by decide +kernel
theorem dX9_become_29 : decode cX9_become 29 = .ok (.iload_n 2, 1) := by decide +kernel
theorem dX9_become_30 : decode cX9_become 30 = .ok (.iconst 2, 1) := by decide +kernel
theorem dX9_become_31 : decode cX9_become 31 = .ok (.if_icmp .ne 13, 3) := by decide +kernel
theorem dX9_become_34 : decode cX9_become 34 = .ok (.aload_n 0, 1) := by decide +kernel
theorem dX9_become_35 : decode cX9_become 35 = .ok (.getfield 18, 3) := by decide +kernel
theorem dX9_become_38 : decode cX9_become 38 = .ok (.iload_n 1, 1) := by decide +kernel
theorem dX9_become_39 : decode cX9_become 39 = .ok (.iload_n 3, 1) := by decide +kernel
theorem dX9_become_40 : decode cX9_become 40 = .ok (.iastore, 1) := by decide +kernel
theorem dX9_become_41 : decode cX9_become 41 = .ok (.goto 10, 3) := by decide +kernel
theorem dX9_become_44 : decode cX9_become 44 = .ok (.aload_n 0, 1) := by decide +kernel
theorem dX9_become_45 : decode cX9_become 45 = .ok (.getfield 27, 3) := by decide +kernel
theorem dX9_become_48 : decode cX9_become 48 = .ok (.iload_n 1, 1) := by decide +kernel
theorem dX9_become_49 : decode cX9_become 49 = .ok (.iload_n 3, 1) := by decide +kernel
theorem dX9_become_50 : decode cX9_become 50 = .ok (.iastore, 1) := by decide +kernel
theorem dX9_become_51 : decode cX9_become 51 = .ok (.return_, 1) := by decide +kernel
theorem dX9_set_0 : decode cX9_set 0 = .ok (.iload_n 1, 1) := by decide +kernel
theorem dX9_set_1 : decode cX9_set 1 = .ok (.iconst 0, 1) := by decide +kernel
theorem dX9_set_2 : decode cX9_set 2 = .ok (.iconst 3, 1) := by decide +kernel
theorem dX9_set_3 : decode cX9_set 3 = .ok (.invokestatic 143, 3) := by decide +kernel
theorem dX9_set_6 : decode cX9_set 6 = .ok (.ifCond .eq 11, 3) := by decide +kernel
theorem dX9_set_9 : decode cX9_set 9 = .ok (.aload_n 0, 1) := by decide +kernel
theorem dX9_set_10 : decode cX9_set 10 = .ok (.iload_n 2, 1) := by decide +kernel
theorem dX9_set_11 : decode cX9_set 11 = .ok (.invokevirtual 147, 3) := by decide +kernel
theorem dX9_set_14 : decode cX9_set 14 = .ok (.ifCond .ne 6, 3) := by decide +kernel
theorem dX9_set_17 : decode cX9_set 17 = .ok (.ldc 209, 2) := by decide +kernel
theorem dX9_set_19 : decode cX9_set 19 = .ok (.ireturn, 1) := by decide +kernel
theorem dX9_set_20 : decode cX9_set 20 = .ok (.iload_n 1, 1) := by decide +kernel
theorem dX9_set_21 : decode cX9_set 21 = .ok (.ifCond .ne 8, 3) := by decide +kernel
theorem dX9_set_24 : decode cX9_set 24 = .ok (.bipush (-99), 2) := by decide +kernel
theorem dX9_set_26 : decode cX9_set 26 = .ok (.goto 13, 3) := by decide +kernel
theorem dX9_set_29 : decode cX9_set 29 = .ok (.iload_n 1, 1) := by decide +kernel
theorem dX9_set_30 : decode cX9_set 30 = .ok (.iconst 1, 1) := by decide +kernel
theorem dX9_set_31 : decode cX9_set 31 = .ok (.if_icmp .ne 7, 3) := by decide +kernel
theorem dX9_set_34 : decode cX9_set 34 = .ok (.iconst 1, 1) := by decide +kernel
theorem dX9_set_35 : decode cX9_set 35 = .ok (.goto 4, 3) := by decide +kernel
theorem dX9_set_38 : decode cX9_set 38 = .ok (.iconst 0, 1) := by decide +kernel
theorem dX9_set_39 : decode cX9_set 39 = .ok (.istore 4, 2) := by decide +kernel
theorem dX9_set_41 : decode cX9_set 41 = .ok (.iload_n 1, 1) := by decide +kernel
theorem dX9_set_42 : decode cX9_set 42 = .ok (.iconst 2, 1) := by decide +kernel
theorem dX9_set_43 : decode cX9_set 43 = .ok (.if_icmp .ge 8, 3) := by decide +kernel
theorem dX9_set_46 : decode cX9_set 46 = .ok (.bipush 99, 2) := by decide +kernel
theorem dX9_set_48 : decode cX9_set 48 = .ok (.goto 14, 3) := by decide +kernel
theorem dX9_set_51 : decode cX9_set 51 = .ok (.iload_n 1, 1) := by decide +kernel
theorem dX9_set_52 : decode cX9_set 52 = .ok (.iconst 2, 1) := by decide +kernel
theorem dX9_set_53 : decode cX9_set 53 = .ok (.if_icmp .ne 7, 3) := by decide +kernel
theorem dX9_set_56 : decode cX9_set 56 = .ok (.iconst 3, 1) := by decide +kernel
theorem dX9_set_57 : decode cX9_set 57 = .ok (.goto 5, 3) := by decide +kernel
theorem dX9_set_60 : decode cX9_set 60 = .ok (.ldc 189, 2) := by decide +kernel
theorem dX9_set_62 : decode cX9_set 62 = .ok (.istore 5, 2) := by decide +kernel
theorem dX9_set_64 : decode cX9_set 64 = .ok (.iload_n 3, 1) := by decide +kernel
theorem dX9_set_65 : decode cX9_set 65 = .ok (.iload 4, 2) := by decide +kernel
theorem dX9_set_67 : decode cX9_set 67 = .ok (.iload 5, 2) := by decide +kernel
theorem dX9_set_69 : decode cX9_set 69 = .ok (.invokestatic 143, 3) := by decide +kernel
theorem dX9_set_72 : decode cX9_set 72 = .ok (.ifCond .ne 6, 3) := by decide +kernel
theorem dX9_set_75 : decode cX9_set 75 = .ok (.ldc 209, 2) := by decide +kernel
theorem dX9_set_77 : decode cX9_set 77 = .ok (.ireturn, 1) := by decide +kernel
theorem dX9_set_78 : decode cX9_set 78 = .ok (.aload_n 0, 1) := by decide +kernel
theorem dX9_set_79 : decode cX9_set 79 = .ok (.getfield 9, 3) := by decide +kernel
theorem dX9_set_82 : decode cX9_set 82 = .ok (.iload_n 2, 1) := by decide +kernel
theorem dX9_set_83 : decode cX9_set 83 = .ok (.iaload, 1) := by decide +kernel
theorem dX9_set_84 : decode cX9_set 84 = .ok (.ifCond .le 17, 3) := by decide +kernel
theorem dX9_set_87 : decode cX9_set 87 = .ok (.iload_n 1, 1) := by decide +kernel
theorem dX9_set_88 : decode cX9_set 88 = .ok (.iconst 1, 1) := by decide +kernel
theorem dX9_set_89 : decode cX9_set 89 = .ok (.if_icmp .eq 8, 3) := by decide +kernel
theorem dX9_set_92 : decode cX9_set 92 = .ok (.iload_n 1, 1) := by decide +kernel
theorem dX9_set_93 : decode cX9_set 93 = .ok (.iconst 2, 1) := by decide +kernel
theorem dX9_set_94 : decode cX9_set 94 = .ok (.if_icmp .ne 7, 3) := by decide +kernel
theorem dX9_set_97 : decode cX9_set 97 = .ok (.sipush (-10000), 3) := by decide +kernel
theorem dX9_set_100 : decode cX9_set 100 = .ok (.ireturn, 1) := by decide +kernel
theorem dX9_set_101 : decode cX9_set 101 = .ok (.aload_n 0, 1) := by decide +kernel
theorem dX9_set_102 : decode cX9_set 102 = .ok (.iload_n 2, 1) := by decide +kernel
theorem dX9_set_103 : decode cX9_set 103 = .ok (.iload_n 1, 1) := by decide +kernel
theorem dX9_set_104 : decode cX9_set 104 = .ok (.invokevirtual 210, 3) := by decide +kernel
theorem dX9_set_107 : decode cX9_set 107 = .ok (.istore 6, 2) := by decide +kernel
theorem dX9_set_109 : decode cX9_set 109 = .ok (.iload 6, 2) := by decide +kernel
theorem dX9_set_111 : decode cX9_set 111 = .ok (.iload_n 3, 1) := by decide +kernel
theorem dX9_set_112 : decode cX9_set 112 = .ok (.if_icmp .eq 130, 3) := by decide +kernel
theorem dX9_set_115 : decode cX9_set 115 = .ok (.aload_n 0, 1) := by decide +kernel
theorem dX9_set_116 : decode cX9_set 116 = .ok (.getfield 206, 3) := by decide +kernel
theorem dX9_set_119 : decode cX9_set 119 = .ok (.bipush 10, 2) := by decide +kernel
theorem dX9_set_121 : decode cX9_set 121 = .ok (.if_icmp .ne 73, 3) := by decide +kernel
theorem dX9_set_124 : decode cX9_set 124 = .ok (.iconst 1, 1) := by decide +kernel
theorem dX9_set_125 : decode cX9_set 125 = .ok (.istore 7, 2) := by decide +kernel
theorem dX9_set_127 : decode cX9_set 127 = .ok (.iload 7, 2) := by decide +kernel
theorem dX9_set_129 : decode cX9_set 129 = .ok (.bipush 10, 2) := by decide +kernel
theorem dX9_set_131 : decode cX9_set 131 = .ok (.if_icmp .ge 57, 3) := by decide +kernel
theorem dX9_set_134 : decode cX9_set 134 = .ok (.aload_n 0, 1) := by decide +kernel
theorem dX9_set_135 : decode cX9_set 135 = .ok (.getfield 48, 3) := by decide +kernel
theorem dX9_set_138 : decode cX9_set 138 = .ok (.iload 7, 2) := by decide +kernel
theorem dX9_set_140 : decode cX9_set 140 = .ok (.iconst 1, 1) := by decide +kernel
theorem dX9_set_141 : decode cX9_set 141 = .ok (.isub, 1) := by decide +kernel
theorem dX9_set_142 : decode cX9_set 142 = .ok (.aload_n 0, 1) := by decide +kernel
theorem dX9_set_143 : decode cX9_set 143 = .ok (.getfield 48, 3) := by decide +kernel
theorem dX9_set_146 : decode cX9_set 146 = .ok (.iload 7, 2) := by decide +kernel
theorem dX9_set_148 : decode cX9_set 148 = .ok (.iaload, 1) := by decide +kernel
theorem dX9_set_149 : decode cX9_set 149 = .ok (.iastore, 1) := by decide +kernel
theorem dX9_set_150 : decode cX9_set 150 = .ok (.aload_n 0, 1) := by decide +kernel
theorem dX9_set_151 : decode cX9_set 151 = .ok (.getfield 51, 3) := by decide +kernel
theorem dX9_set_154 : decode cX9_set 154 = .ok (.iload 7, 2) := by decide +kernel
theorem dX9_set_156 : decode cX9_set 156 = .ok (.iconst 1, 1) := by decide +kernel
theorem dX9_set_157 : decode cX9_set 157 = .ok (.isub, 1) := by decide +kernel
theorem dX9_set_158 : decode cX9_set 158 = .ok (.aload_n 0, 1) := by decide +kernel
theorem dX9_set_159 : decode cX9_set 159 = .ok (.getfield 51, 3) := by decide +kernel
theorem dX9_set_162 : decode cX9_set 162 = .ok (.iload 7, 2) := by decide +kernel
theorem dX9_set_164 : decode cX9_set 164 = .ok (.iaload, 1) := by decide +kernel
theorem dX9_set_165 : decode cX9_set 165 = .ok (.iastore, 1) := by decide +kernel
theorem dX9_set_166 : decode cX9_set 166 = .ok (.aload_n 0, 1) := by decide +kernel
theorem dX9_set_167 : decode cX9_set 167 = .ok (.getfield 54, 3) := by decide +kernel
theorem dX9_set_170 : decode cX9_set 170 = .ok (.iload 7, 2) := by decide +kernel
theorem dX9_set_172 : decode cX9_set 172 = .ok (.iconst 1, 1) := by decide +kernel
theorem dX9_set_173 : decode cX9_set 173 = .ok (.isub, 1) := by decide +kernel
theorem dX9_set_174 : decode cX9_set 174 = .ok (.aload_n 0, 1) := by decide +kernel
theorem dX9_set_175 : decode cX9_set 175 = .ok (.getfield 54, 3) := by decide +kernel
theorem dX9_set_178 : decode cX9_set 178 = .ok (.iload 7, 2) := by decide +kernel
theorem dX9_set_180 : decode cX9_set 180 = .ok (.iaload, 1) := by decide +kernel
theorem dX9_set_181 : decode cX9_set 181 = .ok (.iastore, 1) := by decide +kernel
theorem dX9_set_182 : decode cX9_set 182 = .ok (.iinc 7 1, 3) := by decide +kernel
theorem dX9_set_185 : decode cX9_set 185 = .ok (.goto (-58), 3) := by decide +kernel
theorem dX9_set_188 : decode cX9_set 188 = .ok (.aload_n 0, 1) := by decide +kernel
theorem dX9_set_189 : decode cX9_set 189 = .ok (.bipush 9, 2) := by decide +kernel
theorem dX9_set_191 : decode cX9_set 191 = .ok (.putfield 206, 3) := by decide +kernel
theorem dX9_set_194 : decode cX9_set 194 = .ok (.aload_n 0, 1) := by decide +kernel
theorem dX9_set_195 : decode cX9_set 195 = .ok (.getfield 48, 3) := by decide +kernel
theorem dX9_set_198 : decode cX9_set 198 = .ok (.aload_n 0, 1) := by decide +kernel
theorem dX9_set_199 : decode cX9_set 199 = .ok (.getfield 206, 3) := by decide +kernel
theorem dX9_set_202 : decode cX9_set 202 = .ok (.iload_n 1, 1) := by decide +kernel
theorem dX9_set_203 : decode cX9_set 203 = .ok (.iastore, 1) := by decide +kernel
theorem dX9_set_204 : decode cX9_set 204 = .ok (.aload_n 0, 1) := by decide +kernel
theorem dX9_set_205 : decode cX9_set 205 = .ok (.getfield 51, 3) := by decide +kernel
theorem dX9_set_208 : decode cX9_set 208 = .ok (.aload_n 0, 1) := by decide +kernel
theorem dX9_set_209 : decode cX9_set 209 = .ok (.getfield 206, 3) := by decide +kernel
theorem dX9_set_212 : decode cX9_set 212 = .ok (.iload_n 2, 1) := by decide +kernel
theorem dX9_set_213 : decode cX9_set 213 = .ok (.iastore, 1) := by decide +kernel
theorem dX9_set_214 : decode cX9_set 214 = .ok (.aload_n 0, 1) := by decide +kernel
theorem dX9_set_215 : decode cX9_set 215 = .ok (.getfield 54, 3) := by decide +kernel
theorem dX9_set_218 : decode cX9_set 218 = .ok (.aload_n 0, 1) := by decide +kernel
theorem dX9_set_219 : decode cX9_set 219 = .ok (.getfield 206, 3) := by decide +kernel
theorem dX9_set_222 : decode cX9_set 222 = .ok (.iload 6, 2) := by decide +kernel
theorem dX9_set_224 : decode cX9_set 224 = .ok (.iastore, 1) := by decide +kernel
theorem dX9_set_225 : decode cX9_set 225 = .ok (.aload_n 0, 1) := by decide +kernel
theorem dX9_set_226 : decode cX9_set 226 = .ok (.dup, 1) := by decide +kernel
theorem dX9_set_227 : decode cX9_set 227 = .ok (.getfield 206, 3) := by decide +kernel
theorem dX9_set_230 : decode cX9_set 230 = .ok (.iconst 1, 1) := by decide +kernel
theorem dX9_set_231 : decode cX9_set 231 = .ok (.iadd, 1) := by decide +kernel
theorem dX9_set_232 : decode cX9_set 232 = .ok (.putfield 206, 3) := by decide +kernel
theorem dX9_set_235 : decode cX9_set 235 = .ok (.aload_n 0, 1) := by decide +kernel
theorem dX9_set_236 : decode cX9_set 236 = .ok (.iload_n 2, 1) := by decide +kernel
theorem dX9_set_237 : decode cX9_set 237 = .ok (.iload_n 1, 1) := by decide +kernel
theorem dX9_set_238 : decode cX9_set 238 = .ok (.iload_n 3, 1) := by decide +kernel
theorem dX9_set_239 : decode cX9_set 239 = .ok (.invokevirtual 213, 3) := by decide +kernel
theorem dX9_set_242 : decode cX9_set 242 = .ok (.iload 6, 2) := by decide +kernel
theorem dX9_set_244 : decode cX9_set 244 = .ok (.ireturn, 1) := by decide +kernel
theorem dX9_of_0 : decode cX9_of 0 = .ok (.aload_n 0, 1) := by decide +kernel
theorem dX9_of_1 : decode cX9_of 1 = .ok (.iload_n 1, 1) := by decide +kernel
theorem dX9_of_2 : decode cX9_of 2 = .ok (.invokevirtual 147, 3) := by decide +kernel
theorem dX9_of_5 : decode cX9_of 5 = .ok (.ifCond .eq 13, 3) := by decide +kernel
theorem dX9_of_8 : decode cX9_of 8 = .ok (.iload_n 2, 1) := by decide +kernel
theorem dX9_of_9 : decode cX9_of 9 = .ok (.iconst 0, 1) := by decide +kernel
theorem dX9_of_10 : decode cX9_of 10 = .ok (.bipush 7, 2) := by decide +kernel
theorem dX9_of_12 : decode cX9_of 12 = .ok (.invokestatic 143, 3) := by decide +kernel
theorem dX9_of_15 : decode cX9_of 15 = .ok (.ifCond .ne 6, 3) := by decide +kernel
theorem dX9_of_18 : decode cX9_of 18 = .ok (.ldc 209, 2) := by decide +kernel
theorem dX9_of_20 : decode cX9_of 20 = .ok (.ireturn, 1) := by decide +kernel
theorem dX9_of_21 : decode cX9_of 21 = .ok (.iload_n 2, 1) := by decide +kernel
theorem dX9_of_22 : decode cX9_of 22 = .ok (.tableswitch 60 4 7 #[30, 37, 43, 54], 30) := by decide +kernel
theorem dX9_of_52 : decode cX9_of 52 = .ok (.aload_n 0, 1) := by decide +kernel
theorem dX9_of_53 : decode cX9_of 53 = .ok (.getfield 9, 3) := by decide +kernel
theorem dX9_of_56 : decode cX9_of 56 = .ok (.iload_n 1, 1) := by decide +kernel
theorem dX9_of_57 : decode cX9_of 57 = .ok (.iaload, 1) := by decide +kernel
theorem dX9_of_58 : decode cX9_of 58 = .ok (.ireturn, 1) := by decide +kernel
theorem dX9_of_59 : decode cX9_of 59 = .ok (.aload_n 0, 1) := by decide +kernel
theorem dX9_of_60 : decode cX9_of 60 = .ok (.iload_n 1, 1) := by decide +kernel
theorem dX9_of_61 : decode cX9_of 61 = .ok (.invokevirtual 151, 3) := by decide +kernel
theorem dX9_of_64 : decode cX9_of 64 = .ok (.ireturn, 1) := by decide +kernel
theorem dX9_of_65 : decode cX9_of 65 = .ok (.aload_n 0, 1) := by decide +kernel
theorem dX9_of_66 : decode cX9_of 66 = .ok (.iload_n 1, 1) := by decide +kernel
theorem dX9_of_67 : decode cX9_of 67 = .ok (.iconst 0, 1) := by decide +kernel
theorem dX9_of_68 : decode cX9_of 68 = .ok (.invokevirtual 185, 3) := by decide +kernel
theorem dX9_of_71 : decode cX9_of 71 = .ok (.aload_n 0, 1) := by decide +kernel
theorem dX9_of_72 : decode cX9_of 72 = .ok (.getfield 173, 3) := by decide +kernel
theorem dX9_of_75 : decode cX9_of 75 = .ok (.ireturn, 1) := by decide +kernel
theorem dX9_of_76 : decode cX9_of 76 = .ok (.aload_n 0, 1) := by decide +kernel
theorem dX9_of_77 : decode cX9_of 77 = .ok (.iload_n 1, 1) := by decide +kernel
theorem dX9_of_78 : decode cX9_of 78 = .ok (.invokevirtual 176, 3) := by decide +kernel
theorem dX9_of_81 : decode cX9_of 81 = .ok (.ireturn, 1) := by decide +kernel
theorem dX9_of_82 : decode cX9_of 82 = .ok (.aload_n 0, 1) := by decide +kernel
theorem dX9_of_83 : decode cX9_of 83 = .ok (.iload_n 1, 1) := by decide +kernel
theorem dX9_of_84 : decode cX9_of 84 = .ok (.iload_n 2, 1) := by decide +kernel
theorem dX9_of_85 : decode cX9_of 85 = .ok (.invokevirtual 210, 3) := by decide +kernel
theorem dX9_of_88 : decode cX9_of 88 = .ok (.ireturn, 1) := by decide +kernel
theorem dX9_partOf_0 : decode cX9_partOf 0 = .ok (.aload_n 0, 1) := by decide +kernel
theorem dX9_partOf_1 : decode cX9_partOf 1 = .ok (.iload_n 1, 1) := by decide +kernel
theorem dX9_partOf_2 : decode cX9_partOf 2 = .ok (.invokevirtual 147, 3) := by decide +kernel
theorem dX9_partOf_5 : decode cX9_partOf 5 = .ok (.ifCond .eq 7, 3) := by decide +kernel
theorem dX9_partOf_8 : decode cX9_partOf 8 = .ok (.iload_n 2, 1) := by decide +kernel
theorem dX9_partOf_9 : decode cX9_partOf 9 = .ok (.ifCond .ge 5, 3) := by decide +kernel
theorem dX9_partOf_12 : decode cX9_partOf 12 = .ok (.iconst (-1), 1) := by decide +kernel
theorem dX9_partOf_13 : decode cX9_partOf 13 = .ok (.ireturn, 1) := by decide +kernel
theorem dX9_partOf_14 : decode cX9_partOf 14 = .ok (.iload_n 2, 1) := by decide +kernel
theorem dX9_partOf_15 : decode cX9_partOf 15 = .ok (.iconst 0, 1) := by decide +kernel
theorem dX9_partOf_16 : decode cX9_partOf 16 = .ok (.aload_n 0, 1) := by decide +kernel
theorem dX9_partOf_17 : decode cX9_partOf 17 = .ok (.getfield 9, 3) := by decide +kernel
theorem dX9_partOf_20 : decode cX9_partOf 20 = .ok (.iload_n 1, 1) := by decide +kernel
theorem dX9_partOf_21 : decode cX9_partOf 21 = .ok (.iaload, 1) := by decide +kernel
theorem dX9_partOf_22 : decode cX9_partOf 22 = .ok (.iconst 1, 1) := by decide +kernel
theorem dX9_partOf_23 : decode cX9_partOf 23 = .ok (.isub, 1) := by decide +kernel
theorem dX9_partOf_24 : decode cX9_partOf 24 = .ok (.invokestatic 143, 3) := by decide +kernel
theorem dX9_partOf_27 : decode cX9_partOf 27 = .ok (.ifCond .eq 16, 3) := by decide +kernel
theorem dX9_partOf_30 : decode cX9_partOf 30 = .ok (.aload_n 0, 1) := by decide +kernel
theorem dX9_partOf_31 : decode cX9_partOf 31 = .ok (.getfield 15, 3) := by decide +kernel
theorem dX9_partOf_34 : decode cX9_partOf 34 = .ok (.iconst 4, 1) := by decide +kernel
theorem dX9_partOf_35 : decode cX9_partOf 35 = .ok (.iload_n 1, 1) := by decide +kernel
theorem dX9_partOf_36 : decode cX9_partOf 36 = .ok (.imul, 1) := by decide +kernel
theorem dX9_partOf_37 : decode cX9_partOf 37 = .ok (.iload_n 2, 1) := by decide +kernel
theorem dX9_partOf_38 : decode cX9_partOf 38 = .ok (.iadd, 1) := by decide +kernel
theorem dX9_partOf_39 : decode cX9_partOf 39 = .ok (.iaload, 1) := by decide +kernel
theorem dX9_partOf_40 : decode cX9_partOf 40 = .ok (.goto 5, 3) := by decide +kernel
theorem dX9_partOf_43 : decode cX9_partOf 43 = .ok (.bipush (-2), 2) := by decide +kernel
theorem dX9_partOf_45 : decode cX9_partOf 45 = .ok (.ireturn, 1) := by decide +kernel
theorem dX9_leaf_0 : decode cX9_leaf 0 = .ok (.aload_n 0, 1) := by decide +kernel
theorem dX9_leaf_1 : decode cX9_leaf 1 = .ok (.iload_n 1, 1) := by decide +kernel
theorem dX9_leaf_2 : decode cX9_leaf 2 = .ok (.invokevirtual 147, 3) := by decide +kernel
theorem dX9_leaf_5 : decode cX9_leaf 5 = .ok (.ifCond .eq 12, 3) := by decide +kernel
theorem dX9_leaf_8 : decode cX9_leaf 8 = .ok (.iload_n 3, 1) := by decide +kernel
theorem dX9_leaf_9 : decode cX9_leaf 9 = .ok (.iconst 0, 1) := by decide +kernel
theorem dX9_leaf_10 : decode cX9_leaf 10 = .ok (.iconst 1, 1) := by decide +kernel
theorem dX9_leaf_11 : decode cX9_leaf 11 = .ok (.invokestatic 143, 3) := by decide +kernel
theorem dX9_leaf_14 : decode cX9_leaf 14 = .ok (.ifCond .ne 6, 3) := by decide +kernel
theorem dX9_leaf_17 : decode cX9_leaf 17 = .ok (.ldc 209, 2) := by decide +kernel
theorem dX9_leaf_19 : decode cX9_leaf 19 = .ok (.ireturn, 1) := by decide +kernel
theorem dX9_leaf_20 : decode cX9_leaf 20 = .ok (.aload_n 0, 1) := by decide +kernel
theorem dX9_leaf_21 : decode cX9_leaf 21 = .ok (.iload_n 1, 1) := by decide +kernel
theorem dX9_leaf_22 : decode cX9_leaf 22 = .ok (.iconst 0, 1) := by decide +kernel
theorem dX9_leaf_23 : decode cX9_leaf 23 = .ok (.invokevirtual 185, 3) := by decide +kernel
theorem dX9_leaf_26 : decode cX9_leaf 26 = .ok (.iload_n 2, 1) := by decide +kernel
theorem dX9_leaf_27 : decode cX9_leaf 27 = .ok (.iconst 0, 1) := by decide +kernel
theorem dX9_leaf_28 : decode cX9_leaf 28 = .ok (.aload_n 0, 1) := by decide +kernel
theorem dX9_leaf_29 : decode cX9_leaf 29 = .ok (.getfield 173, 3) := by decide +kernel
theorem dX9_leaf_32 : decode cX9_leaf 32 = .ok (.iconst 1, 1) := by decide +kernel
theorem dX9_leaf_33 : decode cX9_leaf 33 = .ok (.isub, 1) := by decide +kernel
theorem dX9_leaf_34 : decode cX9_leaf 34 = .ok (.invokestatic 143, 3) := by decide +kernel
theorem dX9_leaf_37 : decode cX9_leaf 37 = .ok (.ifCond .ne 6, 3) := by decide +kernel
theorem dX9_leaf_40 : decode cX9_leaf 40 = .ok (.ldc 209, 2) := by decide +kernel
theorem dX9_leaf_42 : decode cX9_leaf 42 = .ok (.ireturn, 1) := by decide +kernel
theorem dX9_leaf_43 : decode cX9_leaf 43 = .ok (.iload_n 3, 1) := by decide +kernel
theorem dX9_leaf_44 : decode cX9_leaf 44 = .ok (.ifCond .ne 12, 3) := by decide +kernel
theorem dX9_leaf_47 : decode cX9_leaf 47 = .ok (.aload_n 0, 1) := by decide +kernel
theorem dX9_leaf_48 : decode cX9_leaf 48 = .ok (.getfield 102, 3) := by decide +kernel
theorem dX9_leaf_51 : decode cX9_leaf 51 = .ok (.iload_n 2, 1) := by decide +kernel
theorem dX9_leaf_52 : decode cX9_leaf 52 = .ok (.iaload, 1) := by decide +kernel
theorem dX9_leaf_53 : decode cX9_leaf 53 = .ok (.goto 9, 3) := by decide +kernel
theorem dX9_leaf_56 : decode cX9_leaf 56 = .ok (.aload_n 0, 1) := by decide +kernel
theorem dX9_leaf_57 : decode cX9_leaf 57 = .ok (.getfield 105, 3) := by decide +kernel
theorem dX9_leaf_60 : decode cX9_leaf 60 = .ok (.iload_n 2, 1) := by decide +kernel
theorem dX9_leaf_61 : decode cX9_leaf 61 = .ok (.iaload, 1) := by decide +kernel
theorem dX9_leaf_62 : decode cX9_leaf 62 = .ok (.ireturn, 1) := by decide +kernel
theorem dX9_torque_0 : decode cX9_torque 0 = .ok (.aload_n 0, 1) := by decide +kernel
theorem dX9_torque_1 : decode cX9_torque 1 = .ok (.iload_n 1, 1) := by decide +kernel
theorem dX9_torque_2 : decode cX9_torque 2 = .ok (.invokevirtual 147, 3) := by decide +kernel
theorem dX9_torque_5 : decode cX9_torque 5 = .ok (.ifCond .ne 6, 3) := by decide +kernel
theorem dX9_torque_8 : decode cX9_torque 8 = .ok (.ldc 209, 2) := by decide +kernel
theorem dX9_torque_10 : decode cX9_torque 10 = .ok (.ireturn, 1) := by decide +kernel
theorem dX9_torque_11 : decode cX9_torque 11 = .ok (.iconst 0, 1) := by decide +kernel
theorem dX9_torque_12 : decode cX9_torque 12 = .ok (.istore_n 2, 1) := by decide +kernel
theorem dX9_torque_13 : decode cX9_torque 13 = .ok (.iload_n 2, 1) := by decide +kernel
theorem dX9_torque_14 : decode cX9_torque 14 = .ok (.iconst 4, 1) := by decide +kernel
theorem dX9_torque_15 : decode cX9_torque 15 = .ok (.if_icmp .ge 16, 3) := by decide +kernel
theorem dX9_torque_18 : decode cX9_torque 18 = .ok (.aload_n 0, 1) := by decide +kernel
theorem dX9_torque_19 : decode cX9_torque 19 = .ok (.getfield 66, 3) := by decide +kernel
theorem dX9_torque_22 : decode cX9_torque 22 = .ok (.iload_n 2, 1) := by decide +kernel
theorem dX9_torque_23 : decode cX9_torque 23 = .ok (.iconst 0, 1) := by decide +kernel
theorem dX9_torque_24 : decode cX9_torque 24 = .ok (.iastore, 1) := by decide +kernel
theorem dX9_torque_25 : decode cX9_torque 25 = .ok (.iinc 2 1, 3) := by decide +kernel
theorem dX9_torque_28 : decode cX9_torque 28 = .ok (.goto (-15), 3) := by decide +kernel
theorem dX9_torque_31 : decode cX9_torque 31 = .ok (.aload_n 0, 1) := by decide +kernel
theorem dX9_torque_32 : decode cX9_torque 32 = .ok (.iload_n 1, 1) := by decide +kernel
theorem dX9_torque_33 : decode cX9_torque 33 = .ok (.invokevirtual 166, 3) := by decide +kernel
theorem dX9_torque_36 : decode cX9_torque 36 = .ok (.aload_n 0, 1) := by decide +kernel
theorem dX9_torque_37 : decode cX9_torque 37 = .ok (.iload_n 1, 1) := by decide +kernel
theorem dX9_torque_38 : decode cX9_torque 38 = .ok (.invokevirtual 217, 3) := by decide +kernel
theorem dX9_torque_41 : decode cX9_torque 41 = .ok (.ireturn, 1) := by decide +kernel
theorem dX9_tally_0 : decode cX9_tally 0 = .ok (.iload_n 1, 1) := by decide +kernel
theorem dX9_tally_1 : decode cX9_tally 1 = .ok (.iconst 0, 1) := by decide +kernel
theorem dX9_tally_2 : decode cX9_tally 2 = .ok (.iconst 3, 1) := by decide +kernel
theorem dX9_tally_3 : decode cX9_tally 3 = .ok (.invokestatic 143, 3) := by decide +kernel
theorem dX9_tally_6 : decode cX9_tally 6 = .ok (.ifCond .eq 12, 3) := by decide +kernel
theorem dX9_tally_9 : decode cX9_tally 9 = .ok (.aload_n 0, 1) := by decide +kernel
theorem dX9_tally_10 : decode cX9_tally 10 = .ok (.getfield 66, 3) := by decide +kernel
theorem dX9_tally_13 : decode cX9_tally 13 = .ok (.iload_n 1, 1) := by decide +kernel
theorem dX9_tally_14 : decode cX9_tally 14 = .ok (.iaload, 1) := by decide +kernel
theorem dX9_tally_15 : decode cX9_tally 15 = .ok (.goto 4, 3) := by decide +kernel
theorem dX9_tally_18 : decode cX9_tally 18 = .ok (.iconst (-1), 1) := by decide +kernel
theorem dX9_tally_19 : decode cX9_tally 19 = .ok (.ireturn, 1) := by decide +kernel
theorem dX9_kept_0 : decode cX9_kept 0 = .ok (.aload_n 0, 1) := by decide +kernel
theorem dX9_kept_1 : decode cX9_kept 1 = .ok (.iload_n 1, 1) := by decide +kernel
theorem dX9_kept_2 : decode cX9_kept 2 = .ok (.invokevirtual 147, 3) := by decide +kernel
theorem dX9_kept_5 : decode cX9_kept 5 = .ok (.ifCond .eq 12, 3) := by decide +kernel
theorem dX9_kept_8 : decode cX9_kept 8 = .ok (.iload_n 3, 1) := by decide +kernel
theorem dX9_kept_9 : decode cX9_kept 9 = .ok (.iconst 0, 1) := by decide +kernel
theorem dX9_kept_10 : decode cX9_kept 10 = .ok (.iconst 1, 1) := by decide +kernel
theorem dX9_kept_11 : decode cX9_kept 11 = .ok (.invokestatic 143, 3) := by decide +kernel
theorem dX9_kept_14 : decode cX9_kept 14 = .ok (.ifCond .ne 7, 3) := by decide +kernel
theorem dX9_kept_17 : decode cX9_kept 17 = .ok (.ldc2_w 220, 3) := by decide +kernel
theorem dX9_kept_20 : decode cX9_kept 20 = .ok (.lreturn, 1) := by decide +kernel
theorem dX9_kept_21 : decode cX9_kept 21 = .ok (.aload_n 0, 1) := by decide +kernel
theorem dX9_kept_22 : decode cX9_kept 22 = .ok (.iload_n 1, 1) := by decide +kernel
theorem dX9_kept_23 : decode cX9_kept 23 = .ok (.iconst 0, 1) := by decide +kernel
theorem dX9_kept_24 : decode cX9_kept 24 = .ok (.invokevirtual 185, 3) := by decide +kernel
theorem dX9_kept_27 : decode cX9_kept 27 = .ok (.iload_n 2, 1) := by decide +kernel
theorem dX9_kept_28 : decode cX9_kept 28 = .ok (.iconst 0, 1) := by decide +kernel
theorem dX9_kept_29 : decode cX9_kept 29 = .ok (.aload_n 0, 1) := by decide +kernel
theorem dX9_kept_30 : decode cX9_kept 30 = .ok (.getfield 173, 3) := by decide +kernel
theorem dX9_kept_33 : decode cX9_kept 33 = .ok (.iconst 1, 1) := by decide +kernel
theorem dX9_kept_34 : decode cX9_kept 34 = .ok (.isub, 1) := by decide +kernel
theorem dX9_kept_35 : decode cX9_kept 35 = .ok (.invokestatic 143, 3) := by decide +kernel
theorem dX9_kept_38 : decode cX9_kept 38 = .ok (.ifCond .ne 7, 3) := by decide +kernel
theorem dX9_kept_41 : decode cX9_kept 41 = .ok (.ldc2_w 220, 3) := by decide +kernel
theorem dX9_kept_44 : decode cX9_kept 44 = .ok (.lreturn, 1) := by decide +kernel
theorem dX9_kept_45 : decode cX9_kept 45 = .ok (.aload_n 0, 1) := by decide +kernel
theorem dX9_kept_46 : decode cX9_kept 46 = .ok (.getfield 111, 3) := by decide +kernel
theorem dX9_kept_49 : decode cX9_kept 49 = .ok (.iload_n 2, 1) := by decide +kernel
theorem dX9_kept_50 : decode cX9_kept 50 = .ok (.laload, 1) := by decide +kernel
theorem dX9_kept_51 : decode cX9_kept 51 = .ok (.aload_n 0, 1) := by decide +kernel
theorem dX9_kept_52 : decode cX9_kept 52 = .ok (.getfield 115, 3) := by decide +kernel
theorem dX9_kept_55 : decode cX9_kept 55 = .ok (.iload_n 2, 1) := by decide +kernel
theorem dX9_kept_56 : decode cX9_kept 56 = .ok (.laload, 1) := by decide +kernel
theorem dX9_kept_57 : decode cX9_kept 57 = .ok (.invokestatic 222, 3) := by decide +kernel
theorem dX9_kept_60 : decode cX9_kept 60 = .ok (.lstore 4, 2) := by decide +kernel
theorem dX9_kept_62 : decode cX9_kept 62 = .ok (.iload_n 3, 1) := by decide +kernel
theorem dX9_kept_63 : decode cX9_kept 63 = .ok (.ifCond .ne 15, 3) := by decide +kernel
theorem dX9_kept_66 : decode cX9_kept 66 = .ok (.aload_n 0, 1) := by decide +kernel
theorem dX9_kept_67 : decode cX9_kept 67 = .ok (.getfield 111, 3) := by decide +kernel
theorem dX9_kept_70 : decode cX9_kept 70 = .ok (.iload_n 2, 1) := by decide +kernel
theorem dX9_kept_71 : decode cX9_kept 71 = .ok (.laload, 1) := by decide +kernel
theorem dX9_kept_72 : decode cX9_kept 72 = .ok (.lload 4, 2) := by decide +kernel
theorem dX9_kept_74 : decode cX9_kept 74 = .ok (.ldiv, 1) := by decide +kernel
theorem dX9_kept_75 : decode cX9_kept 75 = .ok (.goto 12, 3) := by decide +kernel
theorem dX9_kept_78 : decode cX9_kept 78 = .ok (.aload_n 0, 1) := by decide +kernel
theorem dX9_kept_79 : decode cX9_kept 79 = .ok (.getfield 115, 3) := by decide +kernel
theorem dX9_kept_82 : decode cX9_kept 82 = .ok (.iload_n 2, 1) := by decide +kernel
theorem dX9_kept_83 : decode cX9_kept 83 = .ok (.laload, 1) := by decide +kernel
theorem dX9_kept_84 : decode cX9_kept 84 = .ok (.lload 4, 2) := by decide +kernel
theorem dX9_kept_86 : decode cX9_kept 86 = .ok (.ldiv, 1) := by decide +kernel
theorem dX9_kept_87 : decode cX9_kept 87 = .ok (.lreturn, 1) := by decide +kernel
theorem dX9_needs_0 : decode cX9_needs 0 = .ok (.aload_n 0, 1) := by decide +kernel
theorem dX9_needs_1 : decode cX9_needs 1 = .ok (.iload_n 1, 1) := by decide +kernel
theorem dX9_needs_2 : decode cX9_needs 2 = .ok (.invokevirtual 147, 3) := by decide +kernel
theorem dX9_needs_5 : decode cX9_needs 5 = .ok (.ifCond .eq 14, 3) := by decide +kernel
theorem dX9_needs_8 : decode cX9_needs 8 = .ok (.iload_n 3, 1) := by decide +kernel
theorem dX9_needs_9 : decode cX9_needs 9 = .ok (.iconst 0, 1) := by decide +kernel
theorem dX9_needs_10 : decode cX9_needs 10 = .ok (.sipush 9999, 3) := by decide +kernel
theorem dX9_needs_13 : decode cX9_needs 13 = .ok (.invokestatic 143, 3) := by decide +kernel
theorem dX9_needs_16 : decode cX9_needs 16 = .ok (.ifCond .ne 5, 3) := by decide +kernel
theorem dX9_needs_19 : decode cX9_needs 19 = .ok (.iconst (-1), 1) := by decide +kernel
theorem dX9_needs_20 : decode cX9_needs 20 = .ok (.ireturn, 1) := by decide +kernel
theorem dX9_needs_21 : decode cX9_needs 21 = .ok (.aload_n 0, 1) := by decide +kernel
theorem dX9_needs_22 : decode cX9_needs 22 = .ok (.iload_n 1, 1) := by decide +kernel
theorem dX9_needs_23 : decode cX9_needs 23 = .ok (.iload_n 3, 1) := by decide +kernel
theorem dX9_needs_24 : decode cX9_needs 24 = .ok (.invokevirtual 185, 3) := by decide +kernel
theorem dX9_needs_27 : decode cX9_needs 27 = .ok (.iload_n 2, 1) := by decide +kernel
theorem dX9_needs_28 : decode cX9_needs 28 = .ok (.iconst 0, 1) := by decide +kernel
theorem dX9_needs_29 : decode cX9_needs 29 = .ok (.aload_n 0, 1) := by decide +kernel
theorem dX9_needs_30 : decode cX9_needs 30 = .ok (.getfield 173, 3) := by decide +kernel
theorem dX9_needs_33 : decode cX9_needs 33 = .ok (.iconst 1, 1) := by decide +kernel
theorem dX9_needs_34 : decode cX9_needs 34 = .ok (.isub, 1) := by decide +kernel
theorem dX9_needs_35 : decode cX9_needs 35 = .ok (.invokestatic 143, 3) := by decide +kernel
theorem dX9_needs_38 : decode cX9_needs 38 = .ok (.ifCond .eq 12, 3) := by decide +kernel
theorem dX9_needs_41 : decode cX9_needs 41 = .ok (.aload_n 0, 1) := by decide +kernel
theorem dX9_needs_42 : decode cX9_needs 42 = .ok (.getfield 108, 3) := by decide +kernel
theorem dX9_needs_45 : decode cX9_needs 45 = .ok (.iload_n 2, 1) := by decide +kernel
theorem dX9_needs_46 : decode cX9_needs 46 = .ok (.iaload, 1) := by decide +kernel
theorem dX9_needs_47 : decode cX9_needs 47 = .ok (.goto 4, 3) := by decide +kernel
theorem dX9_needs_50 : decode cX9_needs 50 = .ok (.iconst (-1), 1) := by decide +kernel
theorem dX9_needs_51 : decode cX9_needs 51 = .ok (.ireturn, 1) := by decide +kernel
theorem dX9_heavy_0 : decode cX9_heavy 0 = .ok (.aload_n 0, 1) := by decide +kernel
theorem dX9_heavy_1 : decode cX9_heavy 1 = .ok (.iload_n 1, 1) := by decide +kernel
theorem dX9_heavy_2 : decode cX9_heavy 2 = .ok (.invokevirtual 147, 3) := by decide +kernel
theorem dX9_heavy_5 : decode cX9_heavy 5 = .ok (.ifCond .eq 23, 3) := by decide +kernel
theorem dX9_heavy_8 : decode cX9_heavy 8 = .ok (.iload_n 2, 1) := by decide +kernel
theorem dX9_heavy_9 : decode cX9_heavy 9 = .ok (.iconst 0, 1) := by decide +kernel
theorem dX9_heavy_10 : decode cX9_heavy 10 = .ok (.sipush 9999, 3) := by decide +kernel
theorem dX9_heavy_13 : decode cX9_heavy 13 = .ok (.invokestatic 143, 3) := by decide +kernel
theorem dX9_heavy_16 : decode cX9_heavy 16 = .ok (.ifCond .eq 12, 3) := by decide +kernel
theorem dX9_heavy_19 : decode cX9_heavy 19 = .ok (.aload_n 0, 1) := by decide +kernel
theorem dX9_heavy_20 : decode cX9_heavy 20 = .ok (.iload_n 1, 1) := by decide +kernel
theorem dX9_heavy_21 : decode cX9_heavy 21 = .ok (.iload_n 2, 1) := by decide +kernel
theorem dX9_heavy_22 : decode cX9_heavy 22 = .ok (.invokevirtual 226, 3) := by decide +kernel
theorem dX9_heavy_25 : decode cX9_heavy 25 = .ok (.goto 4, 3) := by decide +kernel
theorem dX9_heavy_28 : decode cX9_heavy 28 = .ok (.iconst (-1), 1) := by decide +kernel
theorem dX9_heavy_29 : decode cX9_heavy 29 = .ok (.ireturn, 1) := by decide +kernel
theorem dX9_balance_0 : decode cX9_balance 0 = .ok (.aload_n 0, 1) := by decide +kernel
theorem dX9_balance_1 : decode cX9_balance 1 = .ok (.iload_n 1, 1) := by decide +kernel
theorem dX9_balance_2 : decode cX9_balance 2 = .ok (.invokevirtual 147, 3) := by decide +kernel
theorem dX9_balance_5 : decode cX9_balance 5 = .ok (.ifCond .eq 20, 3) := by decide +kernel
theorem dX9_balance_8 : decode cX9_balance 8 = .ok (.aload_n 0, 1) := by decide +kernel
theorem dX9_balance_9 : decode cX9_balance 9 = .ok (.iload_n 2, 1) := by decide +kernel
theorem dX9_balance_10 : decode cX9_balance 10 = .ok (.invokevirtual 147, 3) := by decide +kernel
theorem dX9_balance_13 : decode cX9_balance 13 = .ok (.ifCond .eq 12, 3) := by decide +kernel
theorem dX9_balance_16 : decode cX9_balance 16 = .ok (.iload_n 3, 1) := by decide +kernel
theorem dX9_balance_17 : decode cX9_balance 17 = .ok (.iconst 0, 1) := by decide +kernel
theorem dX9_balance_18 : decode cX9_balance 18 = .ok (.iconst 1, 1) := by decide +kernel
theorem dX9_balance_19 : decode cX9_balance 19 = .ok (.invokestatic 143, 3) := by decide +kernel
theorem dX9_balance_22 : decode cX9_balance 22 = .ok (.ifCond .ne 6, 3) := by decide +kernel
theorem dX9_balance_25 : decode cX9_balance 25 = .ok (.ldc 209, 2) := by decide +kernel
theorem dX9_balance_27 : decode cX9_balance 27 = .ok (.ireturn, 1) := by decide +kernel
theorem dX9_balance_28 : decode cX9_balance 28 = .ok (.aload_n 0, 1) := by decide +kernel
theorem dX9_balance_29 : decode cX9_balance 29 = .ok (.iload_n 1, 1) := by decide +kernel
theorem dX9_balance_30 : decode cX9_balance 30 = .ok (.iload_n 2, 1) := by decide +kernel
theorem dX9_balance_31 : decode cX9_balance 31 = .ok (.invokevirtual 229, 3) := by decide +kernel
theorem dX9_balance_34 : decode cX9_balance 34 = .ok (.ifCond .ne 6, 3) := by decide +kernel
theorem dX9_balance_37 : decode cX9_balance 37 = .ok (.ldc 232, 2) := by decide +kernel
theorem dX9_balance_39 : decode cX9_balance 39 = .ok (.ireturn, 1) := by decide +kernel
theorem dX9_balance_40 : decode cX9_balance 40 = .ok (.aload_n 0, 1) := by decide +kernel
theorem dX9_balance_41 : decode cX9_balance 41 = .ok (.getfield 24, 3) := by decide +kernel
theorem dX9_balance_44 : decode cX9_balance 44 = .ok (.iload_n 2, 1) := by decide +kernel
theorem dX9_balance_45 : decode cX9_balance 45 = .ok (.iaload, 1) := by decide +kernel
theorem dX9_balance_46 : decode cX9_balance 46 = .ok (.istore 4, 2) := by decide +kernel
theorem dX9_balance_48 : decode cX9_balance 48 = .ok (.iconst 0, 1) := by decide +kernel
theorem dX9_balance_49 : decode cX9_balance 49 = .ok (.istore 5, 2) := by decide +kernel
theorem dX9_balance_51 : decode cX9_balance 51 = .ok (.aload_n 0, 1) := by decide +kernel
theorem dX9_balance_52 : decode cX9_balance 52 = .ok (.getfield 24, 3) := by decide +kernel
theorem dX9_balance_55 : decode cX9_balance 55 = .ok (.iload_n 2, 1) := by decide +kernel
theorem dX9_balance_56 : decode cX9_balance 56 = .ok (.iconst 0, 1) := by decide +kernel
theorem dX9_balance_57 : decode cX9_balance 57 = .ok (.iastore, 1) := by decide +kernel
theorem dX9_balance_58 : decode cX9_balance 58 = .ok (.aload_n 0, 1) := by decide +kernel
theorem dX9_balance_59 : decode cX9_balance 59 = .ok (.iload_n 1, 1) := by decide +kernel
theorem dX9_balance_60 : decode cX9_balance 60 = .ok (.invokevirtual 217, 3) := by decide +kernel
theorem dX9_balance_63 : decode cX9_balance 63 = .ok (.istore 6, 2) := by decide +kernel
theorem dX9_balance_65 : decode cX9_balance 65 = .ok (.iconst 2, 1) := by decide +kernel
theorem dX9_balance_66 : decode cX9_balance 66 = .ok (.istore 7, 2) := by decide +kernel
theorem dX9_balance_68 : decode cX9_balance 68 = .ok (.iload 7, 2) := by decide +kernel
theorem dX9_balance_70 : decode cX9_balance 70 = .ok (.sipush 200, 3) := by decide +kernel
theorem dX9_balance_73 : decode cX9_balance 73 = .ok (.if_icmp .ge 66, 3) := by decide +kernel
theorem dX9_balance_76 : decode cX9_balance 76 = .ok (.iload 7, 2) := by decide +kernel
theorem dX9_balance_78 : decode cX9_balance 78 = .ok (.iconst 2, 1) := by decide +kernel
theorem dX9_balance_79 : decode cX9_balance 79 = .ok (.irem, 1) := by decide +kernel
theorem dX9_balance_80 : decode cX9_balance 80 = .ok (.ifCond .ne 11, 3) := by decide +kernel
theorem dX9_balance_83 : decode cX9_balance 83 = .ok (.iload 7, 2) := by decide +kernel
theorem dX9_balance_85 : decode cX9_balance 85 = .ok (.iconst 2, 1) := by decide +kernel
theorem dX9_balance_86 : decode cX9_balance 86 = .ok (.idiv, 1) := by decide +kernel
theorem dX9_balance_87 : decode cX9_balance 87 = .ok (.ineg, 1) := by decide +kernel
theorem dX9_balance_88 : decode cX9_balance 88 = .ok (.goto 7, 3) := by decide +kernel
theorem dX9_balance_91 : decode cX9_balance 91 = .ok (.iload 7, 2) := by decide +kernel
theorem dX9_balance_93 : decode cX9_balance 93 = .ok (.iconst 2, 1) := by decide +kernel
theorem dX9_balance_94 : decode cX9_balance 94 = .ok (.idiv, 1) := by decide +kernel
theorem dX9_balance_95 : decode cX9_balance 95 = .ok (.istore 8, 2) := by decide +kernel
theorem dX9_balance_97 : decode cX9_balance 97 = .ok (.aload_n 0, 1) := by decide +kernel
theorem dX9_balance_98 : decode cX9_balance 98 = .ok (.getfield 24, 3) := by decide +kernel
theorem dX9_balance_101 : decode cX9_balance 101 = .ok (.iload_n 2, 1) := by decide +kernel
theorem dX9_balance_102 : decode cX9_balance 102 = .ok (.iload 8, 2) := by decide +kernel
theorem dX9_balance_104 : decode cX9_balance 104 = .ok (.iastore, 1) := by decide +kernel
theorem dX9_balance_105 : decode cX9_balance 105 = .ok (.aload_n 0, 1) := by decide +kernel
theorem dX9_balance_106 : decode cX9_balance 106 = .ok (.iload_n 1, 1) := by decide +kernel
theorem dX9_balance_107 : decode cX9_balance 107 = .ok (.invokevirtual 217, 3) := by decide +kernel
theorem dX9_balance_110 : decode cX9_balance 110 = .ok (.istore 9, 2) := by decide +kernel
theorem dX9_balance_112 : decode cX9_balance 112 = .ok (.iload 9, 2) := by decide +kernel
theorem dX9_balance_114 : decode cX9_balance 114 = .ok (.invokestatic 170, 3) := by decide +kernel
theorem dX9_balance_117 : decode cX9_balance 117 = .ok (.iload 6, 2) := by decide +kernel
theorem dX9_balance_119 : decode cX9_balance 119 = .ok (.invokestatic 170, 3) := by decide +kernel
theorem dX9_balance_122 : decode cX9_balance 122 = .ok (.if_icmp .ge 11, 3) := by decide +kernel
theorem dX9_balance_125 : decode cX9_balance 125 = .ok (.iload 8, 2) := by decide +kernel
theorem dX9_balance_127 : decode cX9_balance 127 = .ok (.istore 5, 2) := by decide +kernel
theorem dX9_balance_129 : decode cX9_balance 129 = .ok (.iload 9, 2) := by decide +kernel
theorem dX9_balance_131 : decode cX9_balance 131 = .ok (.istore 6, 2) := by decide +kernel
theorem dX9_balance_133 : decode cX9_balance 133 = .ok (.iinc 7 1, 3) := by decide +kernel
theorem dX9_balance_136 : decode cX9_balance 136 = .ok (.goto (-68), 3) := by decide +kernel
theorem dX9_balance_139 : decode cX9_balance 139 = .ok (.aload_n 0, 1) := by decide +kernel
theorem dX9_balance_140 : decode cX9_balance 140 = .ok (.getfield 24, 3) := by decide +kernel
theorem dX9_balance_143 : decode cX9_balance 143 = .ok (.iload_n 2, 1) := by decide +kernel
theorem dX9_balance_144 : decode cX9_balance 144 = .ok (.iload 4, 2) := by decide +kernel
theorem dX9_balance_146 : decode cX9_balance 146 = .ok (.iastore, 1) := by decide +kernel
theorem dX9_balance_147 : decode cX9_balance 147 = .ok (.iload_n 3, 1) := by decide +kernel
theorem dX9_balance_148 : decode cX9_balance 148 = .ok (.ifCond .ne 8, 3) := by decide +kernel
theorem dX9_balance_151 : decode cX9_balance 151 = .ok (.iload 5, 2) := by decide +kernel
theorem dX9_balance_153 : decode cX9_balance 153 = .ok (.goto 5, 3) := by decide +kernel
theorem dX9_balance_156 : decode cX9_balance 156 = .ok (.iload 6, 2) := by decide +kernel
theorem dX9_balance_158 : decode cX9_balance 158 = .ok (.ireturn, 1) := by decide +kernel
theorem dX9_plan_0 : decode cX9_plan 0 = .ok (.aload_n 0, 1) := by decide +kernel
theorem dX9_plan_1 : decode cX9_plan 1 = .ok (.iload_n 1, 1) := by decide +kernel
theorem dX9_plan_2 : decode cX9_plan 2 = .ok (.invokevirtual 233, 3) := by decide +kernel
theorem dX9_plan_5 : decode cX9_plan 5 = .ok (.ifCond .eq 35, 3) := by decide +kernel
theorem dX9_plan_8 : decode cX9_plan 8 = .ok (.iload_n 2, 1) := by decide +kernel
theorem dX9_plan_9 : decode cX9_plan 9 = .ok (.bipush (-99), 2) := by decide +kernel
theorem dX9_plan_11 : decode cX9_plan 11 = .ok (.bipush 99, 2) := by decide +kernel
theorem dX9_plan_13 : decode cX9_plan 13 = .ok (.invokestatic 143, 3) := by decide +kernel
theorem dX9_plan_16 : decode cX9_plan 16 = .ok (.ifCond .eq 24, 3) := by decide +kernel
theorem dX9_plan_19 : decode cX9_plan 19 = .ok (.iload_n 3, 1) := by decide +kernel
theorem dX9_plan_20 : decode cX9_plan 20 = .ok (.iconst 0, 1) := by decide +kernel
theorem dX9_plan_21 : decode cX9_plan 21 = .ok (.sipush 9999, 3) := by decide +kernel
theorem dX9_plan_24 : decode cX9_plan 24 = .ok (.invokestatic 143, 3) := by decide +kernel
theorem dX9_plan_27 : decode cX9_plan 27 = .ok (.ifCond .eq 13, 3) := by decide +kernel
theorem dX9_plan_30 : decode cX9_plan 30 = .ok (.iload 4, 2) := by decide +kernel
theorem dX9_plan_32 : decode cX9_plan 32 = .ok (.iconst 0, 1) := by decide +kernel
theorem dX9_plan_33 : decode cX9_plan 33 = .ok (.iconst 1, 1) := by decide +kernel
theorem dX9_plan_34 : decode cX9_plan 34 = .ok (.invokestatic 143, 3) := by decide +kernel
theorem dX9_plan_37 : decode cX9_plan 37 = .ok (.ifCond .ne 5, 3) := by decide +kernel
theorem dX9_plan_40 : decode cX9_plan 40 = .ok (.iconst (-1), 1) := by decide +kernel
theorem dX9_plan_41 : decode cX9_plan 41 = .ok (.ireturn, 1) := by decide +kernel
theorem dX9_plan_42 : decode cX9_plan 42 = .ok (.iconst 0, 1) := by decide +kernel
theorem dX9_plan_43 : decode cX9_plan 43 = .ok (.istore 5, 2) := by decide +kernel
theorem dX9_plan_45 : decode cX9_plan 45 = .ok (.iconst 0, 1) := by decide +kernel
theorem dX9_plan_46 : decode cX9_plan 46 = .ok (.istore 6, 2) := by decide +kernel
theorem dX9_plan_48 : decode cX9_plan 48 = .ok (.iconst 2, 1) := by decide +kernel
theorem dX9_plan_49 : decode cX9_plan 49 = .ok (.istore 7, 2) := by decide +kernel
theorem dX9_plan_51 : decode cX9_plan 51 = .ok (.iload 7, 2) := by decide +kernel
theorem dX9_plan_53 : decode cX9_plan 53 = .ok (.iconst 4, 1) := by decide +kernel
theorem dX9_plan_54 : decode cX9_plan 54 = .ok (.if_icmp .gt 81, 3) := by decide +kernel
theorem dX9_plan_57 : decode cX9_plan 57 = .ok (.sipush 1000, 3) := by decide +kernel
theorem dX9_plan_60 : decode cX9_plan 60 = .ok (.iload_n 2, 1) := by decide +kernel
theorem dX9_plan_61 : decode cX9_plan 61 = .ok (.invokestatic 170, 3) := by decide +kernel
theorem dX9_plan_64 : decode cX9_plan 64 = .ok (.iload 7, 2) := by decide +kernel
theorem dX9_plan_66 : decode cX9_plan 66 = .ok (.imul, 1) := by decide +kernel
theorem dX9_plan_67 : decode cX9_plan 67 = .ok (.isub, 1) := by decide +kernel
theorem dX9_plan_68 : decode cX9_plan 68 = .ok (.istore 8, 2) := by decide +kernel
theorem dX9_plan_70 : decode cX9_plan 70 = .ok (.ldc 236, 2) := by decide +kernel
theorem dX9_plan_72 : decode cX9_plan 72 = .ok (.iload 8, 2) := by decide +kernel
theorem dX9_plan_74 : decode cX9_plan 74 = .ok (.iadd, 1) := by decide +kernel
theorem dX9_plan_75 : decode cX9_plan 75 = .ok (.iconst 1, 1) := by decide +kernel
theorem dX9_plan_76 : decode cX9_plan 76 = .ok (.isub, 1) := by decide +kernel
theorem dX9_plan_77 : decode cX9_plan 77 = .ok (.iload 8, 2) := by decide +kernel
theorem dX9_plan_79 : decode cX9_plan 79 = .ok (.idiv, 1) := by decide +kernel
theorem dX9_plan_80 : decode cX9_plan 80 = .ok (.istore 9, 2) := by decide +kernel
theorem dX9_plan_82 : decode cX9_plan 82 = .ok (.iload 7, 2) := by decide +kernel
theorem dX9_plan_84 : decode cX9_plan 84 = .ok (.aload_n 0, 1) := by decide +kernel
theorem dX9_plan_85 : decode cX9_plan 85 = .ok (.getfield 21, 3) := by decide +kernel
theorem dX9_plan_88 : decode cX9_plan 88 = .ok (.iload_n 1, 1) := by decide +kernel
theorem dX9_plan_89 : decode cX9_plan 89 = .ok (.iaload, 1) := by decide +kernel
theorem dX9_plan_90 : decode cX9_plan 90 = .ok (.imul, 1) := by decide +kernel
theorem dX9_plan_91 : decode cX9_plan 91 = .ok (.iload 9, 2) := by decide +kernel
theorem dX9_plan_93 : decode cX9_plan 93 = .ok (.imul, 1) := by decide +kernel
theorem dX9_plan_94 : decode cX9_plan 94 = .ok (.bipush 100, 2) := by decide +kernel
theorem dX9_plan_96 : decode cX9_plan 96 = .ok (.idiv, 1) := by decide +kernel
theorem dX9_plan_97 : decode cX9_plan 97 = .ok (.istore 10, 2) := by decide +kernel
theorem dX9_plan_99 : decode cX9_plan 99 = .ok (.iload 5, 2) := by decide +kernel
theorem dX9_plan_101 : decode cX9_plan 101 = .ok (.ifCond .eq 20, 3) := by decide +kernel
theorem dX9_plan_104 : decode cX9_plan 104 = .ok (.iload 10, 2) := by decide +kernel
theorem dX9_plan_106 : decode cX9_plan 106 = .ok (.iload_n 3, 1) := by decide +kernel
theorem dX9_plan_107 : decode cX9_plan 107 = .ok (.isub, 1) := by decide +kernel
theorem dX9_plan_108 : decode cX9_plan 108 = .ok (.invokestatic 170, 3) := by decide +kernel
theorem dX9_plan_111 : decode cX9_plan 111 = .ok (.iload 6, 2) := by decide +kernel
theorem dX9_plan_113 : decode cX9_plan 113 = .ok (.iload_n 3, 1) := by decide +kernel
theorem dX9_plan_114 : decode cX9_plan 114 = .ok (.isub, 1) := by decide +kernel
theorem dX9_plan_115 : decode cX9_plan 115 = .ok (.invokestatic 170, 3) := by decide +kernel
theorem dX9_plan_118 : decode cX9_plan 118 = .ok (.if_icmp .ge 11, 3) := by decide +kernel
theorem dX9_plan_121 : decode cX9_plan 121 = .ok (.iload 7, 2) := by decide +kernel
theorem dX9_plan_123 : decode cX9_plan 123 = .ok (.istore 5, 2) := by decide +kernel
theorem dX9_plan_125 : decode cX9_plan 125 = .ok (.iload 10, 2) := by decide +kernel
theorem dX9_plan_127 : decode cX9_plan 127 = .ok (.istore 6, 2) := by decide +kernel
theorem dX9_plan_129 : decode cX9_plan 129 = .ok (.iinc 7 1, 3) := by decide +kernel
theorem dX9_plan_132 : decode cX9_plan 132 = .ok (.goto (-81), 3) := by decide +kernel
theorem dX9_plan_135 : decode cX9_plan 135 = .ok (.iload 4, 2) := by decide +kernel
theorem dX9_plan_137 : decode cX9_plan 137 = .ok (.ifCond .ne 8, 3) := by decide +kernel
theorem dX9_plan_140 : decode cX9_plan 140 = .ok (.iload 5, 2) := by decide +kernel
theorem dX9_plan_142 : decode cX9_plan 142 = .ok (.goto 5, 3) := by decide +kernel
theorem dX9_plan_145 : decode cX9_plan 145 = .ok (.iload 6, 2) := by decide +kernel
theorem dX9_plan_147 : decode cX9_plan 147 = .ok (.ireturn, 1) := by decide +kernel
theorem dX9_can_0 : decode cX9_can 0 = .ok (.aload_n 0, 1) := by decide +kernel
theorem dX9_can_1 : decode cX9_can 1 = .ok (.iload_n 1, 1) := by decide +kernel
theorem dX9_can_2 : decode cX9_can 2 = .ok (.invokevirtual 147, 3) := by decide +kernel
theorem dX9_can_5 : decode cX9_can 5 = .ok (.ifCond .ne 5, 3) := by decide +kernel
theorem dX9_can_8 : decode cX9_can 8 = .ok (.iconst (-1), 1) := by decide +kernel
theorem dX9_can_9 : decode cX9_can 9 = .ok (.ireturn, 1) := by decide +kernel
theorem dX9_can_10 : decode cX9_can 10 = .ok (.aload_n 0, 1) := by decide +kernel
theorem dX9_can_11 : decode cX9_can 11 = .ok (.getfield 9, 3) := by decide +kernel
theorem dX9_can_14 : decode cX9_can 14 = .ok (.iload_n 1, 1) := by decide +kernel
theorem dX9_can_15 : decode cX9_can 15 = .ok (.iaload, 1) := by decide +kernel
theorem dX9_can_16 : decode cX9_can 16 = .ok (.ifCond .ne 6, 3) := by decide +kernel
theorem dX9_can_19 : decode cX9_can 19 = .ok (.bipush (-5), 2) := by decide +kernel
theorem dX9_can_21 : decode cX9_can 21 = .ok (.ireturn, 1) := by decide +kernel
theorem dX9_can_22 : decode cX9_can 22 = .ok (.iconst 0, 1) := by decide +kernel
theorem dX9_can_23 : decode cX9_can 23 = .ok (.istore_n 2, 1) := by decide +kernel
theorem dX9_can_24 : decode cX9_can 24 = .ok (.sipush 9999, 3) := by decide +kernel
theorem dX9_can_27 : decode cX9_can 27 = .ok (.istore_n 3, 1) := by decide +kernel
theorem dX9_can_28 : decode cX9_can 28 = .ok (.iload_n 2, 1) := by decide +kernel
theorem dX9_can_29 : decode cX9_can 29 = .ok (.iload_n 3, 1) := by decide +kernel
theorem dX9_can_30 : decode cX9_can 30 = .ok (.if_icmp .ge 36, 3) := by decide +kernel
theorem dX9_can_33 : decode cX9_can 33 = .ok (.iload_n 2, 1) := by decide +kernel
theorem dX9_can_34 : decode cX9_can 34 = .ok (.iload_n 3, 1) := by decide +kernel
theorem dX9_can_35 : decode cX9_can 35 = .ok (.iadd, 1) := by decide +kernel
theorem dX9_can_36 : decode cX9_can 36 = .ok (.iconst 1, 1) := by decide +kernel
theorem dX9_can_37 : decode cX9_can 37 = .ok (.iadd, 1) := by decide +kernel
theorem dX9_can_38 : decode cX9_can 38 = .ok (.iconst 2, 1) := by decide +kernel
theorem dX9_can_39 : decode cX9_can 39 = .ok (.idiv, 1) := by decide +kernel
theorem dX9_can_40 : decode cX9_can 40 = .ok (.istore 4, 2) := by decide +kernel
theorem dX9_can_42 : decode cX9_can 42 = .ok (.aload_n 0, 1) := by decide +kernel
theorem dX9_can_43 : decode cX9_can 43 = .ok (.iload_n 1, 1) := by decide +kernel
theorem dX9_can_44 : decode cX9_can 44 = .ok (.iload 4, 2) := by decide +kernel
theorem dX9_can_46 : decode cX9_can 46 = .ok (.invokevirtual 190, 3) := by decide +kernel
theorem dX9_can_49 : decode cX9_can 49 = .ok (.ifCond .eq 11, 3) := by decide +kernel
theorem dX9_can_52 : decode cX9_can 52 = .ok (.iload 4, 2) := by decide +kernel
theorem dX9_can_54 : decode cX9_can 54 = .ok (.iconst 1, 1) := by decide +kernel
theorem dX9_can_55 : decode cX9_can 55 = .ok (.isub, 1) := by decide +kernel
theorem dX9_can_56 : decode cX9_can 56 = .ok (.istore_n 3, 1) := by decide +kernel
theorem dX9_can_57 : decode cX9_can 57 = .ok (.goto 6, 3) := by decide +kernel
theorem dX9_can_60 : decode cX9_can 60 = .ok (.iload 4, 2) := by decide +kernel
theorem dX9_can_62 : decode cX9_can 62 = .ok (.istore_n 2, 1) := by decide +kernel
theorem dX9_can_63 : decode cX9_can 63 = .ok (.goto (-35), 3) := by decide +kernel
theorem dX9_can_66 : decode cX9_can 66 = .ok (.iload_n 2, 1) := by decide +kernel
theorem dX9_can_67 : decode cX9_can 67 = .ok (.ireturn, 1) := by decide +kernel
theorem dX9_areAlike_0 : decode cX9_areAlike 0 = .ok (.aload_n 0, 1) := by decide +kernel
theorem dX9_areAlike_1 : decode cX9_areAlike 1 = .ok (.getfield 9, 3) := by decide +kernel
theorem dX9_areAlike_4 : decode cX9_areAlike 4 = .ok (.iload_n 1, 1) := by decide +kernel
theorem dX9_areAlike_5 : decode cX9_areAlike 5 = .ok (.iaload, 1) := by decide +kernel
theorem dX9_areAlike_6 : decode cX9_areAlike 6 = .ok (.aload_n 0, 1) := by decide +kernel
theorem dX9_areAlike_7 : decode cX9_areAlike 7 = .ok (.getfield 9, 3) := by decide +kernel
theorem dX9_areAlike_10 : decode cX9_areAlike 10 = .ok (.iload_n 2, 1) := by decide +kernel
theorem dX9_areAlike_11 : decode cX9_areAlike 11 = .ok (.iaload, 1) := by decide +kernel
theorem dX9_areAlike_12 : decode cX9_areAlike 12 = .ok (.if_icmp .ne 20, 3) := by decide +kernel
theorem dX9_areAlike_15 : decode cX9_areAlike 15 = .ok (.aload_n 0, 1) := by decide +kernel
theorem dX9_areAlike_16 : decode cX9_areAlike 16 = .ok (.getfield 24, 3) := by decide +kernel
theorem dX9_areAlike_19 : decode cX9_areAlike 19 = .ok (.iload_n 1, 1) := by decide +kernel
theorem dX9_areAlike_20 : decode cX9_areAlike 20 = .ok (.iaload, 1) := by decide +kernel
theorem dX9_areAlike_21 : decode cX9_areAlike 21 = .ok (.iload_n 3, 1) := by decide +kernel
theorem dX9_areAlike_22 : decode cX9_areAlike 22 = .ok (.aload_n 0, 1) := by decide +kernel
theorem dX9_areAlike_23 : decode cX9_areAlike 23 = .ok (.getfield 24, 3) := by decide +kernel
theorem dX9_areAlike_26 : decode cX9_areAlike 26 = .ok (.iload_n 2, 1) := by decide +kernel
theorem dX9_areAlike_27 : decode cX9_areAlike 27 = .ok (.iaload, 1) := by decide +kernel
theorem dX9_areAlike_28 : decode cX9_areAlike 28 = .ok (.imul, 1) := by decide +kernel
theorem dX9_areAlike_29 : decode cX9_areAlike 29 = .ok (.if_icmp .eq 5, 3) := by decide +kernel
theorem dX9_areAlike_32 : decode cX9_areAlike 32 = .ok (.iconst 0, 1) := by decide +kernel
theorem dX9_areAlike_33 : decode cX9_areAlike 33 = .ok (.ireturn, 1) := by decide +kernel
theorem dX9_areAlike_34 : decode cX9_areAlike 34 = .ok (.aload_n 0, 1) := by decide +kernel
theorem dX9_areAlike_35 : decode cX9_areAlike 35 = .ok (.getfield 9, 3) := by decide +kernel
theorem dX9_areAlike_38 : decode cX9_areAlike 38 = .ok (.iload_n 1, 1) := by decide +kernel
theorem dX9_areAlike_39 : decode cX9_areAlike 39 = .ok (.iaload, 1) := by decide +kernel
theorem dX9_areAlike_40 : decode cX9_areAlike 40 = .ok (.ifCond .ne 39, 3) := by decide +kernel
theorem dX9_areAlike_43 : decode cX9_areAlike 43 = .ok (.aload_n 0, 1) := by decide +kernel
theorem dX9_areAlike_44 : decode cX9_areAlike 44 = .ok (.getfield 18, 3) := by decide +kernel
theorem dX9_areAlike_47 : decode cX9_areAlike 47 = .ok (.iload_n 1, 1) := by decide +kernel
theorem dX9_areAlike_48 : decode cX9_areAlike 48 = .ok (.iaload, 1) := by decide +kernel
theorem dX9_areAlike_49 : decode cX9_areAlike 49 = .ok (.aload_n 0, 1) := by decide +kernel
theorem dX9_areAlike_50 : decode cX9_areAlike 50 = .ok (.getfield 18, 3) := by decide +kernel
theorem dX9_areAlike_53 : decode cX9_areAlike 53 = .ok (.iload_n 2, 1) := by decide +kernel
theorem dX9_areAlike_54 : decode cX9_areAlike 54 = .ok (.iaload, 1) := by decide +kernel
theorem dX9_areAlike_55 : decode cX9_areAlike 55 = .ok (.if_icmp .ne 22, 3) := by decide +kernel
theorem dX9_areAlike_58 : decode cX9_areAlike 58 = .ok (.aload_n 0, 1) := by decide +kernel
theorem dX9_areAlike_59 : decode cX9_areAlike 59 = .ok (.getfield 21, 3) := by decide +kernel
theorem dX9_areAlike_62 : decode cX9_areAlike 62 = .ok (.iload_n 1, 1) := by decide +kernel
theorem dX9_areAlike_63 : decode cX9_areAlike 63 = .ok (.iaload, 1) := by decide +kernel
theorem dX9_areAlike_64 : decode cX9_areAlike 64 = .ok (.aload_n 0, 1) := by decide +kernel
theorem dX9_areAlike_65 : decode cX9_areAlike 65 = .ok (.getfield 21, 3) := by decide +kernel
theorem dX9_areAlike_68 : decode cX9_areAlike 68 = .ok (.iload_n 2, 1) := by decide +kernel
theorem dX9_areAlike_69 : decode cX9_areAlike 69 = .ok (.iaload, 1) := by decide +kernel
theorem dX9_areAlike_70 : decode cX9_areAlike 70 = .ok (.if_icmp .ne 7, 3) := by decide +kernel
theorem dX9_areAlike_73 : decode cX9_areAlike 73 = .ok (.iconst 1, 1) := by decide +kernel
theorem dX9_areAlike_74 : decode cX9_areAlike 74 = .ok (.goto 4, 3) := by decide +kernel
theorem dX9_areAlike_77 : decode cX9_areAlike 77 = .ok (.iconst 0, 1) := by decide +kernel
theorem dX9_areAlike_78 : decode cX9_areAlike 78 = .ok (.ireturn, 1) := by decide +kernel
theorem dX9_areAlike_79 : decode cX9_areAlike 79 = .ok (.iconst 0, 1) := by decide +kernel
theorem dX9_areAlike_80 : decode cX9_areAlike 80 = .ok (.istore 4, 2) := by decide +kernel
theorem dX9_areAlike_82 : decode cX9_areAlike 82 = .ok (.iload 4, 2) := by decide +kernel
theorem dX9_areAlike_84 : decode cX9_areAlike 84 = .ok (.aload_n 0, 1) := by decide +kernel
theorem dX9_areAlike_85 : decode cX9_areAlike 85 = .ok (.getfield 9, 3) := by decide +kernel
theorem dX9_areAlike_88 : decode cX9_areAlike 88 = .ok (.iload_n 1, 1) := by decide +kernel
theorem dX9_areAlike_89 : decode cX9_areAlike 89 = .ok (.iaload, 1) := by decide +kernel
theorem dX9_areAlike_90 : decode cX9_areAlike 90 = .ok (.if_icmp .ge 41, 3) := by decide +kernel
theorem dX9_areAlike_93 : decode cX9_areAlike 93 = .ok (.aload_n 0, 1) := by decide +kernel
theorem dX9_areAlike_94 : decode cX9_areAlike 94 = .ok (.aload_n 0, 1) := by decide +kernel
theorem dX9_areAlike_95 : decode cX9_areAlike 95 = .ok (.getfield 15, 3) := by decide +kernel
theorem dX9_areAlike_98 : decode cX9_areAlike 98 = .ok (.iconst 4, 1) := by decide +kernel
theorem dX9_areAlike_99 : decode cX9_areAlike 99 = .ok (.iload_n 1, 1) := by decide +kernel
theorem dX9_areAlike_100 : decode cX9_areAlike 100 = .ok (.imul, 1) := by decide +kernel
theorem dX9_areAlike_101 : decode cX9_areAlike 101 = .ok (.iload 4, 2) := by decide +kernel
theorem dX9_areAlike_103 : decode cX9_areAlike 103 = .ok (.iadd, 1) := by decide +kernel
theorem dX9_areAlike_104 : decode cX9_areAlike 104 = .ok (.iaload, 1) := by decide +kernel
theorem dX9_areAlike_105 : decode cX9_areAlike 105 = .ok (.aload_n 0, 1) := by decide +kernel
theorem dX9_areAlike_106 : decode cX9_areAlike 106 = .ok (.getfield 15, 3) := by decide +kernel
theorem dX9_areAlike_109 : decode cX9_areAlike 109 = .ok (.iconst 4, 1) := by decide +kernel
theorem dX9_areAlike_110 : decode cX9_areAlike 110 = .ok (.iload_n 2, 1) := by decide +kernel
theorem dX9_areAlike_111 : decode cX9_areAlike 111 = .ok (.imul, 1) := by decide +kernel
theorem dX9_areAlike_112 : decode cX9_areAlike 112 = .ok (.iload 4, 2) := by decide +kernel
theorem dX9_areAlike_114 : decode cX9_areAlike 114 = .ok (.iadd, 1) := by decide +kernel
theorem dX9_areAlike_115 : decode cX9_areAlike 115 = .ok (.iaload, 1) := by decide +kernel
theorem dX9_areAlike_116 : decode cX9_areAlike 116 = .ok (.iload_n 3, 1) := by decide +kernel
theorem dX9_areAlike_117 : decode cX9_areAlike 117 = .ok (.invokevirtual 237, 3) := by decide +kernel
theorem dX9_areAlike_120 : decode cX9_areAlike 120 = .ok (.ifCond .ne 5, 3) := by decide +kernel
theorem dX9_areAlike_123 : decode cX9_areAlike 123 = .ok (.iconst 0, 1) := by decide +kernel
theorem dX9_areAlike_124 : decode cX9_areAlike 124 = .ok (.ireturn, 1) := by decide +kernel
theorem dX9_areAlike_125 : decode cX9_areAlike 125 = .ok (.iinc 4 1, 3) := by decide +kernel
theorem dX9_areAlike_128 : decode cX9_areAlike 128 = .ok (.goto (-46), 3) := by decide +kernel
theorem dX9_areAlike_131 : decode cX9_areAlike 131 = .ok (.iconst 1, 1) := by decide +kernel
theorem dX9_areAlike_132 : decode cX9_areAlike 132 = .ok (.ireturn, 1) := by decide +kernel
theorem dX9_alike_0 : decode cX9_alike 0 = .ok (.aload_n 0, 1) := by decide +kernel
theorem dX9_alike_1 : decode cX9_alike 1 = .ok (.iload_n 1, 1) := by decide +kernel
theorem dX9_alike_2 : decode cX9_alike 2 = .ok (.invokevirtual 147, 3) := by decide +kernel
theorem dX9_alike_5 : decode cX9_alike 5 = .ok (.ifCond .eq 20, 3) := by decide +kernel
theorem dX9_alike_8 : decode cX9_alike 8 = .ok (.aload_n 0, 1) := by decide +kernel
theorem dX9_alike_9 : decode cX9_alike 9 = .ok (.iload_n 2, 1) := by decide +kernel
theorem dX9_alike_10 : decode cX9_alike 10 = .ok (.invokevirtual 147, 3) := by decide +kernel
theorem dX9_alike_13 : decode cX9_alike 13 = .ok (.ifCond .eq 12, 3) := by decide +kernel
theorem dX9_alike_16 : decode cX9_alike 16 = .ok (.iload_n 3, 1) := by decide +kernel
theorem dX9_alike_17 : decode cX9_alike 17 = .ok (.iconst 0, 1) := by decide +kernel
theorem dX9_alike_18 : decode cX9_alike 18 = .ok (.iconst 1, 1) := by decide +kernel
theorem dX9_alike_19 : decode cX9_alike 19 = .ok (.invokestatic 143, 3) := by decide +kernel
theorem dX9_alike_22 : decode cX9_alike 22 = .ok (.ifCond .ne 5, 3) := by decide +kernel
theorem dX9_alike_25 : decode cX9_alike 25 = .ok (.iconst (-1), 1) := by decide +kernel
theorem dX9_alike_26 : decode cX9_alike 26 = .ok (.ireturn, 1) := by decide +kernel
theorem dX9_alike_27 : decode cX9_alike 27 = .ok (.aload_n 0, 1) := by decide +kernel
theorem dX9_alike_28 : decode cX9_alike 28 = .ok (.iload_n 1, 1) := by decide +kernel
theorem dX9_alike_29 : decode cX9_alike 29 = .ok (.iload_n 2, 1) := by decide +kernel
theorem dX9_alike_30 : decode cX9_alike 30 = .ok (.iload_n 3, 1) := by decide +kernel
theorem dX9_alike_31 : decode cX9_alike 31 = .ok (.ifCond .ne 7, 3) := by decide +kernel
theorem dX9_alike_34 : decode cX9_alike 34 = .ok (.iconst 1, 1) := by decide +kernel
theorem dX9_alike_35 : decode cX9_alike 35 = .ok (.goto 4, 3) := by decide +kernel
theorem dX9_alike_38 : decode cX9_alike 38 = .ok (.iconst (-1), 1) := by decide +kernel
theorem dX9_alike_39 : decode cX9_alike 39 = .ok (.invokevirtual 237, 3) := by decide +kernel
theorem dX9_alike_42 : decode cX9_alike 42 = .ok (.ifCond .eq 7, 3) := by decide +kernel
theorem dX9_alike_45 : decode cX9_alike 45 = .ok (.iconst 1, 1) := by decide +kernel
theorem dX9_alike_46 : decode cX9_alike 46 = .ok (.goto 4, 3) := by decide +kernel
theorem dX9_alike_49 : decode cX9_alike 49 = .ok (.iconst 0, 1) := by decide +kernel
theorem dX9_alike_50 : decode cX9_alike 50 = .ok (.ireturn, 1) := by decide +kernel
theorem dX9_inside_0 : decode cX9_inside 0 = .ok (.aload_n 0, 1) := by decide +kernel
theorem dX9_inside_1 : decode cX9_inside 1 = .ok (.iload_n 1, 1) := by decide +kernel
theorem dX9_inside_2 : decode cX9_inside 2 = .ok (.invokevirtual 147, 3) := by decide +kernel
theorem dX9_inside_5 : decode cX9_inside 5 = .ok (.ifCond .eq 11, 3) := by decide +kernel
theorem dX9_inside_8 : decode cX9_inside 8 = .ok (.aload_n 0, 1) := by decide +kernel
theorem dX9_inside_9 : decode cX9_inside 9 = .ok (.iload_n 1, 1) := by decide +kernel
theorem dX9_inside_10 : decode cX9_inside 10 = .ok (.invokevirtual 155, 3) := by decide +kernel
theorem dX9_inside_13 : decode cX9_inside 13 = .ok (.goto 4, 3) := by decide +kernel
theorem dX9_inside_16 : decode cX9_inside 16 = .ok (.iconst (-1), 1) := by decide +kernel
theorem dX9_inside_17 : decode cX9_inside 17 = .ok (.ireturn, 1) := by decide +kernel
theorem dX9_make_0 : decode cX9_make 0 = .ok (.aload_n 0, 1) := by decide +kernel
theorem dX9_make_1 : decode cX9_make 1 = .ok (.iload_n 1, 1) := by decide +kernel
theorem dX9_make_2 : decode cX9_make 2 = .ok (.invokevirtual 147, 3) := by decide +kernel
theorem dX9_make_5 : decode cX9_make 5 = .ok (.ifCond .eq 14, 3) := by decide +kernel
theorem dX9_make_8 : decode cX9_make 8 = .ok (.iload_n 2, 1) := by decide +kernel
theorem dX9_make_9 : decode cX9_make 9 = .ok (.iconst 1, 1) := by decide +kernel
theorem dX9_make_10 : decode cX9_make 10 = .ok (.sipush 9999, 3) := by decide +kernel
theorem dX9_make_13 : decode cX9_make 13 = .ok (.invokestatic 143, 3) := by decide +kernel
theorem dX9_make_16 : decode cX9_make 16 = .ok (.ifCond .ne 5, 3) := by decide +kernel
theorem dX9_make_19 : decode cX9_make 19 = .ok (.iconst (-1), 1) := by decide +kernel
theorem dX9_make_20 : decode cX9_make 20 = .ok (.ireturn, 1) := by decide +kernel
theorem dX9_make_21 : decode cX9_make 21 = .ok (.aload_n 0, 1) := by decide +kernel
theorem dX9_make_22 : decode cX9_make 22 = .ok (.getfield 9, 3) := by decide +kernel
theorem dX9_make_25 : decode cX9_make 25 = .ok (.iload_n 1, 1) := by decide +kernel
theorem dX9_make_26 : decode cX9_make 26 = .ok (.iaload, 1) := by decide +kernel
theorem dX9_make_27 : decode cX9_make 27 = .ok (.ifCond .eq 12, 3) := by decide +kernel
theorem dX9_make_30 : decode cX9_make 30 = .ok (.aload_n 0, 1) := by decide +kernel
theorem dX9_make_31 : decode cX9_make 31 = .ok (.iload_n 1, 1) := by decide +kernel
theorem dX9_make_32 : decode cX9_make 32 = .ok (.iload_n 2, 1) := by decide +kernel
theorem dX9_make_33 : decode cX9_make 33 = .ok (.invokevirtual 240, 3) := by decide +kernel
theorem dX9_make_36 : decode cX9_make 36 = .ok (.ifCond .ne 6, 3) := by decide +kernel
theorem dX9_make_39 : decode cX9_make 39 = .ok (.bipush (-5), 2) := by decide +kernel
theorem dX9_make_41 : decode cX9_make 41 = .ok (.ireturn, 1) := by decide +kernel
theorem dX9_make_42 : decode cX9_make 42 = .ok (.aload_n 0, 1) := by decide +kernel
theorem dX9_make_43 : decode cX9_make 43 = .ok (.iconst 0, 1) := by decide +kernel
theorem dX9_make_44 : decode cX9_make 44 = .ok (.putfield 206, 3) := by decide +kernel
theorem dX9_make_47 : decode cX9_make 47 = .ok (.aload_n 0, 1) := by decide +kernel
theorem dX9_make_48 : decode cX9_make 48 = .ok (.getfield 27, 3) := by decide +kernel
theorem dX9_make_51 : decode cX9_make 51 = .ok (.iload_n 1, 1) := by decide +kernel
theorem dX9_make_52 : decode cX9_make 52 = .ok (.iaload, 1) := by decide +kernel
theorem dX9_make_53 : decode cX9_make 53 = .ok (.ireturn, 1) := by decide +kernel
theorem dX9_lay_0 : decode cX9_lay 0 = .ok (.iload_n 1, 1) := by decide +kernel
theorem dX9_lay_1 : decode cX9_lay 1 = .ok (.iconst (-1), 1) := by decide +kernel
theorem dX9_lay_2 : decode cX9_lay 2 = .ok (.if_icmp .ne 10, 3) := by decide +kernel
theorem dX9_lay_5 : decode cX9_lay 5 = .ok (.aload_n 0, 1) := by decide +kernel
theorem dX9_lay_6 : decode cX9_lay 6 = .ok (.iconst 0, 1) := by decide +kernel
theorem dX9_lay_7 : decode cX9_lay 7 = .ok (.putfield 200, 3) := by decide +kernel
theorem dX9_lay_10 : decode cX9_lay 10 = .ok (.iconst 0, 1) := by decide +kernel
theorem dX9_lay_11 : decode cX9_lay 11 = .ok (.ireturn, 1) := by decide +kernel
theorem dX9_lay_12 : decode cX9_lay 12 = .ok (.aload_n 0, 1) := by decide +kernel
theorem dX9_lay_13 : decode cX9_lay 13 = .ok (.iload_n 1, 1) := by decide +kernel
theorem dX9_lay_14 : decode cX9_lay 14 = .ok (.invokevirtual 147, 3) := by decide +kernel
theorem dX9_lay_17 : decode cX9_lay 17 = .ok (.ifCond .eq 22, 3) := by decide +kernel
theorem dX9_lay_20 : decode cX9_lay 20 = .ok (.iload_n 2, 1) := by decide +kernel
theorem dX9_lay_21 : decode cX9_lay 21 = .ok (.iconst 1, 1) := by decide +kernel
theorem dX9_lay_22 : decode cX9_lay 22 = .ok (.bipush 40, 2) := by decide +kernel
theorem dX9_lay_24 : decode cX9_lay 24 = .ok (.invokestatic 143, 3) := by decide +kernel
theorem dX9_lay_27 : decode cX9_lay 27 = .ok (.ifCond .eq 12, 3) := by decide +kernel
theorem dX9_lay_30 : decode cX9_lay 30 = .ok (.iload_n 3, 1) := by decide +kernel
theorem dX9_lay_31 : decode cX9_lay 31 = .ok (.iconst 0, 1) := by decide +kernel
theorem dX9_lay_32 : decode cX9_lay 32 = .ok (.iconst 1, 1) := by decide +kernel
theorem dX9_lay_33 : decode cX9_lay 33 = .ok (.invokestatic 143, 3) := by decide +kernel
theorem dX9_lay_36 : decode cX9_lay 36 = .ok (.ifCond .ne 5, 3) := by decide +kernel
theorem dX9_lay_39 : decode cX9_lay 39 = .ok (.iconst (-1), 1) := by decide +kernel
theorem dX9_lay_40 : decode cX9_lay 40 = .ok (.ireturn, 1) := by decide +kernel
theorem dX9_lay_41 : decode cX9_lay 41 = .ok (.aload_n 0, 1) := by decide +kernel
theorem dX9_lay_42 : decode cX9_lay 42 = .ok (.getfield 200, 3) := by decide +kernel
theorem dX9_lay_45 : decode cX9_lay 45 = .ok (.bipush 8, 2) := by decide +kernel
theorem dX9_lay_47 : decode cX9_lay 47 = .ok (.if_icmp .ne 6, 3) := by decide +kernel
theorem dX9_lay_50 : decode cX9_lay 50 = .ok (.bipush (-3), 2) := by decide +kernel
theorem dX9_lay_52 : decode cX9_lay 52 = .ok (.ireturn, 1) := by decide +kernel
theorem dX9_lay_53 : decode cX9_lay 53 = .ok (.aload_n 0, 1) := by decide +kernel
theorem dX9_lay_54 : decode cX9_lay 54 = .ok (.getfield 33, 3) := by decide +kernel
theorem dX9_lay_57 : decode cX9_lay 57 = .ok (.aload_n 0, 1) := by decide +kernel
theorem dX9_lay_58 : decode cX9_lay 58 = .ok (.getfield 200, 3) := by decide +kernel
theorem dX9_lay_61 : decode cX9_lay 61 = .ok (.iload_n 1, 1) := by decide +kernel
theorem dX9_lay_62 : decode cX9_lay 62 = .ok (.iastore, 1) := by decide +kernel
theorem dX9_lay_63 : decode cX9_lay 63 = .ok (.aload_n 0, 1) := by decide +kernel
theorem dX9_lay_64 : decode cX9_lay 64 = .ok (.getfield 36, 3) := by decide +kernel
theorem dX9_lay_67 : decode cX9_lay 67 = .ok (.aload_n 0, 1) := by decide +kernel
theorem dX9_lay_68 : decode cX9_lay 68 = .ok (.getfield 200, 3) := by decide +kernel
theorem dX9_lay_71 : decode cX9_lay 71 = .ok (.iload_n 2, 1) := by decide +kernel
theorem dX9_lay_72 : decode cX9_lay 72 = .ok (.iastore, 1) := by decide +kernel
theorem dX9_lay_73 : decode cX9_lay 73 = .ok (.aload_n 0, 1) := by decide +kernel
theorem dX9_lay_74 : decode cX9_lay 74 = .ok (.getfield 39, 3) := by decide +kernel
theorem dX9_lay_77 : decode cX9_lay 77 = .ok (.aload_n 0, 1) := by decide +kernel
theorem dX9_lay_78 : decode cX9_lay 78 = .ok (.getfield 200, 3) := by decide +kernel
theorem dX9_lay_81 : decode cX9_lay 81 = .ok (.iload_n 3, 1) := by decide +kernel
theorem dX9_lay_82 : decode cX9_lay 82 = .ok (.iastore, 1) := by decide +kernel
theorem dX9_lay_83 : decode cX9_lay 83 = .ok (.aload_n 0, 1) := by decide +kernel
theorem dX9_lay_84 : decode cX9_lay 84 = .ok (.dup, 1) := by decide +kernel
theorem dX9_lay_85 : decode cX9_lay 85 = .ok (.getfield 200, 3) := by decide +kernel
theorem dX9_lay_88 : decode cX9_lay 88 = .ok (.iconst 1, 1) := by decide +kernel
theorem dX9_lay_89 : decode cX9_lay 89 = .ok (.iadd, 1) := by decide +kernel
theorem dX9_lay_90 : decode cX9_lay 90 = .ok (.putfield 200, 3) := by decide +kernel
theorem dX9_lay_93 : decode cX9_lay 93 = .ok (.aload_n 0, 1) := by decide +kernel
theorem dX9_lay_94 : decode cX9_lay 94 = .ok (.getfield 200, 3) := by decide +kernel
theorem dX9_lay_97 : decode cX9_lay 97 = .ok (.ireturn, 1) := by decide +kernel
theorem dX9_skewOf_0 : decode cX9_skewOf 0 = .ok (.aload_n 0, 1) := by decide +kernel
theorem dX9_skewOf_1 : decode cX9_skewOf 1 = .ok (.aload_n 0, 1) := by decide +kernel
theorem dX9_skewOf_2 : decode cX9_skewOf 2 = .ok (.getfield 33, 3) := by decide +kernel
theorem dX9_skewOf_5 : decode cX9_skewOf 5 = .ok (.iload_n 1, 1) := by decide +kernel
theorem dX9_skewOf_6 : decode cX9_skewOf 6 = .ok (.iaload, 1) := by decide +kernel
theorem dX9_skewOf_7 : decode cX9_skewOf 7 = .ok (.invokevirtual 217, 3) := by decide +kernel
theorem dX9_skewOf_10 : decode cX9_skewOf 10 = .ok (.aload_n 0, 1) := by decide +kernel
theorem dX9_skewOf_11 : decode cX9_skewOf 11 = .ok (.getfield 36, 3) := by decide +kernel
theorem dX9_skewOf_14 : decode cX9_skewOf 14 = .ok (.iload_n 1, 1) := by decide +kernel
theorem dX9_skewOf_15 : decode cX9_skewOf 15 = .ok (.iaload, 1) := by decide +kernel
theorem dX9_skewOf_16 : decode cX9_skewOf 16 = .ok (.imul, 1) := by decide +kernel
theorem dX9_skewOf_17 : decode cX9_skewOf 17 = .ok (.istore_n 2, 1) := by decide +kernel
theorem dX9_skewOf_18 : decode cX9_skewOf 18 = .ok (.aload_n 0, 1) := by decide +kernel
theorem dX9_skewOf_19 : decode cX9_skewOf 19 = .ok (.getfield 39, 3) := by decide +kernel
theorem dX9_skewOf_22 : decode cX9_skewOf 22 = .ok (.iload_n 1, 1) := by decide +kernel
theorem dX9_skewOf_23 : decode cX9_skewOf 23 = .ok (.iaload, 1) := by decide +kernel
theorem dX9_skewOf_24 : decode cX9_skewOf 24 = .ok (.iconst 1, 1) := by decide +kernel
theorem dX9_skewOf_25 : decode cX9_skewOf 25 = .ok (.if_icmp .ne 8, 3) := by decide +kernel
theorem dX9_skewOf_28 : decode cX9_skewOf 28 = .ok (.iload_n 2, 1) := by decide +kernel
theorem dX9_skewOf_29 : decode cX9_skewOf 29 = .ok (.ineg, 1) := by decide +kernel
theorem dX9_skewOf_30 : decode cX9_skewOf 30 = .ok (.goto 4, 3) := by decide +kernel
theorem dX9_skewOf_33 : decode cX9_skewOf 33 = .ok (.iload_n 2, 1) := by decide +kernel
theorem dX9_skewOf_34 : decode cX9_skewOf 34 = .ok (.ireturn, 1) := by decide +kernel
theorem dX9_skew_0 : decode cX9_skew 0 = .ok (.iload_n 1, 1) := by decide +kernel
theorem dX9_skew_1 : decode cX9_skew 1 = .ok (.iconst 0, 1) := by decide +kernel
theorem dX9_skew_2 : decode cX9_skew 2 = .ok (.aload_n 0, 1) := by decide +kernel
theorem dX9_skew_3 : decode cX9_skew 3 = .ok (.getfield 200, 3) := by decide +kernel
theorem dX9_skew_6 : decode cX9_skew 6 = .ok (.invokestatic 143, 3) := by decide +kernel
theorem dX9_skew_9 : decode cX9_skew 9 = .ok (.ifCond .ne 6, 3) := by decide +kernel
theorem dX9_skew_12 : decode cX9_skew 12 = .ok (.ldc 209, 2) := by decide +kernel
theorem dX9_skew_14 : decode cX9_skew 14 = .ok (.ireturn, 1) := by decide +kernel
theorem dX9_skew_15 : decode cX9_skew 15 = .ok (.iconst 0, 1) := by decide +kernel
theorem dX9_skew_16 : decode cX9_skew 16 = .ok (.istore_n 2, 1) := by decide +kernel
theorem dX9_skew_17 : decode cX9_skew 17 = .ok (.iconst 0, 1) := by decide +kernel
theorem dX9_skew_18 : decode cX9_skew 18 = .ok (.istore_n 3, 1) := by decide +kernel
theorem dX9_skew_19 : decode cX9_skew 19 = .ok (.iload_n 3, 1) := by decide +kernel
theorem dX9_skew_20 : decode cX9_skew 20 = .ok (.iload_n 1, 1) := by decide +kernel
theorem dX9_skew_21 : decode cX9_skew 21 = .ok (.if_icmp .ge 17, 3) := by decide +kernel
theorem dX9_skew_24 : decode cX9_skew 24 = .ok (.iload_n 2, 1) := by decide +kernel
theorem dX9_skew_25 : decode cX9_skew 25 = .ok (.aload_n 0, 1) := by decide +kernel
theorem dX9_skew_26 : decode cX9_skew 26 = .ok (.iload_n 3, 1) := by decide +kernel
theorem dX9_skew_27 : decode cX9_skew 27 = .ok (.invokevirtual 243, 3) := by decide +kernel
theorem dX9_skew_30 : decode cX9_skew 30 = .ok (.iadd, 1) := by decide +kernel
theorem dX9_skew_31 : decode cX9_skew 31 = .ok (.istore_n 2, 1) := by decide +kernel
theorem dX9_skew_32 : decode cX9_skew 32 = .ok (.iinc 3 1, 3) := by decide +kernel
theorem dX9_skew_35 : decode cX9_skew 35 = .ok (.goto (-16), 3) := by decide +kernel
theorem dX9_skew_38 : decode cX9_skew 38 = .ok (.iload_n 2, 1) := by decide +kernel
theorem dX9_skew_39 : decode cX9_skew 39 = .ok (.ireturn, 1) := by decide +kernel
theorem dX9_worst_0 : decode cX9_worst 0 = .ok (.iconst 0, 1) := by decide +kernel
theorem dX9_worst_1 : decode cX9_worst 1 = .ok (.istore_n 1, 1) := by decide +kernel
theorem dX9_worst_2 : decode cX9_worst 2 = .ok (.iconst 0, 1) := by decide +kernel
theorem dX9_worst_3 : decode cX9_worst 3 = .ok (.istore_n 2, 1) := by decide +kernel
theorem dX9_worst_4 : decode cX9_worst 4 = .ok (.iconst 0, 1) := by decide +kernel
theorem dX9_worst_5 : decode cX9_worst 5 = .ok (.istore_n 3, 1) := by decide +kernel
theorem dX9_worst_6 : decode cX9_worst 6 = .ok (.iload_n 3, 1) := by decide +kernel
theorem dX9_worst_7 : decode cX9_worst 7 = .ok (.aload_n 0, 1) := by decide +kernel
theorem dX9_worst_8 : decode cX9_worst 8 = .ok (.getfield 200, 3) := by decide +kernel
theorem dX9_worst_11 : decode cX9_worst 11 = .ok (.if_icmp .ge 34, 3) := by decide +kernel
theorem dX9_worst_14 : decode cX9_worst 14 = .ok (.iload_n 2, 1) := by decide +kernel
theorem dX9_worst_15 : decode cX9_worst 15 = .ok (.aload_n 0, 1) := by decide +kernel
theorem dX9_worst_16 : decode cX9_worst 16 = .ok (.iload_n 3, 1) := by decide +kernel
theorem dX9_worst_17 : decode cX9_worst 17 = .ok (.invokevirtual 243, 3) := by decide +kernel
theorem dX9_worst_20 : decode cX9_worst 20 = .ok (.iadd, 1) := by decide +kernel
theorem dX9_worst_21 : decode cX9_worst 21 = .ok (.istore_n 2, 1) := by decide +kernel
theorem dX9_worst_22 : decode cX9_worst 22 = .ok (.iload_n 2, 1) := by decide +kernel
theorem dX9_worst_23 : decode cX9_worst 23 = .ok (.invokestatic 170, 3) := by decide +kernel
theorem dX9_worst_26 : decode cX9_worst 26 = .ok (.iload_n 1, 1) := by decide +kernel
theorem dX9_worst_27 : decode cX9_worst 27 = .ok (.if_icmp .le 10, 3) := by decide +kernel
theorem dX9_worst_30 : decode cX9_worst 30 = .ok (.iload_n 2, 1) := by decide +kernel
theorem dX9_worst_31 : decode cX9_worst 31 = .ok (.invokestatic 170, 3) := by decide +kernel
theorem dX9_worst_34 : decode cX9_worst 34 = .ok (.goto 4, 3) := by decide +kernel
theorem dX9_worst_37 : decode cX9_worst 37 = .ok (.iload_n 1, 1) := by decide +kernel
theorem dX9_worst_38 : decode cX9_worst 38 = .ok (.istore_n 1, 1) := by decide +kernel
theorem dX9_worst_39 : decode cX9_worst 39 = .ok (.iinc 3 1, 3) := by decide +kernel
theorem dX9_worst_42 : decode cX9_worst 42 = .ok (.goto (-36), 3) := by decide +kernel
theorem dX9_worst_45 : decode cX9_worst 45 = .ok (.iload_n 1, 1) := by decide +kernel
theorem dX9_worst_46 : decode cX9_worst 46 = .ok (.ireturn, 1) := by decide +kernel
theorem dX9_arrange_0 : decode cX9_arrange 0 = .ok (.iload 4, 2) := by decide +kernel
theorem dX9_arrange_2 : decode cX9_arrange 2 = .ok (.aload_n 0, 1) := by decide +kernel
theorem dX9_arrange_3 : decode cX9_arrange 3 = .ok (.getfield 246, 3) := by decide +kernel
theorem dX9_arrange_6 : decode cX9_arrange 6 = .ok (.if_icmp .lt 4, 3) := by decide +kernel
theorem dX9_arrange_9 : decode cX9_arrange 9 = .ok (.return_, 1) := by decide +kernel
theorem dX9_arrange_10 : decode cX9_arrange 10 = .ok (.iload_n 1, 1) := by decide +kernel
theorem dX9_arrange_11 : decode cX9_arrange 11 = .ok (.aload_n 0, 1) := by decide +kernel
theorem dX9_arrange_12 : decode cX9_arrange 12 = .ok (.getfield 200, 3) := by decide +kernel
theorem dX9_arrange_15 : decode cX9_arrange 15 = .ok (.if_icmp .ne 42, 3) := by decide +kernel
theorem dX9_arrange_18 : decode cX9_arrange 18 = .ok (.aload_n 0, 1) := by decide +kernel
theorem dX9_arrange_19 : decode cX9_arrange 19 = .ok (.iload 4, 2) := by decide +kernel
theorem dX9_arrange_21 : decode cX9_arrange 21 = .ok (.putfield 246, 3) := by decide +kernel
theorem dX9_arrange_24 : decode cX9_arrange 24 = .ok (.iconst 0, 1) := by decide +kernel
theorem dX9_arrange_25 : decode cX9_arrange 25 = .ok (.istore 5, 2) := by decide +kernel
theorem dX9_arrange_27 : decode cX9_arrange 27 = .ok (.iload 5, 2) := by decide +kernel
theorem dX9_arrange_29 : decode cX9_arrange 29 = .ok (.aload_n 0, 1) := by decide +kernel
theorem dX9_arrange_30 : decode cX9_arrange 30 = .ok (.getfield 200, 3) := by decide +kernel
theorem dX9_arrange_33 : decode cX9_arrange 33 = .ok (.if_icmp .ge 23, 3) := by decide +kernel
theorem dX9_arrange_36 : decode cX9_arrange 36 = .ok (.aload_n 0, 1) := by decide +kernel
theorem dX9_arrange_37 : decode cX9_arrange 37 = .ok (.getfield 127, 3) := by decide +kernel
theorem dX9_arrange_40 : decode cX9_arrange 40 = .ok (.iload 5, 2) := by decide +kernel
theorem dX9_arrange_42 : decode cX9_arrange 42 = .ok (.aload_n 0, 1) := by decide +kernel
theorem dX9_arrange_43 : decode cX9_arrange 43 = .ok (.getfield 124, 3) := by decide +kernel
theorem dX9_arrange_46 : decode cX9_arrange 46 = .ok (.iload 5, 2) := by decide +kernel
theorem dX9_arrange_48 : decode cX9_arrange 48 = .ok (.iaload, 1) := by decide +kernel
theorem dX9_arrange_49 : decode cX9_arrange 49 = .ok (.iastore, 1) := by decide +kernel
theorem dX9_arrange_50 : decode cX9_arrange 50 = .ok (.iinc 5 1, 3) := by decide +kernel
theorem dX9_arrange_53 : decode cX9_arrange 53 = .ok (.goto (-26), 3) := by decide +kernel
theorem dX9_arrange_56 : decode cX9_arrange 56 = .ok (.return_, 1) := by decide +kernel
theorem dX9_arrange_57 : decode cX9_arrange 57 = .ok (.iconst 0, 1) := by decide +kernel
theorem dX9_arrange_58 : decode cX9_arrange 58 = .ok (.istore 5, 2) := by decide +kernel
theorem dX9_arrange_60 : decode cX9_arrange 60 = .ok (.iload 5, 2) := by decide +kernel
theorem dX9_arrange_62 : decode cX9_arrange 62 = .ok (.aload_n 0, 1) := by decide +kernel
theorem dX9_arrange_63 : decode cX9_arrange 63 = .ok (.getfield 200, 3) := by decide +kernel
theorem dX9_arrange_66 : decode cX9_arrange 66 = .ok (.if_icmp .ge 72, 3) := by decide +kernel
theorem dX9_arrange_69 : decode cX9_arrange 69 = .ok (.iload_n 2, 1) := by decide +kernel
theorem dX9_arrange_70 : decode cX9_arrange 70 = .ok (.iload 5, 2) := by decide +kernel
theorem dX9_arrange_72 : decode cX9_arrange 72 = .ok (.ishr, 1) := by decide +kernel
theorem dX9_arrange_73 : decode cX9_arrange 73 = .ok (.iconst 1, 1) := by decide +kernel
theorem dX9_arrange_74 : decode cX9_arrange 74 = .ok (.iand, 1) := by decide +kernel
theorem dX9_arrange_75 : decode cX9_arrange 75 = .ok (.ifCond .ne 57, 3) := by decide +kernel
theorem dX9_arrange_78 : decode cX9_arrange 78 = .ok (.aload_n 0, 1) := by decide +kernel
theorem dX9_arrange_79 : decode cX9_arrange 79 = .ok (.getfield 124, 3) := by decide +kernel
theorem dX9_arrange_82 : decode cX9_arrange 82 = .ok (.iload_n 1, 1) := by decide +kernel
theorem dX9_arrange_83 : decode cX9_arrange 83 = .ok (.iload 5, 2) := by decide +kernel
theorem dX9_arrange_85 : decode cX9_arrange 85 = .ok (.iastore, 1) := by decide +kernel
theorem dX9_arrange_86 : decode cX9_arrange 86 = .ok (.iload_n 3, 1) := by decide +kernel
theorem dX9_arrange_87 : decode cX9_arrange 87 = .ok (.aload_n 0, 1) := by decide +kernel
theorem dX9_arrange_88 : decode cX9_arrange 88 = .ok (.getfield 121, 3) := by decide +kernel
theorem dX9_arrange_91 : decode cX9_arrange 91 = .ok (.iload 5, 2) := by decide +kernel
theorem dX9_arrange_93 : decode cX9_arrange 93 = .ok (.iaload, 1) := by decide +kernel
theorem dX9_arrange_94 : decode cX9_arrange 94 = .ok (.iadd, 1) := by decide +kernel
theorem dX9_arrange_95 : decode cX9_arrange 95 = .ok (.istore 6, 2) := by decide +kernel
theorem dX9_arrange_97 : decode cX9_arrange 97 = .ok (.aload_n 0, 1) := by decide +kernel
theorem dX9_arrange_98 : decode cX9_arrange 98 = .ok (.iload_n 1, 1) := by decide +kernel
theorem dX9_arrange_99 : decode cX9_arrange 99 = .ok (.iconst 1, 1) := by decide +kernel
theorem dX9_arrange_100 : decode cX9_arrange 100 = .ok (.iadd, 1) := by decide +kernel
theorem dX9_arrange_101 : decode cX9_arrange 101 = .ok (.iload_n 2, 1) := by decide +kernel
theorem dX9_arrange_102 : decode cX9_arrange 102 = .ok (.iconst 1, 1) := by decide +kernel
theorem dX9_arrange_103 : decode cX9_arrange 103 = .ok (.iload 5, 2) := by decide +kernel
theorem dX9_arrange_105 : decode cX9_arrange 105 = .ok (.ishl, 1) := by decide +kernel
theorem dX9_arrange_106 : decode cX9_arrange 106 = .ok (.ior, 1) := by decide +kernel
theorem dX9_arrange_107 : decode cX9_arrange 107 = .ok (.iload 6, 2) := by decide +kernel
theorem dX9_arrange_109 : decode cX9_arrange 109 = .ok (.iload 6, 2) := by decide +kernel
theorem dX9_arrange_111 : decode cX9_arrange 111 = .ok (.invokestatic 170, 3) := by decide +kernel
theorem dX9_arrange_114 : decode cX9_arrange 114 = .ok (.iload 4, 2) := by decide +kernel
theorem dX9_arrange_116 : decode cX9_arrange 116 = .ok (.if_icmp .le 11, 3) := by decide +kernel
theorem dX9_arrange_119 : decode cX9_arrange 119 = .ok (.iload 6, 2) := by decide +kernel
theorem dX9_arrange_121 : decode cX9_arrange 121 = .ok (.invokestatic 170, 3) := by decide +kernel
theorem dX9_arrange_124 : decode cX9_arrange 124 = .ok (.goto 5, 3) := by decide +kernel
theorem dX9_arrange_127 : decode cX9_arrange 127 = .ok (.iload 4, 2) := by decide +kernel
theorem dX9_arrange_129 : decode cX9_arrange 129 = .ok (.invokevirtual 249, 3) := by decide +kernel
theorem dX9_arrange_132 : decode cX9_arrange 132 = .ok (.iinc 5 1, 3) := by decide +kernel
theorem dX9_arrange_135 : decode cX9_arrange 135 = .ok (.goto (-75), 3) := by decide +kernel
theorem dX9_arrange_138 : decode cX9_arrange 138 = .ok (.return_, 1) := by decide +kernel
theorem dX9_order_0 : decode cX9_order 0 = .ok (.iload_n 1, 1) := by decide +kernel
theorem dX9_order_1 : decode cX9_order 1 = .ok (.iconst (-1), 1) := by decide +kernel
theorem dX9_order_2 : decode cX9_order 2 = .ok (.aload_n 0, 1) := by decide +kernel
theorem dX9_order_3 : decode cX9_order 3 = .ok (.getfield 200, 3) := by decide +kernel
theorem dX9_order_6 : decode cX9_order 6 = .ok (.iconst 1, 1) := by decide +kernel
theorem dX9_order_7 : decode cX9_order 7 = .ok (.isub, 1) := by decide +kernel
theorem dX9_order_8 : decode cX9_order 8 = .ok (.invokestatic 143, 3) := by decide +kernel
theorem dX9_order_11 : decode cX9_order 11 = .ok (.ifCond .ne 5, 3) := by decide +kernel
theorem dX9_order_14 : decode cX9_order 14 = .ok (.iconst (-1), 1) := by decide +kernel
theorem dX9_order_15 : decode cX9_order 15 = .ok (.ireturn, 1) := by decide +kernel
theorem dX9_order_16 : decode cX9_order 16 = .ok (.iconst 0, 1) := by decide +kernel
theorem dX9_order_17 : decode cX9_order 17 = .ok (.istore_n 2, 1) := by decide +kernel
theorem dX9_order_18 : decode cX9_order 18 = .ok (.iload_n 2, 1) := by decide +kernel
theorem dX9_order_19 : decode cX9_order 19 = .ok (.aload_n 0, 1) := by decide +kernel
theorem dX9_order_20 : decode cX9_order 20 = .ok (.getfield 200, 3) := by decide +kernel
theorem dX9_order_23 : decode cX9_order 23 = .ok (.if_icmp .ge 20, 3) := by decide +kernel
theorem dX9_order_26 : decode cX9_order 26 = .ok (.aload_n 0, 1) := by decide +kernel
theorem dX9_order_27 : decode cX9_order 27 = .ok (.getfield 121, 3) := by decide +kernel
theorem dX9_order_30 : decode cX9_order 30 = .ok (.iload_n 2, 1) := by decide +kernel
theorem dX9_order_31 : decode cX9_order 31 = .ok (.aload_n 0, 1) := by decide +kernel
theorem dX9_order_32 : decode cX9_order 32 = .ok (.iload_n 2, 1) := by decide +kernel
theorem dX9_order_33 : decode cX9_order 33 = .ok (.invokevirtual 243, 3) := by decide +kernel
theorem dX9_order_36 : decode cX9_order 36 = .ok (.iastore, 1) := by decide +kernel
theorem dX9_order_37 : decode cX9_order 37 = .ok (.iinc 2 1, 3) := by decide +kernel
theorem dX9_order_40 : decode cX9_order 40 = .ok (.goto (-22), 3) := by decide +kernel
theorem dX9_order_43 : decode cX9_order 43 = .ok (.aload_n 0, 1) := by decide +kernel
theorem dX9_order_44 : decode cX9_order 44 = .ok (.ldc 253, 2) := by decide +kernel
theorem dX9_order_46 : decode cX9_order 46 = .ok (.putfield 246, 3) := by decide +kernel
theorem dX9_order_49 : decode cX9_order 49 = .ok (.aload_n 0, 1) := by decide +kernel
theorem dX9_order_50 : decode cX9_order 50 = .ok (.iconst 0, 1) := by decide +kernel
theorem dX9_order_51 : decode cX9_order 51 = .ok (.iconst 0, 1) := by decide +kernel
theorem dX9_order_52 : decode cX9_order 52 = .ok (.iconst 0, 1) := by decide +kernel
theorem dX9_order_53 : decode cX9_order 53 = .ok (.iconst 0, 1) := by decide +kernel
theorem dX9_order_54 : decode cX9_order 54 = .ok (.invokevirtual 249, 3) := by decide +kernel
theorem dX9_order_57 : decode cX9_order 57 = .ok (.iload_n 1, 1) := by decide +kernel
theorem dX9_order_58 : decode cX9_order 58 = .ok (.iconst (-1), 1) := by decide +kernel
theorem dX9_order_59 : decode cX9_order 59 = .ok (.if_icmp .ne 10, 3) := by decide +kernel
theorem dX9_order_62 : decode cX9_order 62 = .ok (.aload_n 0, 1) := by decide +kernel
theorem dX9_order_63 : decode cX9_order 63 = .ok (.getfield 246, 3) := by decide +kernel
theorem dX9_order_66 : decode cX9_order 66 = .ok (.goto 9, 3) := by decide +kernel
theorem dX9_order_69 : decode cX9_order 69 = .ok (.aload_n 0, 1) := by decide +kernel
theorem dX9_order_70 : decode cX9_order 70 = .ok (.getfield 127, 3) := by decide +kernel
theorem dX9_order_73 : decode cX9_order 73 = .ok (.iload_n 1, 1) := by decide +kernel
theorem dX9_order_74 : decode cX9_order 74 = .ok (.iaload, 1) := by decide +kernel
theorem dX9_order_75 : decode cX9_order 75 = .ok (.ireturn, 1) := by decide +kernel
theorem dX9_turned_0 : decode cX9_turned 0 = .ok (.bipush (-2), 2) := by decide +kernel
theorem dX9_turned_2 : decode cX9_turned 2 = .ok (.istore_n 1, 1) := by decide +kernel
theorem dX9_turned_3 : decode cX9_turned 3 = .ok (.aload_n 0, 1) := by decide +kernel
theorem dX9_turned_4 : decode cX9_turned 4 = .ok (.invokevirtual 254, 3) := by decide +kernel
theorem dX9_turned_7 : decode cX9_turned 7 = .ok (.istore_n 2, 1) := by decide +kernel
theorem dX9_turned_8 : decode cX9_turned 8 = .ok (.iconst 0, 1) := by decide +kernel
theorem dX9_turned_9 : decode cX9_turned 9 = .ok (.istore_n 3, 1) := by decide +kernel
theorem dX9_turned_10 : decode cX9_turned 10 = .ok (.iload_n 3, 1) := by decide +kernel
theorem dX9_turned_11 : decode cX9_turned 11 = .ok (.aload_n 0, 1) := by decide +kernel
theorem dX9_turned_12 : decode cX9_turned 12 = .ok (.getfield 200, 3) := by decide +kernel
theorem dX9_turned_15 : decode cX9_turned 15 = .ok (.if_icmp .ge 54, 3) := by decide +kernel
theorem dX9_turned_18 : decode cX9_turned 18 = .ok (.aload_n 0, 1) := by decide +kernel
theorem dX9_turned_19 : decode cX9_turned 19 = .ok (.getfield 39, 3) := by decide +kernel
theorem dX9_turned_22 : decode cX9_turned 22 = .ok (.iload_n 3, 1) := by decide +kernel
theorem dX9_turned_23 : decode cX9_turned 23 = .ok (.iconst 1, 1) := by decide +kernel
theorem dX9_turned_24 : decode cX9_turned 24 = .ok (.aload_n 0, 1) := by decide +kernel
theorem dX9_turned_25 : decode cX9_turned 25 = .ok (.getfield 39, 3) := by decide +kernel
theorem dX9_turned_28 : decode cX9_turned 28 = .ok (.iload_n 3, 1) := by decide +kernel
theorem dX9_turned_29 : decode cX9_turned 29 = .ok (.iaload, 1) := by decide +kernel
theorem dX9_turned_30 : decode cX9_turned 30 = .ok (.isub, 1) := by decide +kernel
theorem dX9_turned_31 : decode cX9_turned 31 = .ok (.iastore, 1) := by decide +kernel
theorem dX9_turned_32 : decode cX9_turned 32 = .ok (.aload_n 0, 1) := by decide +kernel
theorem dX9_turned_33 : decode cX9_turned 33 = .ok (.invokevirtual 254, 3) := by decide +kernel
theorem dX9_turned_36 : decode cX9_turned 36 = .ok (.istore 4, 2) := by decide +kernel
theorem dX9_turned_38 : decode cX9_turned 38 = .ok (.aload_n 0, 1) := by decide +kernel
theorem dX9_turned_39 : decode cX9_turned 39 = .ok (.getfield 39, 3) := by decide +kernel
theorem dX9_turned_42 : decode cX9_turned 42 = .ok (.iload_n 3, 1) := by decide +kernel
theorem dX9_turned_43 : decode cX9_turned 43 = .ok (.iconst 1, 1) := by decide +kernel
theorem dX9_turned_44 : decode cX9_turned 44 = .ok (.aload_n 0, 1) := by decide +kernel
theorem dX9_turned_45 : decode cX9_turned 45 = .ok (.getfield 39, 3) := by decide +kernel
theorem dX9_turned_48 : decode cX9_turned 48 = .ok (.iload_n 3, 1) := by decide +kernel
theorem dX9_turned_49 : decode cX9_turned 49 = .ok (.iaload, 1) := by decide +kernel
theorem dX9_turned_50 : decode cX9_turned 50 = .ok (.isub, 1) := by decide +kernel
theorem dX9_turned_51 : decode cX9_turned 51 = .ok (.iastore, 1) := by decide +kernel
theorem dX9_turned_52 : decode cX9_turned 52 = .ok (.iload 4, 2) := by decide +kernel
theorem dX9_turned_54 : decode cX9_turned 54 = .ok (.iload_n 2, 1) := by decide +kernel
theorem dX9_turned_55 : decode cX9_turned 55 = .ok (.if_icmp .ge 8, 3) := by decide +kernel
theorem dX9_turned_58 : decode cX9_turned 58 = .ok (.iload_n 3, 1) := by decide +kernel
theorem dX9_turned_59 : decode cX9_turned 59 = .ok (.istore_n 1, 1) := by decide +kernel
theorem dX9_turned_60 : decode cX9_turned 60 = .ok (.iload 4, 2) := by decide +kernel
theorem dX9_turned_62 : decode cX9_turned 62 = .ok (.istore_n 2, 1) := by decide +kernel
theorem dX9_turned_63 : decode cX9_turned 63 = .ok (.iinc 3 1, 3) := by decide +kernel
theorem dX9_turned_66 : decode cX9_turned 66 = .ok (.goto (-56), 3) := by decide +kernel
theorem dX9_turned_69 : decode cX9_turned 69 = .ok (.iload_n 1, 1) := by decide +kernel
theorem dX9_turned_70 : decode cX9_turned 70 = .ok (.ireturn, 1) := by decide +kernel
theorem dX9_isTold_0 : decode cX9_isTold 0 = .ok (.aload_n 0, 1) := by decide +kernel
theorem dX9_isTold_1 : decode cX9_isTold 1 = .ok (.getfield 24, 3) := by decide +kernel
theorem dX9_isTold_4 : decode cX9_isTold 4 = .ok (.iload 4, 2) := by decide +kernel
theorem dX9_isTold_6 : decode cX9_isTold 6 = .ok (.iaload, 1) := by decide +kernel
theorem dX9_isTold_7 : decode cX9_isTold 7 = .ok (.istore 5, 2) := by decide +kernel
theorem dX9_isTold_9 : decode cX9_isTold 9 = .ok (.iconst 1, 1) := by decide +kernel
theorem dX9_isTold_10 : decode cX9_isTold 10 = .ok (.istore 6, 2) := by decide +kernel
theorem dX9_isTold_12 : decode cX9_isTold 12 = .ok (.iconst 0, 1) := by decide +kernel
theorem dX9_isTold_13 : decode cX9_isTold 13 = .ok (.istore 7, 2) := by decide +kernel
theorem dX9_isTold_15 : decode cX9_isTold 15 = .ok (.iload 7, 2) := by decide +kernel
theorem dX9_isTold_17 : decode cX9_isTold 17 = .ok (.iload_n 2, 1) := by decide +kernel
theorem dX9_isTold_18 : decode cX9_isTold 18 = .ok (.if_icmp .ge 50, 3) := by decide +kernel
theorem dX9_isTold_21 : decode cX9_isTold 21 = .ok (.iload 6, 2) := by decide +kernel
theorem dX9_isTold_23 : decode cX9_isTold 23 = .ok (.ifCond .eq 45, 3) := by decide +kernel
theorem dX9_isTold_26 : decode cX9_isTold 26 = .ok (.aload_n 0, 1) := by decide +kernel
theorem dX9_isTold_27 : decode cX9_isTold 27 = .ok (.getfield 24, 3) := by decide +kernel
theorem dX9_isTold_30 : decode cX9_isTold 30 = .ok (.iload 4, 2) := by decide +kernel
theorem dX9_isTold_32 : decode cX9_isTold 32 = .ok (.iload 7, 2) := by decide +kernel
theorem dX9_isTold_34 : decode cX9_isTold 34 = .ok (.iastore, 1) := by decide +kernel
theorem dX9_isTold_35 : decode cX9_isTold 35 = .ok (.aload_n 0, 1) := by decide +kernel
theorem dX9_isTold_36 : decode cX9_isTold 36 = .ok (.iload_n 3, 1) := by decide +kernel
theorem dX9_isTold_37 : decode cX9_isTold 37 = .ok (.invokevirtual 217, 3) := by decide +kernel
theorem dX9_isTold_40 : decode cX9_isTold 40 = .ok (.aload_n 0, 1) := by decide +kernel
theorem dX9_isTold_41 : decode cX9_isTold 41 = .ok (.getfield 63, 3) := by decide +kernel
theorem dX9_isTold_44 : decode cX9_isTold 44 = .ok (.bipush 40, 2) := by decide +kernel
theorem dX9_isTold_46 : decode cX9_isTold 46 = .ok (.iload_n 1, 1) := by decide +kernel
theorem dX9_isTold_47 : decode cX9_isTold 47 = .ok (.imul, 1) := by decide +kernel
theorem dX9_isTold_48 : decode cX9_isTold 48 = .ok (.iload 7, 2) := by decide +kernel
theorem dX9_isTold_50 : decode cX9_isTold 50 = .ok (.iadd, 1) := by decide +kernel
theorem dX9_isTold_51 : decode cX9_isTold 51 = .ok (.iaload, 1) := by decide +kernel
theorem dX9_isTold_52 : decode cX9_isTold 52 = .ok (.if_icmp .ne 7, 3) := by decide +kernel
theorem dX9_isTold_55 : decode cX9_isTold 55 = .ok (.iconst 1, 1) := by decide +kernel
theorem dX9_isTold_56 : decode cX9_isTold 56 = .ok (.goto 4, 3) := by decide +kernel
theorem dX9_isTold_59 : decode cX9_isTold 59 = .ok (.iconst 0, 1) := by decide +kernel
theorem dX9_isTold_60 : decode cX9_isTold 60 = .ok (.istore 6, 2) := by decide +kernel
theorem dX9_isTold_62 : decode cX9_isTold 62 = .ok (.iinc 7 1, 3) := by decide +kernel
theorem dX9_isTold_65 : decode cX9_isTold 65 = .ok (.goto (-50), 3) := by decide +kernel
theorem dX9_isTold_68 : decode cX9_isTold 68 = .ok (.aload_n 0, 1) := by decide +kernel
theorem dX9_isTold_69 : decode cX9_isTold 69 = .ok (.getfield 24, 3) := by decide +kernel
theorem dX9_isTold_72 : decode cX9_isTold 72 = .ok (.iload 4, 2) := by decide +kernel
theorem dX9_isTold_74 : decode cX9_isTold 74 = .ok (.iload 5, 2) := by decide +kernel
theorem dX9_isTold_76 : decode cX9_isTold 76 = .ok (.iastore, 1) := by decide +kernel
theorem dX9_isTold_77 : decode cX9_isTold 77 = .ok (.iload 6, 2) := by decide +kernel
theorem dX9_isTold_79 : decode cX9_isTold 79 = .ok (.ireturn, 1) := by decide +kernel
theorem dX9_fits_0 : decode cX9_fits 0 = .ok (.iload_n 1, 1) := by decide +kernel
theorem dX9_fits_1 : decode cX9_fits 1 = .ok (.iconst 0, 1) := by decide +kernel
theorem dX9_fits_2 : decode cX9_fits 2 = .ok (.iconst 2, 1) := by decide +kernel
theorem dX9_fits_3 : decode cX9_fits 3 = .ok (.invokestatic 143, 3) := by decide +kernel
theorem dX9_fits_6 : decode cX9_fits 6 = .ok (.ifCond .eq 60, 3) := by decide +kernel
theorem dX9_fits_9 : decode cX9_fits 9 = .ok (.iload_n 2, 1) := by decide +kernel
theorem dX9_fits_10 : decode cX9_fits 10 = .ok (.iconst 0, 1) := by decide +kernel
theorem dX9_fits_11 : decode cX9_fits 11 = .ok (.bipush 40, 2) := by decide +kernel
theorem dX9_fits_13 : decode cX9_fits 13 = .ok (.invokestatic 143, 3) := by decide +kernel
theorem dX9_fits_16 : decode cX9_fits 16 = .ok (.ifCond .eq 50, 3) := by decide +kernel
theorem dX9_fits_19 : decode cX9_fits 19 = .ok (.aload_n 0, 1) := by decide +kernel
theorem dX9_fits_20 : decode cX9_fits 20 = .ok (.iload_n 3, 1) := by decide +kernel
theorem dX9_fits_21 : decode cX9_fits 21 = .ok (.invokevirtual 147, 3) := by decide +kernel
theorem dX9_fits_24 : decode cX9_fits 24 = .ok (.ifCond .eq 42, 3) := by decide +kernel
theorem dX9_fits_27 : decode cX9_fits 27 = .ok (.iload 4, 2) := by decide +kernel
theorem dX9_fits_29 : decode cX9_fits 29 = .ok (.ifCond .lt 37, 3) := by decide +kernel
theorem dX9_fits_32 : decode cX9_fits 32 = .ok (.aload_n 0, 1) := by decide +kernel
theorem dX9_fits_33 : decode cX9_fits 33 = .ok (.iload 4, 2) := by decide +kernel
theorem dX9_fits_35 : decode cX9_fits 35 = .ok (.bipush 16, 2) := by decide +kernel
theorem dX9_fits_37 : decode cX9_fits 37 = .ok (.idiv, 1) := by decide +kernel
theorem dX9_fits_38 : decode cX9_fits 38 = .ok (.invokevirtual 233, 3) := by decide +kernel
theorem dX9_fits_41 : decode cX9_fits 41 = .ok (.ifCond .eq 25, 3) := by decide +kernel
theorem dX9_fits_44 : decode cX9_fits 44 = .ok (.aload_n 0, 1) := by decide +kernel
theorem dX9_fits_45 : decode cX9_fits 45 = .ok (.iload 4, 2) := by decide +kernel
theorem dX9_fits_47 : decode cX9_fits 47 = .ok (.bipush 16, 2) := by decide +kernel
theorem dX9_fits_49 : decode cX9_fits 49 = .ok (.irem, 1) := by decide +kernel
theorem dX9_fits_50 : decode cX9_fits 50 = .ok (.invokevirtual 147, 3) := by decide +kernel
theorem dX9_fits_53 : decode cX9_fits 53 = .ok (.ifCond .eq 13, 3) := by decide +kernel
theorem dX9_fits_56 : decode cX9_fits 56 = .ok (.iload 5, 2) := by decide +kernel
theorem dX9_fits_58 : decode cX9_fits 58 = .ok (.iconst 0, 1) := by decide +kernel
theorem dX9_fits_59 : decode cX9_fits 59 = .ok (.iconst 2, 1) := by decide +kernel
theorem dX9_fits_60 : decode cX9_fits 60 = .ok (.invokestatic 143, 3) := by decide +kernel
theorem dX9_fits_63 : decode cX9_fits 63 = .ok (.ifCond .ne 5, 3) := by decide +kernel
theorem dX9_fits_66 : decode cX9_fits 66 = .ok (.iconst (-1), 1) := by decide +kernel
theorem dX9_fits_67 : decode cX9_fits 67 = .ok (.ireturn, 1) := by decide +kernel
theorem dX9_fits_68 : decode cX9_fits 68 = .ok (.iload 4, 2) := by decide +kernel
theorem dX9_fits_70 : decode cX9_fits 70 = .ok (.bipush 16, 2) := by decide +kernel
theorem dX9_fits_72 : decode cX9_fits 72 = .ok (.idiv, 1) := by decide +kernel
theorem dX9_fits_73 : decode cX9_fits 73 = .ok (.istore 6, 2) := by decide +kernel
theorem dX9_fits_75 : decode cX9_fits 75 = .ok (.iload 4, 2) := by decide +kernel
theorem dX9_fits_77 : decode cX9_fits 77 = .ok (.bipush 16, 2) := by decide +kernel
theorem dX9_fits_79 : decode cX9_fits 79 = .ok (.irem, 1) := by decide +kernel
theorem dX9_fits_80 : decode cX9_fits 80 = .ok (.istore 7, 2) := by decide +kernel
theorem dX9_fits_82 : decode cX9_fits 82 = .ok (.aload_n 0, 1) := by decide +kernel
theorem dX9_fits_83 : decode cX9_fits 83 = .ok (.iload_n 3, 1) := by decide +kernel
theorem dX9_fits_84 : decode cX9_fits 84 = .ok (.iload 7, 2) := by decide +kernel
theorem dX9_fits_86 : decode cX9_fits 86 = .ok (.invokevirtual 229, 3) := by decide +kernel
theorem dX9_fits_89 : decode cX9_fits 89 = .ok (.ifCond .ne 6, 3) := by decide +kernel
theorem dX9_fits_92 : decode cX9_fits 92 = .ok (.bipush (-5), 2) := by decide +kernel
theorem dX9_fits_94 : decode cX9_fits 94 = .ok (.ireturn, 1) := by decide +kernel
theorem dX9_fits_95 : decode cX9_fits 95 = .ok (.aload_n 0, 1) := by decide +kernel
theorem dX9_fits_96 : decode cX9_fits 96 = .ok (.getfield 60, 3) := by decide +kernel
theorem dX9_fits_99 : decode cX9_fits 99 = .ok (.iload_n 1, 1) := by decide +kernel
theorem dX9_fits_100 : decode cX9_fits 100 = .ok (.iaload, 1) := by decide +kernel
theorem dX9_fits_101 : decode cX9_fits 101 = .ok (.ifCond .ge 6, 3) := by decide +kernel
theorem dX9_fits_104 : decode cX9_fits 104 = .ok (.bipush (-11), 2) := by decide +kernel
theorem dX9_fits_106 : decode cX9_fits 106 = .ok (.ireturn, 1) := by decide +kernel
theorem dX9_fits_107 : decode cX9_fits 107 = .ok (.aload_n 0, 1) := by decide +kernel
theorem dX9_fits_108 : decode cX9_fits 108 = .ok (.getfield 60, 3) := by decide +kernel
theorem dX9_fits_111 : decode cX9_fits 111 = .ok (.iload_n 1, 1) := by decide +kernel
theorem dX9_fits_112 : decode cX9_fits 112 = .ok (.iaload, 1) := by decide +kernel
theorem dX9_fits_113 : decode cX9_fits 113 = .ok (.iload_n 2, 1) := by decide +kernel
theorem dX9_fits_114 : decode cX9_fits 114 = .ok (.if_icmp .ge 6, 3) := by decide +kernel
theorem dX9_fits_117 : decode cX9_fits 117 = .ok (.bipush (-13), 2) := by decide +kernel
theorem dX9_fits_119 : decode cX9_fits 119 = .ok (.ireturn, 1) := by decide +kernel
theorem dX9_fits_120 : decode cX9_fits 120 = .ok (.iload 5, 2) := by decide +kernel
theorem dX9_fits_122 : decode cX9_fits 122 = .ok (.ifCond .ne 76, 3) := by decide +kernel
theorem dX9_fits_125 : decode cX9_fits 125 = .ok (.aload_n 0, 1) := by decide +kernel
theorem dX9_fits_126 : decode cX9_fits 126 = .ok (.getfield 18, 3) := by decide +kernel
theorem dX9_fits_129 : decode cX9_fits 129 = .ok (.iload 6, 2) := by decide +kernel
theorem dX9_fits_131 : decode cX9_fits 131 = .ok (.iaload, 1) := by decide +kernel
theorem dX9_fits_132 : decode cX9_fits 132 = .ok (.istore 8, 2) := by decide +kernel
theorem dX9_fits_134 : decode cX9_fits 134 = .ok (.iconst 0, 1) := by decide +kernel
theorem dX9_fits_135 : decode cX9_fits 135 = .ok (.istore 9, 2) := by decide +kernel
theorem dX9_fits_137 : decode cX9_fits 137 = .ok (.iconst 0, 1) := by decide +kernel
theorem dX9_fits_138 : decode cX9_fits 138 = .ok (.istore 10, 2) := by decide +kernel
theorem dX9_fits_140 : decode cX9_fits 140 = .ok (.iload 10, 2) := by decide +kernel
theorem dX9_fits_142 : decode cX9_fits 142 = .ok (.iconst 4, 1) := by decide +kernel
theorem dX9_fits_143 : decode cX9_fits 143 = .ok (.if_icmp .ge 43, 3) := by decide +kernel
theorem dX9_fits_146 : decode cX9_fits 146 = .ok (.aload_n 0, 1) := by decide +kernel
theorem dX9_fits_147 : decode cX9_fits 147 = .ok (.getfield 18, 3) := by decide +kernel
theorem dX9_fits_150 : decode cX9_fits 150 = .ok (.iload 6, 2) := by decide +kernel
theorem dX9_fits_152 : decode cX9_fits 152 = .ok (.iload 10, 2) := by decide +kernel
theorem dX9_fits_154 : decode cX9_fits 154 = .ok (.iastore, 1) := by decide +kernel
theorem dX9_fits_155 : decode cX9_fits 155 = .ok (.iload 9, 2) := by decide +kernel
theorem dX9_fits_157 : decode cX9_fits 157 = .ok (.aload_n 0, 1) := by decide +kernel
theorem dX9_fits_158 : decode cX9_fits 158 = .ok (.iload_n 1, 1) := by decide +kernel
theorem dX9_fits_159 : decode cX9_fits 159 = .ok (.iload_n 2, 1) := by decide +kernel
theorem dX9_fits_160 : decode cX9_fits 160 = .ok (.iload_n 3, 1) := by decide +kernel
theorem dX9_fits_161 : decode cX9_fits 161 = .ok (.iload 7, 2) := by decide +kernel
theorem dX9_fits_163 : decode cX9_fits 163 = .ok (.invokevirtual 258, 3) := by decide +kernel
theorem dX9_fits_166 : decode cX9_fits 166 = .ok (.ifCond .eq 10, 3) := by decide +kernel
theorem dX9_fits_169 : decode cX9_fits 169 = .ok (.iconst 1, 1) := by decide +kernel
theorem dX9_fits_170 : decode cX9_fits 170 = .ok (.iload 10, 2) := by decide +kernel
theorem dX9_fits_172 : decode cX9_fits 172 = .ok (.ishl, 1) := by decide +kernel
theorem dX9_fits_173 : decode cX9_fits 173 = .ok (.goto 4, 3) := by decide +kernel
theorem dX9_fits_176 : decode cX9_fits 176 = .ok (.iconst 0, 1) := by decide +kernel
theorem dX9_fits_177 : decode cX9_fits 177 = .ok (.ior, 1) := by decide +kernel
theorem dX9_fits_178 : decode cX9_fits 178 = .ok (.istore 9, 2) := by decide +kernel
theorem dX9_fits_180 : decode cX9_fits 180 = .ok (.iinc 10 1, 3) := by decide +kernel
theorem dX9_fits_183 : decode cX9_fits 183 = .ok (.goto (-43), 3) := by decide +kernel
theorem dX9_fits_186 : decode cX9_fits 186 = .ok (.aload_n 0, 1) := by decide +kernel
theorem dX9_fits_187 : decode cX9_fits 187 = .ok (.getfield 18, 3) := by decide +kernel
theorem dX9_fits_190 : decode cX9_fits 190 = .ok (.iload 6, 2) := by decide +kernel
theorem dX9_fits_192 : decode cX9_fits 192 = .ok (.iload 8, 2) := by decide +kernel
theorem dX9_fits_194 : decode cX9_fits 194 = .ok (.iastore, 1) := by decide +kernel
theorem dX9_fits_195 : decode cX9_fits 195 = .ok (.iload 9, 2) := by decide +kernel
theorem dX9_fits_197 : decode cX9_fits 197 = .ok (.ireturn, 1) := by decide +kernel
theorem dX9_fits_198 : decode cX9_fits 198 = .ok (.aload_n 0, 1) := by decide +kernel
theorem dX9_fits_199 : decode cX9_fits 199 = .ok (.getfield 21, 3) := by decide +kernel
theorem dX9_fits_202 : decode cX9_fits 202 = .ok (.iload 6, 2) := by decide +kernel
theorem dX9_fits_204 : decode cX9_fits 204 = .ok (.iaload, 1) := by decide +kernel
theorem dX9_fits_205 : decode cX9_fits 205 = .ok (.istore 8, 2) := by decide +kernel
theorem dX9_fits_207 : decode cX9_fits 207 = .ok (.iconst 0, 1) := by decide +kernel
theorem dX9_fits_208 : decode cX9_fits 208 = .ok (.istore 9, 2) := by decide +kernel
theorem dX9_fits_210 : decode cX9_fits 210 = .ok (.bipush (-2), 2) := by decide +kernel
theorem dX9_fits_212 : decode cX9_fits 212 = .ok (.istore 10, 2) := by decide +kernel
theorem dX9_fits_214 : decode cX9_fits 214 = .ok (.bipush 99, 2) := by decide +kernel
theorem dX9_fits_216 : decode cX9_fits 216 = .ok (.istore 11, 2) := by decide +kernel
theorem dX9_fits_218 : decode cX9_fits 218 = .ok (.iload 11, 2) := by decide +kernel
theorem dX9_fits_220 : decode cX9_fits 220 = .ok (.iconst 1, 1) := by decide +kernel
theorem dX9_fits_221 : decode cX9_fits 221 = .ok (.if_icmp .lt 37, 3) := by decide +kernel
theorem dX9_fits_224 : decode cX9_fits 224 = .ok (.aload_n 0, 1) := by decide +kernel
theorem dX9_fits_225 : decode cX9_fits 225 = .ok (.getfield 21, 3) := by decide +kernel
theorem dX9_fits_228 : decode cX9_fits 228 = .ok (.iload 6, 2) := by decide +kernel
theorem dX9_fits_230 : decode cX9_fits 230 = .ok (.iload 11, 2) := by decide +kernel
theorem dX9_fits_232 : decode cX9_fits 232 = .ok (.iastore, 1) := by decide +kernel
theorem dX9_fits_233 : decode cX9_fits 233 = .ok (.aload_n 0, 1) := by decide +kernel
theorem dX9_fits_234 : decode cX9_fits 234 = .ok (.iload_n 1, 1) := by decide +kernel
theorem dX9_fits_235 : decode cX9_fits 235 = .ok (.iload_n 2, 1) := by decide +kernel
theorem dX9_fits_236 : decode cX9_fits 236 = .ok (.iload_n 3, 1) := by decide +kernel
theorem dX9_fits_237 : decode cX9_fits 237 = .ok (.iload 7, 2) := by decide +kernel
theorem dX9_fits_239 : decode cX9_fits 239 = .ok (.invokevirtual 258, 3) := by decide +kernel
theorem dX9_fits_242 : decode cX9_fits 242 = .ok (.ifCond .eq 10, 3) := by decide +kernel
theorem dX9_fits_245 : decode cX9_fits 245 = .ok (.iinc 9 1, 3) := by decide +kernel
theorem dX9_fits_248 : decode cX9_fits 248 = .ok (.iload 11, 2) := by decide +kernel
theorem dX9_fits_250 : decode cX9_fits 250 = .ok (.istore 10, 2) := by decide +kernel
theorem dX9_fits_252 : decode cX9_fits 252 = .ok (.iinc 11 (-1), 3) := by decide +kernel
theorem dX9_fits_255 : decode cX9_fits 255 = .ok (.goto (-37), 3) := by decide +kernel
theorem dX9_fits_258 : decode cX9_fits 258 = .ok (.aload_n 0, 1) := by decide +kernel
theorem dX9_fits_259 : decode cX9_fits 259 = .ok (.getfield 21, 3) := by decide +kernel
theorem dX9_fits_262 : decode cX9_fits 262 = .ok (.iload 6, 2) := by decide +kernel
theorem dX9_fits_264 : decode cX9_fits 264 = .ok (.iload 8, 2) := by decide +kernel
theorem dX9_fits_266 : decode cX9_fits 266 = .ok (.iastore, 1) := by decide +kernel
theorem dX9_fits_267 : decode cX9_fits 267 = .ok (.iload 5, 2) := by decide +kernel
theorem dX9_fits_269 : decode cX9_fits 269 = .ok (.iconst 1, 1) := by decide +kernel
theorem dX9_fits_270 : decode cX9_fits 270 = .ok (.if_icmp .ne 8, 3) := by decide +kernel
theorem dX9_fits_273 : decode cX9_fits 273 = .ok (.iload 9, 2) := by decide +kernel
theorem dX9_fits_275 : decode cX9_fits 275 = .ok (.goto 5, 3) := by decide +kernel
theorem dX9_fits_278 : decode cX9_fits 278 = .ok (.iload 10, 2) := by decide +kernel
theorem dX9_fits_280 : decode cX9_fits 280 = .ok (.ireturn, 1) := by decide +kernel
theorem dX9_row_0 : decode cX9_row 0 = .ok (.iload_n 1, 1) := by decide +kernel
theorem dX9_row_1 : decode cX9_row 1 = .ok (.iconst 0, 1) := by decide +kernel
theorem dX9_row_2 : decode cX9_row 2 = .ok (.iconst 2, 1) := by decide +kernel
theorem dX9_row_3 : decode cX9_row 3 = .ok (.invokestatic 143, 3) := by decide +kernel
theorem dX9_row_6 : decode cX9_row 6 = .ok (.ifCond .eq 9, 3) := by decide +kernel
theorem dX9_row_9 : decode cX9_row 9 = .ok (.iload_n 2, 1) := by decide +kernel
theorem dX9_row_10 : decode cX9_row 10 = .ok (.bipush 40, 2) := by decide +kernel
theorem dX9_row_12 : decode cX9_row 12 = .ok (.if_icmp .le 5, 3) := by decide +kernel
theorem dX9_row_15 : decode cX9_row 15 = .ok (.iconst (-1), 1) := by decide +kernel
theorem dX9_row_16 : decode cX9_row 16 = .ok (.ireturn, 1) := by decide +kernel
theorem dX9_row_17 : decode cX9_row 17 = .ok (.iload_n 2, 1) := by decide +kernel
theorem dX9_row_18 : decode cX9_row 18 = .ok (.iconst (-1), 1) := by decide +kernel
theorem dX9_row_19 : decode cX9_row 19 = .ok (.if_icmp .ge 6, 3) := by decide +kernel
theorem dX9_row_22 : decode cX9_row 22 = .ok (.bipush (-14), 2) := by decide +kernel
theorem dX9_row_24 : decode cX9_row 24 = .ok (.ireturn, 1) := by decide +kernel
theorem dX9_row_25 : decode cX9_row 25 = .ok (.aload_n 0, 1) := by decide +kernel
theorem dX9_row_26 : decode cX9_row 26 = .ok (.getfield 60, 3) := by decide +kernel
theorem dX9_row_29 : decode cX9_row 29 = .ok (.iload_n 1, 1) := by decide +kernel
theorem dX9_row_30 : decode cX9_row 30 = .ok (.iload_n 2, 1) := by decide +kernel
theorem dX9_row_31 : decode cX9_row 31 = .ok (.iastore, 1) := by decide +kernel
theorem dX9_row_32 : decode cX9_row 32 = .ok (.iconst 0, 1) := by decide +kernel
theorem dX9_row_33 : decode cX9_row 33 = .ok (.istore_n 3, 1) := by decide +kernel
theorem dX9_row_34 : decode cX9_row 34 = .ok (.iload_n 3, 1) := by decide +kernel
theorem dX9_row_35 : decode cX9_row 35 = .ok (.iload_n 2, 1) := by decide +kernel
theorem dX9_row_36 : decode cX9_row 36 = .ok (.if_icmp .ge 21, 3) := by decide +kernel
theorem dX9_row_39 : decode cX9_row 39 = .ok (.aload_n 0, 1) := by decide +kernel
theorem dX9_row_40 : decode cX9_row 40 = .ok (.getfield 63, 3) := by decide +kernel
theorem dX9_row_43 : decode cX9_row 43 = .ok (.bipush 40, 2) := by decide +kernel
theorem dX9_row_45 : decode cX9_row 45 = .ok (.iload_n 1, 1) := by decide +kernel
theorem dX9_row_46 : decode cX9_row 46 = .ok (.imul, 1) := by decide +kernel
theorem dX9_row_47 : decode cX9_row 47 = .ok (.iload_n 3, 1) := by decide +kernel
theorem dX9_row_48 : decode cX9_row 48 = .ok (.iadd, 1) := by decide +kernel
theorem dX9_row_49 : decode cX9_row 49 = .ok (.iconst 0, 1) := by decide +kernel
theorem dX9_row_50 : decode cX9_row 50 = .ok (.iastore, 1) := by decide +kernel
theorem dX9_row_51 : decode cX9_row 51 = .ok (.iinc 3 1, 3) := by decide +kernel
theorem dX9_row_54 : decode cX9_row 54 = .ok (.goto (-20), 3) := by decide +kernel
theorem dX9_row_57 : decode cX9_row 57 = .ok (.iconst 1, 1) := by decide +kernel
theorem dX9_row_58 : decode cX9_row 58 = .ok (.ireturn, 1) := by decide +kernel
theorem dX9_put_0 : decode cX9_put 0 = .ok (.iload_n 1, 1) := by decide +kernel
theorem dX9_put_1 : decode cX9_put 1 = .ok (.iconst 0, 1) := by decide +kernel
theorem dX9_put_2 : decode cX9_put 2 = .ok (.iconst 2, 1) := by decide +kernel
theorem dX9_put_3 : decode cX9_put 3 = .ok (.invokestatic 143, 3) := by decide +kernel
theorem dX9_put_6 : decode cX9_put 6 = .ok (.ifCond .ne 5, 3) := by decide +kernel
theorem dX9_put_9 : decode cX9_put 9 = .ok (.iconst (-1), 1) := by decide +kernel
theorem dX9_put_10 : decode cX9_put 10 = .ok (.ireturn, 1) := by decide +kernel
theorem dX9_put_11 : decode cX9_put 11 = .ok (.aload_n 0, 1) := by decide +kernel
theorem dX9_put_12 : decode cX9_put 12 = .ok (.getfield 60, 3) := by decide +kernel
theorem dX9_put_15 : decode cX9_put 15 = .ok (.iload_n 1, 1) := by decide +kernel
theorem dX9_put_16 : decode cX9_put 16 = .ok (.iaload, 1) := by decide +kernel
theorem dX9_put_17 : decode cX9_put 17 = .ok (.ifCond .ge 6, 3) := by decide +kernel
theorem dX9_put_20 : decode cX9_put 20 = .ok (.bipush (-11), 2) := by decide +kernel
theorem dX9_put_22 : decode cX9_put 22 = .ok (.ireturn, 1) := by decide +kernel
theorem dX9_put_23 : decode cX9_put 23 = .ok (.iload_n 2, 1) := by decide +kernel
theorem dX9_put_24 : decode cX9_put 24 = .ok (.iconst 0, 1) := by decide +kernel
theorem dX9_put_25 : decode cX9_put 25 = .ok (.aload_n 0, 1) := by decide +kernel
theorem dX9_put_26 : decode cX9_put 26 = .ok (.getfield 60, 3) := by decide +kernel
theorem dX9_put_29 : decode cX9_put 29 = .ok (.iload_n 1, 1) := by decide +kernel
theorem dX9_put_30 : decode cX9_put 30 = .ok (.iaload, 1) := by decide +kernel
theorem dX9_put_31 : decode cX9_put 31 = .ok (.iconst 1, 1) := by decide +kernel
theorem dX9_put_32 : decode cX9_put 32 = .ok (.isub, 1) := by decide +kernel
theorem dX9_put_33 : decode cX9_put 33 = .ok (.invokestatic 143, 3) := by decide +kernel
theorem dX9_put_36 : decode cX9_put 36 = .ok (.ifCond .ne 6, 3) := by decide +kernel
theorem dX9_put_39 : decode cX9_put 39 = .ok (.bipush (-13), 2) := by decide +kernel
theorem dX9_put_41 : decode cX9_put 41 = .ok (.ireturn, 1) := by decide +kernel
theorem dX9_put_42 : decode cX9_put 42 = .ok (.aload_n 0, 1) := by decide +kernel
theorem dX9_put_43 : decode cX9_put 43 = .ok (.getfield 63, 3) := by decide +kernel
theorem dX9_put_46 : decode cX9_put 46 = .ok (.bipush 40, 2) := by decide +kernel
theorem dX9_put_48 : decode cX9_put 48 = .ok (.iload_n 1, 1) := by decide +kernel
theorem dX9_put_49 : decode cX9_put 49 = .ok (.imul, 1) := by decide +kernel
theorem dX9_put_50 : decode cX9_put 50 = .ok (.iload_n 2, 1) := by decide +kernel
theorem dX9_put_51 : decode cX9_put 51 = .ok (.iadd, 1) := by decide +kernel
theorem dX9_put_52 : decode cX9_put 52 = .ok (.iload_n 3, 1) := by decide +kernel
theorem dX9_put_53 : decode cX9_put 53 = .ok (.iastore, 1) := by decide +kernel
theorem dX9_put_54 : decode cX9_put 54 = .ok (.iconst 1, 1) := by decide +kernel
theorem dX9_put_55 : decode cX9_put 55 = .ok (.ireturn, 1) := by decide +kernel
theorem dX9_get_0 : decode cX9_get 0 = .ok (.iload_n 1, 1) := by decide +kernel
theorem dX9_get_1 : decode cX9_get 1 = .ok (.iconst 0, 1) := by decide +kernel
theorem dX9_get_2 : decode cX9_get 2 = .ok (.iconst 2, 1) := by decide +kernel
theorem dX9_get_3 : decode cX9_get 3 = .ok (.invokestatic 143, 3) := by decide +kernel
theorem dX9_get_6 : decode cX9_get 6 = .ok (.ifCond .eq 33, 3) := by decide +kernel
theorem dX9_get_9 : decode cX9_get 9 = .ok (.iload_n 2, 1) := by decide +kernel
theorem dX9_get_10 : decode cX9_get 10 = .ok (.iconst 0, 1) := by decide +kernel
theorem dX9_get_11 : decode cX9_get 11 = .ok (.aload_n 0, 1) := by decide +kernel
theorem dX9_get_12 : decode cX9_get 12 = .ok (.getfield 60, 3) := by decide +kernel
theorem dX9_get_15 : decode cX9_get 15 = .ok (.iload_n 1, 1) := by decide +kernel
theorem dX9_get_16 : decode cX9_get 16 = .ok (.iaload, 1) := by decide +kernel
theorem dX9_get_17 : decode cX9_get 17 = .ok (.iconst 1, 1) := by decide +kernel
theorem dX9_get_18 : decode cX9_get 18 = .ok (.isub, 1) := by decide +kernel
theorem dX9_get_19 : decode cX9_get 19 = .ok (.invokestatic 143, 3) := by decide +kernel
theorem dX9_get_22 : decode cX9_get 22 = .ok (.ifCond .eq 17, 3) := by decide +kernel
theorem dX9_get_25 : decode cX9_get 25 = .ok (.aload_n 0, 1) := by decide +kernel
theorem dX9_get_26 : decode cX9_get 26 = .ok (.getfield 63, 3) := by decide +kernel
theorem dX9_get_29 : decode cX9_get 29 = .ok (.bipush 40, 2) := by decide +kernel
theorem dX9_get_31 : decode cX9_get 31 = .ok (.iload_n 1, 1) := by decide +kernel
theorem dX9_get_32 : decode cX9_get 32 = .ok (.imul, 1) := by decide +kernel
theorem dX9_get_33 : decode cX9_get 33 = .ok (.iload_n 2, 1) := by decide +kernel
theorem dX9_get_34 : decode cX9_get 34 = .ok (.iadd, 1) := by decide +kernel
theorem dX9_get_35 : decode cX9_get 35 = .ok (.iaload, 1) := by decide +kernel
theorem dX9_get_36 : decode cX9_get 36 = .ok (.goto 5, 3) := by decide +kernel
theorem dX9_get_39 : decode cX9_get 39 = .ok (.ldc 209, 2) := by decide +kernel
theorem dX9_get_41 : decode cX9_get 41 = .ok (.ireturn, 1) := by decide +kernel
theorem dX9_film_0 : decode cX9_film 0 = .ok (.iload_n 1, 1) := by decide +kernel
theorem dX9_film_1 : decode cX9_film 1 = .ok (.iconst 0, 1) := by decide +kernel
theorem dX9_film_2 : decode cX9_film 2 = .ok (.iconst 2, 1) := by decide +kernel
theorem dX9_film_3 : decode cX9_film 3 = .ok (.invokestatic 143, 3) := by decide +kernel
theorem dX9_film_6 : decode cX9_film 6 = .ok (.ifCond .eq 30, 3) := by decide +kernel
theorem dX9_film_9 : decode cX9_film 9 = .ok (.iload_n 2, 1) := by decide +kernel
theorem dX9_film_10 : decode cX9_film 10 = .ok (.iconst 0, 1) := by decide +kernel
theorem dX9_film_11 : decode cX9_film 11 = .ok (.bipush 40, 2) := by decide +kernel
theorem dX9_film_13 : decode cX9_film 13 = .ok (.invokestatic 143, 3) := by decide +kernel
theorem dX9_film_16 : decode cX9_film 16 = .ok (.ifCond .eq 20, 3) := by decide +kernel
theorem dX9_film_19 : decode cX9_film 19 = .ok (.aload_n 0, 1) := by decide +kernel
theorem dX9_film_20 : decode cX9_film 20 = .ok (.iload_n 3, 1) := by decide +kernel
theorem dX9_film_21 : decode cX9_film 21 = .ok (.invokevirtual 147, 3) := by decide +kernel
theorem dX9_film_24 : decode cX9_film 24 = .ok (.ifCond .eq 12, 3) := by decide +kernel
theorem dX9_film_27 : decode cX9_film 27 = .ok (.aload_n 0, 1) := by decide +kernel
theorem dX9_film_28 : decode cX9_film 28 = .ok (.iload 4, 2) := by decide +kernel
theorem dX9_film_30 : decode cX9_film 30 = .ok (.invokevirtual 147, 3) := by decide +kernel
theorem dX9_film_33 : decode cX9_film 33 = .ok (.ifCond .ne 5, 3) := by decide +kernel
theorem dX9_film_36 : decode cX9_film 36 = .ok (.iconst (-1), 1) := by decide +kernel
theorem dX9_film_37 : decode cX9_film 37 = .ok (.ireturn, 1) := by decide +kernel
theorem dX9_film_38 : decode cX9_film 38 = .ok (.aload_n 0, 1) := by decide +kernel
theorem dX9_film_39 : decode cX9_film 39 = .ok (.iload_n 3, 1) := by decide +kernel
theorem dX9_film_40 : decode cX9_film 40 = .ok (.iload 4, 2) := by decide +kernel
theorem dX9_film_42 : decode cX9_film 42 = .ok (.invokevirtual 229, 3) := by decide +kernel
theorem dX9_film_45 : decode cX9_film 45 = .ok (.ifCond .ne 6, 3) := by decide +kernel
theorem dX9_film_48 : decode cX9_film 48 = .ok (.bipush (-5), 2) := by decide +kernel
theorem dX9_film_50 : decode cX9_film 50 = .ok (.ireturn, 1) := by decide +kernel
theorem dX9_film_51 : decode cX9_film 51 = .ok (.aload_n 0, 1) := by decide +kernel
theorem dX9_film_52 : decode cX9_film 52 = .ok (.getfield 60, 3) := by decide +kernel
theorem dX9_film_55 : decode cX9_film 55 = .ok (.iload_n 1, 1) := by decide +kernel
theorem dX9_film_56 : decode cX9_film 56 = .ok (.iload_n 2, 1) := by decide +kernel
theorem dX9_film_57 : decode cX9_film 57 = .ok (.iastore, 1) := by decide +kernel
theorem dX9_film_58 : decode cX9_film 58 = .ok (.aload_n 0, 1) := by decide +kernel
theorem dX9_film_59 : decode cX9_film 59 = .ok (.getfield 24, 3) := by decide +kernel
theorem dX9_film_62 : decode cX9_film 62 = .ok (.iload 4, 2) := by decide +kernel
theorem dX9_film_64 : decode cX9_film 64 = .ok (.iaload, 1) := by decide +kernel
theorem dX9_film_65 : decode cX9_film 65 = .ok (.istore 5, 2) := by decide +kernel
theorem dX9_film_67 : decode cX9_film 67 = .ok (.iconst 0, 1) := by decide +kernel
theorem dX9_film_68 : decode cX9_film 68 = .ok (.istore 6, 2) := by decide +kernel
theorem dX9_film_70 : decode cX9_film 70 = .ok (.iload 6, 2) := by decide +kernel
theorem dX9_film_72 : decode cX9_film 72 = .ok (.iload_n 2, 1) := by decide +kernel
theorem dX9_film_73 : decode cX9_film 73 = .ok (.if_icmp .ge 35, 3) := by decide +kernel
theorem dX9_film_76 : decode cX9_film 76 = .ok (.aload_n 0, 1) := by decide +kernel
theorem dX9_film_77 : decode cX9_film 77 = .ok (.getfield 24, 3) := by decide +kernel
theorem dX9_film_80 : decode cX9_film 80 = .ok (.iload 4, 2) := by decide +kernel
theorem dX9_film_82 : decode cX9_film 82 = .ok (.iload 6, 2) := by decide +kernel
theorem dX9_film_84 : decode cX9_film 84 = .ok (.iastore, 1) := by decide +kernel
theorem dX9_film_85 : decode cX9_film 85 = .ok (.aload_n 0, 1) := by decide +kernel
theorem dX9_film_86 : decode cX9_film 86 = .ok (.getfield 63, 3) := by decide +kernel
theorem dX9_film_89 : decode cX9_film 89 = .ok (.bipush 40, 2) := by decide +kernel
theorem dX9_film_91 : decode cX9_film 91 = .ok (.iload_n 1, 1) := by decide +kernel
theorem dX9_film_92 : decode cX9_film 92 = .ok (.imul, 1) := by decide +kernel
theorem dX9_film_93 : decode cX9_film 93 = .ok (.iload 6, 2) := by decide +kernel
theorem dX9_film_95 : decode cX9_film 95 = .ok (.iadd, 1) := by decide +kernel
theorem dX9_film_96 : decode cX9_film 96 = .ok (.aload_n 0, 1) := by decide +kernel
theorem dX9_film_97 : decode cX9_film 97 = .ok (.iload_n 3, 1) := by decide +kernel
theorem dX9_film_98 : decode cX9_film 98 = .ok (.invokevirtual 217, 3) := by decide +kernel
theorem dX9_film_101 : decode cX9_film 101 = .ok (.iastore, 1) := by decide +kernel
theorem dX9_film_102 : decode cX9_film 102 = .ok (.iinc 6 1, 3) := by decide +kernel
theorem dX9_film_105 : decode cX9_film 105 = .ok (.goto (-35), 3) := by decide +kernel
theorem dX9_film_108 : decode cX9_film 108 = .ok (.aload_n 0, 1) := by decide +kernel
theorem dX9_film_109 : decode cX9_film 109 = .ok (.getfield 24, 3) := by decide +kernel
theorem dX9_film_112 : decode cX9_film 112 = .ok (.iload 4, 2) := by decide +kernel
theorem dX9_film_114 : decode cX9_film 114 = .ok (.iload 5, 2) := by decide +kernel
theorem dX9_film_116 : decode cX9_film 116 = .ok (.iastore, 1) := by decide +kernel
theorem dX9_film_117 : decode cX9_film 117 = .ok (.iload_n 2, 1) := by decide +kernel
theorem dX9_film_118 : decode cX9_film 118 = .ok (.ireturn, 1) := by decide +kernel
theorem dX9_job_0 : decode cX9_job 0 = .ok (.aload_n 0, 1) := by decide +kernel
theorem dX9_job_1 : decode cX9_job 1 = .ok (.iload_n 1, 1) := by decide +kernel
theorem dX9_job_2 : decode cX9_job 2 = .ok (.invokevirtual 147, 3) := by decide +kernel
theorem dX9_job_5 : decode cX9_job 5 = .ok (.ifCond .eq 14, 3) := by decide +kernel
theorem dX9_job_8 : decode cX9_job 8 = .ok (.iload_n 2, 1) := by decide +kernel
theorem dX9_job_9 : decode cX9_job 9 = .ok (.iconst 1, 1) := by decide +kernel
theorem dX9_job_10 : decode cX9_job 10 = .ok (.sipush 9999, 3) := by decide +kernel
theorem dX9_job_13 : decode cX9_job 13 = .ok (.invokestatic 143, 3) := by decide +kernel
theorem dX9_job_16 : decode cX9_job 16 = .ok (.ifCond .ne 5, 3) := by decide +kernel
theorem dX9_job_19 : decode cX9_job 19 = .ok (.iconst (-1), 1) := by decide +kernel
theorem dX9_job_20 : decode cX9_job 20 = .ok (.ireturn, 1) := by decide +kernel
theorem dX9_job_21 : decode cX9_job 21 = .ok (.aload_n 0, 1) := by decide +kernel
theorem dX9_job_22 : decode cX9_job 22 = .ok (.getfield 9, 3) := by decide +kernel
theorem dX9_job_25 : decode cX9_job 25 = .ok (.iload_n 1, 1) := by decide +kernel
theorem dX9_job_26 : decode cX9_job 26 = .ok (.iaload, 1) := by decide +kernel
theorem dX9_job_27 : decode cX9_job 27 = .ok (.ifCond .ne 6, 3) := by decide +kernel
theorem dX9_job_30 : decode cX9_job 30 = .ok (.bipush (-5), 2) := by decide +kernel
theorem dX9_job_32 : decode cX9_job 32 = .ok (.ireturn, 1) := by decide +kernel
theorem dX9_job_33 : decode cX9_job 33 = .ok (.aload_n 0, 1) := by decide +kernel
theorem dX9_job_34 : decode cX9_job 34 = .ok (.getfield 203, 3) := by decide +kernel
theorem dX9_job_37 : decode cX9_job 37 = .ok (.bipush 8, 2) := by decide +kernel
theorem dX9_job_39 : decode cX9_job 39 = .ok (.if_icmp .ne 6, 3) := by decide +kernel
theorem dX9_job_42 : decode cX9_job 42 = .ok (.bipush (-3), 2) := by decide +kernel
theorem dX9_job_44 : decode cX9_job 44 = .ok (.ireturn, 1) := by decide +kernel
theorem dX9_job_45 : decode cX9_job 45 = .ok (.aload_n 0, 1) := by decide +kernel
theorem dX9_job_46 : decode cX9_job 46 = .ok (.getfield 42, 3) := by decide +kernel
theorem dX9_job_49 : decode cX9_job 49 = .ok (.aload_n 0, 1) := by decide +kernel
theorem dX9_job_50 : decode cX9_job 50 = .ok (.getfield 203, 3) := by decide +kernel
theorem dX9_job_53 : decode cX9_job 53 = .ok (.iload_n 1, 1) := by decide +kernel
theorem dX9_job_54 : decode cX9_job 54 = .ok (.iastore, 1) := by decide +kernel
theorem dX9_job_55 : decode cX9_job 55 = .ok (.aload_n 0, 1) := by decide +kernel
theorem dX9_job_56 : decode cX9_job 56 = .ok (.getfield 45, 3) := by decide +kernel
theorem dX9_job_59 : decode cX9_job 59 = .ok (.aload_n 0, 1) := by decide +kernel
theorem dX9_job_60 : decode cX9_job 60 = .ok (.getfield 203, 3) := by decide +kernel
theorem dX9_job_63 : decode cX9_job 63 = .ok (.iload_n 2, 1) := by decide +kernel
theorem dX9_job_64 : decode cX9_job 64 = .ok (.iastore, 1) := by decide +kernel
theorem dX9_job_65 : decode cX9_job 65 = .ok (.aload_n 0, 1) := by decide +kernel
theorem dX9_job_66 : decode cX9_job 66 = .ok (.dup, 1) := by decide +kernel
theorem dX9_job_67 : decode cX9_job 67 = .ok (.getfield 203, 3) := by decide +kernel
theorem dX9_job_70 : decode cX9_job 70 = .ok (.iconst 1, 1) := by decide +kernel
theorem dX9_job_71 : decode cX9_job 71 = .ok (.iadd, 1) := by decide +kernel
theorem dX9_job_72 : decode cX9_job 72 = .ok (.putfield 203, 3) := by decide +kernel
theorem dX9_job_75 : decode cX9_job 75 = .ok (.aload_n 0, 1) := by decide +kernel
theorem dX9_job_76 : decode cX9_job 76 = .ok (.getfield 203, 3) := by decide +kernel
theorem dX9_job_79 : decode cX9_job 79 = .ok (.ireturn, 1) := by decide +kernel
theorem dX9_do1_0 : decode cX9_do1 0 = .ok (.aload_n 0, 1) := by decide +kernel
theorem dX9_do1_1 : decode cX9_do1 1 = .ok (.getfield 203, 3) := by decide +kernel
theorem dX9_do1_4 : decode cX9_do1 4 = .ok (.ifCond .ne 6, 3) := by decide +kernel
theorem dX9_do1_7 : decode cX9_do1 7 = .ok (.bipush (-2), 2) := by decide +kernel
theorem dX9_do1_9 : decode cX9_do1 9 = .ok (.ireturn, 1) := by decide +kernel
theorem dX9_do1_10 : decode cX9_do1 10 = .ok (.aload_n 0, 1) := by decide +kernel
theorem dX9_do1_11 : decode cX9_do1 11 = .ok (.aload_n 0, 1) := by decide +kernel
theorem dX9_do1_12 : decode cX9_do1 12 = .ok (.getfield 42, 3) := by decide +kernel
theorem dX9_do1_15 : decode cX9_do1 15 = .ok (.iconst 0, 1) := by decide +kernel
theorem dX9_do1_16 : decode cX9_do1 16 = .ok (.iaload, 1) := by decide +kernel
theorem dX9_do1_17 : decode cX9_do1 17 = .ok (.aload_n 0, 1) := by decide +kernel
theorem dX9_do1_18 : decode cX9_do1 18 = .ok (.getfield 45, 3) := by decide +kernel
theorem dX9_do1_21 : decode cX9_do1 21 = .ok (.iconst 0, 1) := by decide +kernel
theorem dX9_do1_22 : decode cX9_do1 22 = .ok (.iaload, 1) := by decide +kernel
theorem dX9_do1_23 : decode cX9_do1 23 = .ok (.invokevirtual 240, 3) := by decide +kernel
theorem dX9_do1_26 : decode cX9_do1 26 = .ok (.ifCond .ne 6, 3) := by decide +kernel
theorem dX9_do1_29 : decode cX9_do1 29 = .ok (.bipush (-5), 2) := by decide +kernel
theorem dX9_do1_31 : decode cX9_do1 31 = .ok (.ireturn, 1) := by decide +kernel
theorem dX9_do1_32 : decode cX9_do1 32 = .ok (.aload_n 0, 1) := by decide +kernel
theorem dX9_do1_33 : decode cX9_do1 33 = .ok (.iconst 0, 1) := by decide +kernel
theorem dX9_do1_34 : decode cX9_do1 34 = .ok (.putfield 206, 3) := by decide +kernel
theorem dX9_do1_37 : decode cX9_do1 37 = .ok (.aload_n 0, 1) := by decide +kernel
theorem dX9_do1_38 : decode cX9_do1 38 = .ok (.dup, 1) := by decide +kernel
theorem dX9_do1_39 : decode cX9_do1 39 = .ok (.getfield 203, 3) := by decide +kernel
theorem dX9_do1_42 : decode cX9_do1 42 = .ok (.iconst 1, 1) := by decide +kernel
theorem dX9_do1_43 : decode cX9_do1 43 = .ok (.isub, 1) := by decide +kernel
theorem dX9_do1_44 : decode cX9_do1 44 = .ok (.putfield 203, 3) := by decide +kernel
theorem dX9_do1_47 : decode cX9_do1 47 = .ok (.iconst 0, 1) := by decide +kernel
theorem dX9_do1_48 : decode cX9_do1 48 = .ok (.istore_n 1, 1) := by decide +kernel
theorem dX9_do1_49 : decode cX9_do1 49 = .ok (.iload_n 1, 1) := by decide +kernel
theorem dX9_do1_50 : decode cX9_do1 50 = .ok (.aload_n 0, 1) := by decide +kernel
theorem dX9_do1_51 : decode cX9_do1 51 = .ok (.getfield 203, 3) := by decide +kernel
theorem dX9_do1_54 : decode cX9_do1 54 = .ok (.if_icmp .ge 37, 3) := by decide +kernel
theorem dX9_do1_57 : decode cX9_do1 57 = .ok (.aload_n 0, 1) := by decide +kernel
theorem dX9_do1_58 : decode cX9_do1 58 = .ok (.getfield 42, 3) := by decide +kernel
theorem dX9_do1_61 : decode cX9_do1 61 = .ok (.iload_n 1, 1) := by decide +kernel
theorem dX9_do1_62 : decode cX9_do1 62 = .ok (.aload_n 0, 1) := by decide +kernel
theorem dX9_do1_63 : decode cX9_do1 63 = .ok (.getfield 42, 3) := by decide +kernel
theorem dX9_do1_66 : decode cX9_do1 66 = .ok (.iload_n 1, 1) := by decide +kernel
theorem dX9_do1_67 : decode cX9_do1 67 = .ok (.iconst 1, 1) := by decide +kernel
theorem dX9_do1_68 : decode cX9_do1 68 = .ok (.iadd, 1) := by decide +kernel
theorem dX9_do1_69 : decode cX9_do1 69 = .ok (.iaload, 1) := by decide +kernel
theorem dX9_do1_70 : decode cX9_do1 70 = .ok (.iastore, 1) := by decide +kernel
theorem dX9_do1_71 : decode cX9_do1 71 = .ok (.aload_n 0, 1) := by decide +kernel
theorem dX9_do1_72 : decode cX9_do1 72 = .ok (.getfield 45, 3) := by decide +kernel
theorem dX9_do1_75 : decode cX9_do1 75 = .ok (.iload_n 1, 1) := by decide +kernel
theorem dX9_do1_76 : decode cX9_do1 76 = .ok (.aload_n 0, 1) := by decide +kernel
theorem dX9_do1_77 : decode cX9_do1 77 = .ok (.getfield 45, 3) := by decide +kernel
theorem dX9_do1_80 : decode cX9_do1 80 = .ok (.iload_n 1, 1) := by decide +kernel
theorem dX9_do1_81 : decode cX9_do1 81 = .ok (.iconst 1, 1) := by decide +kernel
theorem dX9_do1_82 : decode cX9_do1 82 = .ok (.iadd, 1) := by decide +kernel
theorem dX9_do1_83 : decode cX9_do1 83 = .ok (.iaload, 1) := by decide +kernel
theorem dX9_do1_84 : decode cX9_do1 84 = .ok (.iastore, 1) := by decide +kernel
theorem dX9_do1_85 : decode cX9_do1 85 = .ok (.iinc 1 1, 3) := by decide +kernel
theorem dX9_do1_88 : decode cX9_do1 88 = .ok (.goto (-39), 3) := by decide +kernel
theorem dX9_do1_91 : decode cX9_do1 91 = .ok (.aload_n 0, 1) := by decide +kernel
theorem dX9_do1_92 : decode cX9_do1 92 = .ok (.getfield 203, 3) := by decide +kernel
theorem dX9_do1_95 : decode cX9_do1 95 = .ok (.ireturn, 1) := by decide +kernel
theorem dX9_strike_0 : decode cX9_strike 0 = .ok (.aload_n 0, 1) := by decide +kernel
theorem dX9_strike_1 : decode cX9_strike 1 = .ok (.iload_n 1, 1) := by decide +kernel
theorem dX9_strike_2 : decode cX9_strike 2 = .ok (.invokevirtual 147, 3) := by decide +kernel
theorem dX9_strike_5 : decode cX9_strike 5 = .ok (.ifCond .ne 5, 3) := by decide +kernel
theorem dX9_strike_8 : decode cX9_strike 8 = .ok (.iconst (-1), 1) := by decide +kernel
theorem dX9_strike_9 : decode cX9_strike 9 = .ok (.ireturn, 1) := by decide +kernel
theorem dX9_strike_10 : decode cX9_strike 10 = .ok (.iconst 0, 1) := by decide +kernel
theorem dX9_strike_11 : decode cX9_strike 11 = .ok (.istore_n 2, 1) := by decide +kernel
theorem dX9_strike_12 : decode cX9_strike 12 = .ok (.iconst 0, 1) := by decide +kernel
theorem dX9_strike_13 : decode cX9_strike 13 = .ok (.istore_n 3, 1) := by decide +kernel
theorem dX9_strike_14 : decode cX9_strike 14 = .ok (.iload_n 3, 1) := by decide +kernel
theorem dX9_strike_15 : decode cX9_strike 15 = .ok (.aload_n 0, 1) := by decide +kernel
theorem dX9_strike_16 : decode cX9_strike 16 = .ok (.getfield 203, 3) := by decide +kernel
theorem dX9_strike_19 : decode cX9_strike 19 = .ok (.if_icmp .ge 46, 3) := by decide +kernel
theorem dX9_strike_22 : decode cX9_strike 22 = .ok (.aload_n 0, 1) := by decide +kernel
theorem dX9_strike_23 : decode cX9_strike 23 = .ok (.getfield 42, 3) := by decide +kernel
theorem dX9_strike_26 : decode cX9_strike 26 = .ok (.iload_n 3, 1) := by decide +kernel
theorem dX9_strike_27 : decode cX9_strike 27 = .ok (.iaload, 1) := by decide +kernel
theorem dX9_strike_28 : decode cX9_strike 28 = .ok (.iload_n 1, 1) := by decide +kernel
theorem dX9_strike_29 : decode cX9_strike 29 = .ok (.if_icmp .eq 30, 3) := by decide +kernel
theorem dX9_strike_32 : decode cX9_strike 32 = .ok (.aload_n 0, 1) := by decide +kernel
theorem dX9_strike_33 : decode cX9_strike 33 = .ok (.getfield 42, 3) := by decide +kernel
theorem dX9_strike_36 : decode cX9_strike 36 = .ok (.iload_n 2, 1) := by decide +kernel
theorem dX9_strike_37 : decode cX9_strike 37 = .ok (.aload_n 0, 1) := by decide +kernel
theorem dX9_strike_38 : decode cX9_strike 38 = .ok (.getfield 42, 3) := by decide +kernel
theorem dX9_strike_41 : decode cX9_strike 41 = .ok (.iload_n 3, 1) := by decide +kernel
theorem dX9_strike_42 : decode cX9_strike 42 = .ok (.iaload, 1) := by decide +kernel
theorem dX9_strike_43 : decode cX9_strike 43 = .ok (.iastore, 1) := by decide +kernel
theorem dX9_strike_44 : decode cX9_strike 44 = .ok (.aload_n 0, 1) := by decide +kernel
theorem dX9_strike_45 : decode cX9_strike 45 = .ok (.getfield 45, 3) := by decide +kernel
theorem dX9_strike_48 : decode cX9_strike 48 = .ok (.iload_n 2, 1) := by decide +kernel
theorem dX9_strike_49 : decode cX9_strike 49 = .ok (.aload_n 0, 1) := by decide +kernel
theorem dX9_strike_50 : decode cX9_strike 50 = .ok (.getfield 45, 3) := by decide +kernel
theorem dX9_strike_53 : decode cX9_strike 53 = .ok (.iload_n 3, 1) := by decide +kernel
theorem dX9_strike_54 : decode cX9_strike 54 = .ok (.iaload, 1) := by decide +kernel
theorem dX9_strike_55 : decode cX9_strike 55 = .ok (.iastore, 1) := by decide +kernel
theorem dX9_strike_56 : decode cX9_strike 56 = .ok (.iinc 2 1, 3) := by decide +kernel
theorem dX9_strike_59 : decode cX9_strike 59 = .ok (.iinc 3 1, 3) := by decide +kernel
theorem dX9_strike_62 : decode cX9_strike 62 = .ok (.goto (-48), 3) := by decide +kernel
theorem dX9_strike_65 : decode cX9_strike 65 = .ok (.aload_n 0, 1) := by decide +kernel
theorem dX9_strike_66 : decode cX9_strike 66 = .ok (.getfield 203, 3) := by decide +kernel
theorem dX9_strike_69 : decode cX9_strike 69 = .ok (.iload_n 2, 1) := by decide +kernel
theorem dX9_strike_70 : decode cX9_strike 70 = .ok (.isub, 1) := by decide +kernel
theorem dX9_strike_71 : decode cX9_strike 71 = .ok (.istore_n 3, 1) := by decide +kernel
theorem dX9_strike_72 : decode cX9_strike 72 = .ok (.aload_n 0, 1) := by decide +kernel
theorem dX9_strike_73 : decode cX9_strike 73 = .ok (.iload_n 2, 1) := by decide +kernel
theorem dX9_strike_74 : decode cX9_strike 74 = .ok (.putfield 203, 3) := by decide +kernel
theorem dX9_strike_77 : decode cX9_strike 77 = .ok (.iload_n 3, 1) := by decide +kernel
theorem dX9_strike_78 : decode cX9_strike 78 = .ok (.ireturn, 1) := by decide +kernel
theorem dX9_about_0 : decode cX9_about 0 = .ok (.iconst 0, 1) := by decide +kernel
theorem dX9_about_1 : decode cX9_about 1 = .ok (.istore_n 1, 1) := by decide +kernel
theorem dX9_about_2 : decode cX9_about 2 = .ok (.iload_n 1, 1) := by decide +kernel
theorem dX9_about_3 : decode cX9_about 3 = .ok (.aload_n 0, 1) := by decide +kernel
theorem dX9_about_4 : decode cX9_about 4 = .ok (.getfield 203, 3) := by decide +kernel
theorem dX9_about_7 : decode cX9_about 7 = .ok (.iconst 2, 1) := by decide +kernel
theorem dX9_about_8 : decode cX9_about 8 = .ok (.idiv, 1) := by decide +kernel
theorem dX9_about_9 : decode cX9_about 9 = .ok (.if_icmp .ge 89, 3) := by decide +kernel
theorem dX9_about_12 : decode cX9_about 12 = .ok (.aload_n 0, 1) := by decide +kernel
theorem dX9_about_13 : decode cX9_about 13 = .ok (.getfield 42, 3) := by decide +kernel
theorem dX9_about_16 : decode cX9_about 16 = .ok (.iload_n 1, 1) := by decide +kernel
theorem dX9_about_17 : decode cX9_about 17 = .ok (.iaload, 1) := by decide +kernel
theorem dX9_about_18 : decode cX9_about 18 = .ok (.istore_n 2, 1) := by decide +kernel
theorem dX9_about_19 : decode cX9_about 19 = .ok (.aload_n 0, 1) := by decide +kernel
theorem dX9_about_20 : decode cX9_about 20 = .ok (.getfield 45, 3) := by decide +kernel
theorem dX9_about_23 : decode cX9_about 23 = .ok (.iload_n 1, 1) := by decide +kernel
theorem dX9_about_24 : decode cX9_about 24 = .ok (.iaload, 1) := by decide +kernel
theorem dX9_about_25 : decode cX9_about 25 = .ok (.istore_n 3, 1) := by decide +kernel
theorem dX9_about_26 : decode cX9_about 26 = .ok (.aload_n 0, 1) := by decide +kernel
theorem dX9_about_27 : decode cX9_about 27 = .ok (.getfield 42, 3) := by decide +kernel
theorem dX9_about_30 : decode cX9_about 30 = .ok (.iload_n 1, 1) := by decide +kernel
theorem dX9_about_31 : decode cX9_about 31 = .ok (.aload_n 0, 1) := by decide +kernel
theorem dX9_about_32 : decode cX9_about 32 = .ok (.getfield 42, 3) := by decide +kernel
theorem dX9_about_35 : decode cX9_about 35 = .ok (.aload_n 0, 1) := by decide +kernel
theorem dX9_about_36 : decode cX9_about 36 = .ok (.getfield 203, 3) := by decide +kernel
theorem dX9_about_39 : decode cX9_about 39 = .ok (.iconst 1, 1) := by decide +kernel
theorem dX9_about_40 : decode cX9_about 40 = .ok (.isub, 1) := by decide +kernel
theorem dX9_about_41 : decode cX9_about 41 = .ok (.iload_n 1, 1) := by decide +kernel
theorem dX9_about_42 : decode cX9_about 42 = .ok (.isub, 1) := by decide +kernel
theorem dX9_about_43 : decode cX9_about 43 = .ok (.iaload, 1) := by decide +kernel
theorem dX9_about_44 : decode cX9_about 44 = .ok (.iastore, 1) := by decide +kernel
theorem dX9_about_45 : decode cX9_about 45 = .ok (.aload_n 0, 1) := by decide +kernel
theorem dX9_about_46 : decode cX9_about 46 = .ok (.getfield 45, 3) := by decide +kernel
theorem dX9_about_49 : decode cX9_about 49 = .ok (.iload_n 1, 1) := by decide +kernel
theorem dX9_about_50 : decode cX9_about 50 = .ok (.aload_n 0, 1) := by decide +kernel
theorem dX9_about_51 : decode cX9_about 51 = .ok (.getfield 45, 3) := by decide +kernel
theorem dX9_about_54 : decode cX9_about 54 = .ok (.aload_n 0, 1) := by decide +kernel
theorem dX9_about_55 : decode cX9_about 55 = .ok (.getfield 203, 3) := by decide +kernel
theorem dX9_about_58 : decode cX9_about 58 = .ok (.iconst 1, 1) := by decide +kernel
theorem dX9_about_59 : decode cX9_about 59 = .ok (.isub, 1) := by decide +kernel
theorem dX9_about_60 : decode cX9_about 60 = .ok (.iload_n 1, 1) := by decide +kernel
theorem dX9_about_61 : decode cX9_about 61 = .ok (.isub, 1) := by decide +kernel
theorem dX9_about_62 : decode cX9_about 62 = .ok (.iaload, 1) := by decide +kernel
theorem dX9_about_63 : decode cX9_about 63 = .ok (.iastore, 1) := by decide +kernel
theorem dX9_about_64 : decode cX9_about 64 = .ok (.aload_n 0, 1) := by decide +kernel
theorem dX9_about_65 : decode cX9_about 65 = .ok (.getfield 42, 3) := by decide +kernel
theorem dX9_about_68 : decode cX9_about 68 = .ok (.aload_n 0, 1) := by decide +kernel
theorem dX9_about_69 : decode cX9_about 69 = .ok (.getfield 203, 3) := by decide +kernel
theorem dX9_about_72 : decode cX9_about 72 = .ok (.iconst 1, 1) := by decide +kernel
theorem dX9_about_73 : decode cX9_about 73 = .ok (.isub, 1) := by decide +kernel
theorem dX9_about_74 : decode cX9_about 74 = .ok (.iload_n 1, 1) := by decide +kernel
theorem dX9_about_75 : decode cX9_about 75 = .ok (.isub, 1) := by decide +kernel
theorem dX9_about_76 : decode cX9_about 76 = .ok (.iload_n 2, 1) := by decide +kernel
theorem dX9_about_77 : decode cX9_about 77 = .ok (.iastore, 1) := by decide +kernel
theorem dX9_about_78 : decode cX9_about 78 = .ok (.aload_n 0, 1) := by decide +kernel
theorem dX9_about_79 : decode cX9_about 79 = .ok (.getfield 45, 3) := by decide +kernel
theorem dX9_about_82 : decode cX9_about 82 = .ok (.aload_n 0, 1) := by decide +kernel
theorem dX9_about_83 : decode cX9_about 83 = .ok (.getfield 203, 3) := by decide +kernel
theorem dX9_about_86 : decode cX9_about 86 = .ok (.iconst 1, 1) := by decide +kernel
theorem dX9_about_87 : decode cX9_about 87 = .ok (.isub, 1) := by decide +kernel
theorem dX9_about_88 : decode cX9_about 88 = .ok (.iload_n 1, 1) := by decide +kernel
theorem dX9_about_89 : decode cX9_about 89 = .ok (.isub, 1) := by decide +kernel
theorem dX9_about_90 : decode cX9_about 90 = .ok (.iload_n 3, 1) := by decide +kernel
theorem dX9_about_91 : decode cX9_about 91 = .ok (.iastore, 1) := by decide +kernel
theorem dX9_about_92 : decode cX9_about 92 = .ok (.iinc 1 1, 3) := by decide +kernel
theorem dX9_about_95 : decode cX9_about 95 = .ok (.goto (-93), 3) := by decide +kernel
theorem dX9_about_98 : decode cX9_about 98 = .ok (.aload_n 0, 1) := by decide +kernel
theorem dX9_about_99 : decode cX9_about 99 = .ok (.getfield 203, 3) := by decide +kernel
theorem dX9_about_102 : decode cX9_about 102 = .ok (.ireturn, 1) := by decide +kernel
theorem dX9_jobOf_0 : decode cX9_jobOf 0 = .ok (.iload_n 2, 1) := by decide +kernel
theorem dX9_jobOf_1 : decode cX9_jobOf 1 = .ok (.iconst 0, 1) := by decide +kernel
theorem dX9_jobOf_2 : decode cX9_jobOf 2 = .ok (.iconst 1, 1) := by decide +kernel
theorem dX9_jobOf_3 : decode cX9_jobOf 3 = .ok (.invokestatic 143, 3) := by decide +kernel
theorem dX9_jobOf_6 : decode cX9_jobOf 6 = .ok (.ifCond .ne 5, 3) := by decide +kernel
theorem dX9_jobOf_9 : decode cX9_jobOf 9 = .ok (.iconst (-1), 1) := by decide +kernel
theorem dX9_jobOf_10 : decode cX9_jobOf 10 = .ok (.ireturn, 1) := by decide +kernel
theorem dX9_jobOf_11 : decode cX9_jobOf 11 = .ok (.iload_n 1, 1) := by decide +kernel
theorem dX9_jobOf_12 : decode cX9_jobOf 12 = .ok (.iconst 0, 1) := by decide +kernel
theorem dX9_jobOf_13 : decode cX9_jobOf 13 = .ok (.aload_n 0, 1) := by decide +kernel
theorem dX9_jobOf_14 : decode cX9_jobOf 14 = .ok (.getfield 203, 3) := by decide +kernel
theorem dX9_jobOf_17 : decode cX9_jobOf 17 = .ok (.iconst 1, 1) := by decide +kernel
theorem dX9_jobOf_18 : decode cX9_jobOf 18 = .ok (.isub, 1) := by decide +kernel
theorem dX9_jobOf_19 : decode cX9_jobOf 19 = .ok (.invokestatic 143, 3) := by decide +kernel
theorem dX9_jobOf_22 : decode cX9_jobOf 22 = .ok (.ifCond .ne 8, 3) := by decide +kernel
theorem dX9_jobOf_25 : decode cX9_jobOf 25 = .ok (.bipush (-2), 2) := by decide +kernel
theorem dX9_jobOf_27 : decode cX9_jobOf 27 = .ok (.goto 22, 3) := by decide +kernel
theorem dX9_jobOf_30 : decode cX9_jobOf 30 = .ok (.iload_n 2, 1) := by decide +kernel
theorem dX9_jobOf_31 : decode cX9_jobOf 31 = .ok (.ifCond .ne 12, 3) := by decide +kernel
theorem dX9_jobOf_34 : decode cX9_jobOf 34 = .ok (.aload_n 0, 1) := by decide +kernel
theorem dX9_jobOf_35 : decode cX9_jobOf 35 = .ok (.getfield 42, 3) := by decide +kernel
theorem dX9_jobOf_38 : decode cX9_jobOf 38 = .ok (.iload_n 1, 1) := by decide +kernel
theorem dX9_jobOf_39 : decode cX9_jobOf 39 = .ok (.iaload, 1) := by decide +kernel
theorem dX9_jobOf_40 : decode cX9_jobOf 40 = .ok (.goto 9, 3) := by decide +kernel
theorem dX9_jobOf_43 : decode cX9_jobOf 43 = .ok (.aload_n 0, 1) := by decide +kernel
theorem dX9_jobOf_44 : decode cX9_jobOf 44 = .ok (.getfield 45, 3) := by decide +kernel
theorem dX9_jobOf_47 : decode cX9_jobOf 47 = .ok (.iload_n 1, 1) := by decide +kernel
theorem dX9_jobOf_48 : decode cX9_jobOf 48 = .ok (.iaload, 1) := by decide +kernel
theorem dX9_jobOf_49 : decode cX9_jobOf 49 = .ok (.ireturn, 1) := by decide +kernel
theorem dX9_back_0 : decode cX9_back 0 = .ok (.aload_n 0, 1) := by decide +kernel
theorem dX9_back_1 : decode cX9_back 1 = .ok (.getfield 206, 3) := by decide +kernel
theorem dX9_back_4 : decode cX9_back 4 = .ok (.ifCond .ne 6, 3) := by decide +kernel
theorem dX9_back_7 : decode cX9_back 7 = .ok (.bipush (-5), 2) := by decide +kernel
theorem dX9_back_9 : decode cX9_back 9 = .ok (.ireturn, 1) := by decide +kernel
theorem dX9_back_10 : decode cX9_back 10 = .ok (.aload_n 0, 1) := by decide +kernel
theorem dX9_back_11 : decode cX9_back 11 = .ok (.dup, 1) := by decide +kernel
theorem dX9_back_12 : decode cX9_back 12 = .ok (.getfield 206, 3) := by decide +kernel
theorem dX9_back_15 : decode cX9_back 15 = .ok (.iconst 1, 1) := by decide +kernel
theorem dX9_back_16 : decode cX9_back 16 = .ok (.isub, 1) := by decide +kernel
theorem dX9_back_17 : decode cX9_back 17 = .ok (.putfield 206, 3) := by decide +kernel
theorem dX9_back_20 : decode cX9_back 20 = .ok (.aload_n 0, 1) := by decide +kernel
theorem dX9_back_21 : decode cX9_back 21 = .ok (.aload_n 0, 1) := by decide +kernel
theorem dX9_back_22 : decode cX9_back 22 = .ok (.getfield 51, 3) := by decide +kernel
theorem dX9_back_25 : decode cX9_back 25 = .ok (.aload_n 0, 1) := by decide +kernel
theorem dX9_back_26 : decode cX9_back 26 = .ok (.getfield 206, 3) := by decide +kernel
theorem dX9_back_29 : decode cX9_back 29 = .ok (.iaload, 1) := by decide +kernel
theorem dX9_back_30 : decode cX9_back 30 = .ok (.aload_n 0, 1) := by decide +kernel
theorem dX9_back_31 : decode cX9_back 31 = .ok (.getfield 48, 3) := by decide +kernel
theorem dX9_back_34 : decode cX9_back 34 = .ok (.aload_n 0, 1) := by decide +kernel
theorem dX9_back_35 : decode cX9_back 35 = .ok (.getfield 206, 3) := by decide +kernel
theorem dX9_back_38 : decode cX9_back 38 = .ok (.iaload, 1) := by decide +kernel
theorem dX9_back_39 : decode cX9_back 39 = .ok (.aload_n 0, 1) := by decide +kernel
theorem dX9_back_40 : decode cX9_back 40 = .ok (.getfield 54, 3) := by decide +kernel
theorem dX9_back_43 : decode cX9_back 43 = .ok (.aload_n 0, 1) := by decide +kernel
theorem dX9_back_44 : decode cX9_back 44 = .ok (.getfield 206, 3) := by decide +kernel
theorem dX9_back_47 : decode cX9_back 47 = .ok (.iaload, 1) := by decide +kernel
theorem dX9_back_48 : decode cX9_back 48 = .ok (.invokevirtual 213, 3) := by decide +kernel
theorem dX9_back_51 : decode cX9_back 51 = .ok (.aload_n 0, 1) := by decide +kernel
theorem dX9_back_52 : decode cX9_back 52 = .ok (.getfield 206, 3) := by decide +kernel
theorem dX9_back_55 : decode cX9_back 55 = .ok (.ireturn, 1) := by decide +kernel
theorem dX9_feed_0 : decode cX9_feed 0 = .ok (.iload_n 1, 1) := by decide +kernel
theorem dX9_feed_1 : decode cX9_feed 1 = .ok (.bipush 32, 2) := by decide +kernel
theorem dX9_feed_3 : decode cX9_feed 3 = .ok (.bipush 126, 2) := by decide +kernel
theorem dX9_feed_5 : decode cX9_feed 5 = .ok (.invokestatic 143, 3) := by decide +kernel
theorem dX9_feed_8 : decode cX9_feed 8 = .ok (.ifCond .ne 5, 3) := by decide +kernel
theorem dX9_feed_11 : decode cX9_feed 11 = .ok (.iconst (-1), 1) := by decide +kernel
theorem dX9_feed_12 : decode cX9_feed 12 = .ok (.ireturn, 1) := by decide +kernel
theorem dX9_feed_13 : decode cX9_feed 13 = .ok (.aload_n 0, 1) := by decide +kernel
theorem dX9_feed_14 : decode cX9_feed 14 = .ok (.getfield 262, 3) := by decide +kernel
theorem dX9_feed_17 : decode cX9_feed 17 = .ok (.bipush 80, 2) := by decide +kernel
theorem dX9_feed_19 : decode cX9_feed 19 = .ok (.if_icmp .ne 6, 3) := by decide +kernel
theorem dX9_feed_22 : decode cX9_feed 22 = .ok (.bipush (-3), 2) := by decide +kernel
theorem dX9_feed_24 : decode cX9_feed 24 = .ok (.ireturn, 1) := by decide +kernel
theorem dX9_feed_25 : decode cX9_feed 25 = .ok (.aload_n 0, 1) := by decide +kernel
theorem dX9_feed_26 : decode cX9_feed 26 = .ok (.getfield 57, 3) := by decide +kernel
theorem dX9_feed_29 : decode cX9_feed 29 = .ok (.aload_n 0, 1) := by decide +kernel
theorem dX9_feed_30 : decode cX9_feed 30 = .ok (.getfield 262, 3) := by decide +kernel
theorem dX9_feed_33 : decode cX9_feed 33 = .ok (.iload_n 1, 1) := by decide +kernel
theorem dX9_feed_34 : decode cX9_feed 34 = .ok (.iastore, 1) := by decide +kernel
theorem dX9_feed_35 : decode cX9_feed 35 = .ok (.aload_n 0, 1) := by decide +kernel
theorem dX9_feed_36 : decode cX9_feed 36 = .ok (.dup, 1) := by decide +kernel
theorem dX9_feed_37 : decode cX9_feed 37 = .ok (.getfield 262, 3) := by decide +kernel
theorem dX9_feed_40 : decode cX9_feed 40 = .ok (.iconst 1, 1) := by decide +kernel
theorem dX9_feed_41 : decode cX9_feed 41 = .ok (.iadd, 1) := by decide +kernel
theorem dX9_feed_42 : decode cX9_feed 42 = .ok (.putfield 262, 3) := by decide +kernel
theorem dX9_feed_45 : decode cX9_feed 45 = .ok (.aload_n 0, 1) := by decide +kernel
theorem dX9_feed_46 : decode cX9_feed 46 = .ok (.getfield 262, 3) := by decide +kernel
theorem dX9_feed_49 : decode cX9_feed 49 = .ok (.ireturn, 1) := by decide +kernel
theorem dX9_wipe_0 : decode cX9_wipe 0 = .ok (.aload_n 0, 1) := by decide +kernel
theorem dX9_wipe_1 : decode cX9_wipe 1 = .ok (.getfield 262, 3) := by decide +kernel
theorem dX9_wipe_4 : decode cX9_wipe 4 = .ok (.istore_n 1, 1) := by decide +kernel
theorem dX9_wipe_5 : decode cX9_wipe 5 = .ok (.aload_n 0, 1) := by decide +kernel
theorem dX9_wipe_6 : decode cX9_wipe 6 = .ok (.iconst 0, 1) := by decide +kernel
theorem dX9_wipe_7 : decode cX9_wipe 7 = .ok (.putfield 262, 3) := by decide +kernel
theorem dX9_wipe_10 : decode cX9_wipe 10 = .ok (.iload_n 1, 1) := by decide +kernel
theorem dX9_wipe_11 : decode cX9_wipe 11 = .ok (.ireturn, 1) := by decide +kernel
theorem dX9_here_0 : decode cX9_here 0 = .ok (.aload_n 0, 1) := by decide +kernel
theorem dX9_here_1 : decode cX9_here 1 = .ok (.getfield 265, 3) := by decide +kernel
theorem dX9_here_4 : decode cX9_here 4 = .ok (.aload_n 0, 1) := by decide +kernel
theorem dX9_here_5 : decode cX9_here 5 = .ok (.getfield 268, 3) := by decide +kernel
theorem dX9_here_8 : decode cX9_here 8 = .ok (.if_icmp .ge 15, 3) := by decide +kernel
theorem dX9_here_11 : decode cX9_here 11 = .ok (.aload_n 0, 1) := by decide +kernel
theorem dX9_here_12 : decode cX9_here 12 = .ok (.getfield 57, 3) := by decide +kernel
theorem dX9_here_15 : decode cX9_here 15 = .ok (.aload_n 0, 1) := by decide +kernel
theorem dX9_here_16 : decode cX9_here 16 = .ok (.getfield 265, 3) := by decide +kernel
theorem dX9_here_19 : decode cX9_here 19 = .ok (.iaload, 1) := by decide +kernel
theorem dX9_here_20 : decode cX9_here 20 = .ok (.goto 4, 3) := by decide +kernel
theorem dX9_here_23 : decode cX9_here 23 = .ok (.iconst (-1), 1) := by decide +kernel
theorem dX9_here_24 : decode cX9_here 24 = .ok (.ireturn, 1) := by decide +kernel
theorem dX9_isFigure_0 : decode cX9_isFigure 0 = .ok (.aload_n 0, 1) := by decide +kernel
theorem dX9_isFigure_1 : decode cX9_isFigure 1 = .ok (.invokevirtual 271, 3) := by decide +kernel
theorem dX9_isFigure_4 : decode cX9_isFigure 4 = .ok (.bipush 48, 2) := by decide +kernel
theorem dX9_isFigure_6 : decode cX9_isFigure 6 = .ok (.if_icmp .lt 16, 3) := by decide +kernel
theorem dX9_isFigure_9 : decode cX9_isFigure 9 = .ok (.aload_n 0, 1) := by decide +kernel
theorem dX9_isFigure_10 : decode cX9_isFigure 10 = .ok (.invokevirtual 271, 3) := by decide +kernel
theorem dX9_isFigure_13 : decode cX9_isFigure 13 = .ok (.bipush 57, 2) := by decide +kernel
theorem dX9_isFigure_15 : decode cX9_isFigure 15 = .ok (.if_icmp .gt 7, 3) := by decide +kernel
theorem dX9_isFigure_18 : decode cX9_isFigure 18 = .ok (.iconst 1, 1) := by decide +kernel
theorem dX9_isFigure_19 : decode cX9_isFigure 19 = .ok (.goto 4, 3) := by decide +kernel
theorem dX9_isFigure_22 : decode cX9_isFigure 22 = .ok (.iconst 0, 1) := by decide +kernel
theorem dX9_isFigure_23 : decode cX9_isFigure 23 = .ok (.ireturn, 1) := by decide +kernel
theorem dX9_want_0 : decode cX9_want 0 = .ok (.aload_n 0, 1) := by decide +kernel
theorem dX9_want_1 : decode cX9_want 1 = .ok (.getfield 274, 3) := by decide +kernel
theorem dX9_want_4 : decode cX9_want 4 = .ok (.ifCond .ne 41, 3) := by decide +kernel
theorem dX9_want_7 : decode cX9_want 7 = .ok (.aload_n 0, 1) := by decide +kernel
theorem dX9_want_8 : decode cX9_want 8 = .ok (.aload_n 0, 1) := by decide +kernel
theorem dX9_want_9 : decode cX9_want 9 = .ok (.invokevirtual 271, 3) := by decide +kernel
theorem dX9_want_12 : decode cX9_want 12 = .ok (.iload_n 1, 1) := by decide +kernel
theorem dX9_want_13 : decode cX9_want 13 = .ok (.if_icmp .eq 7, 3) := by decide +kernel
theorem dX9_want_16 : decode cX9_want 16 = .ok (.iconst 1, 1) := by decide +kernel
theorem dX9_want_17 : decode cX9_want 17 = .ok (.goto 4, 3) := by decide +kernel
theorem dX9_want_20 : decode cX9_want 20 = .ok (.iconst 0, 1) := by decide +kernel
theorem dX9_want_21 : decode cX9_want 21 = .ok (.putfield 274, 3) := by decide +kernel
theorem dX9_want_24 : decode cX9_want 24 = .ok (.aload_n 0, 1) := by decide +kernel
theorem dX9_want_25 : decode cX9_want 25 = .ok (.dup, 1) := by decide +kernel
theorem dX9_want_26 : decode cX9_want 26 = .ok (.getfield 265, 3) := by decide +kernel
theorem dX9_want_29 : decode cX9_want 29 = .ok (.aload_n 0, 1) := by decide +kernel
theorem dX9_want_30 : decode cX9_want 30 = .ok (.getfield 274, 3) := by decide +kernel
theorem dX9_want_33 : decode cX9_want 33 = .ok (.ifCond .eq 7, 3) := by decide +kernel
theorem dX9_want_36 : decode cX9_want 36 = .ok (.iconst 0, 1) := by decide +kernel
theorem dX9_want_37 : decode cX9_want 37 = .ok (.goto 4, 3) := by decide +kernel
theorem dX9_want_40 : decode cX9_want 40 = .ok (.iconst 1, 1) := by decide +kernel
theorem dX9_want_41 : decode cX9_want 41 = .ok (.iadd, 1) := by decide +kernel
theorem dX9_want_42 : decode cX9_want 42 = .ok (.putfield 265, 3) := by decide +kernel
theorem dX9_want_45 : decode cX9_want 45 = .ok (.return_, 1) := by decide +kernel
theorem dX9_number_0 : decode cX9_number 0 = .ok (.aload_n 0, 1) := by decide +kernel
theorem dX9_number_1 : decode cX9_number 1 = .ok (.getfield 274, 3) := by decide +kernel
theorem dX9_number_4 : decode cX9_number 4 = .ok (.ifCond .eq 5, 3) := by decide +kernel
theorem dX9_number_7 : decode cX9_number 7 = .ok (.iconst 0, 1) := by decide +kernel
theorem dX9_number_8 : decode cX9_number 8 = .ok (.ireturn, 1) := by decide +kernel
theorem dX9_number_9 : decode cX9_number 9 = .ok (.iload_n 1, 1) := by decide +kernel
theorem dX9_number_10 : decode cX9_number 10 = .ok (.ifCond .eq 16, 3) := by decide +kernel
theorem dX9_number_13 : decode cX9_number 13 = .ok (.aload_n 0, 1) := by decide +kernel
theorem dX9_number_14 : decode cX9_number 14 = .ok (.invokevirtual 271, 3) := by decide +kernel
theorem dX9_number_17 : decode cX9_number 17 = .ok (.bipush 45, 2) := by decide +kernel
theorem dX9_number_19 : decode cX9_number 19 = .ok (.if_icmp .ne 7, 3) := by decide +kernel
theorem dX9_number_22 : decode cX9_number 22 = .ok (.iconst 1, 1) := by decide +kernel
theorem dX9_number_23 : decode cX9_number 23 = .ok (.goto 4, 3) := by decide +kernel
theorem dX9_number_26 : decode cX9_number 26 = .ok (.iconst 0, 1) := by decide +kernel
theorem dX9_number_27 : decode cX9_number 27 = .ok (.istore_n 2, 1) := by decide +kernel
theorem dX9_number_28 : decode cX9_number 28 = .ok (.aload_n 0, 1) := by decide +kernel
theorem dX9_number_29 : decode cX9_number 29 = .ok (.dup, 1) := by decide +kernel
theorem dX9_number_30 : decode cX9_number 30 = .ok (.getfield 265, 3) := by decide +kernel
theorem dX9_number_33 : decode cX9_number 33 = .ok (.iload_n 2, 1) := by decide +kernel
theorem dX9_number_34 : decode cX9_number 34 = .ok (.ifCond .eq 7, 3) := by decide +kernel
theorem dX9_number_37 : decode cX9_number 37 = .ok (.iconst 1, 1) := by decide +kernel
theorem dX9_number_38 : decode cX9_number 38 = .ok (.goto 4, 3) := by decide +kernel
theorem dX9_number_41 : decode cX9_number 41 = .ok (.iconst 0, 1) := by decide +kernel
theorem dX9_number_42 : decode cX9_number 42 = .ok (.iadd, 1) := by decide +kernel
theorem dX9_number_43 : decode cX9_number 43 = .ok (.putfield 265, 3) := by decide +kernel
theorem dX9_number_46 : decode cX9_number 46 = .ok (.iconst 0, 1) := by decide +kernel
theorem dX9_number_47 : decode cX9_number 47 = .ok (.istore_n 3, 1) := by decide +kernel
theorem dX9_number_48 : decode cX9_number 48 = .ok (.iconst 0, 1) := by decide +kernel
theorem dX9_number_49 : decode cX9_number 49 = .ok (.istore 4, 2) := by decide +kernel
theorem dX9_number_51 : decode cX9_number 51 = .ok (.iload 4, 2) := by decide +kernel
theorem dX9_number_53 : decode cX9_number 53 = .ok (.iconst 5, 1) := by decide +kernel
theorem dX9_number_54 : decode cX9_number 54 = .ok (.if_icmp .ge 39, 3) := by decide +kernel
theorem dX9_number_57 : decode cX9_number 57 = .ok (.aload_n 0, 1) := by decide +kernel
theorem dX9_number_58 : decode cX9_number 58 = .ok (.invokevirtual 278, 3) := by decide +kernel
theorem dX9_number_61 : decode cX9_number 61 = .ok (.ifCond .eq 32, 3) := by decide +kernel
theorem dX9_number_64 : decode cX9_number 64 = .ok (.bipush 10, 2) := by decide +kernel
theorem dX9_number_66 : decode cX9_number 66 = .ok (.iload_n 3, 1) := by decide +kernel
theorem dX9_number_67 : decode cX9_number 67 = .ok (.imul, 1) := by decide +kernel
theorem dX9_number_68 : decode cX9_number 68 = .ok (.aload_n 0, 1) := by decide +kernel
theorem dX9_number_69 : decode cX9_number 69 = .ok (.invokevirtual 271, 3) := by decide +kernel
theorem dX9_number_72 : decode cX9_number 72 = .ok (.iadd, 1) := by decide +kernel
theorem dX9_number_73 : decode cX9_number 73 = .ok (.bipush 48, 2) := by decide +kernel
theorem dX9_number_75 : decode cX9_number 75 = .ok (.isub, 1) := by decide +kernel
theorem dX9_number_76 : decode cX9_number 76 = .ok (.istore_n 3, 1) := by decide +kernel
theorem dX9_number_77 : decode cX9_number 77 = .ok (.iinc 4 1, 3) := by decide +kernel
theorem dX9_number_80 : decode cX9_number 80 = .ok (.aload_n 0, 1) := by decide +kernel
theorem dX9_number_81 : decode cX9_number 81 = .ok (.dup, 1) := by decide +kernel
theorem dX9_number_82 : decode cX9_number 82 = .ok (.getfield 265, 3) := by decide +kernel
theorem dX9_number_85 : decode cX9_number 85 = .ok (.iconst 1, 1) := by decide +kernel
theorem dX9_number_86 : decode cX9_number 86 = .ok (.iadd, 1) := by decide +kernel
theorem dX9_number_87 : decode cX9_number 87 = .ok (.putfield 265, 3) := by decide +kernel
theorem dX9_number_90 : decode cX9_number 90 = .ok (.goto (-39), 3) := by decide +kernel
theorem dX9_number_93 : decode cX9_number 93 = .ok (.aload_n 0, 1) := by decide +kernel
theorem dX9_number_94 : decode cX9_number 94 = .ok (.iload 4, 2) := by decide +kernel
theorem dX9_number_96 : decode cX9_number 96 = .ok (.ifCond .ne 7, 3) := by decide +kernel
theorem dX9_number_99 : decode cX9_number 99 = .ok (.iconst 1, 1) := by decide +kernel
theorem dX9_number_100 : decode cX9_number 100 = .ok (.goto 4, 3) := by decide +kernel
theorem dX9_number_103 : decode cX9_number 103 = .ok (.iconst 0, 1) := by decide +kernel
theorem dX9_number_104 : decode cX9_number 104 = .ok (.putfield 274, 3) := by decide +kernel
theorem dX9_number_107 : decode cX9_number 107 = .ok (.iload_n 2, 1) := by decide +kernel
theorem dX9_number_108 : decode cX9_number 108 = .ok (.ifCond .eq 8, 3) := by decide +kernel
theorem dX9_number_111 : decode cX9_number 111 = .ok (.iload_n 3, 1) := by decide +kernel
theorem dX9_number_112 : decode cX9_number 112 = .ok (.ineg, 1) := by decide +kernel
theorem dX9_number_113 : decode cX9_number 113 = .ok (.goto 4, 3) := by decide +kernel
theorem dX9_number_116 : decode cX9_number 116 = .ok (.iload_n 3, 1) := by decide +kernel
theorem dX9_number_117 : decode cX9_number 117 = .ok (.ireturn, 1) := by decide +kernel
theorem dX9_readAct_0 : decode cX9_readAct 0 = .ok (.aload_n 0, 1) := by decide +kernel
theorem dX9_readAct_1 : decode cX9_readAct 1 = .ok (.invokevirtual 271, 3) := by decide +kernel
theorem dX9_readAct_4 : decode cX9_readAct 4 = .ok (.istore_n 1, 1) := by decide +kernel
theorem dX9_readAct_5 : decode cX9_readAct 5 = .ok (.iload_n 1, 1) := by decide +kernel
theorem dX9_readAct_6 : decode cX9_readAct 6 = .ok (.bipush 116, 2) := by decide +kernel
theorem dX9_readAct_8 : decode cX9_readAct 8 = .ok (.if_icmp .eq 27, 3) := by decide +kernel
theorem dX9_readAct_11 : decode cX9_readAct 11 = .ok (.iload_n 1, 1) := by decide +kernel
theorem dX9_readAct_12 : decode cX9_readAct 12 = .ok (.bipush 112, 2) := by decide +kernel
theorem dX9_readAct_14 : decode cX9_readAct 14 = .ok (.if_icmp .eq 21, 3) := by decide +kernel
theorem dX9_readAct_17 : decode cX9_readAct 17 = .ok (.iload_n 1, 1) := by decide +kernel
theorem dX9_readAct_18 : decode cX9_readAct 18 = .ok (.bipush 115, 2) := by decide +kernel
theorem dX9_readAct_20 : decode cX9_readAct 20 = .ok (.if_icmp .eq 15, 3) := by decide +kernel
theorem dX9_readAct_23 : decode cX9_readAct 23 = .ok (.iload_n 1, 1) := by decide +kernel
theorem dX9_readAct_24 : decode cX9_readAct 24 = .ok (.bipush 109, 2) := by decide +kernel
theorem dX9_readAct_26 : decode cX9_readAct 26 = .ok (.if_icmp .eq 9, 3) := by decide +kernel
theorem dX9_readAct_29 : decode cX9_readAct 29 = .ok (.aload_n 0, 1) := by decide +kernel
theorem dX9_readAct_30 : decode cX9_readAct 30 = .ok (.iconst 1, 1) := by decide +kernel
theorem dX9_readAct_31 : decode cX9_readAct 31 = .ok (.putfield 274, 3) := by decide +kernel
theorem dX9_readAct_34 : decode cX9_readAct 34 = .ok (.return_, 1) := by decide +kernel
theorem dX9_readAct_35 : decode cX9_readAct 35 = .ok (.aload_n 0, 1) := by decide +kernel
theorem dX9_readAct_36 : decode cX9_readAct 36 = .ok (.dup, 1) := by decide +kernel
theorem dX9_readAct_37 : decode cX9_readAct 37 = .ok (.getfield 265, 3) := by decide +kernel
theorem dX9_readAct_40 : decode cX9_readAct 40 = .ok (.iconst 1, 1) := by decide +kernel
theorem dX9_readAct_41 : decode cX9_readAct 41 = .ok (.iadd, 1) := by decide +kernel
theorem dX9_readAct_42 : decode cX9_readAct 42 = .ok (.putfield 265, 3) := by decide +kernel
theorem dX9_readAct_45 : decode cX9_readAct 45 = .ok (.iconst 5, 1) := by decide +kernel
theorem dX9_readAct_46 : decode cX9_readAct 46 = .ok (.aload_n 0, 1) := by decide +kernel
theorem dX9_readAct_47 : decode cX9_readAct 47 = .ok (.getfield 282, 3) := by decide +kernel
theorem dX9_readAct_50 : decode cX9_readAct 50 = .ok (.imul, 1) := by decide +kernel
theorem dX9_readAct_51 : decode cX9_readAct 51 = .ok (.istore_n 2, 1) := by decide +kernel
theorem dX9_readAct_52 : decode cX9_readAct 52 = .ok (.aload_n 0, 1) := by decide +kernel
theorem dX9_readAct_53 : decode cX9_readAct 53 = .ok (.getfield 130, 3) := by decide +kernel
theorem dX9_readAct_56 : decode cX9_readAct 56 = .ok (.aload_n 0, 1) := by decide +kernel
theorem dX9_readAct_57 : decode cX9_readAct 57 = .ok (.getfield 282, 3) := by decide +kernel
theorem dX9_readAct_60 : decode cX9_readAct 60 = .ok (.iload_n 1, 1) := by decide +kernel
theorem dX9_readAct_61 : decode cX9_readAct 61 = .ok (.iastore, 1) := by decide +kernel
theorem dX9_readAct_62 : decode cX9_readAct 62 = .ok (.iconst 0, 1) := by decide +kernel
theorem dX9_readAct_63 : decode cX9_readAct 63 = .ok (.istore_n 3, 1) := by decide +kernel
theorem dX9_readAct_64 : decode cX9_readAct 64 = .ok (.aload_n 0, 1) := by decide +kernel
theorem dX9_readAct_65 : decode cX9_readAct 65 = .ok (.getfield 136, 3) := by decide +kernel
theorem dX9_readAct_68 : decode cX9_readAct 68 = .ok (.iload_n 2, 1) := by decide +kernel
theorem dX9_readAct_69 : decode cX9_readAct 69 = .ok (.aload_n 0, 1) := by decide +kernel
theorem dX9_readAct_70 : decode cX9_readAct 70 = .ok (.iconst 0, 1) := by decide +kernel
theorem dX9_readAct_71 : decode cX9_readAct 71 = .ok (.invokevirtual 285, 3) := by decide +kernel
theorem dX9_readAct_74 : decode cX9_readAct 74 = .ok (.iastore, 1) := by decide +kernel
theorem dX9_readAct_75 : decode cX9_readAct 75 = .ok (.iinc 3 1, 3) := by decide +kernel
theorem dX9_readAct_78 : decode cX9_readAct 78 = .ok (.iload_n 1, 1) := by decide +kernel
theorem dX9_readAct_79 : decode cX9_readAct 79 = .ok (.bipush 112, 2) := by decide +kernel
theorem dX9_readAct_81 : decode cX9_readAct 81 = .ok (.if_icmp .ne 96, 3) := by decide +kernel
theorem dX9_readAct_84 : decode cX9_readAct 84 = .ok (.aload_n 0, 1) := by decide +kernel
theorem dX9_readAct_85 : decode cX9_readAct 85 = .ok (.bipush 44, 2) := by decide +kernel
theorem dX9_readAct_87 : decode cX9_readAct 87 = .ok (.invokevirtual 289, 3) := by decide +kernel
theorem dX9_readAct_90 : decode cX9_readAct 90 = .ok (.aload_n 0, 1) := by decide +kernel
theorem dX9_readAct_91 : decode cX9_readAct 91 = .ok (.getfield 136, 3) := by decide +kernel
theorem dX9_readAct_94 : decode cX9_readAct 94 = .ok (.iload_n 2, 1) := by decide +kernel
theorem dX9_readAct_95 : decode cX9_readAct 95 = .ok (.iconst 1, 1) := by decide +kernel
theorem dX9_readAct_96 : decode cX9_readAct 96 = .ok (.iadd, 1) := by decide +kernel
theorem dX9_readAct_97 : decode cX9_readAct 97 = .ok (.aload_n 0, 1) := by decide +kernel
theorem dX9_readAct_98 : decode cX9_readAct 98 = .ok (.iconst 0, 1) := by decide +kernel
theorem dX9_readAct_99 : decode cX9_readAct 99 = .ok (.invokevirtual 285, 3) := by decide +kernel
theorem dX9_readAct_102 : decode cX9_readAct 102 = .ok (.iastore, 1) := by decide +kernel
theorem dX9_readAct_103 : decode cX9_readAct 103 = .ok (.iconst 2, 1) := by decide +kernel
theorem dX9_readAct_104 : decode cX9_readAct 104 = .ok (.istore_n 3, 1) := by decide +kernel
theorem dX9_readAct_105 : decode cX9_readAct 105 = .ok (.aload_n 0, 1) := by decide +kernel
theorem dX9_readAct_106 : decode cX9_readAct 106 = .ok (.getfield 274, 3) := by decide +kernel
theorem dX9_readAct_109 : decode cX9_readAct 109 = .ok (.ifCond .ne 46, 3) := by decide +kernel
theorem dX9_readAct_112 : decode cX9_readAct 112 = .ok (.iload_n 3, 1) := by decide +kernel
theorem dX9_readAct_113 : decode cX9_readAct 113 = .ok (.iconst 4, 1) := by decide +kernel
theorem dX9_readAct_114 : decode cX9_readAct 114 = .ok (.if_icmp .ge 41, 3) := by decide +kernel
theorem dX9_readAct_117 : decode cX9_readAct 117 = .ok (.aload_n 0, 1) := by decide +kernel
theorem dX9_readAct_118 : decode cX9_readAct 118 = .ok (.invokevirtual 271, 3) := by decide +kernel
theorem dX9_readAct_121 : decode cX9_readAct 121 = .ok (.bipush 44, 2) := by decide +kernel
theorem dX9_readAct_123 : decode cX9_readAct 123 = .ok (.if_icmp .ne 32, 3) := by decide +kernel
theorem dX9_readAct_126 : decode cX9_readAct 126 = .ok (.aload_n 0, 1) := by decide +kernel
theorem dX9_readAct_127 : decode cX9_readAct 127 = .ok (.dup, 1) := by decide +kernel
theorem dX9_readAct_128 : decode cX9_readAct 128 = .ok (.getfield 265, 3) := by decide +kernel
theorem dX9_readAct_131 : decode cX9_readAct 131 = .ok (.iconst 1, 1) := by decide +kernel
theorem dX9_readAct_132 : decode cX9_readAct 132 = .ok (.iadd, 1) := by decide +kernel
theorem dX9_readAct_133 : decode cX9_readAct 133 = .ok (.putfield 265, 3) := by decide +kernel
theorem dX9_readAct_136 : decode cX9_readAct 136 = .ok (.aload_n 0, 1) := by decide +kernel
theorem dX9_readAct_137 : decode cX9_readAct 137 = .ok (.getfield 136, 3) := by decide +kernel
theorem dX9_readAct_140 : decode cX9_readAct 140 = .ok (.iload_n 2, 1) := by decide +kernel
theorem dX9_readAct_141 : decode cX9_readAct 141 = .ok (.iload_n 3, 1) := by decide +kernel
theorem dX9_readAct_142 : decode cX9_readAct 142 = .ok (.iadd, 1) := by decide +kernel
theorem dX9_readAct_143 : decode cX9_readAct 143 = .ok (.aload_n 0, 1) := by decide +kernel
theorem dX9_readAct_144 : decode cX9_readAct 144 = .ok (.iconst 0, 1) := by decide +kernel
theorem dX9_readAct_145 : decode cX9_readAct 145 = .ok (.invokevirtual 285, 3) := by decide +kernel
theorem dX9_readAct_148 : decode cX9_readAct 148 = .ok (.iastore, 1) := by decide +kernel
theorem dX9_readAct_149 : decode cX9_readAct 149 = .ok (.iinc 3 1, 3) := by decide +kernel
theorem dX9_readAct_152 : decode cX9_readAct 152 = .ok (.goto (-47), 3) := by decide +kernel
theorem dX9_readAct_155 : decode cX9_readAct 155 = .ok (.aload_n 0, 1) := by decide +kernel
theorem dX9_readAct_156 : decode cX9_readAct 156 = .ok (.bipush 58, 2) := by decide +kernel
theorem dX9_readAct_158 : decode cX9_readAct 158 = .ok (.invokevirtual 289, 3) := by decide +kernel
theorem dX9_readAct_161 : decode cX9_readAct 161 = .ok (.aload_n 0, 1) := by decide +kernel
theorem dX9_readAct_162 : decode cX9_readAct 162 = .ok (.getfield 136, 3) := by decide +kernel
theorem dX9_readAct_165 : decode cX9_readAct 165 = .ok (.iload_n 2, 1) := by decide +kernel
theorem dX9_readAct_166 : decode cX9_readAct 166 = .ok (.iconst 4, 1) := by decide +kernel
theorem dX9_readAct_167 : decode cX9_readAct 167 = .ok (.iadd, 1) := by decide +kernel
theorem dX9_readAct_168 : decode cX9_readAct 168 = .ok (.aload_n 0, 1) := by decide +kernel
theorem dX9_readAct_169 : decode cX9_readAct 169 = .ok (.iconst 1, 1) := by decide +kernel
theorem dX9_readAct_170 : decode cX9_readAct 170 = .ok (.invokevirtual 285, 3) := by decide +kernel
theorem dX9_readAct_173 : decode cX9_readAct 173 = .ok (.iastore, 1) := by decide +kernel
theorem dX9_readAct_174 : decode cX9_readAct 174 = .ok (.goto 47, 3) := by decide +kernel
theorem dX9_readAct_177 : decode cX9_readAct 177 = .ok (.aload_n 0, 1) := by decide +kernel
theorem dX9_readAct_178 : decode cX9_readAct 178 = .ok (.bipush 44, 2) := by decide +kernel
theorem dX9_readAct_180 : decode cX9_readAct 180 = .ok (.invokevirtual 289, 3) := by decide +kernel
theorem dX9_readAct_183 : decode cX9_readAct 183 = .ok (.aload_n 0, 1) := by decide +kernel
theorem dX9_readAct_184 : decode cX9_readAct 184 = .ok (.getfield 136, 3) := by decide +kernel
theorem dX9_readAct_187 : decode cX9_readAct 187 = .ok (.iload_n 2, 1) := by decide +kernel
theorem dX9_readAct_188 : decode cX9_readAct 188 = .ok (.iconst 1, 1) := by decide +kernel
theorem dX9_readAct_189 : decode cX9_readAct 189 = .ok (.iadd, 1) := by decide +kernel
theorem dX9_readAct_190 : decode cX9_readAct 190 = .ok (.aload_n 0, 1) := by decide +kernel
theorem dX9_readAct_191 : decode cX9_readAct 191 = .ok (.iconst 0, 1) := by decide +kernel
theorem dX9_readAct_192 : decode cX9_readAct 192 = .ok (.invokevirtual 285, 3) := by decide +kernel
theorem dX9_readAct_195 : decode cX9_readAct 195 = .ok (.iastore, 1) := by decide +kernel
theorem dX9_readAct_196 : decode cX9_readAct 196 = .ok (.iload_n 1, 1) := by decide +kernel
theorem dX9_readAct_197 : decode cX9_readAct 197 = .ok (.bipush 116, 2) := by decide +kernel
theorem dX9_readAct_199 : decode cX9_readAct 199 = .ok (.if_icmp .ne 22, 3) := by decide +kernel
theorem dX9_readAct_202 : decode cX9_readAct 202 = .ok (.aload_n 0, 1) := by decide +kernel
theorem dX9_readAct_203 : decode cX9_readAct 203 = .ok (.bipush 44, 2) := by decide +kernel
theorem dX9_readAct_205 : decode cX9_readAct 205 = .ok (.invokevirtual 289, 3) := by decide +kernel
theorem dX9_readAct_208 : decode cX9_readAct 208 = .ok (.aload_n 0, 1) := by decide +kernel
theorem dX9_readAct_209 : decode cX9_readAct 209 = .ok (.getfield 136, 3) := by decide +kernel
theorem dX9_readAct_212 : decode cX9_readAct 212 = .ok (.iload_n 2, 1) := by decide +kernel
theorem dX9_readAct_213 : decode cX9_readAct 213 = .ok (.iconst 2, 1) := by decide +kernel
theorem dX9_readAct_214 : decode cX9_readAct 214 = .ok (.iadd, 1) := by decide +kernel
theorem dX9_readAct_215 : decode cX9_readAct 215 = .ok (.aload_n 0, 1) := by decide +kernel
theorem dX9_readAct_216 : decode cX9_readAct 216 = .ok (.iconst 1, 1) := by decide +kernel
theorem dX9_readAct_217 : decode cX9_readAct 217 = .ok (.invokevirtual 285, 3) := by decide +kernel
theorem dX9_readAct_220 : decode cX9_readAct 220 = .ok (.iastore, 1) := by decide +kernel
theorem dX9_readAct_221 : decode cX9_readAct 221 = .ok (.aload_n 0, 1) := by decide +kernel
theorem dX9_readAct_222 : decode cX9_readAct 222 = .ok (.getfield 133, 3) := by decide +kernel
theorem dX9_readAct_225 : decode cX9_readAct 225 = .ok (.aload_n 0, 1) := by decide +kernel
theorem dX9_readAct_226 : decode cX9_readAct 226 = .ok (.getfield 282, 3) := by decide +kernel
theorem dX9_readAct_229 : decode cX9_readAct 229 = .ok (.iload_n 3, 1) := by decide +kernel
theorem dX9_readAct_230 : decode cX9_readAct 230 = .ok (.iastore, 1) := by decide +kernel
theorem dX9_readAct_231 : decode cX9_readAct 231 = .ok (.aload_n 0, 1) := by decide +kernel
theorem dX9_readAct_232 : decode cX9_readAct 232 = .ok (.dup, 1) := by decide +kernel
theorem dX9_readAct_233 : decode cX9_readAct 233 = .ok (.getfield 282, 3) := by decide +kernel
theorem dX9_readAct_236 : decode cX9_readAct 236 = .ok (.iconst 1, 1) := by decide +kernel
theorem dX9_readAct_237 : decode cX9_readAct 237 = .ok (.iadd, 1) := by decide +kernel
theorem dX9_readAct_238 : decode cX9_readAct 238 = .ok (.putfield 282, 3) := by decide +kernel
theorem dX9_readAct_241 : decode cX9_readAct 241 = .ok (.return_, 1) := by decide +kernel
theorem dX9_isDone_0 : decode cX9_isDone 0 = .ok (.iconst 5, 1) := by decide +kernel
theorem dX9_isDone_1 : decode cX9_isDone 1 = .ok (.iload_n 1, 1) := by decide +kernel
theorem dX9_isDone_2 : decode cX9_isDone 2 = .ok (.imul, 1) := by decide +kernel
theorem dX9_isDone_3 : decode cX9_isDone 3 = .ok (.istore_n 2, 1) := by decide +kernel
theorem dX9_isDone_4 : decode cX9_isDone 4 = .ok (.aload_n 0, 1) := by decide +kernel
theorem dX9_isDone_5 : decode cX9_isDone 5 = .ok (.getfield 136, 3) := by decide +kernel
theorem dX9_isDone_8 : decode cX9_isDone 8 = .ok (.iload_n 2, 1) := by decide +kernel
theorem dX9_isDone_9 : decode cX9_isDone 9 = .ok (.iaload, 1) := by decide +kernel
theorem dX9_isDone_10 : decode cX9_isDone 10 = .ok (.istore_n 3, 1) := by decide +kernel
theorem dX9_isDone_11 : decode cX9_isDone 11 = .ok (.aload_n 0, 1) := by decide +kernel
theorem dX9_isDone_12 : decode cX9_isDone 12 = .ok (.getfield 136, 3) := by decide +kernel
theorem dX9_isDone_15 : decode cX9_isDone 15 = .ok (.iload_n 2, 1) := by decide +kernel
theorem dX9_isDone_16 : decode cX9_isDone 16 = .ok (.iconst 1, 1) := by decide +kernel
theorem dX9_isDone_17 : decode cX9_isDone 17 = .ok (.iadd, 1) := by decide +kernel
theorem dX9_isDone_18 : decode cX9_isDone 18 = .ok (.iaload, 1) := by decide +kernel
theorem dX9_isDone_19 : decode cX9_isDone 19 = .ok (.istore 4, 2) := by decide +kernel
theorem dX9_isDone_21 : decode cX9_isDone 21 = .ok (.aload_n 0, 1) := by decide +kernel
theorem dX9_isDone_22 : decode cX9_isDone 22 = .ok (.getfield 130, 3) := by decide +kernel
theorem dX9_isDone_25 : decode cX9_isDone 25 = .ok (.iload_n 1, 1) := by decide +kernel
theorem dX9_isDone_26 : decode cX9_isDone 26 = .ok (.iaload, 1) := by decide +kernel
theorem dX9_isDone_27 : decode cX9_isDone 27 = .ok (.bipush 116, 2) := by decide +kernel
theorem dX9_isDone_29 : decode cX9_isDone 29 = .ok (.if_icmp .ne 27, 3) := by decide +kernel
theorem dX9_isDone_32 : decode cX9_isDone 32 = .ok (.aload_n 0, 1) := by decide +kernel
theorem dX9_isDone_33 : decode cX9_isDone 33 = .ok (.iload_n 3, 1) := by decide +kernel
theorem dX9_isDone_34 : decode cX9_isDone 34 = .ok (.iload 4, 2) := by decide +kernel
theorem dX9_isDone_36 : decode cX9_isDone 36 = .ok (.aload_n 0, 1) := by decide +kernel
theorem dX9_isDone_37 : decode cX9_isDone 37 = .ok (.getfield 136, 3) := by decide +kernel
theorem dX9_isDone_40 : decode cX9_isDone 40 = .ok (.iload_n 2, 1) := by decide +kernel
theorem dX9_isDone_41 : decode cX9_isDone 41 = .ok (.iconst 2, 1) := by decide +kernel
theorem dX9_isDone_42 : decode cX9_isDone 42 = .ok (.iadd, 1) := by decide +kernel
theorem dX9_isDone_43 : decode cX9_isDone 43 = .ok (.iaload, 1) := by decide +kernel
theorem dX9_isDone_44 : decode cX9_isDone 44 = .ok (.invokevirtual 292, 3) := by decide +kernel
theorem dX9_isDone_47 : decode cX9_isDone 47 = .ok (.ifCond .lt 7, 3) := by decide +kernel
theorem dX9_isDone_50 : decode cX9_isDone 50 = .ok (.iconst 1, 1) := by decide +kernel
theorem dX9_isDone_51 : decode cX9_isDone 51 = .ok (.goto 4, 3) := by decide +kernel
theorem dX9_isDone_54 : decode cX9_isDone 54 = .ok (.iconst 0, 1) := by decide +kernel
theorem dX9_isDone_55 : decode cX9_isDone 55 = .ok (.ireturn, 1) := by decide +kernel
theorem dX9_isDone_56 : decode cX9_isDone 56 = .ok (.aload_n 0, 1) := by decide +kernel
theorem dX9_isDone_57 : decode cX9_isDone 57 = .ok (.getfield 130, 3) := by decide +kernel
theorem dX9_isDone_60 : decode cX9_isDone 60 = .ok (.iload_n 1, 1) := by decide +kernel
theorem dX9_isDone_61 : decode cX9_isDone 61 = .ok (.iaload, 1) := by decide +kernel
theorem dX9_isDone_62 : decode cX9_isDone 62 = .ok (.bipush 115, 2) := by decide +kernel
theorem dX9_isDone_64 : decode cX9_isDone 64 = .ok (.if_icmp .ne 45, 3) := by decide +kernel
theorem dX9_isDone_67 : decode cX9_isDone 67 = .ok (.aload_n 0, 1) := by decide +kernel
theorem dX9_isDone_68 : decode cX9_isDone 68 = .ok (.iload_n 3, 1) := by decide +kernel
theorem dX9_isDone_69 : decode cX9_isDone 69 = .ok (.invokevirtual 147, 3) := by decide +kernel
theorem dX9_isDone_72 : decode cX9_isDone 72 = .ok (.ifCond .eq 18, 3) := by decide +kernel
theorem dX9_isDone_75 : decode cX9_isDone 75 = .ok (.iload 4, 2) := by decide +kernel
theorem dX9_isDone_77 : decode cX9_isDone 77 = .ok (.iconst 0, 1) := by decide +kernel
theorem dX9_isDone_78 : decode cX9_isDone 78 = .ok (.ldc 189, 2) := by decide +kernel
theorem dX9_isDone_80 : decode cX9_isDone 80 = .ok (.invokestatic 143, 3) := by decide +kernel
theorem dX9_isDone_83 : decode cX9_isDone 83 = .ok (.ifCond .eq 7, 3) := by decide +kernel
theorem dX9_isDone_86 : decode cX9_isDone 86 = .ok (.iconst 1, 1) := by decide +kernel
theorem dX9_isDone_87 : decode cX9_isDone 87 = .ok (.goto 4, 3) := by decide +kernel
theorem dX9_isDone_90 : decode cX9_isDone 90 = .ok (.iconst 0, 1) := by decide +kernel
theorem dX9_isDone_91 : decode cX9_isDone 91 = .ok (.istore 5, 2) := by decide +kernel
theorem dX9_isDone_93 : decode cX9_isDone 93 = .ok (.iload 5, 2) := by decide +kernel
theorem dX9_isDone_95 : decode cX9_isDone 95 = .ok (.ifCond .eq 11, 3) := by decide +kernel
theorem dX9_isDone_98 : decode cX9_isDone 98 = .ok (.aload_n 0, 1) := by decide +kernel
theorem dX9_isDone_99 : decode cX9_isDone 99 = .ok (.getfield 27, 3) := by decide +kernel
theorem dX9_isDone_102 : decode cX9_isDone 102 = .ok (.iload_n 3, 1) := by decide +kernel
theorem dX9_isDone_103 : decode cX9_isDone 103 = .ok (.iload 4, 2) := by decide +kernel
theorem dX9_isDone_105 : decode cX9_isDone 105 = .ok (.iastore, 1) := by decide +kernel
theorem dX9_isDone_106 : decode cX9_isDone 106 = .ok (.iload 5, 2) := by decide +kernel
theorem dX9_isDone_108 : decode cX9_isDone 108 = .ok (.ireturn, 1) := by decide +kernel
theorem dX9_isDone_109 : decode cX9_isDone 109 = .ok (.aload_n 0, 1) := by decide +kernel
theorem dX9_isDone_110 : decode cX9_isDone 110 = .ok (.getfield 130, 3) := by decide +kernel
theorem dX9_isDone_113 : decode cX9_isDone 113 = .ok (.iload_n 1, 1) := by decide +kernel
theorem dX9_isDone_114 : decode cX9_isDone 114 = .ok (.iaload, 1) := by decide +kernel
theorem dX9_isDone_115 : decode cX9_isDone 115 = .ok (.bipush 109, 2) := by decide +kernel
theorem dX9_isDone_117 : decode cX9_isDone 117 = .ok (.if_icmp .ne 48, 3) := by decide +kernel
theorem dX9_isDone_120 : decode cX9_isDone 120 = .ok (.aload_n 0, 1) := by decide +kernel
theorem dX9_isDone_121 : decode cX9_isDone 121 = .ok (.iload_n 3, 1) := by decide +kernel
theorem dX9_isDone_122 : decode cX9_isDone 122 = .ok (.invokevirtual 147, 3) := by decide +kernel
theorem dX9_isDone_125 : decode cX9_isDone 125 = .ok (.ifCond .eq 38, 3) := by decide +kernel
theorem dX9_isDone_128 : decode cX9_isDone 128 = .ok (.iload 4, 2) := by decide +kernel
theorem dX9_isDone_130 : decode cX9_isDone 130 = .ok (.iconst 1, 1) := by decide +kernel
theorem dX9_isDone_131 : decode cX9_isDone 131 = .ok (.sipush 9999, 3) := by decide +kernel
theorem dX9_isDone_134 : decode cX9_isDone 134 = .ok (.invokestatic 143, 3) := by decide +kernel
theorem dX9_isDone_137 : decode cX9_isDone 137 = .ok (.ifCond .eq 26, 3) := by decide +kernel
theorem dX9_isDone_140 : decode cX9_isDone 140 = .ok (.aload_n 0, 1) := by decide +kernel
theorem dX9_isDone_141 : decode cX9_isDone 141 = .ok (.getfield 9, 3) := by decide +kernel
theorem dX9_isDone_144 : decode cX9_isDone 144 = .ok (.iload_n 3, 1) := by decide +kernel
theorem dX9_isDone_145 : decode cX9_isDone 145 = .ok (.iaload, 1) := by decide +kernel
theorem dX9_isDone_146 : decode cX9_isDone 146 = .ok (.ifCond .le 17, 3) := by decide +kernel
theorem dX9_isDone_149 : decode cX9_isDone 149 = .ok (.aload_n 0, 1) := by decide +kernel
theorem dX9_isDone_150 : decode cX9_isDone 150 = .ok (.iload_n 3, 1) := by decide +kernel
theorem dX9_isDone_151 : decode cX9_isDone 151 = .ok (.iload 4, 2) := by decide +kernel
theorem dX9_isDone_153 : decode cX9_isDone 153 = .ok (.invokevirtual 240, 3) := by decide +kernel
theorem dX9_isDone_156 : decode cX9_isDone 156 = .ok (.ifCond .eq 7, 3) := by decide +kernel
theorem dX9_isDone_159 : decode cX9_isDone 159 = .ok (.iconst 1, 1) := by decide +kernel
theorem dX9_isDone_160 : decode cX9_isDone 160 = .ok (.goto 4, 3) := by decide +kernel
theorem dX9_isDone_163 : decode cX9_isDone 163 = .ok (.iconst 0, 1) := by decide +kernel
theorem dX9_isDone_164 : decode cX9_isDone 164 = .ok (.ireturn, 1) := by decide +kernel
theorem dX9_isDone_165 : decode cX9_isDone 165 = .ok (.aload_n 0, 1) := by decide +kernel
theorem dX9_isDone_166 : decode cX9_isDone 166 = .ok (.getfield 136, 3) := by decide +kernel
theorem dX9_isDone_169 : decode cX9_isDone 169 = .ok (.iload_n 2, 1) := by decide +kernel
theorem dX9_isDone_170 : decode cX9_isDone 170 = .ok (.iconst 4, 1) := by decide +kernel
theorem dX9_isDone_171 : decode cX9_isDone 171 = .ok (.iadd, 1) := by decide +kernel
theorem dX9_isDone_172 : decode cX9_isDone 172 = .ok (.iaload, 1) := by decide +kernel
theorem dX9_isDone_173 : decode cX9_isDone 173 = .ok (.bipush (-99), 2) := by decide +kernel
theorem dX9_isDone_175 : decode cX9_isDone 175 = .ok (.bipush 99, 2) := by decide +kernel
theorem dX9_isDone_177 : decode cX9_isDone 177 = .ok (.invokestatic 143, 3) := by decide +kernel
theorem dX9_isDone_180 : decode cX9_isDone 180 = .ok (.ifCond .eq 16, 3) := by decide +kernel
theorem dX9_isDone_183 : decode cX9_isDone 183 = .ok (.aload_n 0, 1) := by decide +kernel
theorem dX9_isDone_184 : decode cX9_isDone 184 = .ok (.getfield 139, 3) := by decide +kernel
theorem dX9_isDone_187 : decode cX9_isDone 187 = .ok (.bipush 16, 2) := by decide +kernel
theorem dX9_isDone_189 : decode cX9_isDone 189 = .ok (.if_icmp .ge 7, 3) := by decide +kernel
theorem dX9_isDone_192 : decode cX9_isDone 192 = .ok (.iconst 1, 1) := by decide +kernel
theorem dX9_isDone_193 : decode cX9_isDone 193 = .ok (.goto 4, 3) := by decide +kernel
theorem dX9_isDone_196 : decode cX9_isDone 196 = .ok (.iconst 0, 1) := by decide +kernel
theorem dX9_isDone_197 : decode cX9_isDone 197 = .ok (.istore 5, 2) := by decide +kernel
theorem dX9_isDone_199 : decode cX9_isDone 199 = .ok (.iconst 0, 1) := by decide +kernel
theorem dX9_isDone_200 : decode cX9_isDone 200 = .ok (.istore 6, 2) := by decide +kernel
theorem dX9_isDone_202 : decode cX9_isDone 202 = .ok (.iload 6, 2) := by decide +kernel
theorem dX9_isDone_204 : decode cX9_isDone 204 = .ok (.aload_n 0, 1) := by decide +kernel
theorem dX9_isDone_205 : decode cX9_isDone 205 = .ok (.getfield 133, 3) := by decide +kernel
theorem dX9_isDone_208 : decode cX9_isDone 208 = .ok (.iload_n 1, 1) := by decide +kernel
theorem dX9_isDone_209 : decode cX9_isDone 209 = .ok (.iaload, 1) := by decide +kernel
theorem dX9_isDone_210 : decode cX9_isDone 210 = .ok (.if_icmp .ge 54, 3) := by decide +kernel
theorem dX9_isDone_213 : decode cX9_isDone 213 = .ok (.iload 5, 2) := by decide +kernel
theorem dX9_isDone_215 : decode cX9_isDone 215 = .ok (.ifCond .eq 40, 3) := by decide +kernel
theorem dX9_isDone_218 : decode cX9_isDone 218 = .ok (.aload_n 0, 1) := by decide +kernel
theorem dX9_isDone_219 : decode cX9_isDone 219 = .ok (.aload_n 0, 1) := by decide +kernel
theorem dX9_isDone_220 : decode cX9_isDone 220 = .ok (.getfield 136, 3) := by decide +kernel
theorem dX9_isDone_223 : decode cX9_isDone 223 = .ok (.iload_n 2, 1) := by decide +kernel
theorem dX9_isDone_224 : decode cX9_isDone 224 = .ok (.iload 6, 2) := by decide +kernel
theorem dX9_isDone_226 : decode cX9_isDone 226 = .ok (.iadd, 1) := by decide +kernel
theorem dX9_isDone_227 : decode cX9_isDone 227 = .ok (.iaload, 1) := by decide +kernel
theorem dX9_isDone_228 : decode cX9_isDone 228 = .ok (.invokevirtual 147, 3) := by decide +kernel
theorem dX9_isDone_231 : decode cX9_isDone 231 = .ok (.ifCond .eq 24, 3) := by decide +kernel
theorem dX9_isDone_234 : decode cX9_isDone 234 = .ok (.aload_n 0, 1) := by decide +kernel
theorem dX9_isDone_235 : decode cX9_isDone 235 = .ok (.aload_n 0, 1) := by decide +kernel
theorem dX9_isDone_236 : decode cX9_isDone 236 = .ok (.getfield 136, 3) := by decide +kernel
theorem dX9_isDone_239 : decode cX9_isDone 239 = .ok (.iload_n 2, 1) := by decide +kernel
theorem dX9_isDone_240 : decode cX9_isDone 240 = .ok (.iload 6, 2) := by decide +kernel
theorem dX9_isDone_242 : decode cX9_isDone 242 = .ok (.iadd, 1) := by decide +kernel
theorem dX9_isDone_243 : decode cX9_isDone 243 = .ok (.iaload, 1) := by decide +kernel
theorem dX9_isDone_244 : decode cX9_isDone 244 = .ok (.invokevirtual 151, 3) := by decide +kernel
theorem dX9_isDone_247 : decode cX9_isDone 247 = .ok (.iconst 3, 1) := by decide +kernel
theorem dX9_isDone_248 : decode cX9_isDone 248 = .ok (.if_icmp .ge 7, 3) := by decide +kernel
theorem dX9_isDone_251 : decode cX9_isDone 251 = .ok (.iconst 1, 1) := by decide +kernel
theorem dX9_isDone_252 : decode cX9_isDone 252 = .ok (.goto 4, 3) := by decide +kernel
theorem dX9_isDone_255 : decode cX9_isDone 255 = .ok (.iconst 0, 1) := by decide +kernel
theorem dX9_isDone_256 : decode cX9_isDone 256 = .ok (.istore 5, 2) := by decide +kernel
theorem dX9_isDone_258 : decode cX9_isDone 258 = .ok (.iinc 6 1, 3) := by decide +kernel
theorem dX9_isDone_261 : decode cX9_isDone 261 = .ok (.goto (-59), 3) := by decide +kernel
theorem dX9_isDone_264 : decode cX9_isDone 264 = .ok (.iload 5, 2) := by decide +kernel
theorem dX9_isDone_266 : decode cX9_isDone 266 = .ok (.ifCond .eq 65, 3) := by decide +kernel
theorem dX9_isDone_269 : decode cX9_isDone 269 = .ok (.iconst 0, 1) := by decide +kernel
theorem dX9_isDone_270 : decode cX9_isDone 270 = .ok (.istore 6, 2) := by decide +kernel
theorem dX9_isDone_272 : decode cX9_isDone 272 = .ok (.iload 6, 2) := by decide +kernel
theorem dX9_isDone_274 : decode cX9_isDone 274 = .ok (.aload_n 0, 1) := by decide +kernel
theorem dX9_isDone_275 : decode cX9_isDone 275 = .ok (.getfield 133, 3) := by decide +kernel
theorem dX9_isDone_278 : decode cX9_isDone 278 = .ok (.iload_n 1, 1) := by decide +kernel
theorem dX9_isDone_279 : decode cX9_isDone 279 = .ok (.iaload, 1) := by decide +kernel
theorem dX9_isDone_280 : decode cX9_isDone 280 = .ok (.if_icmp .ge 32, 3) := by decide +kernel
theorem dX9_isDone_283 : decode cX9_isDone 283 = .ok (.aload_n 0, 1) := by decide +kernel
theorem dX9_isDone_284 : decode cX9_isDone 284 = .ok (.getfield 15, 3) := by decide +kernel
theorem dX9_isDone_287 : decode cX9_isDone 287 = .ok (.iconst 4, 1) := by decide +kernel
theorem dX9_isDone_288 : decode cX9_isDone 288 = .ok (.aload_n 0, 1) := by decide +kernel
theorem dX9_isDone_289 : decode cX9_isDone 289 = .ok (.getfield 139, 3) := by decide +kernel
theorem dX9_isDone_292 : decode cX9_isDone 292 = .ok (.imul, 1) := by decide +kernel
theorem dX9_isDone_293 : decode cX9_isDone 293 = .ok (.iload 6, 2) := by decide +kernel
theorem dX9_isDone_295 : decode cX9_isDone 295 = .ok (.iadd, 1) := by decide +kernel
theorem dX9_isDone_296 : decode cX9_isDone 296 = .ok (.aload_n 0, 1) := by decide +kernel
theorem dX9_isDone_297 : decode cX9_isDone 297 = .ok (.getfield 136, 3) := by decide +kernel
theorem dX9_isDone_300 : decode cX9_isDone 300 = .ok (.iload_n 2, 1) := by decide +kernel
theorem dX9_isDone_301 : decode cX9_isDone 301 = .ok (.iload 6, 2) := by decide +kernel
theorem dX9_isDone_303 : decode cX9_isDone 303 = .ok (.iadd, 1) := by decide +kernel
theorem dX9_isDone_304 : decode cX9_isDone 304 = .ok (.iaload, 1) := by decide +kernel
theorem dX9_isDone_305 : decode cX9_isDone 305 = .ok (.iastore, 1) := by decide +kernel
theorem dX9_isDone_306 : decode cX9_isDone 306 = .ok (.iinc 6 1, 3) := by decide +kernel
theorem dX9_isDone_309 : decode cX9_isDone 309 = .ok (.goto (-37), 3) := by decide +kernel
theorem dX9_isDone_312 : decode cX9_isDone 312 = .ok (.aload_n 0, 1) := by decide +kernel
theorem dX9_isDone_313 : decode cX9_isDone 313 = .ok (.aload_n 0, 1) := by decide +kernel
theorem dX9_isDone_314 : decode cX9_isDone 314 = .ok (.getfield 133, 3) := by decide +kernel
theorem dX9_isDone_317 : decode cX9_isDone 317 = .ok (.iload_n 1, 1) := by decide +kernel
theorem dX9_isDone_318 : decode cX9_isDone 318 = .ok (.iaload, 1) := by decide +kernel
theorem dX9_isDone_319 : decode cX9_isDone 319 = .ok (.aload_n 0, 1) := by decide +kernel
theorem dX9_isDone_320 : decode cX9_isDone 320 = .ok (.getfield 136, 3) := by decide +kernel
theorem dX9_isDone_323 : decode cX9_isDone 323 = .ok (.iload_n 2, 1) := by decide +kernel
theorem dX9_isDone_324 : decode cX9_isDone 324 = .ok (.iconst 4, 1) := by decide +kernel
theorem dX9_isDone_325 : decode cX9_isDone 325 = .ok (.iadd, 1) := by decide +kernel
theorem dX9_isDone_326 : decode cX9_isDone 326 = .ok (.iaload, 1) := by decide +kernel
theorem dX9_isDone_327 : decode cX9_isDone 327 = .ok (.invokevirtual 197, 3) := by decide +kernel
theorem dX9_isDone_330 : decode cX9_isDone 330 = .ok (.pop, 1) := by decide +kernel
theorem dX9_isDone_331 : decode cX9_isDone 331 = .ok (.iload 5, 2) := by decide +kernel
theorem dX9_isDone_333 : decode cX9_isDone 333 = .ok (.ireturn, 1) := by decide +kernel
theorem dX9_read_0 : decode cX9_read 0 = .ok (.aload_n 0, 1) := by decide +kernel
theorem dX9_read_1 : decode cX9_read 1 = .ok (.iconst 0, 1) := by decide +kernel
theorem dX9_read_2 : decode cX9_read 2 = .ok (.putfield 265, 3) := by decide +kernel
theorem dX9_read_5 : decode cX9_read 5 = .ok (.aload_n 0, 1) := by decide +kernel
theorem dX9_read_6 : decode cX9_read 6 = .ok (.aload_n 0, 1) := by decide +kernel
theorem dX9_read_7 : decode cX9_read 7 = .ok (.getfield 262, 3) := by decide +kernel
theorem dX9_read_10 : decode cX9_read 10 = .ok (.putfield 268, 3) := by decide +kernel
theorem dX9_read_13 : decode cX9_read 13 = .ok (.aload_n 0, 1) := by decide +kernel
theorem dX9_read_14 : decode cX9_read 14 = .ok (.iconst 0, 1) := by decide +kernel
theorem dX9_read_15 : decode cX9_read 15 = .ok (.putfield 262, 3) := by decide +kernel
theorem dX9_read_18 : decode cX9_read 18 = .ok (.aload_n 0, 1) := by decide +kernel
theorem dX9_read_19 : decode cX9_read 19 = .ok (.iconst 0, 1) := by decide +kernel
theorem dX9_read_20 : decode cX9_read 20 = .ok (.putfield 274, 3) := by decide +kernel
theorem dX9_read_23 : decode cX9_read 23 = .ok (.aload_n 0, 1) := by decide +kernel
theorem dX9_read_24 : decode cX9_read 24 = .ok (.iconst 0, 1) := by decide +kernel
theorem dX9_read_25 : decode cX9_read 25 = .ok (.putfield 282, 3) := by decide +kernel
theorem dX9_read_28 : decode cX9_read 28 = .ok (.aload_n 0, 1) := by decide +kernel
theorem dX9_read_29 : decode cX9_read 29 = .ok (.invokevirtual 295, 3) := by decide +kernel
theorem dX9_read_32 : decode cX9_read 32 = .ok (.aload_n 0, 1) := by decide +kernel
theorem dX9_read_33 : decode cX9_read 33 = .ok (.getfield 274, 3) := by decide +kernel
theorem dX9_read_36 : decode cX9_read 36 = .ok (.ifCond .ne 34, 3) := by decide +kernel
theorem dX9_read_39 : decode cX9_read 39 = .ok (.aload_n 0, 1) := by decide +kernel
theorem dX9_read_40 : decode cX9_read 40 = .ok (.getfield 265, 3) := by decide +kernel
theorem dX9_read_43 : decode cX9_read 43 = .ok (.aload_n 0, 1) := by decide +kernel
theorem dX9_read_44 : decode cX9_read 44 = .ok (.getfield 268, 3) := by decide +kernel
theorem dX9_read_47 : decode cX9_read 47 = .ok (.if_icmp .ge 23, 3) := by decide +kernel
theorem dX9_read_50 : decode cX9_read 50 = .ok (.aload_n 0, 1) := by decide +kernel
theorem dX9_read_51 : decode cX9_read 51 = .ok (.bipush 59, 2) := by decide +kernel
theorem dX9_read_53 : decode cX9_read 53 = .ok (.invokevirtual 289, 3) := by decide +kernel
theorem dX9_read_56 : decode cX9_read 56 = .ok (.aload_n 0, 1) := by decide +kernel
theorem dX9_read_57 : decode cX9_read 57 = .ok (.getfield 274, 3) := by decide +kernel
theorem dX9_read_60 : decode cX9_read 60 = .ok (.ifCond .ne (-28), 3) := by decide +kernel
theorem dX9_read_63 : decode cX9_read 63 = .ok (.aload_n 0, 1) := by decide +kernel
theorem dX9_read_64 : decode cX9_read 64 = .ok (.invokevirtual 295, 3) := by decide +kernel
theorem dX9_read_67 : decode cX9_read 67 = .ok (.goto (-35), 3) := by decide +kernel
theorem dX9_read_70 : decode cX9_read 70 = .ok (.aload_n 0, 1) := by decide +kernel
theorem dX9_read_71 : decode cX9_read 71 = .ok (.getfield 274, 3) := by decide +kernel
theorem dX9_read_74 : decode cX9_read 74 = .ok (.ifCond .eq 11, 3) := by decide +kernel
theorem dX9_read_77 : decode cX9_read 77 = .ok (.bipush (-100), 2) := by decide +kernel
theorem dX9_read_79 : decode cX9_read 79 = .ok (.aload_n 0, 1) := by decide +kernel
theorem dX9_read_80 : decode cX9_read 80 = .ok (.getfield 265, 3) := by decide +kernel
theorem dX9_read_83 : decode cX9_read 83 = .ok (.isub, 1) := by decide +kernel
theorem dX9_read_84 : decode cX9_read 84 = .ok (.ireturn, 1) := by decide +kernel
theorem dX9_read_85 : decode cX9_read 85 = .ok (.iconst 0, 1) := by decide +kernel
theorem dX9_read_86 : decode cX9_read 86 = .ok (.istore_n 1, 1) := by decide +kernel
theorem dX9_read_87 : decode cX9_read 87 = .ok (.iload_n 1, 1) := by decide +kernel
theorem dX9_read_88 : decode cX9_read 88 = .ok (.aload_n 0, 1) := by decide +kernel
theorem dX9_read_89 : decode cX9_read 89 = .ok (.getfield 282, 3) := by decide +kernel
theorem dX9_read_92 : decode cX9_read 92 = .ok (.if_icmp .ge 28, 3) := by decide +kernel
theorem dX9_read_95 : decode cX9_read 95 = .ok (.aload_n 0, 1) := by decide +kernel
theorem dX9_read_96 : decode cX9_read 96 = .ok (.iload_n 1, 1) := by decide +kernel
theorem dX9_read_97 : decode cX9_read 97 = .ok (.invokevirtual 298, 3) := by decide +kernel
theorem dX9_read_100 : decode cX9_read 100 = .ok (.ifCond .ne 9, 3) := by decide +kernel
theorem dX9_read_103 : decode cX9_read 103 = .ok (.sipush (-200), 3) := by decide +kernel
theorem dX9_read_106 : decode cX9_read 106 = .ok (.iload_n 1, 1) := by decide +kernel
theorem dX9_read_107 : decode cX9_read 107 = .ok (.isub, 1) := by decide +kernel
theorem dX9_read_108 : decode cX9_read 108 = .ok (.ireturn, 1) := by decide +kernel
theorem dX9_read_109 : decode cX9_read 109 = .ok (.aload_n 0, 1) := by decide +kernel
theorem dX9_read_110 : decode cX9_read 110 = .ok (.iconst 0, 1) := by decide +kernel
theorem dX9_read_111 : decode cX9_read 111 = .ok (.putfield 206, 3) := by decide +kernel
theorem dX9_read_114 : decode cX9_read 114 = .ok (.iinc 1 1, 3) := by decide +kernel
theorem dX9_read_117 : decode cX9_read 117 = .ok (.goto (-30), 3) := by decide +kernel
theorem dX9_read_120 : decode cX9_read 120 = .ok (.aload_n 0, 1) := by decide +kernel
theorem dX9_read_121 : decode cX9_read 121 = .ok (.getfield 282, 3) := by decide +kernel
theorem dX9_read_124 : decode cX9_read 124 = .ok (.ireturn, 1) := by decide +kernel
theorem dX9_image_0 : decode cX9_image 0 = .ok (.aload_n 0, 1) := by decide +kernel
theorem dX9_image_1 : decode cX9_image 1 = .ok (.iconst 1, 1) := by decide +kernel
theorem dX9_image_2 : decode cX9_image 2 = .ok (.putfield 301, 3) := by decide +kernel
theorem dX9_image_5 : decode cX9_image 5 = .ok (.aload_n 0, 1) := by decide +kernel
theorem dX9_image_6 : decode cX9_image 6 = .ok (.aload_n 0, 1) := by decide +kernel
theorem dX9_image_7 : decode cX9_image 7 = .ok (.getfield 139, 3) := by decide +kernel
theorem dX9_image_10 : decode cX9_image 10 = .ok (.putfield 304, 3) := by decide +kernel
theorem dX9_image_13 : decode cX9_image 13 = .ok (.iconst 0, 1) := by decide +kernel
theorem dX9_image_14 : decode cX9_image 14 = .ok (.istore_n 1, 1) := by decide +kernel
theorem dX9_image_15 : decode cX9_image 15 = .ok (.iload_n 1, 1) := by decide +kernel
theorem dX9_image_16 : decode cX9_image 16 = .ok (.aload_n 0, 1) := by decide +kernel
theorem dX9_image_17 : decode cX9_image 17 = .ok (.getfield 139, 3) := by decide +kernel
theorem dX9_image_20 : decode cX9_image 20 = .ok (.if_icmp .ge 102, 3) := by decide +kernel
theorem dX9_image_23 : decode cX9_image 23 = .ok (.aload_n 0, 1) := by decide +kernel
theorem dX9_image_24 : decode cX9_image 24 = .ok (.getfield 69, 3) := by decide +kernel
theorem dX9_image_27 : decode cX9_image 27 = .ok (.iload_n 1, 1) := by decide +kernel
theorem dX9_image_28 : decode cX9_image 28 = .ok (.aload_n 0, 1) := by decide +kernel
theorem dX9_image_29 : decode cX9_image 29 = .ok (.getfield 9, 3) := by decide +kernel
theorem dX9_image_32 : decode cX9_image 32 = .ok (.iload_n 1, 1) := by decide +kernel
theorem dX9_image_33 : decode cX9_image 33 = .ok (.iaload, 1) := by decide +kernel
theorem dX9_image_34 : decode cX9_image 34 = .ok (.iastore, 1) := by decide +kernel
theorem dX9_image_35 : decode cX9_image 35 = .ok (.aload_n 0, 1) := by decide +kernel
theorem dX9_image_36 : decode cX9_image 36 = .ok (.getfield 75, 3) := by decide +kernel
theorem dX9_image_39 : decode cX9_image 39 = .ok (.iload_n 1, 1) := by decide +kernel
theorem dX9_image_40 : decode cX9_image 40 = .ok (.aload_n 0, 1) := by decide +kernel
theorem dX9_image_41 : decode cX9_image 41 = .ok (.getfield 18, 3) := by decide +kernel
theorem dX9_image_44 : decode cX9_image 44 = .ok (.iload_n 1, 1) := by decide +kernel
theorem dX9_image_45 : decode cX9_image 45 = .ok (.iaload, 1) := by decide +kernel
theorem dX9_image_46 : decode cX9_image 46 = .ok (.iastore, 1) := by decide +kernel
theorem dX9_image_47 : decode cX9_image 47 = .ok (.aload_n 0, 1) := by decide +kernel
theorem dX9_image_48 : decode cX9_image 48 = .ok (.getfield 78, 3) := by decide +kernel
theorem dX9_image_51 : decode cX9_image 51 = .ok (.iload_n 1, 1) := by decide +kernel
theorem dX9_image_52 : decode cX9_image 52 = .ok (.aload_n 0, 1) := by decide +kernel
theorem dX9_image_53 : decode cX9_image 53 = .ok (.getfield 21, 3) := by decide +kernel
theorem dX9_image_56 : decode cX9_image 56 = .ok (.iload_n 1, 1) := by decide +kernel
theorem dX9_image_57 : decode cX9_image 57 = .ok (.iaload, 1) := by decide +kernel
theorem dX9_image_58 : decode cX9_image 58 = .ok (.iastore, 1) := by decide +kernel
theorem dX9_image_59 : decode cX9_image 59 = .ok (.aload_n 0, 1) := by decide +kernel
theorem dX9_image_60 : decode cX9_image 60 = .ok (.getfield 81, 3) := by decide +kernel
theorem dX9_image_63 : decode cX9_image 63 = .ok (.iload_n 1, 1) := by decide +kernel
theorem dX9_image_64 : decode cX9_image 64 = .ok (.aload_n 0, 1) := by decide +kernel
theorem dX9_image_65 : decode cX9_image 65 = .ok (.getfield 24, 3) := by decide +kernel
theorem dX9_image_68 : decode cX9_image 68 = .ok (.iload_n 1, 1) := by decide +kernel
theorem dX9_image_69 : decode cX9_image 69 = .ok (.iaload, 1) := by decide +kernel
theorem dX9_image_70 : decode cX9_image 70 = .ok (.iastore, 1) := by decide +kernel
theorem dX9_image_71 : decode cX9_image 71 = .ok (.aload_n 0, 1) := by decide +kernel
theorem dX9_image_72 : decode cX9_image 72 = .ok (.getfield 84, 3) := by decide +kernel
theorem dX9_image_75 : decode cX9_image 75 = .ok (.iload_n 1, 1) := by decide +kernel
theorem dX9_image_76 : decode cX9_image 76 = .ok (.aload_n 0, 1) := by decide +kernel
theorem dX9_image_77 : decode cX9_image 77 = .ok (.getfield 27, 3) := by decide +kernel
theorem dX9_image_80 : decode cX9_image 80 = .ok (.iload_n 1, 1) := by decide +kernel
theorem dX9_image_81 : decode cX9_image 81 = .ok (.iaload, 1) := by decide +kernel
theorem dX9_image_82 : decode cX9_image 82 = .ok (.iastore, 1) := by decide +kernel
theorem dX9_image_83 : decode cX9_image 83 = .ok (.iconst 0, 1) := by decide +kernel
theorem dX9_image_84 : decode cX9_image 84 = .ok (.istore_n 2, 1) := by decide +kernel
theorem dX9_image_85 : decode cX9_image 85 = .ok (.iload_n 2, 1) := by decide +kernel
theorem dX9_image_86 : decode cX9_image 86 = .ok (.iconst 4, 1) := by decide +kernel
theorem dX9_image_87 : decode cX9_image 87 = .ok (.if_icmp .ge 29, 3) := by decide +kernel
theorem dX9_image_90 : decode cX9_image 90 = .ok (.aload_n 0, 1) := by decide +kernel
theorem dX9_image_91 : decode cX9_image 91 = .ok (.getfield 72, 3) := by decide +kernel
theorem dX9_image_94 : decode cX9_image 94 = .ok (.iconst 4, 1) := by decide +kernel
theorem dX9_image_95 : decode cX9_image 95 = .ok (.iload_n 1, 1) := by decide +kernel
theorem dX9_image_96 : decode cX9_image 96 = .ok (.imul, 1) := by decide +kernel
theorem dX9_image_97 : decode cX9_image 97 = .ok (.iload_n 2, 1) := by decide +kernel
theorem dX9_image_98 : decode cX9_image 98 = .ok (.iadd, 1) := by decide +kernel
theorem dX9_image_99 : decode cX9_image 99 = .ok (.aload_n 0, 1) := by decide +kernel
theorem dX9_image_100 : decode cX9_image 100 = .ok (.getfield 15, 3) := by decide +kernel
theorem dX9_image_103 : decode cX9_image 103 = .ok (.iconst 4, 1) := by decide +kernel
theorem dX9_image_104 : decode cX9_image 104 = .ok (.iload_n 1, 1) := by decide +kernel
theorem dX9_image_105 : decode cX9_image 105 = .ok (.imul, 1) := by decide +kernel
theorem dX9_image_106 : decode cX9_image 106 = .ok (.iload_n 2, 1) := by decide +kernel
theorem dX9_image_107 : decode cX9_image 107 = .ok (.iadd, 1) := by decide +kernel
theorem dX9_image_108 : decode cX9_image 108 = .ok (.iaload, 1) := by decide +kernel
theorem dX9_image_109 : decode cX9_image 109 = .ok (.iastore, 1) := by decide +kernel
theorem dX9_image_110 : decode cX9_image 110 = .ok (.iinc 2 1, 3) := by decide +kernel
theorem dX9_image_113 : decode cX9_image 113 = .ok (.goto (-28), 3) := by decide +kernel
theorem dX9_image_116 : decode cX9_image 116 = .ok (.iinc 1 1, 3) := by decide +kernel
theorem dX9_image_119 : decode cX9_image 119 = .ok (.goto (-104), 3) := by decide +kernel
theorem dX9_image_122 : decode cX9_image 122 = .ok (.aload_n 0, 1) := by decide +kernel
theorem dX9_image_123 : decode cX9_image 123 = .ok (.aload_n 0, 1) := by decide +kernel
theorem dX9_image_124 : decode cX9_image 124 = .ok (.getfield 200, 3) := by decide +kernel
theorem dX9_image_127 : decode cX9_image 127 = .ok (.putfield 307, 3) := by decide +kernel
theorem dX9_image_130 : decode cX9_image 130 = .ok (.aload_n 0, 1) := by decide +kernel
theorem dX9_image_131 : decode cX9_image 131 = .ok (.aload_n 0, 1) := by decide +kernel
theorem dX9_image_132 : decode cX9_image 132 = .ok (.getfield 203, 3) := by decide +kernel
theorem dX9_image_135 : decode cX9_image 135 = .ok (.putfield 310, 3) := by decide +kernel
theorem dX9_image_138 : decode cX9_image 138 = .ok (.iconst 0, 1) := by decide +kernel
theorem dX9_image_139 : decode cX9_image 139 = .ok (.istore_n 1, 1) := by decide +kernel
theorem dX9_image_140 : decode cX9_image 140 = .ok (.iload_n 1, 1) := by decide +kernel
theorem dX9_image_141 : decode cX9_image 141 = .ok (.bipush 8, 2) := by decide +kernel
theorem dX9_image_143 : decode cX9_image 143 = .ok (.if_icmp .ge 69, 3) := by decide +kernel
theorem dX9_image_146 : decode cX9_image 146 = .ok (.aload_n 0, 1) := by decide +kernel
theorem dX9_image_147 : decode cX9_image 147 = .ok (.getfield 87, 3) := by decide +kernel
theorem dX9_image_150 : decode cX9_image 150 = .ok (.iload_n 1, 1) := by decide +kernel
theorem dX9_image_151 : decode cX9_image 151 = .ok (.aload_n 0, 1) := by decide +kernel
theorem dX9_image_152 : decode cX9_image 152 = .ok (.getfield 33, 3) := by decide +kernel
theorem dX9_image_155 : decode cX9_image 155 = .ok (.iload_n 1, 1) := by decide +kernel
theorem dX9_image_156 : decode cX9_image 156 = .ok (.iaload, 1) := by decide +kernel
theorem dX9_image_157 : decode cX9_image 157 = .ok (.iastore, 1) := by decide +kernel
theorem dX9_image_158 : decode cX9_image 158 = .ok (.aload_n 0, 1) := by decide +kernel
theorem dX9_image_159 : decode cX9_image 159 = .ok (.getfield 90, 3) := by decide +kernel
theorem dX9_image_162 : decode cX9_image 162 = .ok (.iload_n 1, 1) := by decide +kernel
theorem dX9_image_163 : decode cX9_image 163 = .ok (.aload_n 0, 1) := by decide +kernel
theorem dX9_image_164 : decode cX9_image 164 = .ok (.getfield 36, 3) := by decide +kernel
theorem dX9_image_167 : decode cX9_image 167 = .ok (.iload_n 1, 1) := by decide +kernel
theorem dX9_image_168 : decode cX9_image 168 = .ok (.iaload, 1) := by decide +kernel
theorem dX9_image_169 : decode cX9_image 169 = .ok (.iastore, 1) := by decide +kernel
theorem dX9_image_170 : decode cX9_image 170 = .ok (.aload_n 0, 1) := by decide +kernel
theorem dX9_image_171 : decode cX9_image 171 = .ok (.getfield 93, 3) := by decide +kernel
theorem dX9_image_174 : decode cX9_image 174 = .ok (.iload_n 1, 1) := by decide +kernel
theorem dX9_image_175 : decode cX9_image 175 = .ok (.aload_n 0, 1) := by decide +kernel
theorem dX9_image_176 : decode cX9_image 176 = .ok (.getfield 39, 3) := by decide +kernel
theorem dX9_image_179 : decode cX9_image 179 = .ok (.iload_n 1, 1) := by decide +kernel
theorem dX9_image_180 : decode cX9_image 180 = .ok (.iaload, 1) := by decide +kernel
theorem dX9_image_181 : decode cX9_image 181 = .ok (.iastore, 1) := by decide +kernel
theorem dX9_image_182 : decode cX9_image 182 = .ok (.aload_n 0, 1) := by decide +kernel
theorem dX9_image_183 : decode cX9_image 183 = .ok (.getfield 96, 3) := by decide +kernel
theorem dX9_image_186 : decode cX9_image 186 = .ok (.iload_n 1, 1) := by decide +kernel
theorem dX9_image_187 : decode cX9_image 187 = .ok (.aload_n 0, 1) := by decide +kernel
theorem dX9_image_188 : decode cX9_image 188 = .ok (.getfield 42, 3) := by decide +kernel
theorem dX9_image_191 : decode cX9_image 191 = .ok (.iload_n 1, 1) := by decide +kernel
theorem dX9_image_192 : decode cX9_image 192 = .ok (.iaload, 1) := by decide +kernel
theorem dX9_image_193 : decode cX9_image 193 = .ok (.iastore, 1) := by decide +kernel
theorem dX9_image_194 : decode cX9_image 194 = .ok (.aload_n 0, 1) := by decide +kernel
theorem dX9_image_195 : decode cX9_image 195 = .ok (.getfield 99, 3) := by decide +kernel
theorem dX9_image_198 : decode cX9_image 198 = .ok (.iload_n 1, 1) := by decide +kernel
theorem dX9_image_199 : decode cX9_image 199 = .ok (.aload_n 0, 1) := by decide +kernel
theorem dX9_image_200 : decode cX9_image 200 = .ok (.getfield 45, 3) := by decide +kernel
theorem dX9_image_203 : decode cX9_image 203 = .ok (.iload_n 1, 1) := by decide +kernel
theorem dX9_image_204 : decode cX9_image 204 = .ok (.iaload, 1) := by decide +kernel
theorem dX9_image_205 : decode cX9_image 205 = .ok (.iastore, 1) := by decide +kernel
theorem dX9_image_206 : decode cX9_image 206 = .ok (.iinc 1 1, 3) := by decide +kernel
theorem dX9_image_209 : decode cX9_image 209 = .ok (.goto (-69), 3) := by decide +kernel
theorem dX9_image_212 : decode cX9_image 212 = .ok (.aload_n 0, 1) := by decide +kernel
theorem dX9_image_213 : decode cX9_image 213 = .ok (.getfield 139, 3) := by decide +kernel
theorem dX9_image_216 : decode cX9_image 216 = .ok (.ireturn, 1) := by decide +kernel
theorem dX9_undo_0 : decode cX9_undo 0 = .ok (.aload_n 0, 1) := by decide +kernel
theorem dX9_undo_1 : decode cX9_undo 1 = .ok (.getfield 301, 3) := by decide +kernel
theorem dX9_undo_4 : decode cX9_undo 4 = .ok (.ifCond .ne 6, 3) := by decide +kernel
theorem dX9_undo_7 : decode cX9_undo 7 = .ok (.bipush (-5), 2) := by decide +kernel
theorem dX9_undo_9 : decode cX9_undo 9 = .ok (.ireturn, 1) := by decide +kernel
theorem dX9_undo_10 : decode cX9_undo 10 = .ok (.aload_n 0, 1) := by decide +kernel
theorem dX9_undo_11 : decode cX9_undo 11 = .ok (.aload_n 0, 1) := by decide +kernel
theorem dX9_undo_12 : decode cX9_undo 12 = .ok (.getfield 304, 3) := by decide +kernel
theorem dX9_undo_15 : decode cX9_undo 15 = .ok (.putfield 139, 3) := by decide +kernel
theorem dX9_undo_18 : decode cX9_undo 18 = .ok (.iconst 0, 1) := by decide +kernel
theorem dX9_undo_19 : decode cX9_undo 19 = .ok (.istore_n 1, 1) := by decide +kernel
theorem dX9_undo_20 : decode cX9_undo 20 = .ok (.iload_n 1, 1) := by decide +kernel
theorem dX9_undo_21 : decode cX9_undo 21 = .ok (.aload_n 0, 1) := by decide +kernel
theorem dX9_undo_22 : decode cX9_undo 22 = .ok (.getfield 139, 3) := by decide +kernel
theorem dX9_undo_25 : decode cX9_undo 25 = .ok (.if_icmp .ge 102, 3) := by decide +kernel
theorem dX9_undo_28 : decode cX9_undo 28 = .ok (.aload_n 0, 1) := by decide +kernel
theorem dX9_undo_29 : decode cX9_undo 29 = .ok (.getfield 9, 3) := by decide +kernel
theorem dX9_undo_32 : decode cX9_undo 32 = .ok (.iload_n 1, 1) := by decide +kernel
theorem dX9_undo_33 : decode cX9_undo 33 = .ok (.aload_n 0, 1) := by decide +kernel
theorem dX9_undo_34 : decode cX9_undo 34 = .ok (.getfield 69, 3) := by decide +kernel
theorem dX9_undo_37 : decode cX9_undo 37 = .ok (.iload_n 1, 1) := by decide +kernel
theorem dX9_undo_38 : decode cX9_undo 38 = .ok (.iaload, 1) := by decide +kernel
theorem dX9_undo_39 : decode cX9_undo 39 = .ok (.iastore, 1) := by decide +kernel
theorem dX9_undo_40 : decode cX9_undo 40 = .ok (.aload_n 0, 1) := by decide +kernel
theorem dX9_undo_41 : decode cX9_undo 41 = .ok (.getfield 18, 3) := by decide +kernel
theorem dX9_undo_44 : decode cX9_undo 44 = .ok (.iload_n 1, 1) := by decide +kernel
theorem dX9_undo_45 : decode cX9_undo 45 = .ok (.aload_n 0, 1) := by decide +kernel
theorem dX9_undo_46 : decode cX9_undo 46 = .ok (.getfield 75, 3) := by decide +kernel
theorem dX9_undo_49 : decode cX9_undo 49 = .ok (.iload_n 1, 1) := by decide +kernel
theorem dX9_undo_50 : decode cX9_undo 50 = .ok (.iaload, 1) := by decide +kernel
theorem dX9_undo_51 : decode cX9_undo 51 = .ok (.iastore, 1) := by decide +kernel
theorem dX9_undo_52 : decode cX9_undo 52 = .ok (.aload_n 0, 1) := by decide +kernel
theorem dX9_undo_53 : decode cX9_undo 53 = .ok (.getfield 21, 3) := by decide +kernel
theorem dX9_undo_56 : decode cX9_undo 56 = .ok (.iload_n 1, 1) := by decide +kernel
theorem dX9_undo_57 : decode cX9_undo 57 = .ok (.aload_n 0, 1) := by decide +kernel
theorem dX9_undo_58 : decode cX9_undo 58 = .ok (.getfield 78, 3) := by decide +kernel
theorem dX9_undo_61 : decode cX9_undo 61 = .ok (.iload_n 1, 1) := by decide +kernel
theorem dX9_undo_62 : decode cX9_undo 62 = .ok (.iaload, 1) := by decide +kernel
theorem dX9_undo_63 : decode cX9_undo 63 = .ok (.iastore, 1) := by decide +kernel
theorem dX9_undo_64 : decode cX9_undo 64 = .ok (.aload_n 0, 1) := by decide +kernel
theorem dX9_undo_65 : decode cX9_undo 65 = .ok (.getfield 24, 3) := by decide +kernel
theorem dX9_undo_68 : decode cX9_undo 68 = .ok (.iload_n 1, 1) := by decide +kernel
theorem dX9_undo_69 : decode cX9_undo 69 = .ok (.aload_n 0, 1) := by decide +kernel
theorem dX9_undo_70 : decode cX9_undo 70 = .ok (.getfield 81, 3) := by decide +kernel
theorem dX9_undo_73 : decode cX9_undo 73 = .ok (.iload_n 1, 1) := by decide +kernel
theorem dX9_undo_74 : decode cX9_undo 74 = .ok (.iaload, 1) := by decide +kernel
theorem dX9_undo_75 : decode cX9_undo 75 = .ok (.iastore, 1) := by decide +kernel
theorem dX9_undo_76 : decode cX9_undo 76 = .ok (.aload_n 0, 1) := by decide +kernel
theorem dX9_undo_77 : decode cX9_undo 77 = .ok (.getfield 27, 3) := by decide +kernel
theorem dX9_undo_80 : decode cX9_undo 80 = .ok (.iload_n 1, 1) := by decide +kernel
theorem dX9_undo_81 : decode cX9_undo 81 = .ok (.aload_n 0, 1) := by decide +kernel
theorem dX9_undo_82 : decode cX9_undo 82 = .ok (.getfield 84, 3) := by decide +kernel
theorem dX9_undo_85 : decode cX9_undo 85 = .ok (.iload_n 1, 1) := by decide +kernel
theorem dX9_undo_86 : decode cX9_undo 86 = .ok (.iaload, 1) := by decide +kernel
theorem dX9_undo_87 : decode cX9_undo 87 = .ok (.iastore, 1) := by decide +kernel
theorem dX9_undo_88 : decode cX9_undo 88 = .ok (.iconst 0, 1) := by decide +kernel
theorem dX9_undo_89 : decode cX9_undo 89 = .ok (.istore_n 2, 1) := by decide +kernel
theorem dX9_undo_90 : decode cX9_undo 90 = .ok (.iload_n 2, 1) := by decide +kernel
theorem dX9_undo_91 : decode cX9_undo 91 = .ok (.iconst 4, 1) := by decide +kernel
theorem dX9_undo_92 : decode cX9_undo 92 = .ok (.if_icmp .ge 29, 3) := by decide +kernel
theorem dX9_undo_95 : decode cX9_undo 95 = .ok (.aload_n 0, 1) := by decide +kernel
theorem dX9_undo_96 : decode cX9_undo 96 = .ok (.getfield 15, 3) := by decide +kernel
theorem dX9_undo_99 : decode cX9_undo 99 = .ok (.iconst 4, 1) := by decide +kernel
theorem dX9_undo_100 : decode cX9_undo 100 = .ok (.iload_n 1, 1) := by decide +kernel
theorem dX9_undo_101 : decode cX9_undo 101 = .ok (.imul, 1) := by decide +kernel
theorem dX9_undo_102 : decode cX9_undo 102 = .ok (.iload_n 2, 1) := by decide +kernel
theorem dX9_undo_103 : decode cX9_undo 103 = .ok (.iadd, 1) := by decide +kernel
theorem dX9_undo_104 : decode cX9_undo 104 = .ok (.aload_n 0, 1) := by decide +kernel
theorem dX9_undo_105 : decode cX9_undo 105 = .ok (.getfield 72, 3) := by decide +kernel
theorem dX9_undo_108 : decode cX9_undo 108 = .ok (.iconst 4, 1) := by decide +kernel
theorem dX9_undo_109 : decode cX9_undo 109 = .ok (.iload_n 1, 1) := by decide +kernel
theorem dX9_undo_110 : decode cX9_undo 110 = .ok (.imul, 1) := by decide +kernel
theorem dX9_undo_111 : decode cX9_undo 111 = .ok (.iload_n 2, 1) := by decide +kernel
theorem dX9_undo_112 : decode cX9_undo 112 = .ok (.iadd, 1) := by decide +kernel
theorem dX9_undo_113 : decode cX9_undo 113 = .ok (.iaload, 1) := by decide +kernel
theorem dX9_undo_114 : decode cX9_undo 114 = .ok (.iastore, 1) := by decide +kernel
theorem dX9_undo_115 : decode cX9_undo 115 = .ok (.iinc 2 1, 3) := by decide +kernel
theorem dX9_undo_118 : decode cX9_undo 118 = .ok (.goto (-28), 3) := by decide +kernel
theorem dX9_undo_121 : decode cX9_undo 121 = .ok (.iinc 1 1, 3) := by decide +kernel
theorem dX9_undo_124 : decode cX9_undo 124 = .ok (.goto (-104), 3) := by decide +kernel
theorem dX9_undo_127 : decode cX9_undo 127 = .ok (.aload_n 0, 1) := by decide +kernel
theorem dX9_undo_128 : decode cX9_undo 128 = .ok (.aload_n 0, 1) := by decide +kernel
theorem dX9_undo_129 : decode cX9_undo 129 = .ok (.getfield 307, 3) := by decide +kernel
theorem dX9_undo_132 : decode cX9_undo 132 = .ok (.putfield 200, 3) := by decide +kernel
theorem dX9_undo_135 : decode cX9_undo 135 = .ok (.aload_n 0, 1) := by decide +kernel
theorem dX9_undo_136 : decode cX9_undo 136 = .ok (.aload_n 0, 1) := by decide +kernel
theorem dX9_undo_137 : decode cX9_undo 137 = .ok (.getfield 310, 3) := by decide +kernel
theorem dX9_undo_140 : decode cX9_undo 140 = .ok (.putfield 203, 3) := by decide +kernel
theorem dX9_undo_143 : decode cX9_undo 143 = .ok (.iconst 0, 1) := by decide +kernel
theorem dX9_undo_144 : decode cX9_undo 144 = .ok (.istore_n 1, 1) := by decide +kernel
theorem dX9_undo_145 : decode cX9_undo 145 = .ok (.iload_n 1, 1) := by decide +kernel
theorem dX9_undo_146 : decode cX9_undo 146 = .ok (.bipush 8, 2) := by decide +kernel
theorem dX9_undo_148 : decode cX9_undo 148 = .ok (.if_icmp .ge 69, 3) := by decide +kernel
theorem dX9_undo_151 : decode cX9_undo 151 = .ok (.aload_n 0, 1) := by decide +kernel
theorem dX9_undo_152 : decode cX9_undo 152 = .ok (.getfield 33, 3) := by decide +kernel
theorem dX9_undo_155 : decode cX9_undo 155 = .ok (.iload_n 1, 1) := by decide +kernel
theorem dX9_undo_156 : decode cX9_undo 156 = .ok (.aload_n 0, 1) := by decide +kernel
theorem dX9_undo_157 : decode cX9_undo 157 = .ok (.getfield 87, 3) := by decide +kernel
theorem dX9_undo_160 : decode cX9_undo 160 = .ok (.iload_n 1, 1) := by decide +kernel
theorem dX9_undo_161 : decode cX9_undo 161 = .ok (.iaload, 1) := by decide +kernel
theorem dX9_undo_162 : decode cX9_undo 162 = .ok (.iastore, 1) := by decide +kernel
theorem dX9_undo_163 : decode cX9_undo 163 = .ok (.aload_n 0, 1) := by decide +kernel
theorem dX9_undo_164 : decode cX9_undo 164 = .ok (.getfield 36, 3) := by decide +kernel
theorem dX9_undo_167 : decode cX9_undo 167 = .ok (.iload_n 1, 1) := by decide +kernel
theorem dX9_undo_168 : decode cX9_undo 168 = .ok (.aload_n 0, 1) := by decide +kernel
theorem dX9_undo_169 : decode cX9_undo 169 = .ok (.getfield 90, 3) := by decide +kernel
theorem dX9_undo_172 : decode cX9_undo 172 = .ok (.iload_n 1, 1) := by decide +kernel
theorem dX9_undo_173 : decode cX9_undo 173 = .ok (.iaload, 1) := by decide +kernel
theorem dX9_undo_174 : decode cX9_undo 174 = .ok (.iastore, 1) := by decide +kernel
theorem dX9_undo_175 : decode cX9_undo 175 = .ok (.aload_n 0, 1) := by decide +kernel
theorem dX9_undo_176 : decode cX9_undo 176 = .ok (.getfield 39, 3) := by decide +kernel
theorem dX9_undo_179 : decode cX9_undo 179 = .ok (.iload_n 1, 1) := by decide +kernel
theorem dX9_undo_180 : decode cX9_undo 180 = .ok (.aload_n 0, 1) := by decide +kernel
theorem dX9_undo_181 : decode cX9_undo 181 = .ok (.getfield 93, 3) := by decide +kernel
theorem dX9_undo_184 : decode cX9_undo 184 = .ok (.iload_n 1, 1) := by decide +kernel
theorem dX9_undo_185 : decode cX9_undo 185 = .ok (.iaload, 1) := by decide +kernel
theorem dX9_undo_186 : decode cX9_undo 186 = .ok (.iastore, 1) := by decide +kernel
theorem dX9_undo_187 : decode cX9_undo 187 = .ok (.aload_n 0, 1) := by decide +kernel
theorem dX9_undo_188 : decode cX9_undo 188 = .ok (.getfield 42, 3) := by decide +kernel
theorem dX9_undo_191 : decode cX9_undo 191 = .ok (.iload_n 1, 1) := by decide +kernel
theorem dX9_undo_192 : decode cX9_undo 192 = .ok (.aload_n 0, 1) := by decide +kernel
theorem dX9_undo_193 : decode cX9_undo 193 = .ok (.getfield 96, 3) := by decide +kernel
theorem dX9_undo_196 : decode cX9_undo 196 = .ok (.iload_n 1, 1) := by decide +kernel
theorem dX9_undo_197 : decode cX9_undo 197 = .ok (.iaload, 1) := by decide +kernel
theorem dX9_undo_198 : decode cX9_undo 198 = .ok (.iastore, 1) := by decide +kernel
theorem dX9_undo_199 : decode cX9_undo 199 = .ok (.aload_n 0, 1) := by decide +kernel
theorem dX9_undo_200 : decode cX9_undo 200 = .ok (.getfield 45, 3) := by decide +kernel
theorem dX9_undo_203 : decode cX9_undo 203 = .ok (.iload_n 1, 1) := by decide +kernel
theorem dX9_undo_204 : decode cX9_undo 204 = .ok (.aload_n 0, 1) := by decide +kernel
theorem dX9_undo_205 : decode cX9_undo 205 = .ok (.getfield 99, 3) := by decide +kernel
theorem dX9_undo_208 : decode cX9_undo 208 = .ok (.iload_n 1, 1) := by decide +kernel
theorem dX9_undo_209 : decode cX9_undo 209 = .ok (.iaload, 1) := by decide +kernel
theorem dX9_undo_210 : decode cX9_undo 210 = .ok (.iastore, 1) := by decide +kernel
theorem dX9_undo_211 : decode cX9_undo 211 = .ok (.iinc 1 1, 3) := by decide +kernel
theorem dX9_undo_214 : decode cX9_undo 214 = .ok (.goto (-69), 3) := by decide +kernel
theorem dX9_undo_217 : decode cX9_undo 217 = .ok (.aload_n 0, 1) := by decide +kernel
theorem dX9_undo_218 : decode cX9_undo 218 = .ok (.iconst 0, 1) := by decide +kernel
theorem dX9_undo_219 : decode cX9_undo 219 = .ok (.putfield 194, 3) := by decide +kernel
theorem dX9_undo_222 : decode cX9_undo 222 = .ok (.aload_n 0, 1) := by decide +kernel
theorem dX9_undo_223 : decode cX9_undo 223 = .ok (.iconst 0, 1) := by decide +kernel
theorem dX9_undo_224 : decode cX9_undo 224 = .ok (.putfield 206, 3) := by decide +kernel
theorem dX9_undo_227 : decode cX9_undo 227 = .ok (.aload_n 0, 1) := by decide +kernel
theorem dX9_undo_228 : decode cX9_undo 228 = .ok (.getfield 139, 3) := by decide +kernel
theorem dX9_undo_231 : decode cX9_undo 231 = .ok (.ireturn, 1) := by decide +kernel
theorem dX9_count_0 : decode cX9_count 0 = .ok (.iload_n 1, 1) := by decide +kernel
theorem dX9_count_1 : decode cX9_count 1 = .ok (.tableswitch 109 0 6 #[43, 48, 53, 58, 63, 68, 73], 43) := by decide +kernel
theorem dX9_count_44 : decode cX9_count 44 = .ok (.aload_n 0, 1) := by decide +kernel
theorem dX9_count_45 : decode cX9_count 45 = .ok (.getfield 139, 3) := by decide +kernel
theorem dX9_count_48 : decode cX9_count 48 = .ok (.ireturn, 1) := by decide +kernel
theorem dX9_count_49 : decode cX9_count 49 = .ok (.aload_n 0, 1) := by decide +kernel
theorem dX9_count_50 : decode cX9_count 50 = .ok (.getfield 194, 3) := by decide +kernel
theorem dX9_count_53 : decode cX9_count 53 = .ok (.ireturn, 1) := by decide +kernel
theorem dX9_count_54 : decode cX9_count 54 = .ok (.aload_n 0, 1) := by decide +kernel
theorem dX9_count_55 : decode cX9_count 55 = .ok (.getfield 200, 3) := by decide +kernel
theorem dX9_count_58 : decode cX9_count 58 = .ok (.ireturn, 1) := by decide +kernel
theorem dX9_count_59 : decode cX9_count 59 = .ok (.aload_n 0, 1) := by decide +kernel
theorem dX9_count_60 : decode cX9_count 60 = .ok (.getfield 203, 3) := by decide +kernel
theorem dX9_count_63 : decode cX9_count 63 = .ok (.ireturn, 1) := by decide +kernel
theorem dX9_count_64 : decode cX9_count 64 = .ok (.aload_n 0, 1) := by decide +kernel
theorem dX9_count_65 : decode cX9_count 65 = .ok (.getfield 206, 3) := by decide +kernel
theorem dX9_count_68 : decode cX9_count 68 = .ok (.ireturn, 1) := by decide +kernel
theorem dX9_count_69 : decode cX9_count 69 = .ok (.aload_n 0, 1) := by decide +kernel
theorem dX9_count_70 : decode cX9_count 70 = .ok (.getfield 262, 3) := by decide +kernel
theorem dX9_count_73 : decode cX9_count 73 = .ok (.ireturn, 1) := by decide +kernel
theorem dX9_count_74 : decode cX9_count 74 = .ok (.iconst 0, 1) := by decide +kernel
theorem dX9_count_75 : decode cX9_count 75 = .ok (.istore_n 2, 1) := by decide +kernel
theorem dX9_count_76 : decode cX9_count 76 = .ok (.iconst 0, 1) := by decide +kernel
theorem dX9_count_77 : decode cX9_count 77 = .ok (.istore_n 3, 1) := by decide +kernel
theorem dX9_count_78 : decode cX9_count 78 = .ok (.iload_n 3, 1) := by decide +kernel
theorem dX9_count_79 : decode cX9_count 79 = .ok (.aload_n 0, 1) := by decide +kernel
theorem dX9_count_80 : decode cX9_count 80 = .ok (.getfield 139, 3) := by decide +kernel
theorem dX9_count_83 : decode cX9_count 83 = .ok (.if_icmp .ge 25, 3) := by decide +kernel
theorem dX9_count_86 : decode cX9_count 86 = .ok (.iload_n 2, 1) := by decide +kernel
theorem dX9_count_87 : decode cX9_count 87 = .ok (.aload_n 0, 1) := by decide +kernel
theorem dX9_count_88 : decode cX9_count 88 = .ok (.iload_n 3, 1) := by decide +kernel
theorem dX9_count_89 : decode cX9_count 89 = .ok (.invokevirtual 217, 3) := by decide +kernel
theorem dX9_count_92 : decode cX9_count 92 = .ok (.ifCond .ne 7, 3) := by decide +kernel
theorem dX9_count_95 : decode cX9_count 95 = .ok (.iconst 1, 1) := by decide +kernel
theorem dX9_count_96 : decode cX9_count 96 = .ok (.goto 4, 3) := by decide +kernel
theorem dX9_count_99 : decode cX9_count 99 = .ok (.iconst 0, 1) := by decide +kernel
theorem dX9_count_100 : decode cX9_count 100 = .ok (.iadd, 1) := by decide +kernel
theorem dX9_count_101 : decode cX9_count 101 = .ok (.istore_n 2, 1) := by decide +kernel
theorem dX9_count_102 : decode cX9_count 102 = .ok (.iinc 3 1, 3) := by decide +kernel
theorem dX9_count_105 : decode cX9_count 105 = .ok (.goto (-27), 3) := by decide +kernel
theorem dX9_count_108 : decode cX9_count 108 = .ok (.iload_n 2, 1) := by decide +kernel
theorem dX9_count_109 : decode cX9_count 109 = .ok (.ireturn, 1) := by decide +kernel
theorem dX9_count_110 : decode cX9_count 110 = .ok (.iconst (-1), 1) := by decide +kernel
theorem dX9_count_111 : decode cX9_count 111 = .ok (.ireturn, 1) := by decide +kernel
theorem dJ7_fill_53178_0 : decode cJ7_fill_53178 0 = .ok (.iconst 0, 1) := by decide +kernel
theorem dJ7_fill_53178_1 : decode cJ7_fill_53178 1 = .ok (.istore_n 2, 1) := by decide +kernel
theorem dJ7_fill_53178_2 : decode cJ7_fill_53178 2 = .ok (.aload_n 0, 1) := by decide +kernel
theorem dJ7_fill_53178_3 : decode cJ7_fill_53178 3 = .ok (.arraylength, 1) := by decide +kernel
theorem dJ7_fill_53178_4 : decode cJ7_fill_53178 4 = .ok (.istore_n 3, 1) := by decide +kernel
theorem dJ7_fill_53178_5 : decode cJ7_fill_53178 5 = .ok (.iload_n 2, 1) := by decide +kernel
theorem dJ7_fill_53178_6 : decode cJ7_fill_53178 6 = .ok (.iload_n 3, 1) := by decide +kernel
theorem dJ7_fill_53178_7 : decode cJ7_fill_53178 7 = .ok (.if_icmp .ge 13, 3) := by decide +kernel
theorem dJ7_fill_53178_10 : decode cJ7_fill_53178 10 = .ok (.aload_n 0, 1) := by decide +kernel
theorem dJ7_fill_53178_11 : decode cJ7_fill_53178 11 = .ok (.iload_n 2, 1) := by decide +kernel
theorem dJ7_fill_53178_12 : decode cJ7_fill_53178 12 = .ok (.iload_n 1, 1) := by decide +kernel
theorem dJ7_fill_53178_13 : decode cJ7_fill_53178 13 = .ok (.iastore, 1) := by decide +kernel
theorem dJ7_fill_53178_14 : decode cJ7_fill_53178 14 = .ok (.iinc 2 1, 3) := by decide +kernel
theorem dJ7_fill_53178_17 : decode cJ7_fill_53178 17 = .ok (.goto (-12), 3) := by decide +kernel
theorem dJ7_fill_53178_20 : decode cJ7_fill_53178 20 = .ok (.return_, 1) := by decide +kernel
