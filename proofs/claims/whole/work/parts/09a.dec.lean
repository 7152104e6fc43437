theorem dX0_init_0 : decode cX0_init 0 = .ok (.aload_n 0, 1) := by decide +kernel
theorem dX0_init_1 : decode cX0_init 1 = .ok (.invokespecial 3, 3) := by decide +kernel
theorem dX0_init_4 : decode cX0_init 4 = .ok (.aload_n 0, 1) := by decide +kernel
theorem dX0_init_5 : decode cX0_init 5 = .ok (.bipush 6, 2) := by decide +kernel
theorem dX0_init_7 : decode cX0_init 7 = .ok (.anewarray 9, 3) := by decide +kernel
theorem dX0_init_10 : decode cX0_init 10 = .ok (.putfield 11, 3) := by decide +kernel
theorem dX0_init_13 : decode cX0_init 13 = .ok (.aload_n 0, 1) := by decide +kernel
theorem dX0_init_14 : decode cX0_init 14 = .ok (.bipush 6, 2) := by decide +kernel
theorem dX0_init_16 : decode cX0_init 16 = .ok (.newarray .int, 2) := by decide +kernel
theorem dX0_init_18 : decode cX0_init 18 = .ok (.putfield 17, 3) := by decide +kernel
theorem dX0_init_21 : decode cX0_init 21 = .ok (.iconst 0, 1) := by decide +kernel
theorem dX0_init_22 : decode cX0_init 22 = .ok (.istore_n 1, 1) := by decide +kernel
theorem dX0_init_23 : decode cX0_init 23 = .ok (.iload_n 1, 1) := by decide +kernel
theorem dX0_init_24 : decode cX0_init 24 = .ok (.bipush 6, 2) := by decide +kernel
theorem dX0_init_26 : decode cX0_init 26 = .ok (.if_icmp .ge 22, 3) := by decide +kernel
theorem dX0_init_29 : decode cX0_init 29 = .ok (.aload_n 0, 1) := by decide +kernel
theorem dX0_init_30 : decode cX0_init 30 = .ok (.getfield 11, 3) := by decide +kernel
theorem dX0_init_33 : decode cX0_init 33 = .ok (.iload_n 1, 1) := by decide +kernel
theorem dX0_init_34 : decode cX0_init 34 = .ok (.new 9, 3) := by decide +kernel
theorem dX0_init_37 : decode cX0_init 37 = .ok (.dup, 1) := by decide +kernel
theorem dX0_init_38 : decode cX0_init 38 = .ok (.invokespecial 21, 3) := by decide +kernel
theorem dX0_init_41 : decode cX0_init 41 = .ok (.aastore, 1) := by decide +kernel
theorem dX0_init_42 : decode cX0_init 42 = .ok (.iinc 1 1, 3) := by decide +kernel
theorem dX0_init_45 : decode cX0_init 45 = .ok (.goto (-22), 3) := by decide +kernel
theorem dX0_init_48 : decode cX0_init 48 = .ok (.return_, 1) := by decide +kernel
theorem dX0_isOne_0 : decode cX0_isOne 0 = .ok (.iload_n 1, 1) := by decide +kernel
theorem dX0_isOne_1 : decode cX0_isOne 1 = .ok (.ifCond .lt 15, 3) := by decide +kernel
theorem dX0_isOne_4 : decode cX0_isOne 4 = .ok (.iload_n 1, 1) := by decide +kernel
theorem dX0_isOne_5 : decode cX0_isOne 5 = .ok (.aload_n 0, 1) := by decide +kernel
theorem dX0_isOne_6 : decode cX0_isOne 6 = .ok (.getfield 22, 3) := by decide +kernel
theorem dX0_isOne_9 : decode cX0_isOne 9 = .ok (.if_icmp .ge 7, 3) := by decide +kernel
theorem dX0_isOne_12 : decode cX0_isOne 12 = .ok (.iconst 1, 1) := by decide +kernel
theorem dX0_isOne_13 : decode cX0_isOne 13 = .ok (.goto 4, 3) := by decide +kernel
theorem dX0_isOne_16 : decode cX0_isOne 16 = .ok (.iconst 0, 1) := by decide +kernel
theorem dX0_isOne_17 : decode cX0_isOne 17 = .ok (.ireturn, 1) := by decide +kernel
theorem dX0_empty_0 : decode cX0_empty 0 = .ok (.aload_n 0, 1) := by decide +kernel
theorem dX0_empty_1 : decode cX0_empty 1 = .ok (.iconst 0, 1) := by decide +kernel
theorem dX0_empty_2 : decode cX0_empty 2 = .ok (.putfield 22, 3) := by decide +kernel
theorem dX0_empty_5 : decode cX0_empty 5 = .ok (.return_, 1) := by decide +kernel
theorem dX0_become_0 : decode cX0_become 0 = .ok (.aload_n 0, 1) := by decide +kernel
theorem dX0_become_1 : decode cX0_become 1 = .ok (.aload_n 1, 1) := by decide +kernel
theorem dX0_become_2 : decode cX0_become 2 = .ok (.getfield 22, 3) := by decide +kernel
theorem dX0_become_5 : decode cX0_become 5 = .ok (.putfield 22, 3) := by decide +kernel
theorem dX0_become_8 : decode cX0_become 8 = .ok (.iconst 0, 1) := by decide +kernel
theorem dX0_become_9 : decode cX0_become 9 = .ok (.istore_n 2, 1) := by decide +kernel
theorem dX0_become_10 : decode cX0_become 10 = .ok (.iload_n 2, 1) := by decide +kernel
theorem dX0_become_11 : decode cX0_become 11 = .ok (.aload_n 0, 1) := by decide +kernel
theorem dX0_become_12 : decode cX0_become 12 = .ok (.getfield 22, 3) := by decide +kernel
theorem dX0_become_15 : decode cX0_become 15 = .ok (.if_icmp .ge 36, 3) := by decide +kernel
theorem dX0_become_18 : decode cX0_become 18 = .ok (.aload_n 0, 1) := by decide +kernel
theorem dX0_become_19 : decode cX0_become 19 = .ok (.getfield 11, 3) := by decide +kernel
theorem dX0_become_22 : decode cX0_become 22 = .ok (.iload_n 2, 1) := by decide +kernel
theorem dX0_become_23 : decode cX0_become 23 = .ok (.aaload, 1) := by decide +kernel
theorem dX0_become_24 : decode cX0_become 24 = .ok (.aload_n 1, 1) := by decide +kernel
theorem dX0_become_25 : decode cX0_become 25 = .ok (.getfield 11, 3) := by decide +kernel
theorem dX0_become_28 : decode cX0_become 28 = .ok (.iload_n 2, 1) := by decide +kernel
theorem dX0_become_29 : decode cX0_become 29 = .ok (.aaload, 1) := by decide +kernel
theorem dX0_become_30 : decode cX0_become 30 = .ok (.invokevirtual 26, 3) := by decide +kernel
theorem dX0_become_33 : decode cX0_become 33 = .ok (.aload_n 0, 1) := by decide +kernel
theorem dX0_become_34 : decode cX0_become 34 = .ok (.getfield 17, 3) := by decide +kernel
theorem dX0_become_37 : decode cX0_become 37 = .ok (.iload_n 2, 1) := by decide +kernel
theorem dX0_become_38 : decode cX0_become 38 = .ok (.aload_n 1, 1) := by decide +kernel
theorem dX0_become_39 : decode cX0_become 39 = .ok (.getfield 17, 3) := by decide +kernel
theorem dX0_become_42 : decode cX0_become 42 = .ok (.iload_n 2, 1) := by decide +kernel
theorem dX0_become_43 : decode cX0_become 43 = .ok (.iaload, 1) := by decide +kernel
theorem dX0_become_44 : decode cX0_become 44 = .ok (.iastore, 1) := by decide +kernel
theorem dX0_become_45 : decode cX0_become 45 = .ok (.iinc 2 1, 3) := by decide +kernel
theorem dX0_become_48 : decode cX0_become 48 = .ok (.goto (-38), 3) := by decide +kernel
theorem dX0_become_51 : decode cX0_become 51 = .ok (.return_, 1) := by decide +kernel
theorem dX0_append_0 : decode cX0_append 0 = .ok (.aload_n 0, 1) := by decide +kernel
theorem dX0_append_1 : decode cX0_append 1 = .ok (.getfield 22, 3) := by decide +kernel
theorem dX0_append_4 : decode cX0_append 4 = .ok (.bipush 6, 2) := by decide +kernel
theorem dX0_append_6 : decode cX0_append 6 = .ok (.if_icmp .lt 4, 3) := by decide +kernel
theorem dX0_append_9 : decode cX0_append 9 = .ok (.return_, 1) := by decide +kernel
theorem dX0_append_10 : decode cX0_append 10 = .ok (.aload_n 0, 1) := by decide +kernel
theorem dX0_append_11 : decode cX0_append 11 = .ok (.getfield 11, 3) := by decide +kernel
theorem dX0_append_14 : decode cX0_append 14 = .ok (.aload_n 0, 1) := by decide +kernel
theorem dX0_append_15 : decode cX0_append 15 = .ok (.getfield 22, 3) := by decide +kernel
theorem dX0_append_18 : decode cX0_append 18 = .ok (.aaload, 1) := by decide +kernel
theorem dX0_append_19 : decode cX0_append 19 = .ok (.astore 6, 2) := by decide +kernel
theorem dX0_append_21 : decode cX0_append 21 = .ok (.aload 6, 2) := by decide +kernel
theorem dX0_append_23 : decode cX0_append 23 = .ok (.iload_n 1, 1) := by decide +kernel
theorem dX0_append_24 : decode cX0_append 24 = .ok (.putfield 30, 3) := by decide +kernel
theorem dX0_append_27 : decode cX0_append 27 = .ok (.aload 6, 2) := by decide +kernel
theorem dX0_append_29 : decode cX0_append 29 = .ok (.iload_n 2, 1) := by decide +kernel
theorem dX0_append_30 : decode cX0_append 30 = .ok (.putfield 33, 3) := by decide +kernel
theorem dX0_append_33 : decode cX0_append 33 = .ok (.aload 6, 2) := by decide +kernel
theorem dX0_append_35 : decode cX0_append 35 = .ok (.iload_n 3, 1) := by decide +kernel
theorem dX0_append_36 : decode cX0_append 36 = .ok (.putfield 36, 3) := by decide +kernel
theorem dX0_append_39 : decode cX0_append 39 = .ok (.aload 6, 2) := by decide +kernel
theorem dX0_append_41 : decode cX0_append 41 = .ok (.iload 4, 2) := by decide +kernel
theorem dX0_append_43 : decode cX0_append 43 = .ok (.invokevirtual 39, 3) := by decide +kernel
theorem dX0_append_46 : decode cX0_append 46 = .ok (.aload 6, 2) := by decide +kernel
theorem dX0_append_48 : decode cX0_append 48 = .ok (.iload 5, 2) := by decide +kernel
theorem dX0_append_50 : decode cX0_append 50 = .ok (.putfield 43, 3) := by decide +kernel
theorem dX0_append_53 : decode cX0_append 53 = .ok (.aload 6, 2) := by decide +kernel
theorem dX0_append_55 : decode cX0_append 55 = .ok (.aload_n 0, 1) := by decide +kernel
theorem dX0_append_56 : decode cX0_append 56 = .ok (.getfield 22, 3) := by decide +kernel
theorem dX0_append_59 : decode cX0_append 59 = .ok (.putfield 46, 3) := by decide +kernel
theorem dX0_append_62 : decode cX0_append 62 = .ok (.aload_n 0, 1) := by decide +kernel
theorem dX0_append_63 : decode cX0_append 63 = .ok (.dup, 1) := by decide +kernel
theorem dX0_append_64 : decode cX0_append 64 = .ok (.getfield 22, 3) := by decide +kernel
theorem dX0_append_67 : decode cX0_append 67 = .ok (.iconst 1, 1) := by decide +kernel
theorem dX0_append_68 : decode cX0_append 68 = .ok (.iadd, 1) := by decide +kernel
theorem dX0_append_69 : decode cX0_append 69 = .ok (.putfield 22, 3) := by decide +kernel
theorem dX0_append_72 : decode cX0_append 72 = .ok (.aload_n 0, 1) := by decide +kernel
theorem dX0_append_73 : decode cX0_append 73 = .ok (.invokevirtual 49, 3) := by decide +kernel
theorem dX0_append_76 : decode cX0_append 76 = .ok (.return_, 1) := by decide +kernel
theorem dX0_dropLast_0 : decode cX0_dropLast 0 = .ok (.aload_n 0, 1) := by decide +kernel
theorem dX0_dropLast_1 : decode cX0_dropLast 1 = .ok (.getfield 22, 3) := by decide +kernel
theorem dX0_dropLast_4 : decode cX0_dropLast 4 = .ok (.ifCond .ne 4, 3) := by decide +kernel
theorem dX0_dropLast_7 : decode cX0_dropLast 7 = .ok (.return_, 1) := by decide +kernel
theorem dX0_dropLast_8 : decode cX0_dropLast 8 = .ok (.aload_n 0, 1) := by decide +kernel
theorem dX0_dropLast_9 : decode cX0_dropLast 9 = .ok (.dup, 1) := by decide +kernel
theorem dX0_dropLast_10 : decode cX0_dropLast 10 = .ok (.getfield 22, 3) := by decide +kernel
theorem dX0_dropLast_13 : decode cX0_dropLast 13 = .ok (.iconst 1, 1) := by decide +kernel
theorem dX0_dropLast_14 : decode cX0_dropLast 14 = .ok (.isub, 1) := by decide +kernel
theorem dX0_dropLast_15 : decode cX0_dropLast 15 = .ok (.putfield 22, 3) := by decide +kernel
theorem dX0_dropLast_18 : decode cX0_dropLast 18 = .ok (.aload_n 0, 1) := by decide +kernel
theorem dX0_dropLast_19 : decode cX0_dropLast 19 = .ok (.getfield 11, 3) := by decide +kernel
theorem dX0_dropLast_22 : decode cX0_dropLast 22 = .ok (.aload_n 0, 1) := by decide +kernel
theorem dX0_dropLast_23 : decode cX0_dropLast 23 = .ok (.getfield 22, 3) := by decide +kernel
theorem dX0_dropLast_26 : decode cX0_dropLast 26 = .ok (.aaload, 1) := by decide +kernel
theorem dX0_dropLast_27 : decode cX0_dropLast 27 = .ok (.getfield 46, 3) := by decide +kernel
theorem dX0_dropLast_30 : decode cX0_dropLast 30 = .ok (.istore_n 1, 1) := by decide +kernel
theorem dX0_dropLast_31 : decode cX0_dropLast 31 = .ok (.iconst 0, 1) := by decide +kernel
theorem dX0_dropLast_32 : decode cX0_dropLast 32 = .ok (.istore_n 2, 1) := by decide +kernel
theorem dX0_dropLast_33 : decode cX0_dropLast 33 = .ok (.iload_n 2, 1) := by decide +kernel
theorem dX0_dropLast_34 : decode cX0_dropLast 34 = .ok (.aload_n 0, 1) := by decide +kernel
theorem dX0_dropLast_35 : decode cX0_dropLast 35 = .ok (.getfield 22, 3) := by decide +kernel
theorem dX0_dropLast_38 : decode cX0_dropLast 38 = .ok (.if_icmp .ge 37, 3) := by decide +kernel
theorem dX0_dropLast_41 : decode cX0_dropLast 41 = .ok (.aload_n 0, 1) := by decide +kernel
theorem dX0_dropLast_42 : decode cX0_dropLast 42 = .ok (.getfield 11, 3) := by decide +kernel
theorem dX0_dropLast_45 : decode cX0_dropLast 45 = .ok (.iload_n 2, 1) := by decide +kernel
theorem dX0_dropLast_46 : decode cX0_dropLast 46 = .ok (.aaload, 1) := by decide +kernel
theorem dX0_dropLast_47 : decode cX0_dropLast 47 = .ok (.getfield 46, 3) := by decide +kernel
theorem dX0_dropLast_50 : decode cX0_dropLast 50 = .ok (.iload_n 1, 1) := by decide +kernel
theorem dX0_dropLast_51 : decode cX0_dropLast 51 = .ok (.if_icmp .le 18, 3) := by decide +kernel
theorem dX0_dropLast_54 : decode cX0_dropLast 54 = .ok (.aload_n 0, 1) := by decide +kernel
theorem dX0_dropLast_55 : decode cX0_dropLast 55 = .ok (.getfield 11, 3) := by decide +kernel
theorem dX0_dropLast_58 : decode cX0_dropLast 58 = .ok (.iload_n 2, 1) := by decide +kernel
theorem dX0_dropLast_59 : decode cX0_dropLast 59 = .ok (.aaload, 1) := by decide +kernel
theorem dX0_dropLast_60 : decode cX0_dropLast 60 = .ok (.dup, 1) := by decide +kernel
theorem dX0_dropLast_61 : decode cX0_dropLast 61 = .ok (.getfield 46, 3) := by decide +kernel
theorem dX0_dropLast_64 : decode cX0_dropLast 64 = .ok (.iconst 1, 1) := by decide +kernel
theorem dX0_dropLast_65 : decode cX0_dropLast 65 = .ok (.isub, 1) := by decide +kernel
theorem dX0_dropLast_66 : decode cX0_dropLast 66 = .ok (.putfield 46, 3) := by decide +kernel
theorem dX0_dropLast_69 : decode cX0_dropLast 69 = .ok (.iinc 2 1, 3) := by decide +kernel
theorem dX0_dropLast_72 : decode cX0_dropLast 72 = .ok (.goto (-39), 3) := by decide +kernel
theorem dX0_dropLast_75 : decode cX0_dropLast 75 = .ok (.aload_n 0, 1) := by decide +kernel
theorem dX0_dropLast_76 : decode cX0_dropLast 76 = .ok (.invokevirtual 49, 3) := by decide +kernel
theorem dX0_dropLast_79 : decode cX0_dropLast 79 = .ok (.return_, 1) := by decide +kernel
theorem dX0_changeKind_0 : decode cX0_changeKind 0 = .ok (.aload_n 0, 1) := by decide +kernel
theorem dX0_changeKind_1 : decode cX0_changeKind 1 = .ok (.iload_n 1, 1) := by decide +kernel
theorem dX0_changeKind_2 : decode cX0_changeKind 2 = .ok (.invokevirtual 52, 3) := by decide +kernel
theorem dX0_changeKind_5 : decode cX0_changeKind 5 = .ok (.ifCond .ne 4, 3) := by decide +kernel
theorem dX0_changeKind_8 : decode cX0_changeKind 8 = .ok (.return_, 1) := by decide +kernel
theorem dX0_changeKind_9 : decode cX0_changeKind 9 = .ok (.aload_n 0, 1) := by decide +kernel
theorem dX0_changeKind_10 : decode cX0_changeKind 10 = .ok (.getfield 11, 3) := by decide +kernel
theorem dX0_changeKind_13 : decode cX0_changeKind 13 = .ok (.iload_n 1, 1) := by decide +kernel
theorem dX0_changeKind_14 : decode cX0_changeKind 14 = .ok (.aaload, 1) := by decide +kernel
theorem dX0_changeKind_15 : decode cX0_changeKind 15 = .ok (.iload_n 2, 1) := by decide +kernel
theorem dX0_changeKind_16 : decode cX0_changeKind 16 = .ok (.putfield 30, 3) := by decide +kernel
theorem dX0_changeKind_19 : decode cX0_changeKind 19 = .ok (.aload_n 0, 1) := by decide +kernel
theorem dX0_changeKind_20 : decode cX0_changeKind 20 = .ok (.invokevirtual 49, 3) := by decide +kernel
theorem dX0_changeKind_23 : decode cX0_changeKind 23 = .ok (.return_, 1) := by decide +kernel
theorem dX0_leaveOut_0 : decode cX0_leaveOut 0 = .ok (.aload_n 0, 1) := by decide +kernel
theorem dX0_leaveOut_1 : decode cX0_leaveOut 1 = .ok (.iload_n 1, 1) := by decide +kernel
theorem dX0_leaveOut_2 : decode cX0_leaveOut 2 = .ok (.invokevirtual 52, 3) := by decide +kernel
theorem dX0_leaveOut_5 : decode cX0_leaveOut 5 = .ok (.ifCond .ne 4, 3) := by decide +kernel
theorem dX0_leaveOut_8 : decode cX0_leaveOut 8 = .ok (.return_, 1) := by decide +kernel
theorem dX0_leaveOut_9 : decode cX0_leaveOut 9 = .ok (.aload_n 0, 1) := by decide +kernel
theorem dX0_leaveOut_10 : decode cX0_leaveOut 10 = .ok (.getfield 11, 3) := by decide +kernel
theorem dX0_leaveOut_13 : decode cX0_leaveOut 13 = .ok (.iload_n 1, 1) := by decide +kernel
theorem dX0_leaveOut_14 : decode cX0_leaveOut 14 = .ok (.aaload, 1) := by decide +kernel
theorem dX0_leaveOut_15 : decode cX0_leaveOut 15 = .ok (.bipush 99, 2) := by decide +kernel
theorem dX0_leaveOut_17 : decode cX0_leaveOut 17 = .ok (.putfield 46, 3) := by decide +kernel
theorem dX0_leaveOut_20 : decode cX0_leaveOut 20 = .ok (.aload_n 0, 1) := by decide +kernel
theorem dX0_leaveOut_21 : decode cX0_leaveOut 21 = .ok (.iload_n 1, 1) := by decide +kernel
theorem dX0_leaveOut_22 : decode cX0_leaveOut 22 = .ok (.iconst 0, 1) := by decide +kernel
theorem dX0_leaveOut_23 : decode cX0_leaveOut 23 = .ok (.invokevirtual 56, 3) := by decide +kernel
theorem dX0_leaveOut_26 : decode cX0_leaveOut 26 = .ok (.return_, 1) := by decide +kernel
theorem dX0_turnFromEnd_0 : decode cX0_turnFromEnd 0 = .ok (.iconst 0, 1) := by decide +kernel
theorem dX0_turnFromEnd_1 : decode cX0_turnFromEnd 1 = .ok (.istore_n 1, 1) := by decide +kernel
theorem dX0_turnFromEnd_2 : decode cX0_turnFromEnd 2 = .ok (.iload_n 1, 1) := by decide +kernel
theorem dX0_turnFromEnd_3 : decode cX0_turnFromEnd 3 = .ok (.aload_n 0, 1) := by decide +kernel
theorem dX0_turnFromEnd_4 : decode cX0_turnFromEnd 4 = .ok (.getfield 22, 3) := by decide +kernel
theorem dX0_turnFromEnd_7 : decode cX0_turnFromEnd 7 = .ok (.if_icmp .ge 26, 3) := by decide +kernel
theorem dX0_turnFromEnd_10 : decode cX0_turnFromEnd 10 = .ok (.aload_n 0, 1) := by decide +kernel
theorem dX0_turnFromEnd_11 : decode cX0_turnFromEnd 11 = .ok (.getfield 11, 3) := by decide +kernel
theorem dX0_turnFromEnd_14 : decode cX0_turnFromEnd 14 = .ok (.iload_n 1, 1) := by decide +kernel
theorem dX0_turnFromEnd_15 : decode cX0_turnFromEnd 15 = .ok (.aaload, 1) := by decide +kernel
theorem dX0_turnFromEnd_16 : decode cX0_turnFromEnd 16 = .ok (.aload_n 0, 1) := by decide +kernel
theorem dX0_turnFromEnd_17 : decode cX0_turnFromEnd 17 = .ok (.getfield 22, 3) := by decide +kernel
theorem dX0_turnFromEnd_20 : decode cX0_turnFromEnd 20 = .ok (.iconst 1, 1) := by decide +kernel
theorem dX0_turnFromEnd_21 : decode cX0_turnFromEnd 21 = .ok (.isub, 1) := by decide +kernel
theorem dX0_turnFromEnd_22 : decode cX0_turnFromEnd 22 = .ok (.iload_n 1, 1) := by decide +kernel
theorem dX0_turnFromEnd_23 : decode cX0_turnFromEnd 23 = .ok (.isub, 1) := by decide +kernel
theorem dX0_turnFromEnd_24 : decode cX0_turnFromEnd 24 = .ok (.putfield 46, 3) := by decide +kernel
theorem dX0_turnFromEnd_27 : decode cX0_turnFromEnd 27 = .ok (.iinc 1 1, 3) := by decide +kernel
theorem dX0_turnFromEnd_30 : decode cX0_turnFromEnd 30 = .ok (.goto (-28), 3) := by decide +kernel
theorem dX0_turnFromEnd_33 : decode cX0_turnFromEnd 33 = .ok (.return_, 1) := by decide +kernel
theorem dX0_turnFromFront_0 : decode cX0_turnFromFront 0 = .ok (.iconst 0, 1) := by decide +kernel
theorem dX0_turnFromFront_1 : decode cX0_turnFromFront 1 = .ok (.istore_n 1, 1) := by decide +kernel
theorem dX0_turnFromFront_2 : decode cX0_turnFromFront 2 = .ok (.iload_n 1, 1) := by decide +kernel
theorem dX0_turnFromFront_3 : decode cX0_turnFromFront 3 = .ok (.aload_n 0, 1) := by decide +kernel
theorem dX0_turnFromFront_4 : decode cX0_turnFromFront 4 = .ok (.getfield 22, 3) := by decide +kernel
theorem dX0_turnFromFront_7 : decode cX0_turnFromFront 7 = .ok (.if_icmp .ge 19, 3) := by decide +kernel
theorem dX0_turnFromFront_10 : decode cX0_turnFromFront 10 = .ok (.aload_n 0, 1) := by decide +kernel
theorem dX0_turnFromFront_11 : decode cX0_turnFromFront 11 = .ok (.getfield 11, 3) := by decide +kernel
theorem dX0_turnFromFront_14 : decode cX0_turnFromFront 14 = .ok (.iload_n 1, 1) := by decide +kernel
theorem dX0_turnFromFront_15 : decode cX0_turnFromFront 15 = .ok (.aaload, 1) := by decide +kernel
theorem dX0_turnFromFront_16 : decode cX0_turnFromFront 16 = .ok (.iload_n 1, 1) := by decide +kernel
theorem dX0_turnFromFront_17 : decode cX0_turnFromFront 17 = .ok (.putfield 46, 3) := by decide +kernel
theorem dX0_turnFromFront_20 : decode cX0_turnFromFront 20 = .ok (.iinc 1 1, 3) := by decide +kernel
theorem dX0_turnFromFront_23 : decode cX0_turnFromFront 23 = .ok (.goto (-21), 3) := by decide +kernel
theorem dX0_turnFromFront_26 : decode cX0_turnFromFront 26 = .ok (.return_, 1) := by decide +kernel
theorem dX0_rank_0 : decode cX0_rank 0 = .ok (.iconst 0, 1) := by decide +kernel
theorem dX0_rank_1 : decode cX0_rank 1 = .ok (.istore_n 1, 1) := by decide +kernel
theorem dX0_rank_2 : decode cX0_rank 2 = .ok (.iload_n 1, 1) := by decide +kernel
theorem dX0_rank_3 : decode cX0_rank 3 = .ok (.aload_n 0, 1) := by decide +kernel
theorem dX0_rank_4 : decode cX0_rank 4 = .ok (.getfield 22, 3) := by decide +kernel
theorem dX0_rank_7 : decode cX0_rank 7 = .ok (.if_icmp .ge 70, 3) := by decide +kernel
theorem dX0_rank_10 : decode cX0_rank 10 = .ok (.iload_n 1, 1) := by decide +kernel
theorem dX0_rank_11 : decode cX0_rank 11 = .ok (.istore_n 2, 1) := by decide +kernel
theorem dX0_rank_12 : decode cX0_rank 12 = .ok (.iload_n 2, 1) := by decide +kernel
theorem dX0_rank_13 : decode cX0_rank 13 = .ok (.ifCond .le 51, 3) := by decide +kernel
theorem dX0_rank_16 : decode cX0_rank 16 = .ok (.aload_n 0, 1) := by decide +kernel
theorem dX0_rank_17 : decode cX0_rank 17 = .ok (.getfield 11, 3) := by decide +kernel
theorem dX0_rank_20 : decode cX0_rank 20 = .ok (.aload_n 0, 1) := by decide +kernel
theorem dX0_rank_21 : decode cX0_rank 21 = .ok (.getfield 17, 3) := by decide +kernel
theorem dX0_rank_24 : decode cX0_rank 24 = .ok (.iload_n 2, 1) := by decide +kernel
theorem dX0_rank_25 : decode cX0_rank 25 = .ok (.iconst 1, 1) := by decide +kernel
theorem dX0_rank_26 : decode cX0_rank 26 = .ok (.isub, 1) := by decide +kernel
theorem dX0_rank_27 : decode cX0_rank 27 = .ok (.iaload, 1) := by decide +kernel
theorem dX0_rank_28 : decode cX0_rank 28 = .ok (.aaload, 1) := by decide +kernel
theorem dX0_rank_29 : decode cX0_rank 29 = .ok (.invokevirtual 60, 3) := by decide +kernel
theorem dX0_rank_32 : decode cX0_rank 32 = .ok (.aload_n 0, 1) := by decide +kernel
theorem dX0_rank_33 : decode cX0_rank 33 = .ok (.getfield 11, 3) := by decide +kernel
theorem dX0_rank_36 : decode cX0_rank 36 = .ok (.iload_n 1, 1) := by decide +kernel
theorem dX0_rank_37 : decode cX0_rank 37 = .ok (.aaload, 1) := by decide +kernel
theorem dX0_rank_38 : decode cX0_rank 38 = .ok (.invokevirtual 60, 3) := by decide +kernel
theorem dX0_rank_41 : decode cX0_rank 41 = .ok (.if_icmp .ge 23, 3) := by decide +kernel
theorem dX0_rank_44 : decode cX0_rank 44 = .ok (.aload_n 0, 1) := by decide +kernel
theorem dX0_rank_45 : decode cX0_rank 45 = .ok (.getfield 17, 3) := by decide +kernel
theorem dX0_rank_48 : decode cX0_rank 48 = .ok (.iload_n 2, 1) := by decide +kernel
theorem dX0_rank_49 : decode cX0_rank 49 = .ok (.aload_n 0, 1) := by decide +kernel
theorem dX0_rank_50 : decode cX0_rank 50 = .ok (.getfield 17, 3) := by decide +kernel
theorem dX0_rank_53 : decode cX0_rank 53 = .ok (.iload_n 2, 1) := by decide +kernel
theorem dX0_rank_54 : decode cX0_rank 54 = .ok (.iconst 1, 1) := by decide +kernel
theorem dX0_rank_55 : decode cX0_rank 55 = .ok (.isub, 1) := by decide +kernel
theorem dX0_rank_56 : decode cX0_rank 56 = .ok (.iaload, 1) := by decide +kernel
theorem dX0_rank_57 : decode cX0_rank 57 = .ok (.iastore, 1) := by decide +kernel
theorem dX0_rank_58 : decode cX0_rank 58 = .ok (.iinc 2 (-1), 3) := by decide +kernel
theorem dX0_rank_61 : decode cX0_rank 61 = .ok (.goto (-49), 3) := by decide +kernel
theorem dX0_rank_64 : decode cX0_rank 64 = .ok (.aload_n 0, 1) := by decide +kernel
theorem dX0_rank_65 : decode cX0_rank 65 = .ok (.getfield 17, 3) := by decide +kernel
theorem dX0_rank_68 : decode cX0_rank 68 = .ok (.iload_n 2, 1) := by decide +kernel
theorem dX0_rank_69 : decode cX0_rank 69 = .ok (.iload_n 1, 1) := by decide +kernel
theorem dX0_rank_70 : decode cX0_rank 70 = .ok (.iastore, 1) := by decide +kernel
theorem dX0_rank_71 : decode cX0_rank 71 = .ok (.iinc 1 1, 3) := by decide +kernel
theorem dX0_rank_74 : decode cX0_rank 74 = .ok (.goto (-72), 3) := by decide +kernel
theorem dX0_rank_77 : decode cX0_rank 77 = .ok (.return_, 1) := by decide +kernel
theorem dX0_tell_0 : decode cX0_tell 0 = .ok (.aload_n 0, 1) := by decide +kernel
theorem dX0_tell_1 : decode cX0_tell 1 = .ok (.iload_n 1, 1) := by decide +kernel
theorem dX0_tell_2 : decode cX0_tell 2 = .ok (.invokevirtual 52, 3) := by decide +kernel
theorem dX0_tell_5 : decode cX0_tell 5 = .ok (.ifCond .ne 6, 3) := by decide +kernel
theorem dX0_tell_8 : decode cX0_tell 8 = .ok (.bipush (-9), 2) := by decide +kernel
theorem dX0_tell_10 : decode cX0_tell 10 = .ok (.ireturn, 1) := by decide +kernel
theorem dX0_tell_11 : decode cX0_tell 11 = .ok (.aload_n 0, 1) := by decide +kernel
theorem dX0_tell_12 : decode cX0_tell 12 = .ok (.getfield 11, 3) := by decide +kernel
theorem dX0_tell_15 : decode cX0_tell 15 = .ok (.iload_n 1, 1) := by decide +kernel
theorem dX0_tell_16 : decode cX0_tell 16 = .ok (.aaload, 1) := by decide +kernel
theorem dX0_tell_17 : decode cX0_tell 17 = .ok (.astore_n 3, 1) := by decide +kernel
theorem dX0_tell_18 : decode cX0_tell 18 = .ok (.iload_n 2, 1) := by decide +kernel
theorem dX0_tell_19 : decode cX0_tell 19 = .ok (.tableswitch 58 0 4 #[33, 38, 43, 48, 53], 33) := by decide +kernel
theorem dX0_tell_52 : decode cX0_tell 52 = .ok (.aload_n 3, 1) := by decide +kernel
theorem dX0_tell_53 : decode cX0_tell 53 = .ok (.getfield 30, 3) := by decide +kernel
theorem dX0_tell_56 : decode cX0_tell 56 = .ok (.ireturn, 1) := by decide +kernel
theorem dX0_tell_57 : decode cX0_tell 57 = .ok (.aload_n 3, 1) := by decide +kernel
theorem dX0_tell_58 : decode cX0_tell 58 = .ok (.getfield 36, 3) := by decide +kernel
theorem dX0_tell_61 : decode cX0_tell 61 = .ok (.ireturn, 1) := by decide +kernel
theorem dX0_tell_62 : decode cX0_tell 62 = .ok (.aload_n 3, 1) := by decide +kernel
theorem dX0_tell_63 : decode cX0_tell 63 = .ok (.getfield 64, 3) := by decide +kernel
theorem dX0_tell_66 : decode cX0_tell 66 = .ok (.ireturn, 1) := by decide +kernel
theorem dX0_tell_67 : decode cX0_tell 67 = .ok (.aload_n 3, 1) := by decide +kernel
theorem dX0_tell_68 : decode cX0_tell 68 = .ok (.getfield 33, 3) := by decide +kernel
theorem dX0_tell_71 : decode cX0_tell 71 = .ok (.ireturn, 1) := by decide +kernel
theorem dX0_tell_72 : decode cX0_tell 72 = .ok (.aload_n 3, 1) := by decide +kernel
theorem dX0_tell_73 : decode cX0_tell 73 = .ok (.getfield 43, 3) := by decide +kernel
theorem dX0_tell_76 : decode cX0_tell 76 = .ok (.ireturn, 1) := by decide +kernel
theorem dX0_tell_77 : decode cX0_tell 77 = .ok (.aload_n 3, 1) := by decide +kernel
theorem dX0_tell_78 : decode cX0_tell 78 = .ok (.getfield 46, 3) := by decide +kernel
theorem dX0_tell_81 : decode cX0_tell 81 = .ok (.ireturn, 1) := by decide +kernel
theorem dX0_countOf_0 : decode cX0_countOf 0 = .ok (.iconst 0, 1) := by decide +kernel
theorem dX0_countOf_1 : decode cX0_countOf 1 = .ok (.istore_n 2, 1) := by decide +kernel
theorem dX0_countOf_2 : decode cX0_countOf 2 = .ok (.iconst 0, 1) := by decide +kernel
theorem dX0_countOf_3 : decode cX0_countOf 3 = .ok (.istore_n 3, 1) := by decide +kernel
theorem dX0_countOf_4 : decode cX0_countOf 4 = .ok (.iload_n 3, 1) := by decide +kernel
theorem dX0_countOf_5 : decode cX0_countOf 5 = .ok (.aload_n 0, 1) := by decide +kernel
theorem dX0_countOf_6 : decode cX0_countOf 6 = .ok (.getfield 22, 3) := by decide +kernel
theorem dX0_countOf_9 : decode cX0_countOf 9 = .ok (.if_icmp .ge 25, 3) := by decide +kernel
theorem dX0_countOf_12 : decode cX0_countOf 12 = .ok (.aload_n 0, 1) := by decide +kernel
theorem dX0_countOf_13 : decode cX0_countOf 13 = .ok (.getfield 11, 3) := by decide +kernel
theorem dX0_countOf_16 : decode cX0_countOf 16 = .ok (.iload_n 3, 1) := by decide +kernel
theorem dX0_countOf_17 : decode cX0_countOf 17 = .ok (.aaload, 1) := by decide +kernel
theorem dX0_countOf_18 : decode cX0_countOf 18 = .ok (.iload_n 1, 1) := by decide +kernel
theorem dX0_countOf_19 : decode cX0_countOf 19 = .ok (.invokevirtual 67, 3) := by decide +kernel
theorem dX0_countOf_22 : decode cX0_countOf 22 = .ok (.ifCond .eq 6, 3) := by decide +kernel
theorem dX0_countOf_25 : decode cX0_countOf 25 = .ok (.iinc 2 1, 3) := by decide +kernel
theorem dX0_countOf_28 : decode cX0_countOf 28 = .ok (.iinc 3 1, 3) := by decide +kernel
theorem dX0_countOf_31 : decode cX0_countOf 31 = .ok (.goto (-27), 3) := by decide +kernel
theorem dX0_countOf_34 : decode cX0_countOf 34 = .ok (.iload_n 2, 1) := by decide +kernel
theorem dX0_countOf_35 : decode cX0_countOf 35 = .ok (.ireturn, 1) := by decide +kernel
theorem dX0_havingWords_0 : decode cX0_havingWords 0 = .ok (.iconst 0, 1) := by decide +kernel
theorem dX0_havingWords_1 : decode cX0_havingWords 1 = .ok (.istore_n 2, 1) := by decide +kernel
theorem dX0_havingWords_2 : decode cX0_havingWords 2 = .ok (.iconst 0, 1) := by decide +kernel
theorem dX0_havingWords_3 : decode cX0_havingWords 3 = .ok (.istore_n 3, 1) := by decide +kernel
theorem dX0_havingWords_4 : decode cX0_havingWords 4 = .ok (.iload_n 3, 1) := by decide +kernel
theorem dX0_havingWords_5 : decode cX0_havingWords 5 = .ok (.aload_n 0, 1) := by decide +kernel
theorem dX0_havingWords_6 : decode cX0_havingWords 6 = .ok (.getfield 22, 3) := by decide +kernel
theorem dX0_havingWords_9 : decode cX0_havingWords 9 = .ok (.if_icmp .ge 39, 3) := by decide +kernel
theorem dX0_havingWords_12 : decode cX0_havingWords 12 = .ok (.aload_n 0, 1) := by decide +kernel
theorem dX0_havingWords_13 : decode cX0_havingWords 13 = .ok (.getfield 11, 3) := by decide +kernel
theorem dX0_havingWords_16 : decode cX0_havingWords 16 = .ok (.iload_n 3, 1) := by decide +kernel
theorem dX0_havingWords_17 : decode cX0_havingWords 17 = .ok (.aaload, 1) := by decide +kernel
theorem dX0_havingWords_18 : decode cX0_havingWords 18 = .ok (.getfield 30, 3) := by decide +kernel
theorem dX0_havingWords_21 : decode cX0_havingWords 21 = .ok (.iconst 3, 1) := by decide +kernel
theorem dX0_havingWords_22 : decode cX0_havingWords 22 = .ok (.if_icmp .eq 20, 3) := by decide +kernel
theorem dX0_havingWords_25 : decode cX0_havingWords 25 = .ok (.aload_n 0, 1) := by decide +kernel
theorem dX0_havingWords_26 : decode cX0_havingWords 26 = .ok (.getfield 11, 3) := by decide +kernel
theorem dX0_havingWords_29 : decode cX0_havingWords 29 = .ok (.iload_n 3, 1) := by decide +kernel
theorem dX0_havingWords_30 : decode cX0_havingWords 30 = .ok (.aaload, 1) := by decide +kernel
theorem dX0_havingWords_31 : decode cX0_havingWords 31 = .ok (.getfield 64, 3) := by decide +kernel
theorem dX0_havingWords_34 : decode cX0_havingWords 34 = .ok (.iload_n 1, 1) := by decide +kernel
theorem dX0_havingWords_35 : decode cX0_havingWords 35 = .ok (.iand, 1) := by decide +kernel
theorem dX0_havingWords_36 : decode cX0_havingWords 36 = .ok (.ifCond .eq 6, 3) := by decide +kernel
theorem dX0_havingWords_39 : decode cX0_havingWords 39 = .ok (.iinc 2 1, 3) := by decide +kernel
theorem dX0_havingWords_42 : decode cX0_havingWords 42 = .ok (.iinc 3 1, 3) := by decide +kernel
theorem dX0_havingWords_45 : decode cX0_havingWords 45 = .ok (.goto (-41), 3) := by decide +kernel
theorem dX0_havingWords_48 : decode cX0_havingWords 48 = .ok (.iload_n 2, 1) := by decide +kernel
theorem dX0_havingWords_49 : decode cX0_havingWords 49 = .ok (.ireturn, 1) := by decide +kernel
theorem dX0_pageReadOn_0 : decode cX0_pageReadOn 0 = .ok (.iconst 0, 1) := by decide +kernel
theorem dX0_pageReadOn_1 : decode cX0_pageReadOn 1 = .ok (.istore_n 2, 1) := by decide +kernel
theorem dX0_pageReadOn_2 : decode cX0_pageReadOn 2 = .ok (.iload_n 2, 1) := by decide +kernel
theorem dX0_pageReadOn_3 : decode cX0_pageReadOn 3 = .ok (.aload_n 0, 1) := by decide +kernel
theorem dX0_pageReadOn_4 : decode cX0_pageReadOn 4 = .ok (.getfield 22, 3) := by decide +kernel
theorem dX0_pageReadOn_7 : decode cX0_pageReadOn 7 = .ok (.if_icmp .ge 24, 3) := by decide +kernel
theorem dX0_pageReadOn_10 : decode cX0_pageReadOn 10 = .ok (.aload_n 0, 1) := by decide +kernel
theorem dX0_pageReadOn_11 : decode cX0_pageReadOn 11 = .ok (.getfield 11, 3) := by decide +kernel
theorem dX0_pageReadOn_14 : decode cX0_pageReadOn 14 = .ok (.iload_n 2, 1) := by decide +kernel
theorem dX0_pageReadOn_15 : decode cX0_pageReadOn 15 = .ok (.aaload, 1) := by decide +kernel
theorem dX0_pageReadOn_16 : decode cX0_pageReadOn 16 = .ok (.getfield 46, 3) := by decide +kernel
theorem dX0_pageReadOn_19 : decode cX0_pageReadOn 19 = .ok (.iload_n 1, 1) := by decide +kernel
theorem dX0_pageReadOn_20 : decode cX0_pageReadOn 20 = .ok (.if_icmp .ne 5, 3) := by decide +kernel
theorem dX0_pageReadOn_23 : decode cX0_pageReadOn 23 = .ok (.iload_n 2, 1) := by decide +kernel
theorem dX0_pageReadOn_24 : decode cX0_pageReadOn 24 = .ok (.ireturn, 1) := by decide +kernel
theorem dX0_pageReadOn_25 : decode cX0_pageReadOn 25 = .ok (.iinc 2 1, 3) := by decide +kernel
theorem dX0_pageReadOn_28 : decode cX0_pageReadOn 28 = .ok (.goto (-26), 3) := by decide +kernel
theorem dX0_pageReadOn_31 : decode cX0_pageReadOn 31 = .ok (.bipush (-9), 2) := by decide +kernel
theorem dX0_pageReadOn_33 : decode cX0_pageReadOn 33 = .ok (.ireturn, 1) := by decide +kernel
theorem dX0_holds_0 : decode cX0_holds 0 = .ok (.iload_n 1, 1) := by decide +kernel
theorem dX0_holds_1 : decode cX0_holds 1 = .ok (.istore_n 3, 1) := by decide +kernel
theorem dX0_holds_2 : decode cX0_holds 2 = .ok (.iconst 0, 1) := by decide +kernel
theorem dX0_holds_3 : decode cX0_holds 3 = .ok (.istore 4, 2) := by decide +kernel
theorem dX0_holds_5 : decode cX0_holds 5 = .ok (.iload 4, 2) := by decide +kernel
theorem dX0_holds_7 : decode cX0_holds 7 = .ok (.aload_n 0, 1) := by decide +kernel
theorem dX0_holds_8 : decode cX0_holds 8 = .ok (.getfield 22, 3) := by decide +kernel
theorem dX0_holds_11 : decode cX0_holds 11 = .ok (.if_icmp .ge 86, 3) := by decide +kernel
theorem dX0_holds_14 : decode cX0_holds 14 = .ok (.aload_n 0, 1) := by decide +kernel
theorem dX0_holds_15 : decode cX0_holds 15 = .ok (.iload_n 3, 1) := by decide +kernel
theorem dX0_holds_16 : decode cX0_holds 16 = .ok (.invokevirtual 52, 3) := by decide +kernel
theorem dX0_holds_19 : decode cX0_holds 19 = .ok (.ifCond .eq 78, 3) := by decide +kernel
theorem dX0_holds_22 : decode cX0_holds 22 = .ok (.aload_n 0, 1) := by decide +kernel
theorem dX0_holds_23 : decode cX0_holds 23 = .ok (.getfield 11, 3) := by decide +kernel
theorem dX0_holds_26 : decode cX0_holds 26 = .ok (.iload_n 3, 1) := by decide +kernel
theorem dX0_holds_27 : decode cX0_holds 27 = .ok (.aaload, 1) := by decide +kernel
theorem dX0_holds_28 : decode cX0_holds 28 = .ok (.astore 5, 2) := by decide +kernel
theorem dX0_holds_30 : decode cX0_holds 30 = .ok (.aload 5, 2) := by decide +kernel
theorem dX0_holds_32 : decode cX0_holds 32 = .ok (.getfield 30, 3) := by decide +kernel
theorem dX0_holds_35 : decode cX0_holds 35 = .ok (.iconst 5, 1) := by decide +kernel
theorem dX0_holds_36 : decode cX0_holds 36 = .ok (.if_icmp .eq 14, 3) := by decide +kernel
theorem dX0_holds_39 : decode cX0_holds 39 = .ok (.iload_n 2, 1) := by decide +kernel
theorem dX0_holds_40 : decode cX0_holds 40 = .ok (.aload 5, 2) := by decide +kernel
theorem dX0_holds_42 : decode cX0_holds 42 = .ok (.getfield 46, 3) := by decide +kernel
theorem dX0_holds_45 : decode cX0_holds 45 = .ok (.if_icmp .ge 5, 3) := by decide +kernel
theorem dX0_holds_48 : decode cX0_holds 48 = .ok (.iconst 0, 1) := by decide +kernel
theorem dX0_holds_49 : decode cX0_holds 49 = .ok (.ireturn, 1) := by decide +kernel
theorem dX0_holds_50 : decode cX0_holds 50 = .ok (.aload 5, 2) := by decide +kernel
theorem dX0_holds_52 : decode cX0_holds 52 = .ok (.iconst 2, 1) := by decide +kernel
theorem dX0_holds_53 : decode cX0_holds 53 = .ok (.invokevirtual 67, 3) := by decide +kernel
theorem dX0_holds_56 : decode cX0_holds 56 = .ok (.ifCond .ne 29, 3) := by decide +kernel
theorem dX0_holds_59 : decode cX0_holds 59 = .ok (.aload 5, 2) := by decide +kernel
theorem dX0_holds_61 : decode cX0_holds 61 = .ok (.getfield 30, 3) := by decide +kernel
theorem dX0_holds_64 : decode cX0_holds 64 = .ok (.iconst 4, 1) := by decide +kernel
theorem dX0_holds_65 : decode cX0_holds 65 = .ok (.if_icmp .ne 14, 3) := by decide +kernel
theorem dX0_holds_68 : decode cX0_holds 68 = .ok (.iload_n 2, 1) := by decide +kernel
theorem dX0_holds_69 : decode cX0_holds 69 = .ok (.aload 5, 2) := by decide +kernel
theorem dX0_holds_71 : decode cX0_holds 71 = .ok (.getfield 46, 3) := by decide +kernel
theorem dX0_holds_74 : decode cX0_holds 74 = .ok (.iconst 2, 1) := by decide +kernel
theorem dX0_holds_75 : decode cX0_holds 75 = .ok (.iadd, 1) := by decide +kernel
theorem dX0_holds_76 : decode cX0_holds 76 = .ok (.if_icmp .gt 7, 3) := by decide +kernel
theorem dX0_holds_79 : decode cX0_holds 79 = .ok (.iconst 1, 1) := by decide +kernel
theorem dX0_holds_80 : decode cX0_holds 80 = .ok (.goto 4, 3) := by decide +kernel
theorem dX0_holds_83 : decode cX0_holds 83 = .ok (.iconst 0, 1) := by decide +kernel
theorem dX0_holds_84 : decode cX0_holds 84 = .ok (.ireturn, 1) := by decide +kernel
theorem dX0_holds_85 : decode cX0_holds 85 = .ok (.aload 5, 2) := by decide +kernel
theorem dX0_holds_87 : decode cX0_holds 87 = .ok (.getfield 33, 3) := by decide +kernel
theorem dX0_holds_90 : decode cX0_holds 90 = .ok (.istore_n 3, 1) := by decide +kernel
theorem dX0_holds_91 : decode cX0_holds 91 = .ok (.iinc 4 1, 3) := by decide +kernel
theorem dX0_holds_94 : decode cX0_holds 94 = .ok (.goto (-89), 3) := by decide +kernel
theorem dX0_holds_97 : decode cX0_holds 97 = .ok (.iconst 0, 1) := by decide +kernel
theorem dX0_holds_98 : decode cX0_holds 98 = .ok (.ireturn, 1) := by decide +kernel
theorem dX0_firstDayOf_0 : decode cX0_firstDayOf 0 = .ok (.iconst 0, 1) := by decide +kernel
theorem dX0_firstDayOf_1 : decode cX0_firstDayOf 1 = .ok (.istore_n 2, 1) := by decide +kernel
theorem dX0_firstDayOf_2 : decode cX0_firstDayOf 2 = .ok (.iload_n 2, 1) := by decide +kernel
theorem dX0_firstDayOf_3 : decode cX0_firstDayOf 3 = .ok (.bipush 20, 2) := by decide +kernel
theorem dX0_firstDayOf_5 : decode cX0_firstDayOf 5 = .ok (.if_icmp .gt 20, 3) := by decide +kernel
theorem dX0_firstDayOf_8 : decode cX0_firstDayOf 8 = .ok (.aload_n 0, 1) := by decide +kernel
theorem dX0_firstDayOf_9 : decode cX0_firstDayOf 9 = .ok (.iload_n 1, 1) := by decide +kernel
theorem dX0_firstDayOf_10 : decode cX0_firstDayOf 10 = .ok (.iload_n 2, 1) := by decide +kernel
theorem dX0_firstDayOf_11 : decode cX0_firstDayOf 11 = .ok (.invokevirtual 70, 3) := by decide +kernel
theorem dX0_firstDayOf_14 : decode cX0_firstDayOf 14 = .ok (.ifCond .eq 5, 3) := by decide +kernel
theorem dX0_firstDayOf_17 : decode cX0_firstDayOf 17 = .ok (.iload_n 2, 1) := by decide +kernel
theorem dX0_firstDayOf_18 : decode cX0_firstDayOf 18 = .ok (.ireturn, 1) := by decide +kernel
theorem dX0_firstDayOf_19 : decode cX0_firstDayOf 19 = .ok (.iinc 2 1, 3) := by decide +kernel
theorem dX0_firstDayOf_22 : decode cX0_firstDayOf 22 = .ok (.goto (-20), 3) := by decide +kernel
theorem dX0_firstDayOf_25 : decode cX0_firstDayOf 25 = .ok (.bipush (-9), 2) := by decide +kernel
theorem dX0_firstDayOf_27 : decode cX0_firstDayOf 27 = .ok (.ireturn, 1) := by decide +kernel
theorem dX0_isInRing_0 : decode cX0_isInRing 0 = .ok (.iload_n 1, 1) := by decide +kernel
theorem dX0_isInRing_1 : decode cX0_isInRing 1 = .ok (.istore_n 2, 1) := by decide +kernel
theorem dX0_isInRing_2 : decode cX0_isInRing 2 = .ok (.iconst 0, 1) := by decide +kernel
theorem dX0_isInRing_3 : decode cX0_isInRing 3 = .ok (.istore_n 3, 1) := by decide +kernel
theorem dX0_isInRing_4 : decode cX0_isInRing 4 = .ok (.iload_n 3, 1) := by decide +kernel
theorem dX0_isInRing_5 : decode cX0_isInRing 5 = .ok (.aload_n 0, 1) := by decide +kernel
theorem dX0_isInRing_6 : decode cX0_isInRing 6 = .ok (.getfield 22, 3) := by decide +kernel
theorem dX0_isInRing_9 : decode cX0_isInRing 9 = .ok (.if_icmp .ge 49, 3) := by decide +kernel
theorem dX0_isInRing_12 : decode cX0_isInRing 12 = .ok (.aload_n 0, 1) := by decide +kernel
theorem dX0_isInRing_13 : decode cX0_isInRing 13 = .ok (.iload_n 2, 1) := by decide +kernel
theorem dX0_isInRing_14 : decode cX0_isInRing 14 = .ok (.invokevirtual 52, 3) := by decide +kernel
theorem dX0_isInRing_17 : decode cX0_isInRing 17 = .ok (.ifCond .eq 41, 3) := by decide +kernel
theorem dX0_isInRing_20 : decode cX0_isInRing 20 = .ok (.aload_n 0, 1) := by decide +kernel
theorem dX0_isInRing_21 : decode cX0_isInRing 21 = .ok (.getfield 11, 3) := by decide +kernel
theorem dX0_isInRing_24 : decode cX0_isInRing 24 = .ok (.iload_n 2, 1) := by decide +kernel
theorem dX0_isInRing_25 : decode cX0_isInRing 25 = .ok (.aaload, 1) := by decide +kernel
theorem dX0_isInRing_26 : decode cX0_isInRing 26 = .ok (.iconst 2, 1) := by decide +kernel
theorem dX0_isInRing_27 : decode cX0_isInRing 27 = .ok (.invokevirtual 67, 3) := by decide +kernel
theorem dX0_isInRing_30 : decode cX0_isInRing 30 = .ok (.ifCond .ne 5, 3) := by decide +kernel
theorem dX0_isInRing_33 : decode cX0_isInRing 33 = .ok (.iconst 0, 1) := by decide +kernel
theorem dX0_isInRing_34 : decode cX0_isInRing 34 = .ok (.ireturn, 1) := by decide +kernel
theorem dX0_isInRing_35 : decode cX0_isInRing 35 = .ok (.aload_n 0, 1) := by decide +kernel
theorem dX0_isInRing_36 : decode cX0_isInRing 36 = .ok (.getfield 11, 3) := by decide +kernel
theorem dX0_isInRing_39 : decode cX0_isInRing 39 = .ok (.iload_n 2, 1) := by decide +kernel
theorem dX0_isInRing_40 : decode cX0_isInRing 40 = .ok (.aaload, 1) := by decide +kernel
theorem dX0_isInRing_41 : decode cX0_isInRing 41 = .ok (.getfield 33, 3) := by decide +kernel
theorem dX0_isInRing_44 : decode cX0_isInRing 44 = .ok (.istore_n 2, 1) := by decide +kernel
theorem dX0_isInRing_45 : decode cX0_isInRing 45 = .ok (.iload_n 2, 1) := by decide +kernel
theorem dX0_isInRing_46 : decode cX0_isInRing 46 = .ok (.iload_n 1, 1) := by decide +kernel
theorem dX0_isInRing_47 : decode cX0_isInRing 47 = .ok (.if_icmp .ne 5, 3) := by decide +kernel
theorem dX0_isInRing_50 : decode cX0_isInRing 50 = .ok (.iconst 1, 1) := by decide +kernel
theorem dX0_isInRing_51 : decode cX0_isInRing 51 = .ok (.ireturn, 1) := by decide +kernel
theorem dX0_isInRing_52 : decode cX0_isInRing 52 = .ok (.iinc 3 1, 3) := by decide +kernel
theorem dX0_isInRing_55 : decode cX0_isInRing 55 = .ok (.goto (-51), 3) := by decide +kernel
theorem dX0_isInRing_58 : decode cX0_isInRing 58 = .ok (.iconst 0, 1) := by decide +kernel
theorem dX0_isInRing_59 : decode cX0_isInRing 59 = .ok (.ireturn, 1) := by decide +kernel
theorem dX0_bound_0 : decode cX0_bound 0 = .ok (.iconst 0, 1) := by decide +kernel
theorem dX0_bound_1 : decode cX0_bound 1 = .ok (.istore_n 2, 1) := by decide +kernel
theorem dX0_bound_2 : decode cX0_bound 2 = .ok (.iconst 0, 1) := by decide +kernel
theorem dX0_bound_3 : decode cX0_bound 3 = .ok (.istore_n 3, 1) := by decide +kernel
theorem dX0_bound_4 : decode cX0_bound 4 = .ok (.iload_n 3, 1) := by decide +kernel
theorem dX0_bound_5 : decode cX0_bound 5 = .ok (.aload_n 0, 1) := by decide +kernel
theorem dX0_bound_6 : decode cX0_bound 6 = .ok (.getfield 22, 3) := by decide +kernel
theorem dX0_bound_9 : decode cX0_bound 9 = .ok (.if_icmp .ge 24, 3) := by decide +kernel
theorem dX0_bound_12 : decode cX0_bound 12 = .ok (.aload_n 0, 1) := by decide +kernel
theorem dX0_bound_13 : decode cX0_bound 13 = .ok (.iload_n 3, 1) := by decide +kernel
theorem dX0_bound_14 : decode cX0_bound 14 = .ok (.iload_n 1, 1) := by decide +kernel
theorem dX0_bound_15 : decode cX0_bound 15 = .ok (.invokevirtual 70, 3) := by decide +kernel
theorem dX0_bound_18 : decode cX0_bound 18 = .ok (.ifCond .eq 9, 3) := by decide +kernel
theorem dX0_bound_21 : decode cX0_bound 21 = .ok (.iload_n 2, 1) := by decide +kernel
theorem dX0_bound_22 : decode cX0_bound 22 = .ok (.iconst 1, 1) := by decide +kernel
theorem dX0_bound_23 : decode cX0_bound 23 = .ok (.iload_n 3, 1) := by decide +kernel
theorem dX0_bound_24 : decode cX0_bound 24 = .ok (.ishl, 1) := by decide +kernel
theorem dX0_bound_25 : decode cX0_bound 25 = .ok (.ior, 1) := by decide +kernel
theorem dX0_bound_26 : decode cX0_bound 26 = .ok (.istore_n 2, 1) := by decide +kernel
theorem dX0_bound_27 : decode cX0_bound 27 = .ok (.iinc 3 1, 3) := by decide +kernel
theorem dX0_bound_30 : decode cX0_bound 30 = .ok (.goto (-26), 3) := by decide +kernel
theorem dX0_bound_33 : decode cX0_bound 33 = .ok (.iload_n 2, 1) := by decide +kernel
theorem dX0_bound_34 : decode cX0_bound 34 = .ok (.ireturn, 1) := by decide +kernel
theorem dX0_factsFor_0 : decode cX0_factsFor 0 = .ok (.bipush 31, 2) := by decide +kernel
theorem dX0_factsFor_2 : decode cX0_factsFor 2 = .ok (.istore_n 3, 1) := by decide +kernel
theorem dX0_factsFor_3 : decode cX0_factsFor 3 = .ok (.iconst (-1), 1) := by decide +kernel
theorem dX0_factsFor_4 : decode cX0_factsFor 4 = .ok (.istore 4, 2) := by decide +kernel
theorem dX0_factsFor_6 : decode cX0_factsFor 6 = .ok (.iconst 0, 1) := by decide +kernel
theorem dX0_factsFor_7 : decode cX0_factsFor 7 = .ok (.istore 5, 2) := by decide +kernel
theorem dX0_factsFor_9 : decode cX0_factsFor 9 = .ok (.iload 5, 2) := by decide +kernel
theorem dX0_factsFor_11 : decode cX0_factsFor 11 = .ok (.aload_n 0, 1) := by decide +kernel
theorem dX0_factsFor_12 : decode cX0_factsFor 12 = .ok (.getfield 22, 3) := by decide +kernel
theorem dX0_factsFor_15 : decode cX0_factsFor 15 = .ok (.if_icmp .ge 79, 3) := by decide +kernel
theorem dX0_factsFor_18 : decode cX0_factsFor 18 = .ok (.aload_n 0, 1) := by decide +kernel
theorem dX0_factsFor_19 : decode cX0_factsFor 19 = .ok (.getfield 11, 3) := by decide +kernel
theorem dX0_factsFor_22 : decode cX0_factsFor 22 = .ok (.iload 5, 2) := by decide +kernel
theorem dX0_factsFor_24 : decode cX0_factsFor 24 = .ok (.aaload, 1) := by decide +kernel
theorem dX0_factsFor_25 : decode cX0_factsFor 25 = .ok (.astore 6, 2) := by decide +kernel
theorem dX0_factsFor_27 : decode cX0_factsFor 27 = .ok (.iload_n 2, 1) := by decide +kernel
theorem dX0_factsFor_28 : decode cX0_factsFor 28 = .ok (.iload 5, 2) := by decide +kernel
theorem dX0_factsFor_30 : decode cX0_factsFor 30 = .ok (.invokestatic 74, 3) := by decide +kernel
theorem dX0_factsFor_33 : decode cX0_factsFor 33 = .ok (.ifCond .eq 55, 3) := by decide +kernel
theorem dX0_factsFor_36 : decode cX0_factsFor 36 = .ok (.aload 6, 2) := by decide +kernel
theorem dX0_factsFor_38 : decode cX0_factsFor 38 = .ok (.getfield 30, 3) := by decide +kernel
theorem dX0_factsFor_41 : decode cX0_factsFor 41 = .ok (.iconst 3, 1) := by decide +kernel
theorem dX0_factsFor_42 : decode cX0_factsFor 42 = .ok (.if_icmp .ne 46, 3) := by decide +kernel
theorem dX0_factsFor_45 : decode cX0_factsFor 45 = .ok (.aload 6, 2) := by decide +kernel
theorem dX0_factsFor_47 : decode cX0_factsFor 47 = .ok (.getfield 64, 3) := by decide +kernel
theorem dX0_factsFor_50 : decode cX0_factsFor 50 = .ok (.iload_n 1, 1) := by decide +kernel
theorem dX0_factsFor_51 : decode cX0_factsFor 51 = .ok (.invokestatic 74, 3) := by decide +kernel
theorem dX0_factsFor_54 : decode cX0_factsFor 54 = .ok (.ifCond .ne 6, 3) := by decide +kernel
theorem dX0_factsFor_57 : decode cX0_factsFor 57 = .ok (.goto 31, 3) := by decide +kernel
theorem dX0_factsFor_60 : decode cX0_factsFor 60 = .ok (.aload 6, 2) := by decide +kernel
theorem dX0_factsFor_62 : decode cX0_factsFor 62 = .ok (.getfield 46, 3) := by decide +kernel
theorem dX0_factsFor_65 : decode cX0_factsFor 65 = .ok (.iload 4, 2) := by decide +kernel
theorem dX0_factsFor_67 : decode cX0_factsFor 67 = .ok (.if_icmp .ge 6, 3) := by decide +kernel
theorem dX0_factsFor_70 : decode cX0_factsFor 70 = .ok (.goto 18, 3) := by decide +kernel
theorem dX0_factsFor_73 : decode cX0_factsFor 73 = .ok (.aload 6, 2) := by decide +kernel
theorem dX0_factsFor_75 : decode cX0_factsFor 75 = .ok (.getfield 46, 3) := by decide +kernel
theorem dX0_factsFor_78 : decode cX0_factsFor 78 = .ok (.istore 4, 2) := by decide +kernel
theorem dX0_factsFor_80 : decode cX0_factsFor 80 = .ok (.iconst 1, 1) := by decide +kernel
theorem dX0_factsFor_81 : decode cX0_factsFor 81 = .ok (.aload 6, 2) := by decide +kernel
theorem dX0_factsFor_83 : decode cX0_factsFor 83 = .ok (.getfield 43, 3) := by decide +kernel
theorem dX0_factsFor_86 : decode cX0_factsFor 86 = .ok (.ishl, 1) := by decide +kernel
theorem dX0_factsFor_87 : decode cX0_factsFor 87 = .ok (.istore_n 3, 1) := by decide +kernel
theorem dX0_factsFor_88 : decode cX0_factsFor 88 = .ok (.iinc 5 1, 3) := by decide +kernel
theorem dX0_factsFor_91 : decode cX0_factsFor 91 = .ok (.goto (-82), 3) := by decide +kernel
theorem dX0_factsFor_94 : decode cX0_factsFor 94 = .ok (.iload_n 3, 1) := by decide +kernel
theorem dX0_factsFor_95 : decode cX0_factsFor 95 = .ok (.ireturn, 1) := by decide +kernel
theorem dX0_casesOne_0 : decode cX0_casesOne 0 = .ok (.iconst 0, 1) := by decide +kernel
theorem dX0_casesOne_1 : decode cX0_casesOne 1 = .ok (.istore 4, 2) := by decide +kernel
theorem dX0_casesOne_3 : decode cX0_casesOne 3 = .ok (.iconst (-1), 1) := by decide +kernel
theorem dX0_casesOne_4 : decode cX0_casesOne 4 = .ok (.istore 5, 2) := by decide +kernel
theorem dX0_casesOne_6 : decode cX0_casesOne 6 = .ok (.iconst 0, 1) := by decide +kernel
theorem dX0_casesOne_7 : decode cX0_casesOne 7 = .ok (.istore 6, 2) := by decide +kernel
theorem dX0_casesOne_9 : decode cX0_casesOne 9 = .ok (.iload 6, 2) := by decide +kernel
theorem dX0_casesOne_11 : decode cX0_casesOne 11 = .ok (.aload_n 0, 1) := by decide +kernel
theorem dX0_casesOne_12 : decode cX0_casesOne 12 = .ok (.getfield 22, 3) := by decide +kernel
theorem dX0_casesOne_15 : decode cX0_casesOne 15 = .ok (.if_icmp .ge 77, 3) := by decide +kernel
theorem dX0_casesOne_18 : decode cX0_casesOne 18 = .ok (.iload_n 1, 1) := by decide +kernel
theorem dX0_casesOne_19 : decode cX0_casesOne 19 = .ok (.aload_n 0, 1) := by decide +kernel
theorem dX0_casesOne_20 : decode cX0_casesOne 20 = .ok (.getfield 17, 3) := by decide +kernel
theorem dX0_casesOne_23 : decode cX0_casesOne 23 = .ok (.iload 6, 2) := by decide +kernel
theorem dX0_casesOne_25 : decode cX0_casesOne 25 = .ok (.iaload, 1) := by decide +kernel
theorem dX0_casesOne_26 : decode cX0_casesOne 26 = .ok (.invokestatic 74, 3) := by decide +kernel
theorem dX0_casesOne_29 : decode cX0_casesOne 29 = .ok (.ifCond .ne 6, 3) := by decide +kernel
theorem dX0_casesOne_32 : decode cX0_casesOne 32 = .ok (.goto 54, 3) := by decide +kernel
theorem dX0_casesOne_35 : decode cX0_casesOne 35 = .ok (.aload_n 0, 1) := by decide +kernel
theorem dX0_casesOne_36 : decode cX0_casesOne 36 = .ok (.getfield 11, 3) := by decide +kernel
theorem dX0_casesOne_39 : decode cX0_casesOne 39 = .ok (.aload_n 0, 1) := by decide +kernel
theorem dX0_casesOne_40 : decode cX0_casesOne 40 = .ok (.getfield 17, 3) := by decide +kernel
theorem dX0_casesOne_43 : decode cX0_casesOne 43 = .ok (.iload 6, 2) := by decide +kernel
theorem dX0_casesOne_45 : decode cX0_casesOne 45 = .ok (.iaload, 1) := by decide +kernel
theorem dX0_casesOne_46 : decode cX0_casesOne 46 = .ok (.aaload, 1) := by decide +kernel
theorem dX0_casesOne_47 : decode cX0_casesOne 47 = .ok (.astore 7, 2) := by decide +kernel
theorem dX0_casesOne_49 : decode cX0_casesOne 49 = .ok (.aload 7, 2) := by decide +kernel
theorem dX0_casesOne_51 : decode cX0_casesOne 51 = .ok (.iload_n 2, 1) := by decide +kernel
theorem dX0_casesOne_52 : decode cX0_casesOne 52 = .ok (.iload_n 3, 1) := by decide +kernel
theorem dX0_casesOne_53 : decode cX0_casesOne 53 = .ok (.invokevirtual 77, 3) := by decide +kernel
theorem dX0_casesOne_56 : decode cX0_casesOne 56 = .ok (.iload 5, 2) := by decide +kernel
theorem dX0_casesOne_58 : decode cX0_casesOne 58 = .ok (.iand, 1) := by decide +kernel
theorem dX0_casesOne_59 : decode cX0_casesOne 59 = .ok (.istore 8, 2) := by decide +kernel
theorem dX0_casesOne_61 : decode cX0_casesOne 61 = .ok (.aload 7, 2) := by decide +kernel
theorem dX0_casesOne_63 : decode cX0_casesOne 63 = .ok (.getfield 36, 3) := by decide +kernel
theorem dX0_casesOne_66 : decode cX0_casesOne 66 = .ok (.iconst 1, 1) := by decide +kernel
theorem dX0_casesOne_67 : decode cX0_casesOne 67 = .ok (.if_icmp .ne 10, 3) := by decide +kernel
theorem dX0_casesOne_70 : decode cX0_casesOne 70 = .ok (.iload 4, 2) := by decide +kernel
theorem dX0_casesOne_72 : decode cX0_casesOne 72 = .ok (.iload 8, 2) := by decide +kernel
theorem dX0_casesOne_74 : decode cX0_casesOne 74 = .ok (.ior, 1) := by decide +kernel
theorem dX0_casesOne_75 : decode cX0_casesOne 75 = .ok (.istore 4, 2) := by decide +kernel
theorem dX0_casesOne_77 : decode cX0_casesOne 77 = .ok (.iload 5, 2) := by decide +kernel
theorem dX0_casesOne_79 : decode cX0_casesOne 79 = .ok (.iload 8, 2) := by decide +kernel
theorem dX0_casesOne_81 : decode cX0_casesOne 81 = .ok (.iconst (-1), 1) := by decide +kernel
theorem dX0_casesOne_82 : decode cX0_casesOne 82 = .ok (.ixor, 1) := by decide +kernel
theorem dX0_casesOne_83 : decode cX0_casesOne 83 = .ok (.iand, 1) := by decide +kernel
theorem dX0_casesOne_84 : decode cX0_casesOne 84 = .ok (.istore 5, 2) := by decide +kernel
theorem dX0_casesOne_86 : decode cX0_casesOne 86 = .ok (.iinc 6 1, 3) := by decide +kernel
theorem dX0_casesOne_89 : decode cX0_casesOne 89 = .ok (.goto (-80), 3) := by decide +kernel
theorem dX0_casesOne_92 : decode cX0_casesOne 92 = .ok (.iload 4, 2) := by decide +kernel
theorem dX0_casesOne_94 : decode cX0_casesOne 94 = .ok (.ireturn, 1) := by decide +kernel
theorem dX0_judgeOf_0 : decode cX0_judgeOf 0 = .ok (.iconst 0, 1) := by decide +kernel
theorem dX0_judgeOf_1 : decode cX0_judgeOf 1 = .ok (.istore 5, 2) := by decide +kernel
theorem dX0_judgeOf_3 : decode cX0_judgeOf 3 = .ok (.iload 5, 2) := by decide +kernel
theorem dX0_judgeOf_5 : decode cX0_judgeOf 5 = .ok (.aload_n 0, 1) := by decide +kernel
theorem dX0_judgeOf_6 : decode cX0_judgeOf 6 = .ok (.getfield 22, 3) := by decide +kernel
theorem dX0_judgeOf_9 : decode cX0_judgeOf 9 = .ok (.if_icmp .ge 50, 3) := by decide +kernel
theorem dX0_judgeOf_12 : decode cX0_judgeOf 12 = .ok (.aload_n 0, 1) := by decide +kernel
theorem dX0_judgeOf_13 : decode cX0_judgeOf 13 = .ok (.getfield 17, 3) := by decide +kernel
theorem dX0_judgeOf_16 : decode cX0_judgeOf 16 = .ok (.iload 5, 2) := by decide +kernel
theorem dX0_judgeOf_18 : decode cX0_judgeOf 18 = .ok (.iaload, 1) := by decide +kernel
theorem dX0_judgeOf_19 : decode cX0_judgeOf 19 = .ok (.istore 6, 2) := by decide +kernel
theorem dX0_judgeOf_21 : decode cX0_judgeOf 21 = .ok (.iload_n 2, 1) := by decide +kernel
theorem dX0_judgeOf_22 : decode cX0_judgeOf 22 = .ok (.iload 6, 2) := by decide +kernel
theorem dX0_judgeOf_24 : decode cX0_judgeOf 24 = .ok (.invokestatic 74, 3) := by decide +kernel
theorem dX0_judgeOf_27 : decode cX0_judgeOf 27 = .ok (.ifCond .eq 26, 3) := by decide +kernel
theorem dX0_judgeOf_30 : decode cX0_judgeOf 30 = .ok (.aload_n 0, 1) := by decide +kernel
theorem dX0_judgeOf_31 : decode cX0_judgeOf 31 = .ok (.getfield 11, 3) := by decide +kernel
theorem dX0_judgeOf_34 : decode cX0_judgeOf 34 = .ok (.iload 6, 2) := by decide +kernel
theorem dX0_judgeOf_36 : decode cX0_judgeOf 36 = .ok (.aaload, 1) := by decide +kernel
theorem dX0_judgeOf_37 : decode cX0_judgeOf 37 = .ok (.iload_n 3, 1) := by decide +kernel
theorem dX0_judgeOf_38 : decode cX0_judgeOf 38 = .ok (.iload 4, 2) := by decide +kernel
theorem dX0_judgeOf_40 : decode cX0_judgeOf 40 = .ok (.invokevirtual 77, 3) := by decide +kernel
theorem dX0_judgeOf_43 : decode cX0_judgeOf 43 = .ok (.iload_n 1, 1) := by decide +kernel
theorem dX0_judgeOf_44 : decode cX0_judgeOf 44 = .ok (.invokestatic 74, 3) := by decide +kernel
theorem dX0_judgeOf_47 : decode cX0_judgeOf 47 = .ok (.ifCond .eq 6, 3) := by decide +kernel
theorem dX0_judgeOf_50 : decode cX0_judgeOf 50 = .ok (.iload 6, 2) := by decide +kernel
theorem dX0_judgeOf_52 : decode cX0_judgeOf 52 = .ok (.ireturn, 1) := by decide +kernel
theorem dX0_judgeOf_53 : decode cX0_judgeOf 53 = .ok (.iinc 5 1, 3) := by decide +kernel
theorem dX0_judgeOf_56 : decode cX0_judgeOf 56 = .ok (.goto (-53), 3) := by decide +kernel
theorem dX0_judgeOf_59 : decode cX0_judgeOf 59 = .ok (.bipush (-9), 2) := by decide +kernel
theorem dX0_judgeOf_61 : decode cX0_judgeOf 61 = .ok (.ireturn, 1) := by decide +kernel
theorem dX1_init_0 : decode cX1_init 0 = .ok (.aload_n 0, 1) := by decide +kernel
theorem dX1_init_1 : decode cX1_init 1 = .ok (.invokespecial 3, 3) := by decide +kernel
theorem dX1_init_4 : decode cX1_init 4 = .ok (.aload_n 0, 1) := by decide +kernel
theorem dX1_init_5 : decode cX1_init 5 = .ok (.bipush 25, 2) := by decide +kernel
theorem dX1_init_7 : decode cX1_init 7 = .ok (.newarray .int, 2) := by decide +kernel
theorem dX1_init_9 : decode cX1_init 9 = .ok (.putfield 9, 3) := by decide +kernel
theorem dX1_init_12 : decode cX1_init 12 = .ok (.aload_n 0, 1) := by decide +kernel
theorem dX1_init_13 : decode cX1_init 13 = .ok (.bipush 6, 2) := by decide +kernel
theorem dX1_init_15 : decode cX1_init 15 = .ok (.newarray .int, 2) := by decide +kernel
theorem dX1_init_17 : decode cX1_init 17 = .ok (.putfield 15, 3) := by decide +kernel
theorem dX1_init_20 : decode cX1_init 20 = .ok (.aload_n 0, 1) := by decide +kernel
theorem dX1_init_21 : decode cX1_init 21 = .ok (.bipush 6, 2) := by decide +kernel
theorem dX1_init_23 : decode cX1_init 23 = .ok (.newarray .int, 2) := by decide +kernel
theorem dX1_init_25 : decode cX1_init 25 = .ok (.putfield 18, 3) := by decide +kernel
theorem dX1_init_28 : decode cX1_init 28 = .ok (.aload_n 0, 1) := by decide +kernel
theorem dX1_init_29 : decode cX1_init 29 = .ok (.bipush 6, 2) := by decide +kernel
theorem dX1_init_31 : decode cX1_init 31 = .ok (.newarray .int, 2) := by decide +kernel
theorem dX1_init_33 : decode cX1_init 33 = .ok (.putfield 21, 3) := by decide +kernel
theorem dX1_init_36 : decode cX1_init 36 = .ok (.return_, 1) := by decide +kernel
theorem dX1_hear_0 : decode cX1_hear 0 = .ok (.aload_n 1, 1) := by decide +kernel
theorem dX1_hear_1 : decode cX1_hear 1 = .ok (.iload_n 2, 1) := by decide +kernel
theorem dX1_hear_2 : decode cX1_hear 2 = .ok (.invokevirtual 24, 3) := by decide +kernel
theorem dX1_hear_5 : decode cX1_hear 5 = .ok (.istore_n 3, 1) := by decide +kernel
theorem dX1_hear_6 : decode cX1_hear 6 = .ok (.aload_n 1, 1) := by decide +kernel
theorem dX1_hear_7 : decode cX1_hear 7 = .ok (.iconst 5, 1) := by decide +kernel
theorem dX1_hear_8 : decode cX1_hear 8 = .ok (.iload_n 3, 1) := by decide +kernel
theorem dX1_hear_9 : decode cX1_hear 9 = .ok (.invokevirtual 30, 3) := by decide +kernel
theorem dX1_hear_12 : decode cX1_hear 12 = .ok (.istore 4, 2) := by decide +kernel
theorem dX1_hear_14 : decode cX1_hear 14 = .ok (.aload_n 1, 1) := by decide +kernel
theorem dX1_hear_15 : decode cX1_hear 15 = .ok (.bipush 6, 2) := by decide +kernel
theorem dX1_hear_17 : decode cX1_hear 17 = .ok (.iload_n 3, 1) := by decide +kernel
theorem dX1_hear_18 : decode cX1_hear 18 = .ok (.invokevirtual 30, 3) := by decide +kernel
theorem dX1_hear_21 : decode cX1_hear 21 = .ok (.istore 5, 2) := by decide +kernel
theorem dX1_hear_23 : decode cX1_hear 23 = .ok (.aload_n 0, 1) := by decide +kernel
theorem dX1_hear_24 : decode cX1_hear 24 = .ok (.iconst 0, 1) := by decide +kernel
theorem dX1_hear_25 : decode cX1_hear 25 = .ok (.putfield 34, 3) := by decide +kernel
theorem dX1_hear_28 : decode cX1_hear 28 = .ok (.aload_n 0, 1) := by decide +kernel
theorem dX1_hear_29 : decode cX1_hear 29 = .ok (.iconst (-1), 1) := by decide +kernel
theorem dX1_hear_30 : decode cX1_hear 30 = .ok (.putfield 38, 3) := by decide +kernel
theorem dX1_hear_33 : decode cX1_hear 33 = .ok (.aload_n 0, 1) := by decide +kernel
theorem dX1_hear_34 : decode cX1_hear 34 = .ok (.iconst 0, 1) := by decide +kernel
theorem dX1_hear_35 : decode cX1_hear 35 = .ok (.putfield 41, 3) := by decide +kernel
theorem dX1_hear_38 : decode cX1_hear 38 = .ok (.iconst 0, 1) := by decide +kernel
theorem dX1_hear_39 : decode cX1_hear 39 = .ok (.istore 6, 2) := by decide +kernel
theorem dX1_hear_41 : decode cX1_hear 41 = .ok (.iload 6, 2) := by decide +kernel
theorem dX1_hear_43 : decode cX1_hear 43 = .ok (.iconst 5, 1) := by decide +kernel
theorem dX1_hear_44 : decode cX1_hear 44 = .ok (.if_icmp .ge 60, 3) := by decide +kernel
theorem dX1_hear_47 : decode cX1_hear 47 = .ok (.iload 4, 2) := by decide +kernel
theorem dX1_hear_49 : decode cX1_hear 49 = .ok (.iload 6, 2) := by decide +kernel
theorem dX1_hear_51 : decode cX1_hear 51 = .ok (.invokestatic 44, 3) := by decide +kernel
theorem dX1_hear_54 : decode cX1_hear 54 = .ok (.ifCond .ne 6, 3) := by decide +kernel
theorem dX1_hear_57 : decode cX1_hear 57 = .ok (.goto 41, 3) := by decide +kernel
theorem dX1_hear_60 : decode cX1_hear 60 = .ok (.iconst 0, 1) := by decide +kernel
theorem dX1_hear_61 : decode cX1_hear 61 = .ok (.istore 7, 2) := by decide +kernel
theorem dX1_hear_63 : decode cX1_hear 63 = .ok (.iload 7, 2) := by decide +kernel
theorem dX1_hear_65 : decode cX1_hear 65 = .ok (.iconst 5, 1) := by decide +kernel
theorem dX1_hear_66 : decode cX1_hear 66 = .ok (.if_icmp .ge 32, 3) := by decide +kernel
theorem dX1_hear_69 : decode cX1_hear 69 = .ok (.iload 5, 2) := by decide +kernel
theorem dX1_hear_71 : decode cX1_hear 71 = .ok (.iload 7, 2) := by decide +kernel
theorem dX1_hear_73 : decode cX1_hear 73 = .ok (.invokestatic 44, 3) := by decide +kernel
theorem dX1_hear_76 : decode cX1_hear 76 = .ok (.ifCond .eq 16, 3) := by decide +kernel
theorem dX1_hear_79 : decode cX1_hear 79 = .ok (.aload_n 0, 1) := by decide +kernel
theorem dX1_hear_80 : decode cX1_hear 80 = .ok (.aload_n 1, 1) := by decide +kernel
theorem dX1_hear_81 : decode cX1_hear 81 = .ok (.iload_n 3, 1) := by decide +kernel
theorem dX1_hear_82 : decode cX1_hear 82 = .ok (.iload 6, 2) := by decide +kernel
theorem dX1_hear_84 : decode cX1_hear 84 = .ok (.iload 7, 2) := by decide +kernel
theorem dX1_hear_86 : decode cX1_hear 86 = .ok (.invokevirtual 48, 3) := by decide +kernel
theorem dX1_hear_89 : decode cX1_hear 89 = .ok (.invokevirtual 52, 3) := by decide +kernel
theorem dX1_hear_92 : decode cX1_hear 92 = .ok (.iinc 7 1, 3) := by decide +kernel
theorem dX1_hear_95 : decode cX1_hear 95 = .ok (.goto (-32), 3) := by decide +kernel
theorem dX1_hear_98 : decode cX1_hear 98 = .ok (.iinc 6 1, 3) := by decide +kernel
theorem dX1_hear_101 : decode cX1_hear 101 = .ok (.goto (-60), 3) := by decide +kernel
theorem dX1_hear_104 : decode cX1_hear 104 = .ok (.return_, 1) := by decide +kernel
theorem dX1_note_0 : decode cX1_note 0 = .ok (.aload_n 0, 1) := by decide +kernel
theorem dX1_note_1 : decode cX1_note 1 = .ok (.getfield 34, 3) := by decide +kernel
theorem dX1_note_4 : decode cX1_note 4 = .ok (.bipush 25, 2) := by decide +kernel
theorem dX1_note_6 : decode cX1_note 6 = .ok (.if_icmp .lt 4, 3) := by decide +kernel
theorem dX1_note_9 : decode cX1_note 9 = .ok (.return_, 1) := by decide +kernel
theorem dX1_note_10 : decode cX1_note 10 = .ok (.aload_n 0, 1) := by decide +kernel
theorem dX1_note_11 : decode cX1_note 11 = .ok (.getfield 9, 3) := by decide +kernel
theorem dX1_note_14 : decode cX1_note 14 = .ok (.aload_n 0, 1) := by decide +kernel
theorem dX1_note_15 : decode cX1_note 15 = .ok (.dup, 1) := by decide +kernel
theorem dX1_note_16 : decode cX1_note 16 = .ok (.getfield 34, 3) := by decide +kernel
theorem dX1_note_19 : decode cX1_note 19 = .ok (.dup_x1, 1) := by decide +kernel
theorem dX1_note_20 : decode cX1_note 20 = .ok (.iconst 1, 1) := by decide +kernel
theorem dX1_note_21 : decode cX1_note 21 = .ok (.iadd, 1) := by decide +kernel
theorem dX1_note_22 : decode cX1_note 22 = .ok (.putfield 34, 3) := by decide +kernel
theorem dX1_note_25 : decode cX1_note 25 = .ok (.iload_n 1, 1) := by decide +kernel
theorem dX1_note_26 : decode cX1_note 26 = .ok (.iastore, 1) := by decide +kernel
theorem dX1_note_27 : decode cX1_note 27 = .ok (.aload_n 0, 1) := by decide +kernel
theorem dX1_note_28 : decode cX1_note 28 = .ok (.dup, 1) := by decide +kernel
theorem dX1_note_29 : decode cX1_note 29 = .ok (.getfield 38, 3) := by decide +kernel
theorem dX1_note_32 : decode cX1_note 32 = .ok (.iload_n 1, 1) := by decide +kernel
theorem dX1_note_33 : decode cX1_note 33 = .ok (.iand, 1) := by decide +kernel
theorem dX1_note_34 : decode cX1_note 34 = .ok (.putfield 38, 3) := by decide +kernel
theorem dX1_note_37 : decode cX1_note 37 = .ok (.aload_n 0, 1) := by decide +kernel
theorem dX1_note_38 : decode cX1_note 38 = .ok (.dup, 1) := by decide +kernel
theorem dX1_note_39 : decode cX1_note 39 = .ok (.getfield 41, 3) := by decide +kernel
theorem dX1_note_42 : decode cX1_note 42 = .ok (.iload_n 1, 1) := by decide +kernel
theorem dX1_note_43 : decode cX1_note 43 = .ok (.ior, 1) := by decide +kernel
theorem dX1_note_44 : decode cX1_note 44 = .ok (.putfield 41, 3) := by decide +kernel
theorem dX1_note_47 : decode cX1_note 47 = .ok (.return_, 1) := by decide +kernel
theorem dX1_waiting_0 : decode cX1_waiting 0 = .ok (.aload_n 0, 1) := by decide +kernel
theorem dX1_waiting_1 : decode cX1_waiting 1 = .ok (.getfield 41, 3) := by decide +kernel
theorem dX1_waiting_4 : decode cX1_waiting 4 = .ok (.aload_n 0, 1) := by decide +kernel
theorem dX1_waiting_5 : decode cX1_waiting 5 = .ok (.getfield 38, 3) := by decide +kernel
theorem dX1_waiting_8 : decode cX1_waiting 8 = .ok (.iconst (-1), 1) := by decide +kernel
theorem dX1_waiting_9 : decode cX1_waiting 9 = .ok (.ixor, 1) := by decide +kernel
theorem dX1_waiting_10 : decode cX1_waiting 10 = .ok (.iand, 1) := by decide +kernel
theorem dX1_waiting_11 : decode cX1_waiting 11 = .ok (.ireturn, 1) := by decide +kernel
theorem dX1_timesOne_0 : decode cX1_timesOne 0 = .ok (.iconst 0, 1) := by decide +kernel
theorem dX1_timesOne_1 : decode cX1_timesOne 1 = .ok (.istore_n 2, 1) := by decide +kernel
theorem dX1_timesOne_2 : decode cX1_timesOne 2 = .ok (.iconst 0, 1) := by decide +kernel
theorem dX1_timesOne_3 : decode cX1_timesOne 3 = .ok (.istore_n 3, 1) := by decide +kernel
theorem dX1_timesOne_4 : decode cX1_timesOne 4 = .ok (.iload_n 3, 1) := by decide +kernel
theorem dX1_timesOne_5 : decode cX1_timesOne 5 = .ok (.aload_n 0, 1) := by decide +kernel
theorem dX1_timesOne_6 : decode cX1_timesOne 6 = .ok (.getfield 34, 3) := by decide +kernel
theorem dX1_timesOne_9 : decode cX1_timesOne 9 = .ok (.if_icmp .ge 25, 3) := by decide +kernel
theorem dX1_timesOne_12 : decode cX1_timesOne 12 = .ok (.aload_n 0, 1) := by decide +kernel
theorem dX1_timesOne_13 : decode cX1_timesOne 13 = .ok (.getfield 9, 3) := by decide +kernel
theorem dX1_timesOne_16 : decode cX1_timesOne 16 = .ok (.iload_n 3, 1) := by decide +kernel
theorem dX1_timesOne_17 : decode cX1_timesOne 17 = .ok (.iaload, 1) := by decide +kernel
theorem dX1_timesOne_18 : decode cX1_timesOne 18 = .ok (.iload_n 1, 1) := by decide +kernel
theorem dX1_timesOne_19 : decode cX1_timesOne 19 = .ok (.invokestatic 44, 3) := by decide +kernel
theorem dX1_timesOne_22 : decode cX1_timesOne 22 = .ok (.ifCond .eq 6, 3) := by decide +kernel
theorem dX1_timesOne_25 : decode cX1_timesOne 25 = .ok (.iinc 2 1, 3) := by decide +kernel
theorem dX1_timesOne_28 : decode cX1_timesOne 28 = .ok (.iinc 3 1, 3) := by decide +kernel
theorem dX1_timesOne_31 : decode cX1_timesOne 31 = .ok (.goto (-27), 3) := by decide +kernel
theorem dX1_timesOne_34 : decode cX1_timesOne 34 = .ok (.iload_n 2, 1) := by decide +kernel
theorem dX1_timesOne_35 : decode cX1_timesOne 35 = .ok (.ireturn, 1) := by decide +kernel
theorem dX1_stateOf_0 : decode cX1_stateOf 0 = .ok (.aload_n 0, 1) := by decide +kernel
theorem dX1_stateOf_1 : decode cX1_stateOf 1 = .ok (.getfield 38, 3) := by decide +kernel
theorem dX1_stateOf_4 : decode cX1_stateOf 4 = .ok (.iload_n 1, 1) := by decide +kernel
theorem dX1_stateOf_5 : decode cX1_stateOf 5 = .ok (.invokestatic 44, 3) := by decide +kernel
theorem dX1_stateOf_8 : decode cX1_stateOf 8 = .ok (.ifCond .eq 5, 3) := by decide +kernel
theorem dX1_stateOf_11 : decode cX1_stateOf 11 = .ok (.iconst 1, 1) := by decide +kernel
theorem dX1_stateOf_12 : decode cX1_stateOf 12 = .ok (.ireturn, 1) := by decide +kernel
theorem dX1_stateOf_13 : decode cX1_stateOf 13 = .ok (.aload_n 0, 1) := by decide +kernel
theorem dX1_stateOf_14 : decode cX1_stateOf 14 = .ok (.getfield 41, 3) := by decide +kernel
theorem dX1_stateOf_17 : decode cX1_stateOf 17 = .ok (.iload_n 1, 1) := by decide +kernel
theorem dX1_stateOf_18 : decode cX1_stateOf 18 = .ok (.invokestatic 44, 3) := by decide +kernel
theorem dX1_stateOf_21 : decode cX1_stateOf 21 = .ok (.ifCond .eq 8, 3) := by decide +kernel
theorem dX1_stateOf_24 : decode cX1_stateOf 24 = .ok (.bipush (-9), 2) := by decide +kernel
theorem dX1_stateOf_26 : decode cX1_stateOf 26 = .ok (.goto 4, 3) := by decide +kernel
theorem dX1_stateOf_29 : decode cX1_stateOf 29 = .ok (.iconst 0, 1) := by decide +kernel
theorem dX1_stateOf_30 : decode cX1_stateOf 30 = .ok (.ireturn, 1) := by decide +kernel
theorem dX1_waitingInAll_0 : decode cX1_waitingInAll 0 = .ok (.iconst 0, 1) := by decide +kernel
theorem dX1_waitingInAll_1 : decode cX1_waitingInAll 1 = .ok (.istore_n 2, 1) := by decide +kernel
theorem dX1_waitingInAll_2 : decode cX1_waitingInAll 2 = .ok (.iconst 0, 1) := by decide +kernel
theorem dX1_waitingInAll_3 : decode cX1_waitingInAll 3 = .ok (.istore_n 3, 1) := by decide +kernel
theorem dX1_waitingInAll_4 : decode cX1_waitingInAll 4 = .ok (.iload_n 3, 1) := by decide +kernel
theorem dX1_waitingInAll_5 : decode cX1_waitingInAll 5 = .ok (.aload_n 1, 1) := by decide +kernel
theorem dX1_waitingInAll_6 : decode cX1_waitingInAll 6 = .ok (.getfield 56, 3) := by decide +kernel
theorem dX1_waitingInAll_9 : decode cX1_waitingInAll 9 = .ok (.if_icmp .ge 25, 3) := by decide +kernel
theorem dX1_waitingInAll_12 : decode cX1_waitingInAll 12 = .ok (.aload_n 0, 1) := by decide +kernel
theorem dX1_waitingInAll_13 : decode cX1_waitingInAll 13 = .ok (.aload_n 1, 1) := by decide +kernel
theorem dX1_waitingInAll_14 : decode cX1_waitingInAll 14 = .ok (.iload_n 3, 1) := by decide +kernel
theorem dX1_waitingInAll_15 : decode cX1_waitingInAll 15 = .ok (.invokevirtual 59, 3) := by decide +kernel
theorem dX1_waitingInAll_18 : decode cX1_waitingInAll 18 = .ok (.iload_n 2, 1) := by decide +kernel
theorem dX1_waitingInAll_19 : decode cX1_waitingInAll 19 = .ok (.aload_n 0, 1) := by decide +kernel
theorem dX1_waitingInAll_20 : decode cX1_waitingInAll 20 = .ok (.invokevirtual 63, 3) := by decide +kernel
theorem dX1_waitingInAll_23 : decode cX1_waitingInAll 23 = .ok (.invokestatic 67, 3) := by decide +kernel
theorem dX1_waitingInAll_26 : decode cX1_waitingInAll 26 = .ok (.iadd, 1) := by decide +kernel
theorem dX1_waitingInAll_27 : decode cX1_waitingInAll 27 = .ok (.istore_n 2, 1) := by decide +kernel
theorem dX1_waitingInAll_28 : decode cX1_waitingInAll 28 = .ok (.iinc 3 1, 3) := by decide +kernel
theorem dX1_waitingInAll_31 : decode cX1_waitingInAll 31 = .ok (.goto (-27), 3) := by decide +kernel
theorem dX1_waitingInAll_34 : decode cX1_waitingInAll 34 = .ok (.iload_n 2, 1) := by decide +kernel
theorem dX1_waitingInAll_35 : decode cX1_waitingInAll 35 = .ok (.ireturn, 1) := by decide +kernel
theorem dX1_hearReading_0 : decode cX1_hearReading 0 = .ok (.aload_n 0, 1) := by decide +kernel
theorem dX1_hearReading_1 : decode cX1_hearReading 1 = .ok (.aload_n 1, 1) := by decide +kernel
theorem dX1_hearReading_2 : decode cX1_hearReading 2 = .ok (.getfield 56, 3) := by decide +kernel
theorem dX1_hearReading_5 : decode cX1_hearReading 5 = .ok (.putfield 72, 3) := by decide +kernel
theorem dX1_hearReading_8 : decode cX1_hearReading 8 = .ok (.iconst 0, 1) := by decide +kernel
theorem dX1_hearReading_9 : decode cX1_hearReading 9 = .ok (.istore_n 2, 1) := by decide +kernel
theorem dX1_hearReading_10 : decode cX1_hearReading 10 = .ok (.iload_n 2, 1) := by decide +kernel
theorem dX1_hearReading_11 : decode cX1_hearReading 11 = .ok (.aload_n 0, 1) := by decide +kernel
theorem dX1_hearReading_12 : decode cX1_hearReading 12 = .ok (.getfield 72, 3) := by decide +kernel
theorem dX1_hearReading_15 : decode cX1_hearReading 15 = .ok (.if_icmp .ge 35, 3) := by decide +kernel
theorem dX1_hearReading_18 : decode cX1_hearReading 18 = .ok (.aload_n 0, 1) := by decide +kernel
theorem dX1_hearReading_19 : decode cX1_hearReading 19 = .ok (.aload_n 1, 1) := by decide +kernel
theorem dX1_hearReading_20 : decode cX1_hearReading 20 = .ok (.iload_n 2, 1) := by decide +kernel
theorem dX1_hearReading_21 : decode cX1_hearReading 21 = .ok (.invokevirtual 59, 3) := by decide +kernel
theorem dX1_hearReading_24 : decode cX1_hearReading 24 = .ok (.aload_n 0, 1) := by decide +kernel
theorem dX1_hearReading_25 : decode cX1_hearReading 25 = .ok (.getfield 15, 3) := by decide +kernel
theorem dX1_hearReading_28 : decode cX1_hearReading 28 = .ok (.iload_n 2, 1) := by decide +kernel
theorem dX1_hearReading_29 : decode cX1_hearReading 29 = .ok (.aload_n 0, 1) := by decide +kernel
theorem dX1_hearReading_30 : decode cX1_hearReading 30 = .ok (.getfield 38, 3) := by decide +kernel
theorem dX1_hearReading_33 : decode cX1_hearReading 33 = .ok (.iastore, 1) := by decide +kernel
theorem dX1_hearReading_34 : decode cX1_hearReading 34 = .ok (.aload_n 0, 1) := by decide +kernel
theorem dX1_hearReading_35 : decode cX1_hearReading 35 = .ok (.getfield 18, 3) := by decide +kernel
theorem dX1_hearReading_38 : decode cX1_hearReading 38 = .ok (.iload_n 2, 1) := by decide +kernel
theorem dX1_hearReading_39 : decode cX1_hearReading 39 = .ok (.aload_n 0, 1) := by decide +kernel
theorem dX1_hearReading_40 : decode cX1_hearReading 40 = .ok (.getfield 41, 3) := by decide +kernel
theorem dX1_hearReading_43 : decode cX1_hearReading 43 = .ok (.iastore, 1) := by decide +kernel
theorem dX1_hearReading_44 : decode cX1_hearReading 44 = .ok (.iinc 2 1, 3) := by decide +kernel
theorem dX1_hearReading_47 : decode cX1_hearReading 47 = .ok (.goto (-37), 3) := by decide +kernel
theorem dX1_hearReading_50 : decode cX1_hearReading 50 = .ok (.return_, 1) := by decide +kernel
theorem dX1_trace_0 : decode cX1_trace 0 = .ok (.iconst 0, 1) := by decide +kernel
theorem dX1_trace_1 : decode cX1_trace 1 = .ok (.istore_n 2, 1) := by decide +kernel
theorem dX1_trace_2 : decode cX1_trace 2 = .ok (.bipush (-9), 2) := by decide +kernel
theorem dX1_trace_4 : decode cX1_trace 4 = .ok (.istore_n 3, 1) := by decide +kernel
theorem dX1_trace_5 : decode cX1_trace 5 = .ok (.iconst 0, 1) := by decide +kernel
theorem dX1_trace_6 : decode cX1_trace 6 = .ok (.istore 4, 2) := by decide +kernel
theorem dX1_trace_8 : decode cX1_trace 8 = .ok (.iload 4, 2) := by decide +kernel
theorem dX1_trace_10 : decode cX1_trace 10 = .ok (.aload_n 0, 1) := by decide +kernel
theorem dX1_trace_11 : decode cX1_trace 11 = .ok (.getfield 72, 3) := by decide +kernel
theorem dX1_trace_14 : decode cX1_trace 14 = .ok (.if_icmp .ge 82, 3) := by decide +kernel
theorem dX1_trace_17 : decode cX1_trace 17 = .ok (.aload_n 0, 1) := by decide +kernel
theorem dX1_trace_18 : decode cX1_trace 18 = .ok (.getfield 15, 3) := by decide +kernel
theorem dX1_trace_21 : decode cX1_trace 21 = .ok (.iload 4, 2) := by decide +kernel
theorem dX1_trace_23 : decode cX1_trace 23 = .ok (.iaload, 1) := by decide +kernel
theorem dX1_trace_24 : decode cX1_trace 24 = .ok (.iload_n 1, 1) := by decide +kernel
theorem dX1_trace_25 : decode cX1_trace 25 = .ok (.invokestatic 44, 3) := by decide +kernel
theorem dX1_trace_28 : decode cX1_trace 28 = .ok (.istore 5, 2) := by decide +kernel
theorem dX1_trace_30 : decode cX1_trace 30 = .ok (.iload 5, 2) := by decide +kernel
theorem dX1_trace_32 : decode cX1_trace 32 = .ok (.ifCond .ne 20, 3) := by decide +kernel
theorem dX1_trace_35 : decode cX1_trace 35 = .ok (.aload_n 0, 1) := by decide +kernel
theorem dX1_trace_36 : decode cX1_trace 36 = .ok (.getfield 18, 3) := by decide +kernel
theorem dX1_trace_39 : decode cX1_trace 39 = .ok (.iload 4, 2) := by decide +kernel
theorem dX1_trace_41 : decode cX1_trace 41 = .ok (.iaload, 1) := by decide +kernel
theorem dX1_trace_42 : decode cX1_trace 42 = .ok (.iload_n 1, 1) := by decide +kernel
theorem dX1_trace_43 : decode cX1_trace 43 = .ok (.invokestatic 44, 3) := by decide +kernel
theorem dX1_trace_46 : decode cX1_trace 46 = .ok (.ifCond .eq 6, 3) := by decide +kernel
theorem dX1_trace_49 : decode cX1_trace 49 = .ok (.goto 41, 3) := by decide +kernel
theorem dX1_trace_52 : decode cX1_trace 52 = .ok (.iload 5, 2) := by decide +kernel
theorem dX1_trace_54 : decode cX1_trace 54 = .ok (.ifCond .eq 7, 3) := by decide +kernel
theorem dX1_trace_57 : decode cX1_trace 57 = .ok (.iconst 1, 1) := by decide +kernel
theorem dX1_trace_58 : decode cX1_trace 58 = .ok (.goto 4, 3) := by decide +kernel
theorem dX1_trace_61 : decode cX1_trace 61 = .ok (.iconst 0, 1) := by decide +kernel
theorem dX1_trace_62 : decode cX1_trace 62 = .ok (.istore 6, 2) := by decide +kernel
theorem dX1_trace_64 : decode cX1_trace 64 = .ok (.iload_n 3, 1) := by decide +kernel
theorem dX1_trace_65 : decode cX1_trace 65 = .ok (.bipush (-9), 2) := by decide +kernel
theorem dX1_trace_67 : decode cX1_trace 67 = .ok (.if_icmp .eq 20, 3) := by decide +kernel
theorem dX1_trace_70 : decode cX1_trace 70 = .ok (.iload_n 3, 1) := by decide +kernel
theorem dX1_trace_71 : decode cX1_trace 71 = .ok (.iload 6, 2) := by decide +kernel
theorem dX1_trace_73 : decode cX1_trace 73 = .ok (.if_icmp .eq 14, 3) := by decide +kernel
theorem dX1_trace_76 : decode cX1_trace 76 = .ok (.aload_n 0, 1) := by decide +kernel
theorem dX1_trace_77 : decode cX1_trace 77 = .ok (.getfield 21, 3) := by decide +kernel
theorem dX1_trace_80 : decode cX1_trace 80 = .ok (.iload_n 2, 1) := by decide +kernel
theorem dX1_trace_81 : decode cX1_trace 81 = .ok (.iinc 2 1, 3) := by decide +kernel
theorem dX1_trace_84 : decode cX1_trace 84 = .ok (.iload 4, 2) := by decide +kernel
theorem dX1_trace_86 : decode cX1_trace 86 = .ok (.iastore, 1) := by decide +kernel
theorem dX1_trace_87 : decode cX1_trace 87 = .ok (.iload 6, 2) := by decide +kernel
theorem dX1_trace_89 : decode cX1_trace 89 = .ok (.istore_n 3, 1) := by decide +kernel
theorem dX1_trace_90 : decode cX1_trace 90 = .ok (.iinc 4 1, 3) := by decide +kernel
theorem dX1_trace_93 : decode cX1_trace 93 = .ok (.goto (-85), 3) := by decide +kernel
theorem dX1_trace_96 : decode cX1_trace 96 = .ok (.iload_n 2, 1) := by decide +kernel
theorem dX1_trace_97 : decode cX1_trace 97 = .ok (.ireturn, 1) := by decide +kernel
theorem dX2_init_0 : decode cX2_init 0 = .ok (.aload_n 0, 1) := by decide +kernel
theorem dX2_init_1 : decode cX2_init 1 = .ok (.invokespecial 3, 3) := by decide +kernel
theorem dX2_init_4 : decode cX2_init 4 = .ok (.aload_n 0, 1) := by decide +kernel
theorem dX2_init_5 : decode cX2_init 5 = .ok (.bipush 6, 2) := by decide +kernel
theorem dX2_init_7 : decode cX2_init 7 = .ok (.newarray .int, 2) := by decide +kernel
theorem dX2_init_9 : decode cX2_init 9 = .ok (.putfield 9, 3) := by decide +kernel
theorem dX2_init_12 : decode cX2_init 12 = .ok (.aload_n 0, 1) := by decide +kernel
theorem dX2_init_13 : decode cX2_init 13 = .ok (.bipush 6, 2) := by decide +kernel
theorem dX2_init_15 : decode cX2_init 15 = .ok (.newarray .int, 2) := by decide +kernel
theorem dX2_init_17 : decode cX2_init 17 = .ok (.putfield 15, 3) := by decide +kernel
theorem dX2_init_20 : decode cX2_init 20 = .ok (.return_, 1) := by decide +kernel
theorem dX2_findBest_0 : decode cX2_findBest 0 = .ok (.aload_n 0, 1) := by decide +kernel
theorem dX2_findBest_1 : decode cX2_findBest 1 = .ok (.sipush 193, 3) := by decide +kernel
theorem dX2_findBest_4 : decode cX2_findBest 4 = .ok (.putfield 18, 3) := by decide +kernel
theorem dX2_findBest_7 : decode cX2_findBest 7 = .ok (.iconst 0, 1) := by decide +kernel
theorem dX2_findBest_8 : decode cX2_findBest 8 = .ok (.istore_n 3, 1) := by decide +kernel
theorem dX2_findBest_9 : decode cX2_findBest 9 = .ok (.iload_n 3, 1) := by decide +kernel
theorem dX2_findBest_10 : decode cX2_findBest 10 = .ok (.aload_n 1, 1) := by decide +kernel
theorem dX2_findBest_11 : decode cX2_findBest 11 = .ok (.getfield 22, 3) := by decide +kernel
theorem dX2_findBest_14 : decode cX2_findBest 14 = .ok (.if_icmp .ge 20, 3) := by decide +kernel
theorem dX2_findBest_17 : decode cX2_findBest 17 = .ok (.aload_n 1, 1) := by decide +kernel
theorem dX2_findBest_18 : decode cX2_findBest 18 = .ok (.getfield 27, 3) := by decide +kernel
theorem dX2_findBest_21 : decode cX2_findBest 21 = .ok (.iload_n 3, 1) := by decide +kernel
theorem dX2_findBest_22 : decode cX2_findBest 22 = .ok (.aaload, 1) := by decide +kernel
theorem dX2_findBest_23 : decode cX2_findBest 23 = .ok (.bipush 99, 2) := by decide +kernel
theorem dX2_findBest_25 : decode cX2_findBest 25 = .ok (.putfield 31, 3) := by decide +kernel
theorem dX2_findBest_28 : decode cX2_findBest 28 = .ok (.iinc 3 1, 3) := by decide +kernel
theorem dX2_findBest_31 : decode cX2_findBest 31 = .ok (.goto (-22), 3) := by decide +kernel
theorem dX2_findBest_34 : decode cX2_findBest 34 = .ok (.aload_n 0, 1) := by decide +kernel
theorem dX2_findBest_35 : decode cX2_findBest 35 = .ok (.aload_n 1, 1) := by decide +kernel
theorem dX2_findBest_36 : decode cX2_findBest 36 = .ok (.aload_n 2, 1) := by decide +kernel
theorem dX2_findBest_37 : decode cX2_findBest 37 = .ok (.iconst 0, 1) := by decide +kernel
theorem dX2_findBest_38 : decode cX2_findBest 38 = .ok (.iconst 0, 1) := by decide +kernel
theorem dX2_findBest_39 : decode cX2_findBest 39 = .ok (.invokevirtual 36, 3) := by decide +kernel
theorem dX2_findBest_42 : decode cX2_findBest 42 = .ok (.return_, 1) := by decide +kernel
theorem dX2_tryDay_0 : decode cX2_tryDay 0 = .ok (.iconst 0, 1) := by decide +kernel
theorem dX2_tryDay_1 : decode cX2_tryDay 1 = .ok (.istore 5, 2) := by decide +kernel
theorem dX2_tryDay_3 : decode cX2_tryDay 3 = .ok (.iload 5, 2) := by decide +kernel
theorem dX2_tryDay_5 : decode cX2_tryDay 5 = .ok (.aload_n 1, 1) := by decide +kernel
theorem dX2_tryDay_6 : decode cX2_tryDay 6 = .ok (.getfield 22, 3) := by decide +kernel
theorem dX2_tryDay_9 : decode cX2_tryDay 9 = .ok (.if_icmp .ge 102, 3) := by decide +kernel
theorem dX2_tryDay_12 : decode cX2_tryDay 12 = .ok (.iload_n 3, 1) := by decide +kernel
theorem dX2_tryDay_13 : decode cX2_tryDay 13 = .ok (.aload_n 1, 1) := by decide +kernel
theorem dX2_tryDay_14 : decode cX2_tryDay 14 = .ok (.getfield 22, 3) := by decide +kernel
theorem dX2_tryDay_17 : decode cX2_tryDay 17 = .ok (.if_icmp .ge 94, 3) := by decide +kernel
theorem dX2_tryDay_20 : decode cX2_tryDay 20 = .ok (.aload_n 1, 1) := by decide +kernel
theorem dX2_tryDay_21 : decode cX2_tryDay 21 = .ok (.getfield 27, 3) := by decide +kernel
theorem dX2_tryDay_24 : decode cX2_tryDay 24 = .ok (.iload 5, 2) := by decide +kernel
theorem dX2_tryDay_26 : decode cX2_tryDay 26 = .ok (.aaload, 1) := by decide +kernel
theorem dX2_tryDay_27 : decode cX2_tryDay 27 = .ok (.getfield 31, 3) := by decide +kernel
theorem dX2_tryDay_30 : decode cX2_tryDay 30 = .ok (.bipush 99, 2) := by decide +kernel
theorem dX2_tryDay_32 : decode cX2_tryDay 32 = .ok (.if_icmp .eq 6, 3) := by decide +kernel
theorem dX2_tryDay_35 : decode cX2_tryDay 35 = .ok (.goto 70, 3) := by decide +kernel
theorem dX2_tryDay_38 : decode cX2_tryDay 38 = .ok (.aload_n 1, 1) := by decide +kernel
theorem dX2_tryDay_39 : decode cX2_tryDay 39 = .ok (.getfield 27, 3) := by decide +kernel
theorem dX2_tryDay_42 : decode cX2_tryDay 42 = .ok (.iload 5, 2) := by decide +kernel
theorem dX2_tryDay_44 : decode cX2_tryDay 44 = .ok (.aaload, 1) := by decide +kernel
theorem dX2_tryDay_45 : decode cX2_tryDay 45 = .ok (.iload_n 3, 1) := by decide +kernel
theorem dX2_tryDay_46 : decode cX2_tryDay 46 = .ok (.putfield 31, 3) := by decide +kernel
theorem dX2_tryDay_49 : decode cX2_tryDay 49 = .ok (.aload_n 2, 1) := by decide +kernel
theorem dX2_tryDay_50 : decode cX2_tryDay 50 = .ok (.aload_n 1, 1) := by decide +kernel
theorem dX2_tryDay_51 : decode cX2_tryDay 51 = .ok (.iload_n 3, 1) := by decide +kernel
theorem dX2_tryDay_52 : decode cX2_tryDay 52 = .ok (.invokevirtual 40, 3) := by decide +kernel
theorem dX2_tryDay_55 : decode cX2_tryDay 55 = .ok (.iload 4, 2) := by decide +kernel
theorem dX2_tryDay_57 : decode cX2_tryDay 57 = .ok (.aload_n 2, 1) := by decide +kernel
theorem dX2_tryDay_58 : decode cX2_tryDay 58 = .ok (.invokevirtual 46, 3) := by decide +kernel
theorem dX2_tryDay_61 : decode cX2_tryDay 61 = .ok (.invokestatic 50, 3) := by decide +kernel
theorem dX2_tryDay_64 : decode cX2_tryDay 64 = .ok (.iadd, 1) := by decide +kernel
theorem dX2_tryDay_65 : decode cX2_tryDay 65 = .ok (.istore 6, 2) := by decide +kernel
theorem dX2_tryDay_67 : decode cX2_tryDay 67 = .ok (.iload 6, 2) := by decide +kernel
theorem dX2_tryDay_69 : decode cX2_tryDay 69 = .ok (.aload_n 0, 1) := by decide +kernel
theorem dX2_tryDay_70 : decode cX2_tryDay 70 = .ok (.getfield 18, 3) := by decide +kernel
theorem dX2_tryDay_73 : decode cX2_tryDay 73 = .ok (.if_icmp .ge 20, 3) := by decide +kernel
theorem dX2_tryDay_76 : decode cX2_tryDay 76 = .ok (.aload_n 0, 1) := by decide +kernel
theorem dX2_tryDay_77 : decode cX2_tryDay 77 = .ok (.getfield 9, 3) := by decide +kernel
theorem dX2_tryDay_80 : decode cX2_tryDay 80 = .ok (.iload_n 3, 1) := by decide +kernel
theorem dX2_tryDay_81 : decode cX2_tryDay 81 = .ok (.iload 5, 2) := by decide +kernel
theorem dX2_tryDay_83 : decode cX2_tryDay 83 = .ok (.iastore, 1) := by decide +kernel
theorem dX2_tryDay_84 : decode cX2_tryDay 84 = .ok (.aload_n 0, 1) := by decide +kernel
theorem dX2_tryDay_85 : decode cX2_tryDay 85 = .ok (.aload_n 1, 1) := by decide +kernel
theorem dX2_tryDay_86 : decode cX2_tryDay 86 = .ok (.aload_n 2, 1) := by decide +kernel
theorem dX2_tryDay_87 : decode cX2_tryDay 87 = .ok (.iload_n 3, 1) := by decide +kernel
theorem dX2_tryDay_88 : decode cX2_tryDay 88 = .ok (.iload 6, 2) := by decide +kernel
theorem dX2_tryDay_90 : decode cX2_tryDay 90 = .ok (.invokevirtual 56, 3) := by decide +kernel
theorem dX2_tryDay_93 : decode cX2_tryDay 93 = .ok (.aload_n 1, 1) := by decide +kernel
theorem dX2_tryDay_94 : decode cX2_tryDay 94 = .ok (.getfield 27, 3) := by decide +kernel
theorem dX2_tryDay_97 : decode cX2_tryDay 97 = .ok (.iload 5, 2) := by decide +kernel
theorem dX2_tryDay_99 : decode cX2_tryDay 99 = .ok (.aaload, 1) := by decide +kernel
theorem dX2_tryDay_100 : decode cX2_tryDay 100 = .ok (.bipush 99, 2) := by decide +kernel
theorem dX2_tryDay_102 : decode cX2_tryDay 102 = .ok (.putfield 31, 3) := by decide +kernel
theorem dX2_tryDay_105 : decode cX2_tryDay 105 = .ok (.iinc 5 1, 3) := by decide +kernel
theorem dX2_tryDay_108 : decode cX2_tryDay 108 = .ok (.goto (-105), 3) := by decide +kernel
theorem dX2_tryDay_111 : decode cX2_tryDay 111 = .ok (.return_, 1) := by decide +kernel
theorem dX2_goOn_0 : decode cX2_goOn 0 = .ok (.iload_n 3, 1) := by decide +kernel
theorem dX2_goOn_1 : decode cX2_goOn 1 = .ok (.iconst 1, 1) := by decide +kernel
theorem dX2_goOn_2 : decode cX2_goOn 2 = .ok (.iadd, 1) := by decide +kernel
theorem dX2_goOn_3 : decode cX2_goOn 3 = .ok (.aload_n 1, 1) := by decide +kernel
theorem dX2_goOn_4 : decode cX2_goOn 4 = .ok (.getfield 22, 3) := by decide +kernel
theorem dX2_goOn_7 : decode cX2_goOn 7 = .ok (.if_icmp .ge 17, 3) := by decide +kernel
theorem dX2_goOn_10 : decode cX2_goOn 10 = .ok (.aload_n 0, 1) := by decide +kernel
theorem dX2_goOn_11 : decode cX2_goOn 11 = .ok (.aload_n 1, 1) := by decide +kernel
theorem dX2_goOn_12 : decode cX2_goOn 12 = .ok (.aload_n 2, 1) := by decide +kernel
theorem dX2_goOn_13 : decode cX2_goOn 13 = .ok (.iload_n 3, 1) := by decide +kernel
theorem dX2_goOn_14 : decode cX2_goOn 14 = .ok (.iconst 1, 1) := by decide +kernel
theorem dX2_goOn_15 : decode cX2_goOn 15 = .ok (.iadd, 1) := by decide +kernel
theorem dX2_goOn_16 : decode cX2_goOn 16 = .ok (.iload 4, 2) := by decide +kernel
theorem dX2_goOn_18 : decode cX2_goOn 18 = .ok (.invokevirtual 36, 3) := by decide +kernel
theorem dX2_goOn_21 : decode cX2_goOn 21 = .ok (.goto 26, 3) := by decide +kernel
theorem dX2_goOn_24 : decode cX2_goOn 24 = .ok (.aload_n 0, 1) := by decide +kernel
theorem dX2_goOn_25 : decode cX2_goOn 25 = .ok (.iload 4, 2) := by decide +kernel
theorem dX2_goOn_27 : decode cX2_goOn 27 = .ok (.putfield 18, 3) := by decide +kernel
theorem dX2_goOn_30 : decode cX2_goOn 30 = .ok (.aload_n 0, 1) := by decide +kernel
theorem dX2_goOn_31 : decode cX2_goOn 31 = .ok (.getfield 9, 3) := by decide +kernel
theorem dX2_goOn_34 : decode cX2_goOn 34 = .ok (.iconst 0, 1) := by decide +kernel
theorem dX2_goOn_35 : decode cX2_goOn 35 = .ok (.aload_n 0, 1) := by decide +kernel
theorem dX2_goOn_36 : decode cX2_goOn 36 = .ok (.getfield 15, 3) := by decide +kernel
theorem dX2_goOn_39 : decode cX2_goOn 39 = .ok (.iconst 0, 1) := by decide +kernel
theorem dX2_goOn_40 : decode cX2_goOn 40 = .ok (.aload_n 1, 1) := by decide +kernel
theorem dX2_goOn_41 : decode cX2_goOn 41 = .ok (.getfield 22, 3) := by decide +kernel
theorem dX2_goOn_44 : decode cX2_goOn 44 = .ok (.invokestatic 59, 3) := by decide +kernel
theorem dX2_goOn_47 : decode cX2_goOn 47 = .ok (.return_, 1) := by decide +kernel
theorem dX3_init_0 : decode cX3_init 0 = .ok (.aload_n 0, 1) := by decide +kernel
theorem dX3_init_1 : decode cX3_init 1 = .ok (.invokespecial 3, 3) := by decide +kernel
theorem dX3_init_4 : decode cX3_init 4 = .ok (.return_, 1) := by decide +kernel
theorem dX3_become_0 : decode cX3_become 0 = .ok (.aload_n 0, 1) := by decide +kernel
theorem dX3_become_1 : decode cX3_become 1 = .ok (.aload_n 1, 1) := by decide +kernel
theorem dX3_become_2 : decode cX3_become 2 = .ok (.getfield 9, 3) := by decide +kernel
theorem dX3_become_5 : decode cX3_become 5 = .ok (.putfield 9, 3) := by decide +kernel
theorem dX3_become_8 : decode cX3_become 8 = .ok (.aload_n 0, 1) := by decide +kernel
theorem dX3_become_9 : decode cX3_become 9 = .ok (.aload_n 1, 1) := by decide +kernel
theorem dX3_become_10 : decode cX3_become 10 = .ok (.getfield 15, 3) := by decide +kernel
theorem dX3_become_13 : decode cX3_become 13 = .ok (.putfield 15, 3) := by decide +kernel
theorem dX3_become_16 : decode cX3_become 16 = .ok (.aload_n 0, 1) := by decide +kernel
theorem dX3_become_17 : decode cX3_become 17 = .ok (.aload_n 1, 1) := by decide +kernel
theorem dX3_become_18 : decode cX3_become 18 = .ok (.getfield 18, 3) := by decide +kernel
theorem dX3_become_21 : decode cX3_become 21 = .ok (.putfield 18, 3) := by decide +kernel
theorem dX3_become_24 : decode cX3_become 24 = .ok (.aload_n 0, 1) := by decide +kernel
theorem dX3_become_25 : decode cX3_become 25 = .ok (.aload_n 1, 1) := by decide +kernel
theorem dX3_become_26 : decode cX3_become 26 = .ok (.getfield 21, 3) := by decide +kernel
theorem dX3_become_29 : decode cX3_become 29 = .ok (.putfield 21, 3) := by decide +kernel
theorem dX3_become_32 : decode cX3_become 32 = .ok (.aload_n 0, 1) := by decide +kernel
theorem dX3_become_33 : decode cX3_become 33 = .ok (.aload_n 1, 1) := by decide +kernel
theorem dX3_become_34 : decode cX3_become 34 = .ok (.getfield 24, 3) := by decide +kernel
theorem dX3_become_37 : decode cX3_become 37 = .ok (.putfield 24, 3) := by decide +kernel
theorem dX3_become_40 : decode cX3_become 40 = .ok (.aload_n 0, 1) := by decide +kernel
theorem dX3_become_41 : decode cX3_become 41 = .ok (.aload_n 1, 1) := by decide +kernel
theorem dX3_become_42 : decode cX3_become 42 = .ok (.getfield 27, 3) := by decide +kernel
theorem dX3_become_45 : decode cX3_become 45 = .ok (.putfield 27, 3) := by decide +kernel
theorem dX3_become_48 : decode cX3_become 48 = .ok (.aload_n 0, 1) := by decide +kernel
theorem dX3_become_49 : decode cX3_become 49 = .ok (.aload_n 1, 1) := by decide +kernel
theorem dX3_become_50 : decode cX3_become 50 = .ok (.getfield 30, 3) := by decide +kernel
theorem dX3_become_53 : decode cX3_become 53 = .ok (.putfield 30, 3) := by decide +kernel
theorem dX3_become_56 : decode cX3_become 56 = .ok (.return_, 1) := by decide +kernel
theorem dX3_putWords_0 : decode cX3_putWords 0 = .ok (.aload_n 0, 1) := by decide +kernel
theorem dX3_putWords_1 : decode cX3_putWords 1 = .ok (.iload_n 1, 1) := by decide +kernel
theorem dX3_putWords_2 : decode cX3_putWords 2 = .ok (.putfield 21, 3) := by decide +kernel
theorem dX3_putWords_5 : decode cX3_putWords 5 = .ok (.aload_n 0, 1) := by decide +kernel
theorem dX3_putWords_6 : decode cX3_putWords 6 = .ok (.iconst (-1), 1) := by decide +kernel
theorem dX3_putWords_7 : decode cX3_putWords 7 = .ok (.putfield 30, 3) := by decide +kernel
theorem dX3_putWords_10 : decode cX3_putWords 10 = .ok (.iconst 0, 1) := by decide +kernel
theorem dX3_putWords_11 : decode cX3_putWords 11 = .ok (.istore_n 2, 1) := by decide +kernel
theorem dX3_putWords_12 : decode cX3_putWords 12 = .ok (.iload_n 2, 1) := by decide +kernel
theorem dX3_putWords_13 : decode cX3_putWords 13 = .ok (.iconst 5, 1) := by decide +kernel
theorem dX3_putWords_14 : decode cX3_putWords 14 = .ok (.if_icmp .ge 31, 3) := by decide +kernel
theorem dX3_putWords_17 : decode cX3_putWords 17 = .ok (.iload_n 1, 1) := by decide +kernel
theorem dX3_putWords_18 : decode cX3_putWords 18 = .ok (.iload_n 2, 1) := by decide +kernel
theorem dX3_putWords_19 : decode cX3_putWords 19 = .ok (.invokestatic 33, 3) := by decide +kernel
theorem dX3_putWords_22 : decode cX3_putWords 22 = .ok (.ifCond .eq 17, 3) := by decide +kernel
theorem dX3_putWords_25 : decode cX3_putWords 25 = .ok (.aload_n 0, 1) := by decide +kernel
theorem dX3_putWords_26 : decode cX3_putWords 26 = .ok (.dup, 1) := by decide +kernel
theorem dX3_putWords_27 : decode cX3_putWords 27 = .ok (.getfield 30, 3) := by decide +kernel
theorem dX3_putWords_30 : decode cX3_putWords 30 = .ok (.getstatic 37, 3) := by decide +kernel
theorem dX3_putWords_33 : decode cX3_putWords 33 = .ok (.iload_n 2, 1) := by decide +kernel
theorem dX3_putWords_34 : decode cX3_putWords 34 = .ok (.iaload, 1) := by decide +kernel
theorem dX3_putWords_35 : decode cX3_putWords 35 = .ok (.iand, 1) := by decide +kernel
theorem dX3_putWords_36 : decode cX3_putWords 36 = .ok (.putfield 30, 3) := by decide +kernel
theorem dX3_putWords_39 : decode cX3_putWords 39 = .ok (.iinc 2 1, 3) := by decide +kernel
theorem dX3_putWords_42 : decode cX3_putWords 42 = .ok (.goto (-30), 3) := by decide +kernel
theorem dX3_putWords_45 : decode cX3_putWords 45 = .ok (.return_, 1) := by decide +kernel
theorem dX3_isOf_0 : decode cX3_isOf 0 = .ok (.iload_n 1, 1) := by decide +kernel
theorem dX3_isOf_1 : decode cX3_isOf 1 = .ok (.lookupswitch 71 #[(1, 27), (2, 49)], 27) := by decide +kernel
theorem dX3_isOf_28 : decode cX3_isOf 28 = .ok (.aload_n 0, 1) := by decide +kernel
theorem dX3_isOf_29 : decode cX3_isOf 29 = .ok (.getfield 9, 3) := by decide +kernel
theorem dX3_isOf_32 : decode cX3_isOf 32 = .ok (.iconst 1, 1) := by decide +kernel
theorem dX3_isOf_33 : decode cX3_isOf 33 = .ok (.if_icmp .eq 11, 3) := by decide +kernel
theorem dX3_isOf_36 : decode cX3_isOf 36 = .ok (.aload_n 0, 1) := by decide +kernel
theorem dX3_isOf_37 : decode cX3_isOf 37 = .ok (.getfield 9, 3) := by decide +kernel
theorem dX3_isOf_40 : decode cX3_isOf 40 = .ok (.iconst 4, 1) := by decide +kernel
theorem dX3_isOf_41 : decode cX3_isOf 41 = .ok (.if_icmp .ne 7, 3) := by decide +kernel
theorem dX3_isOf_44 : decode cX3_isOf 44 = .ok (.iconst 1, 1) := by decide +kernel
theorem dX3_isOf_45 : decode cX3_isOf 45 = .ok (.goto 4, 3) := by decide +kernel
theorem dX3_isOf_48 : decode cX3_isOf 48 = .ok (.iconst 0, 1) := by decide +kernel
theorem dX3_isOf_49 : decode cX3_isOf 49 = .ok (.ireturn, 1) := by decide +kernel
theorem dX3_isOf_50 : decode cX3_isOf 50 = .ok (.aload_n 0, 1) := by decide +kernel
theorem dX3_isOf_51 : decode cX3_isOf 51 = .ok (.getfield 9, 3) := by decide +kernel
theorem dX3_isOf_54 : decode cX3_isOf 54 = .ok (.iconst 2, 1) := by decide +kernel
theorem dX3_isOf_55 : decode cX3_isOf 55 = .ok (.if_icmp .eq 11, 3) := by decide +kernel
theorem dX3_isOf_58 : decode cX3_isOf 58 = .ok (.aload_n 0, 1) := by decide +kernel
theorem dX3_isOf_59 : decode cX3_isOf 59 = .ok (.getfield 9, 3) := by decide +kernel
theorem dX3_isOf_62 : decode cX3_isOf 62 = .ok (.iconst 5, 1) := by decide +kernel
theorem dX3_isOf_63 : decode cX3_isOf 63 = .ok (.if_icmp .ne 7, 3) := by decide +kernel
theorem dX3_isOf_66 : decode cX3_isOf 66 = .ok (.iconst 1, 1) := by decide +kernel
theorem dX3_isOf_67 : decode cX3_isOf 67 = .ok (.goto 4, 3) := by decide +kernel
theorem dX3_isOf_70 : decode cX3_isOf 70 = .ok (.iconst 0, 1) := by decide +kernel
theorem dX3_isOf_71 : decode cX3_isOf 71 = .ok (.ireturn, 1) := by decide +kernel
theorem dX3_isOf_72 : decode cX3_isOf 72 = .ok (.aload_n 0, 1) := by decide +kernel
theorem dX3_isOf_73 : decode cX3_isOf 73 = .ok (.getfield 9, 3) := by decide +kernel
theorem dX3_isOf_76 : decode cX3_isOf 76 = .ok (.iload_n 1, 1) := by decide +kernel
theorem dX3_isOf_77 : decode cX3_isOf 77 = .ok (.if_icmp .ne 7, 3) := by decide +kernel
theorem dX3_isOf_80 : decode cX3_isOf 80 = .ok (.iconst 1, 1) := by decide +kernel
theorem dX3_isOf_81 : decode cX3_isOf 81 = .ok (.goto 4, 3) := by decide +kernel
theorem dX3_isOf_84 : decode cX3_isOf 84 = .ok (.iconst 0, 1) := by decide +kernel
theorem dX3_isOf_85 : decode cX3_isOf 85 = .ok (.ireturn, 1) := by decide +kernel
theorem dX3_weight_0 : decode cX3_weight 0 = .ok (.aload_n 0, 1) := by decide +kernel
theorem dX3_weight_1 : decode cX3_weight 1 = .ok (.getfield 21, 3) := by decide +kernel
theorem dX3_weight_4 : decode cX3_weight 4 = .ok (.invokestatic 41, 3) := by decide +kernel
theorem dX3_weight_7 : decode cX3_weight 7 = .ok (.aload_n 0, 1) := by decide +kernel
theorem dX3_weight_8 : decode cX3_weight 8 = .ok (.iconst 1, 1) := by decide +kernel
theorem dX3_weight_9 : decode cX3_weight 9 = .ok (.invokevirtual 47, 3) := by decide +kernel
theorem dX3_weight_12 : decode cX3_weight 12 = .ok (.ifCond .eq 8, 3) := by decide +kernel
theorem dX3_weight_15 : decode cX3_weight 15 = .ok (.bipush 10, 2) := by decide +kernel
theorem dX3_weight_17 : decode cX3_weight 17 = .ok (.goto 4, 3) := by decide +kernel
theorem dX3_weight_20 : decode cX3_weight 20 = .ok (.iconst 0, 1) := by decide +kernel
theorem dX3_weight_21 : decode cX3_weight 21 = .ok (.iadd, 1) := by decide +kernel
theorem dX3_weight_22 : decode cX3_weight 22 = .ok (.ireturn, 1) := by decide +kernel
theorem dX3_casesThatFit_0 : decode cX3_casesThatFit 0 = .ok (.aload_n 0, 1) := by decide +kernel
theorem dX3_casesThatFit_1 : decode cX3_casesThatFit 1 = .ok (.getfield 9, 3) := by decide +kernel
theorem dX3_casesThatFit_4 : decode cX3_casesThatFit 4 = .ok (.iconst 3, 1) := by decide +kernel
theorem dX3_casesThatFit_5 : decode cX3_casesThatFit 5 = .ok (.if_icmp .ne 5, 3) := by decide +kernel
theorem dX3_casesThatFit_8 : decode cX3_casesThatFit 8 = .ok (.iconst 0, 1) := by decide +kernel
theorem dX3_casesThatFit_9 : decode cX3_casesThatFit 9 = .ok (.ireturn, 1) := by decide +kernel
theorem dX3_casesThatFit_10 : decode cX3_casesThatFit 10 = .ok (.aload_n 0, 1) := by decide +kernel
theorem dX3_casesThatFit_11 : decode cX3_casesThatFit 11 = .ok (.getfield 30, 3) := by decide +kernel
theorem dX3_casesThatFit_14 : decode cX3_casesThatFit 14 = .ok (.istore_n 3, 1) := by decide +kernel
theorem dX3_casesThatFit_15 : decode cX3_casesThatFit 15 = .ok (.aload_n 0, 1) := by decide +kernel
theorem dX3_casesThatFit_16 : decode cX3_casesThatFit 16 = .ok (.getfield 21, 3) := by decide +kernel
theorem dX3_casesThatFit_19 : decode cX3_casesThatFit 19 = .ok (.iconst 5, 1) := by decide +kernel
theorem dX3_casesThatFit_20 : decode cX3_casesThatFit 20 = .ok (.invokestatic 33, 3) := by decide +kernel
theorem dX3_casesThatFit_23 : decode cX3_casesThatFit 23 = .ok (.ifCond .eq 11, 3) := by decide +kernel
theorem dX3_casesThatFit_26 : decode cX3_casesThatFit 26 = .ok (.iload_n 3, 1) := by decide +kernel
theorem dX3_casesThatFit_27 : decode cX3_casesThatFit 27 = .ok (.getstatic 37, 3) := by decide +kernel
theorem dX3_casesThatFit_30 : decode cX3_casesThatFit 30 = .ok (.iload_n 1, 1) := by decide +kernel
theorem dX3_casesThatFit_31 : decode cX3_casesThatFit 31 = .ok (.iaload, 1) := by decide +kernel
theorem dX3_casesThatFit_32 : decode cX3_casesThatFit 32 = .ok (.iand, 1) := by decide +kernel
theorem dX3_casesThatFit_33 : decode cX3_casesThatFit 33 = .ok (.istore_n 3, 1) := by decide +kernel
theorem dX3_casesThatFit_34 : decode cX3_casesThatFit 34 = .ok (.aload_n 0, 1) := by decide +kernel
theorem dX3_casesThatFit_35 : decode cX3_casesThatFit 35 = .ok (.getfield 21, 3) := by decide +kernel
theorem dX3_casesThatFit_38 : decode cX3_casesThatFit 38 = .ok (.bipush 6, 2) := by decide +kernel
theorem dX3_casesThatFit_40 : decode cX3_casesThatFit 40 = .ok (.invokestatic 33, 3) := by decide +kernel
theorem dX3_casesThatFit_43 : decode cX3_casesThatFit 43 = .ok (.ifCond .eq 11, 3) := by decide +kernel
theorem dX3_casesThatFit_46 : decode cX3_casesThatFit 46 = .ok (.iload_n 3, 1) := by decide +kernel
theorem dX3_casesThatFit_47 : decode cX3_casesThatFit 47 = .ok (.getstatic 37, 3) := by decide +kernel
theorem dX3_casesThatFit_50 : decode cX3_casesThatFit 50 = .ok (.iload_n 2, 1) := by decide +kernel
theorem dX3_casesThatFit_51 : decode cX3_casesThatFit 51 = .ok (.iaload, 1) := by decide +kernel
theorem dX3_casesThatFit_52 : decode cX3_casesThatFit 52 = .ok (.iand, 1) := by decide +kernel
theorem dX3_casesThatFit_53 : decode cX3_casesThatFit 53 = .ok (.istore_n 3, 1) := by decide +kernel
theorem dX3_casesThatFit_54 : decode cX3_casesThatFit 54 = .ok (.iload_n 3, 1) := by decide +kernel
theorem dX3_casesThatFit_55 : decode cX3_casesThatFit 55 = .ok (.ireturn, 1) := by decide +kernel
theorem dX4_init_0 : decode cX4_init 0 = .ok (.aload_n 0, 1) := by decide +kernel
theorem dX4_init_1 : decode cX4_init 1 = .ok (.invokespecial 3, 3) := by decide +kernel
theorem dX4_init_4 : decode cX4_init 4 = .ok (.aload_n 0, 1) := by decide +kernel
theorem dX4_init_5 : decode cX4_init 5 = .ok (.bipush 21, 2) := by decide +kernel
theorem dX4_init_7 : decode cX4_init 7 = .ok (.newarray .int, 2) := by decide +kernel
theorem dX4_init_9 : decode cX4_init 9 = .ok (.putfield 9, 3) := by decide +kernel
theorem dX4_init_12 : decode cX4_init 12 = .ok (.aload_n 0, 1) := by decide +kernel
theorem dX4_init_13 : decode cX4_init 13 = .ok (.bipush 8, 2) := by decide +kernel
theorem dX4_init_15 : decode cX4_init 15 = .ok (.newarray .int, 2) := by decide +kernel
theorem dX4_init_17 : decode cX4_init 17 = .ok (.putfield 15, 3) := by decide +kernel
theorem dX4_init_20 : decode cX4_init 20 = .ok (.aload_n 0, 1) := by decide +kernel
theorem dX4_init_21 : decode cX4_init 21 = .ok (.bipush 8, 2) := by decide +kernel
theorem dX4_init_23 : decode cX4_init 23 = .ok (.newarray .int, 2) := by decide +kernel
theorem dX4_init_25 : decode cX4_init 25 = .ok (.putfield 18, 3) := by decide +kernel
theorem dX4_init_28 : decode cX4_init 28 = .ok (.aload_n 0, 1) := by decide +kernel
theorem dX4_init_29 : decode cX4_init 29 = .ok (.bipush 8, 2) := by decide +kernel
theorem dX4_init_31 : decode cX4_init 31 = .ok (.newarray .int, 2) := by decide +kernel
theorem dX4_init_33 : decode cX4_init 33 = .ok (.putfield 21, 3) := by decide +kernel
theorem dX4_init_36 : decode cX4_init 36 = .ok (.aload_n 0, 1) := by decide +kernel
theorem dX4_init_37 : decode cX4_init 37 = .ok (.bipush 8, 2) := by decide +kernel
theorem dX4_init_39 : decode cX4_init 39 = .ok (.newarray .int, 2) := by decide +kernel
theorem dX4_init_41 : decode cX4_init 41 = .ok (.putfield 24, 3) := by decide +kernel
theorem dX4_init_44 : decode cX4_init 44 = .ok (.return_, 1) := by decide +kernel
theorem dX4_take_0 : decode cX4_take 0 = .ok (.aload_n 0, 1) := by decide +kernel
theorem dX4_take_1 : decode cX4_take 1 = .ok (.aload_n 1, 1) := by decide +kernel
theorem dX4_take_2 : decode cX4_take 2 = .ok (.iload_n 2, 1) := by decide +kernel
theorem dX4_take_3 : decode cX4_take 3 = .ok (.invokevirtual 27, 3) := by decide +kernel
theorem dX4_take_6 : decode cX4_take 6 = .ok (.bipush 8, 2) := by decide +kernel
theorem dX4_take_8 : decode cX4_take 8 = .ok (.invokestatic 33, 3) := by decide +kernel
theorem dX4_take_11 : decode cX4_take 11 = .ok (.putfield 39, 3) := by decide +kernel
theorem dX4_take_14 : decode cX4_take 14 = .ok (.iconst 0, 1) := by decide +kernel
theorem dX4_take_15 : decode cX4_take 15 = .ok (.istore 5, 2) := by decide +kernel
theorem dX4_take_17 : decode cX4_take 17 = .ok (.iload 5, 2) := by decide +kernel
theorem dX4_take_19 : decode cX4_take 19 = .ok (.aload_n 0, 1) := by decide +kernel
theorem dX4_take_20 : decode cX4_take 20 = .ok (.getfield 39, 3) := by decide +kernel
theorem dX4_take_23 : decode cX4_take 23 = .ok (.if_icmp .ge 23, 3) := by decide +kernel
theorem dX4_take_26 : decode cX4_take 26 = .ok (.aload_n 0, 1) := by decide +kernel
theorem dX4_take_27 : decode cX4_take 27 = .ok (.getfield 15, 3) := by decide +kernel
theorem dX4_take_30 : decode cX4_take 30 = .ok (.iload 5, 2) := by decide +kernel
theorem dX4_take_32 : decode cX4_take 32 = .ok (.aload_n 1, 1) := by decide +kernel
theorem dX4_take_33 : decode cX4_take 33 = .ok (.iload_n 2, 1) := by decide +kernel
theorem dX4_take_34 : decode cX4_take 34 = .ok (.iload 5, 2) := by decide +kernel
theorem dX4_take_36 : decode cX4_take 36 = .ok (.invokevirtual 43, 3) := by decide +kernel
theorem dX4_take_39 : decode cX4_take 39 = .ok (.iastore, 1) := by decide +kernel
theorem dX4_take_40 : decode cX4_take 40 = .ok (.iinc 5 1, 3) := by decide +kernel
theorem dX4_take_43 : decode cX4_take 43 = .ok (.goto (-26), 3) := by decide +kernel
theorem dX4_take_46 : decode cX4_take 46 = .ok (.iconst 0, 1) := by decide +kernel
theorem dX4_take_47 : decode cX4_take 47 = .ok (.istore 5, 2) := by decide +kernel
theorem dX4_take_49 : decode cX4_take 49 = .ok (.iload 5, 2) := by decide +kernel
theorem dX4_take_51 : decode cX4_take 51 = .ok (.bipush 20, 2) := by decide +kernel
theorem dX4_take_53 : decode cX4_take 53 = .ok (.if_icmp .gt 30, 3) := by decide +kernel
theorem dX4_take_56 : decode cX4_take 56 = .ok (.aload_n 3, 1) := by decide +kernel
theorem dX4_take_57 : decode cX4_take 57 = .ok (.aload 4, 2) := by decide +kernel
theorem dX4_take_59 : decode cX4_take 59 = .ok (.iload 5, 2) := by decide +kernel
theorem dX4_take_61 : decode cX4_take 61 = .ok (.invokevirtual 46, 3) := by decide +kernel
theorem dX4_take_64 : decode cX4_take 64 = .ok (.aload_n 0, 1) := by decide +kernel
theorem dX4_take_65 : decode cX4_take 65 = .ok (.getfield 9, 3) := by decide +kernel
theorem dX4_take_68 : decode cX4_take 68 = .ok (.iload 5, 2) := by decide +kernel
theorem dX4_take_70 : decode cX4_take 70 = .ok (.aload_n 3, 1) := by decide +kernel
theorem dX4_take_71 : decode cX4_take 71 = .ok (.getfield 52, 3) := by decide +kernel
theorem dX4_take_74 : decode cX4_take 74 = .ok (.iconst (-1), 1) := by decide +kernel
theorem dX4_take_75 : decode cX4_take 75 = .ok (.ixor, 1) := by decide +kernel
theorem dX4_take_76 : decode cX4_take 76 = .ok (.iastore, 1) := by decide +kernel
theorem dX4_take_77 : decode cX4_take 77 = .ok (.iinc 5 1, 3) := by decide +kernel
theorem dX4_take_80 : decode cX4_take 80 = .ok (.goto (-31), 3) := by decide +kernel
theorem dX4_take_83 : decode cX4_take 83 = .ok (.return_, 1) := by decide +kernel
theorem dX4_firstClear_0 : decode cX4_firstClear 0 = .ok (.iload_n 2, 1) := by decide +kernel
theorem dX4_firstClear_1 : decode cX4_firstClear 1 = .ok (.istore_n 3, 1) := by decide +kernel
theorem dX4_firstClear_2 : decode cX4_firstClear 2 = .ok (.iload_n 3, 1) := by decide +kernel
theorem dX4_firstClear_3 : decode cX4_firstClear 3 = .ok (.bipush 20, 2) := by decide +kernel
theorem dX4_firstClear_5 : decode cX4_firstClear 5 = .ok (.if_icmp .gt 29, 3) := by decide +kernel
theorem dX4_firstClear_8 : decode cX4_firstClear 8 = .ok (.aload_n 0, 1) := by decide +kernel
theorem dX4_firstClear_9 : decode cX4_firstClear 9 = .ok (.getfield 9, 3) := by decide +kernel
theorem dX4_firstClear_12 : decode cX4_firstClear 12 = .ok (.iload_n 3, 1) := by decide +kernel
theorem dX4_firstClear_13 : decode cX4_firstClear 13 = .ok (.iaload, 1) := by decide +kernel
theorem dX4_firstClear_14 : decode cX4_firstClear 14 = .ok (.aload_n 0, 1) := by decide +kernel
theorem dX4_firstClear_15 : decode cX4_firstClear 15 = .ok (.getfield 15, 3) := by decide +kernel
theorem dX4_firstClear_18 : decode cX4_firstClear 18 = .ok (.iload_n 1, 1) := by decide +kernel
theorem dX4_firstClear_19 : decode cX4_firstClear 19 = .ok (.iaload, 1) := by decide +kernel
theorem dX4_firstClear_20 : decode cX4_firstClear 20 = .ok (.invokestatic 55, 3) := by decide +kernel
theorem dX4_firstClear_23 : decode cX4_firstClear 23 = .ok (.ifCond .eq 5, 3) := by decide +kernel
theorem dX4_firstClear_26 : decode cX4_firstClear 26 = .ok (.iload_n 3, 1) := by decide +kernel
theorem dX4_firstClear_27 : decode cX4_firstClear 27 = .ok (.ireturn, 1) := by decide +kernel
theorem dX4_firstClear_28 : decode cX4_firstClear 28 = .ok (.iinc 3 1, 3) := by decide +kernel
theorem dX4_firstClear_31 : decode cX4_firstClear 31 = .ok (.goto (-29), 3) := by decide +kernel
theorem dX4_firstClear_34 : decode cX4_firstClear 34 = .ok (.bipush (-9), 2) := by decide +kernel
theorem dX4_firstClear_36 : decode cX4_firstClear 36 = .ok (.ireturn, 1) := by decide +kernel
theorem dX4_planAsTheyCome_0 : decode cX4_planAsTheyCome 0 = .ok (.aload_n 0, 1) := by decide +kernel
theorem dX4_planAsTheyCome_1 : decode cX4_planAsTheyCome 1 = .ok (.bipush (-9), 2) := by decide +kernel
theorem dX4_planAsTheyCome_3 : decode cX4_planAsTheyCome 3 = .ok (.putfield 59, 3) := by decide +kernel
theorem dX4_planAsTheyCome_6 : decode cX4_planAsTheyCome 6 = .ok (.iconst 0, 1) := by decide +kernel
theorem dX4_planAsTheyCome_7 : decode cX4_planAsTheyCome 7 = .ok (.istore_n 1, 1) := by decide +kernel
theorem dX4_planAsTheyCome_8 : decode cX4_planAsTheyCome 8 = .ok (.iconst 0, 1) := by decide +kernel
theorem dX4_planAsTheyCome_9 : decode cX4_planAsTheyCome 9 = .ok (.istore_n 2, 1) := by decide +kernel
theorem dX4_planAsTheyCome_10 : decode cX4_planAsTheyCome 10 = .ok (.iload_n 2, 1) := by decide +kernel
theorem dX4_planAsTheyCome_11 : decode cX4_planAsTheyCome 11 = .ok (.aload_n 0, 1) := by decide +kernel
theorem dX4_planAsTheyCome_12 : decode cX4_planAsTheyCome 12 = .ok (.getfield 39, 3) := by decide +kernel
theorem dX4_planAsTheyCome_15 : decode cX4_planAsTheyCome 15 = .ok (.if_icmp .ge 40, 3) := by decide +kernel
theorem dX4_planAsTheyCome_18 : decode cX4_planAsTheyCome 18 = .ok (.aload_n 0, 1) := by decide +kernel
theorem dX4_planAsTheyCome_19 : decode cX4_planAsTheyCome 19 = .ok (.iload_n 2, 1) := by decide +kernel
theorem dX4_planAsTheyCome_20 : decode cX4_planAsTheyCome 20 = .ok (.iload_n 1, 1) := by decide +kernel
theorem dX4_planAsTheyCome_21 : decode cX4_planAsTheyCome 21 = .ok (.invokevirtual 62, 3) := by decide +kernel
theorem dX4_planAsTheyCome_24 : decode cX4_planAsTheyCome 24 = .ok (.istore_n 3, 1) := by decide +kernel
theorem dX4_planAsTheyCome_25 : decode cX4_planAsTheyCome 25 = .ok (.iload_n 3, 1) := by decide +kernel
theorem dX4_planAsTheyCome_26 : decode cX4_planAsTheyCome 26 = .ok (.bipush (-9), 2) := by decide +kernel
theorem dX4_planAsTheyCome_28 : decode cX4_planAsTheyCome 28 = .ok (.if_icmp .ne 5, 3) := by decide +kernel
theorem dX4_planAsTheyCome_31 : decode cX4_planAsTheyCome 31 = .ok (.iconst 0, 1) := by decide +kernel
theorem dX4_planAsTheyCome_32 : decode cX4_planAsTheyCome 32 = .ok (.ireturn, 1) := by decide +kernel
theorem dX4_planAsTheyCome_33 : decode cX4_planAsTheyCome 33 = .ok (.aload_n 0, 1) := by decide +kernel
theorem dX4_planAsTheyCome_34 : decode cX4_planAsTheyCome 34 = .ok (.getfield 18, 3) := by decide +kernel
theorem dX4_planAsTheyCome_37 : decode cX4_planAsTheyCome 37 = .ok (.iload_n 2, 1) := by decide +kernel
theorem dX4_planAsTheyCome_38 : decode cX4_planAsTheyCome 38 = .ok (.iload_n 3, 1) := by decide +kernel
theorem dX4_planAsTheyCome_39 : decode cX4_planAsTheyCome 39 = .ok (.iastore, 1) := by decide +kernel
theorem dX4_planAsTheyCome_40 : decode cX4_planAsTheyCome 40 = .ok (.aload_n 0, 1) := by decide +kernel
theorem dX4_planAsTheyCome_41 : decode cX4_planAsTheyCome 41 = .ok (.iload_n 3, 1) := by decide +kernel
theorem dX4_planAsTheyCome_42 : decode cX4_planAsTheyCome 42 = .ok (.putfield 59, 3) := by decide +kernel
theorem dX4_planAsTheyCome_45 : decode cX4_planAsTheyCome 45 = .ok (.iload_n 3, 1) := by decide +kernel
theorem dX4_planAsTheyCome_46 : decode cX4_planAsTheyCome 46 = .ok (.iconst 1, 1) := by decide +kernel
theorem dX4_planAsTheyCome_47 : decode cX4_planAsTheyCome 47 = .ok (.iadd, 1) := by decide +kernel
theorem dX4_planAsTheyCome_48 : decode cX4_planAsTheyCome 48 = .ok (.istore_n 1, 1) := by decide +kernel
theorem dX4_planAsTheyCome_49 : decode cX4_planAsTheyCome 49 = .ok (.iinc 2 1, 3) := by decide +kernel
theorem dX4_planAsTheyCome_52 : decode cX4_planAsTheyCome 52 = .ok (.goto (-42), 3) := by decide +kernel
theorem dX4_planAsTheyCome_55 : decode cX4_planAsTheyCome 55 = .ok (.iconst 1, 1) := by decide +kernel
theorem dX4_planAsTheyCome_56 : decode cX4_planAsTheyCome 56 = .ok (.ireturn, 1) := by decide +kernel
theorem dX4_planSoonest_0 : decode cX4_planSoonest 0 = .ok (.aload_n 0, 1) := by decide +kernel
theorem dX4_planSoonest_1 : decode cX4_planSoonest 1 = .ok (.aload_n 0, 1) := by decide +kernel
theorem dX4_planSoonest_2 : decode cX4_planSoonest 2 = .ok (.getfield 39, 3) := by decide +kernel
theorem dX4_planSoonest_5 : decode cX4_planSoonest 5 = .ok (.ifCond .ne 8, 3) := by decide +kernel
theorem dX4_planSoonest_8 : decode cX4_planSoonest 8 = .ok (.bipush (-9), 2) := by decide +kernel
theorem dX4_planSoonest_10 : decode cX4_planSoonest 10 = .ok (.goto 5, 3) := by decide +kernel
theorem dX4_planSoonest_13 : decode cX4_planSoonest 13 = .ok (.bipush 99, 2) := by decide +kernel
theorem dX4_planSoonest_15 : decode cX4_planSoonest 15 = .ok (.putfield 59, 3) := by decide +kernel
theorem dX4_planSoonest_18 : decode cX4_planSoonest 18 = .ok (.aload_n 0, 1) := by decide +kernel
theorem dX4_planSoonest_19 : decode cX4_planSoonest 19 = .ok (.getfield 39, 3) := by decide +kernel
theorem dX4_planSoonest_22 : decode cX4_planSoonest 22 = .ok (.ifCond .le 10, 3) := by decide +kernel
theorem dX4_planSoonest_25 : decode cX4_planSoonest 25 = .ok (.aload_n 0, 1) := by decide +kernel
theorem dX4_planSoonest_26 : decode cX4_planSoonest 26 = .ok (.iconst 0, 1) := by decide +kernel
theorem dX4_planSoonest_27 : decode cX4_planSoonest 27 = .ok (.iconst 0, 1) := by decide +kernel
theorem dX4_planSoonest_28 : decode cX4_planSoonest 28 = .ok (.iconst 0, 1) := by decide +kernel
theorem dX4_planSoonest_29 : decode cX4_planSoonest 29 = .ok (.invokevirtual 65, 3) := by decide +kernel
theorem dX4_planSoonest_32 : decode cX4_planSoonest 32 = .ok (.aload_n 0, 1) := by decide +kernel
theorem dX4_planSoonest_33 : decode cX4_planSoonest 33 = .ok (.getfield 59, 3) := by decide +kernel
theorem dX4_planSoonest_36 : decode cX4_planSoonest 36 = .ok (.bipush 99, 2) := by decide +kernel
theorem dX4_planSoonest_38 : decode cX4_planSoonest 38 = .ok (.if_icmp .eq 7, 3) := by decide +kernel
theorem dX4_planSoonest_41 : decode cX4_planSoonest 41 = .ok (.iconst 1, 1) := by decide +kernel
theorem dX4_planSoonest_42 : decode cX4_planSoonest 42 = .ok (.goto 4, 3) := by decide +kernel
theorem dX4_planSoonest_45 : decode cX4_planSoonest 45 = .ok (.iconst 0, 1) := by decide +kernel
theorem dX4_planSoonest_46 : decode cX4_planSoonest 46 = .ok (.ireturn, 1) := by decide +kernel
theorem dX4_tryFrom_0 : decode cX4_tryFrom 0 = .ok (.iconst 0, 1) := by decide +kernel
theorem dX4_tryFrom_1 : decode cX4_tryFrom 1 = .ok (.istore 4, 2) := by decide +kernel
theorem dX4_tryFrom_3 : decode cX4_tryFrom 3 = .ok (.iload 4, 2) := by decide +kernel
theorem dX4_tryFrom_5 : decode cX4_tryFrom 5 = .ok (.aload_n 0, 1) := by decide +kernel
theorem dX4_tryFrom_6 : decode cX4_tryFrom 6 = .ok (.getfield 39, 3) := by decide +kernel
theorem dX4_tryFrom_9 : decode cX4_tryFrom 9 = .ok (.if_icmp .ge 118, 3) := by decide +kernel
theorem dX4_tryFrom_12 : decode cX4_tryFrom 12 = .ok (.iload_n 1, 1) := by decide +kernel
theorem dX4_tryFrom_13 : decode cX4_tryFrom 13 = .ok (.aload_n 0, 1) := by decide +kernel
theorem dX4_tryFrom_14 : decode cX4_tryFrom 14 = .ok (.getfield 39, 3) := by decide +kernel
theorem dX4_tryFrom_17 : decode cX4_tryFrom 17 = .ok (.if_icmp .ge 110, 3) := by decide +kernel
theorem dX4_tryFrom_20 : decode cX4_tryFrom 20 = .ok (.iload_n 2, 1) := by decide +kernel
theorem dX4_tryFrom_21 : decode cX4_tryFrom 21 = .ok (.iload 4, 2) := by decide +kernel
theorem dX4_tryFrom_23 : decode cX4_tryFrom 23 = .ok (.invokestatic 55, 3) := by decide +kernel
theorem dX4_tryFrom_26 : decode cX4_tryFrom 26 = .ok (.ifCond .eq 6, 3) := by decide +kernel
theorem dX4_tryFrom_29 : decode cX4_tryFrom 29 = .ok (.goto 92, 3) := by decide +kernel
theorem dX4_tryFrom_32 : decode cX4_tryFrom 32 = .ok (.aload_n 0, 1) := by decide +kernel
theorem dX4_tryFrom_33 : decode cX4_tryFrom 33 = .ok (.iload 4, 2) := by decide +kernel
theorem dX4_tryFrom_35 : decode cX4_tryFrom 35 = .ok (.iload_n 3, 1) := by decide +kernel
theorem dX4_tryFrom_36 : decode cX4_tryFrom 36 = .ok (.invokevirtual 62, 3) := by decide +kernel
theorem dX4_tryFrom_39 : decode cX4_tryFrom 39 = .ok (.istore 5, 2) := by decide +kernel
theorem dX4_tryFrom_41 : decode cX4_tryFrom 41 = .ok (.iload 5, 2) := by decide +kernel
theorem dX4_tryFrom_43 : decode cX4_tryFrom 43 = .ok (.bipush (-9), 2) := by decide +kernel
theorem dX4_tryFrom_45 : decode cX4_tryFrom 45 = .ok (.if_icmp .eq 76, 3) := by decide +kernel
theorem dX4_tryFrom_48 : decode cX4_tryFrom 48 = .ok (.iload 5, 2) := by decide +kernel
theorem dX4_tryFrom_50 : decode cX4_tryFrom 50 = .ok (.aload_n 0, 1) := by decide +kernel
theorem dX4_tryFrom_51 : decode cX4_tryFrom 51 = .ok (.getfield 59, 3) := by decide +kernel
theorem dX4_tryFrom_54 : decode cX4_tryFrom 54 = .ok (.if_icmp .lt 6, 3) := by decide +kernel
theorem dX4_tryFrom_57 : decode cX4_tryFrom 57 = .ok (.goto 64, 3) := by decide +kernel
theorem dX4_tryFrom_60 : decode cX4_tryFrom 60 = .ok (.aload_n 0, 1) := by decide +kernel
theorem dX4_tryFrom_61 : decode cX4_tryFrom 61 = .ok (.getfield 21, 3) := by decide +kernel
theorem dX4_tryFrom_64 : decode cX4_tryFrom 64 = .ok (.iload_n 1, 1) := by decide +kernel
theorem dX4_tryFrom_65 : decode cX4_tryFrom 65 = .ok (.iload 4, 2) := by decide +kernel
theorem dX4_tryFrom_67 : decode cX4_tryFrom 67 = .ok (.iastore, 1) := by decide +kernel
theorem dX4_tryFrom_68 : decode cX4_tryFrom 68 = .ok (.iload_n 1, 1) := by decide +kernel
theorem dX4_tryFrom_69 : decode cX4_tryFrom 69 = .ok (.iconst 1, 1) := by decide +kernel
theorem dX4_tryFrom_70 : decode cX4_tryFrom 70 = .ok (.iadd, 1) := by decide +kernel
theorem dX4_tryFrom_71 : decode cX4_tryFrom 71 = .ok (.aload_n 0, 1) := by decide +kernel
theorem dX4_tryFrom_72 : decode cX4_tryFrom 72 = .ok (.getfield 39, 3) := by decide +kernel
theorem dX4_tryFrom_75 : decode cX4_tryFrom 75 = .ok (.if_icmp .ge 23, 3) := by decide +kernel
theorem dX4_tryFrom_78 : decode cX4_tryFrom 78 = .ok (.aload_n 0, 1) := by decide +kernel
theorem dX4_tryFrom_79 : decode cX4_tryFrom 79 = .ok (.iload_n 1, 1) := by decide +kernel
theorem dX4_tryFrom_80 : decode cX4_tryFrom 80 = .ok (.iconst 1, 1) := by decide +kernel
theorem dX4_tryFrom_81 : decode cX4_tryFrom 81 = .ok (.iadd, 1) := by decide +kernel
theorem dX4_tryFrom_82 : decode cX4_tryFrom 82 = .ok (.iload_n 2, 1) := by decide +kernel
theorem dX4_tryFrom_83 : decode cX4_tryFrom 83 = .ok (.iconst 1, 1) := by decide +kernel
theorem dX4_tryFrom_84 : decode cX4_tryFrom 84 = .ok (.iload 4, 2) := by decide +kernel
theorem dX4_tryFrom_86 : decode cX4_tryFrom 86 = .ok (.ishl, 1) := by decide +kernel
theorem dX4_tryFrom_87 : decode cX4_tryFrom 87 = .ok (.ior, 1) := by decide +kernel
theorem dX4_tryFrom_88 : decode cX4_tryFrom 88 = .ok (.iload 5, 2) := by decide +kernel
theorem dX4_tryFrom_90 : decode cX4_tryFrom 90 = .ok (.iconst 1, 1) := by decide +kernel
theorem dX4_tryFrom_91 : decode cX4_tryFrom 91 = .ok (.iadd, 1) := by decide +kernel
theorem dX4_tryFrom_92 : decode cX4_tryFrom 92 = .ok (.invokevirtual 65, 3) := by decide +kernel
theorem dX4_tryFrom_95 : decode cX4_tryFrom 95 = .ok (.goto 26, 3) := by decide +kernel
theorem dX4_tryFrom_98 : decode cX4_tryFrom 98 = .ok (.aload_n 0, 1) := by decide +kernel
theorem dX4_tryFrom_99 : decode cX4_tryFrom 99 = .ok (.iload 5, 2) := by decide +kernel
theorem dX4_tryFrom_101 : decode cX4_tryFrom 101 = .ok (.putfield 59, 3) := by decide +kernel
theorem dX4_tryFrom_104 : decode cX4_tryFrom 104 = .ok (.aload_n 0, 1) := by decide +kernel
theorem dX4_tryFrom_105 : decode cX4_tryFrom 105 = .ok (.getfield 21, 3) := by decide +kernel
theorem dX4_tryFrom_108 : decode cX4_tryFrom 108 = .ok (.iconst 0, 1) := by decide +kernel
theorem dX4_tryFrom_109 : decode cX4_tryFrom 109 = .ok (.aload_n 0, 1) := by decide +kernel
theorem dX4_tryFrom_110 : decode cX4_tryFrom 110 = .ok (.getfield 24, 3) := by decide +kernel
theorem dX4_tryFrom_113 : decode cX4_tryFrom 113 = .ok (.iconst 0, 1) := by decide +kernel
theorem dX4_tryFrom_114 : decode cX4_tryFrom 114 = .ok (.aload_n 0, 1) := by decide +kernel
theorem dX4_tryFrom_115 : decode cX4_tryFrom 115 = .ok (.getfield 39, 3) := by decide +kernel
theorem dX4_tryFrom_118 : decode cX4_tryFrom 118 = .ok (.invokestatic 69, 3) := by decide +kernel
theorem dX4_tryFrom_121 : decode cX4_tryFrom 121 = .ok (.iinc 4 1, 3) := by decide +kernel
theorem dX4_tryFrom_124 : decode cX4_tryFrom 124 = .ok (.goto (-121), 3) := by decide +kernel
theorem dX4_tryFrom_127 : decode cX4_tryFrom 127 = .ok (.return_, 1) := by decide +kernel
theorem dX4_tellDays_0 : decode cX4_tellDays 0 = .ok (.aload_n 1, 1) := by decide +kernel
theorem dX4_tellDays_1 : decode cX4_tellDays 1 = .ok (.iload_n 2, 1) := by decide +kernel
theorem dX4_tellDays_2 : decode cX4_tellDays 2 = .ok (.aload_n 0, 1) := by decide +kernel
theorem dX4_tellDays_3 : decode cX4_tellDays 3 = .ok (.getfield 39, 3) := by decide +kernel
theorem dX4_tellDays_6 : decode cX4_tellDays 6 = .ok (.iconst 0, 1) := by decide +kernel
theorem dX4_tellDays_7 : decode cX4_tellDays 7 = .ok (.invokevirtual 75, 3) := by decide +kernel
theorem dX4_tellDays_10 : decode cX4_tellDays 10 = .ok (.iconst 0, 1) := by decide +kernel
theorem dX4_tellDays_11 : decode cX4_tellDays 11 = .ok (.istore_n 3, 1) := by decide +kernel
theorem dX4_tellDays_12 : decode cX4_tellDays 12 = .ok (.iload_n 3, 1) := by decide +kernel
theorem dX4_tellDays_13 : decode cX4_tellDays 13 = .ok (.aload_n 0, 1) := by decide +kernel
theorem dX4_tellDays_14 : decode cX4_tellDays 14 = .ok (.getfield 39, 3) := by decide +kernel
theorem dX4_tellDays_17 : decode cX4_tellDays 17 = .ok (.if_icmp .ge 21, 3) := by decide +kernel
theorem dX4_tellDays_20 : decode cX4_tellDays 20 = .ok (.aload_n 1, 1) := by decide +kernel
theorem dX4_tellDays_21 : decode cX4_tellDays 21 = .ok (.iload_n 2, 1) := by decide +kernel
theorem dX4_tellDays_22 : decode cX4_tellDays 22 = .ok (.iload_n 3, 1) := by decide +kernel
theorem dX4_tellDays_23 : decode cX4_tellDays 23 = .ok (.aload_n 0, 1) := by decide +kernel
theorem dX4_tellDays_24 : decode cX4_tellDays 24 = .ok (.getfield 18, 3) := by decide +kernel
theorem dX4_tellDays_27 : decode cX4_tellDays 27 = .ok (.iload_n 3, 1) := by decide +kernel
theorem dX4_tellDays_28 : decode cX4_tellDays 28 = .ok (.iaload, 1) := by decide +kernel
theorem dX4_tellDays_29 : decode cX4_tellDays 29 = .ok (.invokevirtual 78, 3) := by decide +kernel
theorem dX4_tellDays_32 : decode cX4_tellDays 32 = .ok (.iinc 3 1, 3) := by decide +kernel
theorem dX4_tellDays_35 : decode cX4_tellDays 35 = .ok (.goto (-23), 3) := by decide +kernel
theorem dX4_tellDays_38 : decode cX4_tellDays 38 = .ok (.return_, 1) := by decide +kernel
theorem dX4_tellPlaces_0 : decode cX4_tellPlaces 0 = .ok (.aload_n 1, 1) := by decide +kernel
theorem dX4_tellPlaces_1 : decode cX4_tellPlaces 1 = .ok (.iload_n 2, 1) := by decide +kernel
theorem dX4_tellPlaces_2 : decode cX4_tellPlaces 2 = .ok (.aload_n 0, 1) := by decide +kernel
theorem dX4_tellPlaces_3 : decode cX4_tellPlaces 3 = .ok (.getfield 39, 3) := by decide +kernel
theorem dX4_tellPlaces_6 : decode cX4_tellPlaces 6 = .ok (.iconst 0, 1) := by decide +kernel
theorem dX4_tellPlaces_7 : decode cX4_tellPlaces 7 = .ok (.invokevirtual 75, 3) := by decide +kernel
theorem dX4_tellPlaces_10 : decode cX4_tellPlaces 10 = .ok (.iconst 0, 1) := by decide +kernel
theorem dX4_tellPlaces_11 : decode cX4_tellPlaces 11 = .ok (.istore_n 3, 1) := by decide +kernel
theorem dX4_tellPlaces_12 : decode cX4_tellPlaces 12 = .ok (.iload_n 3, 1) := by decide +kernel
theorem dX4_tellPlaces_13 : decode cX4_tellPlaces 13 = .ok (.aload_n 0, 1) := by decide +kernel
theorem dX4_tellPlaces_14 : decode cX4_tellPlaces 14 = .ok (.getfield 39, 3) := by decide +kernel
theorem dX4_tellPlaces_17 : decode cX4_tellPlaces 17 = .ok (.if_icmp .ge 21, 3) := by decide +kernel
theorem dX4_tellPlaces_20 : decode cX4_tellPlaces 20 = .ok (.aload_n 1, 1) := by decide +kernel
theorem dX4_tellPlaces_21 : decode cX4_tellPlaces 21 = .ok (.iload_n 2, 1) := by decide +kernel
theorem dX4_tellPlaces_22 : decode cX4_tellPlaces 22 = .ok (.iload_n 3, 1) := by decide +kernel
theorem dX4_tellPlaces_23 : decode cX4_tellPlaces 23 = .ok (.aload_n 0, 1) := by decide +kernel
theorem dX4_tellPlaces_24 : decode cX4_tellPlaces 24 = .ok (.getfield 24, 3) := by decide +kernel
theorem dX4_tellPlaces_27 : decode cX4_tellPlaces 27 = .ok (.iload_n 3, 1) := by decide +kernel
theorem dX4_tellPlaces_28 : decode cX4_tellPlaces 28 = .ok (.iaload, 1) := by decide +kernel
theorem dX4_tellPlaces_29 : decode cX4_tellPlaces 29 = .ok (.invokevirtual 78, 3) := by decide +kernel
theorem dX4_tellPlaces_32 : decode cX4_tellPlaces 32 = .ok (.iinc 3 1, 3) := by decide +kernel
theorem dX4_tellPlaces_35 : decode cX4_tellPlaces 35 = .ok (.goto (-23), 3) := by decide +kernel
theorem dX4_tellPlaces_38 : decode cX4_tellPlaces 38 = .ok (.return_, 1) := by decide +kernel
theorem dX5_init_0 : decode cX5_init 0 = .ok (.aload_n 0, 1) := by decide +kernel
theorem dX5_init_1 : decode cX5_init 1 = .ok (.invokespecial 3, 3) := by decide +kernel
theorem dX5_init_4 : decode cX5_init 4 = .ok (.return_, 1) := by decide +kernel
theorem dX5_faultOf_0 : decode cX5_faultOf 0 = .ok (.aload_n 0, 1) := by decide +kernel
theorem dX5_faultOf_1 : decode cX5_faultOf 1 = .ok (.aload_n 1, 1) := by decide +kernel
theorem dX5_faultOf_2 : decode cX5_faultOf 2 = .ok (.putfield 9, 3) := by decide +kernel
theorem dX5_faultOf_5 : decode cX5_faultOf 5 = .ok (.aload_n 0, 1) := by decide +kernel
theorem dX5_faultOf_6 : decode cX5_faultOf 6 = .ok (.iload_n 2, 1) := by decide +kernel
theorem dX5_faultOf_7 : decode cX5_faultOf 7 = .ok (.putfield 15, 3) := by decide +kernel
theorem dX5_faultOf_10 : decode cX5_faultOf 10 = .ok (.aload_n 0, 1) := by decide +kernel
theorem dX5_faultOf_11 : decode cX5_faultOf 11 = .ok (.aload_n 1, 1) := by decide +kernel
theorem dX5_faultOf_12 : decode cX5_faultOf 12 = .ok (.iload_n 2, 1) := by decide +kernel
theorem dX5_faultOf_13 : decode cX5_faultOf 13 = .ok (.invokevirtual 19, 3) := by decide +kernel
theorem dX5_faultOf_16 : decode cX5_faultOf 16 = .ok (.putfield 25, 3) := by decide +kernel
theorem dX5_faultOf_19 : decode cX5_faultOf 19 = .ok (.aload_n 0, 1) := by decide +kernel
theorem dX5_faultOf_20 : decode cX5_faultOf 20 = .ok (.iconst 0, 1) := by decide +kernel
theorem dX5_faultOf_21 : decode cX5_faultOf 21 = .ok (.putfield 28, 3) := by decide +kernel
theorem dX5_faultOf_24 : decode cX5_faultOf 24 = .ok (.aload_n 0, 1) := by decide +kernel
theorem dX5_faultOf_25 : decode cX5_faultOf 25 = .ok (.iconst 0, 1) := by decide +kernel
theorem dX5_faultOf_26 : decode cX5_faultOf 26 = .ok (.putfield 31, 3) := by decide +kernel
theorem dX5_faultOf_29 : decode cX5_faultOf 29 = .ok (.aload_n 3, 1) := by decide +kernel
theorem dX5_faultOf_30 : decode cX5_faultOf 30 = .ok (.invokevirtual 35, 3) := by decide +kernel
theorem dX5_faultOf_33 : decode cX5_faultOf 33 = .ok (.iconst 0, 1) := by decide +kernel
theorem dX5_faultOf_34 : decode cX5_faultOf 34 = .ok (.istore 4, 2) := by decide +kernel
theorem dX5_faultOf_36 : decode cX5_faultOf 36 = .ok (.iload 4, 2) := by decide +kernel
theorem dX5_faultOf_38 : decode cX5_faultOf 38 = .ok (.bipush 80, 2) := by decide +kernel
theorem dX5_faultOf_40 : decode cX5_faultOf 40 = .ok (.if_icmp .ge 54, 3) := by decide +kernel
theorem dX5_faultOf_43 : decode cX5_faultOf 43 = .ok (.aload_n 0, 1) := by decide +kernel
theorem dX5_faultOf_44 : decode cX5_faultOf 44 = .ok (.getfield 31, 3) := by decide +kernel
theorem dX5_faultOf_47 : decode cX5_faultOf 47 = .ok (.ifCond .ne 47, 3) := by decide +kernel
theorem dX5_faultOf_50 : decode cX5_faultOf 50 = .ok (.aload_n 0, 1) := by decide +kernel
theorem dX5_faultOf_51 : decode cX5_faultOf 51 = .ok (.getfield 28, 3) := by decide +kernel
theorem dX5_faultOf_54 : decode cX5_faultOf 54 = .ok (.aload_n 0, 1) := by decide +kernel
theorem dX5_faultOf_55 : decode cX5_faultOf 55 = .ok (.getfield 25, 3) := by decide +kernel
theorem dX5_faultOf_58 : decode cX5_faultOf 58 = .ok (.if_icmp .ge 36, 3) := by decide +kernel
theorem dX5_faultOf_61 : decode cX5_faultOf 61 = .ok (.aload_n 0, 1) := by decide +kernel
theorem dX5_faultOf_62 : decode cX5_faultOf 62 = .ok (.invokevirtual 40, 3) := by decide +kernel
theorem dX5_faultOf_65 : decode cX5_faultOf 65 = .ok (.bipush 32, 2) := by decide +kernel
theorem dX5_faultOf_67 : decode cX5_faultOf 67 = .ok (.if_icmp .ne 16, 3) := by decide +kernel
theorem dX5_faultOf_70 : decode cX5_faultOf 70 = .ok (.aload_n 0, 1) := by decide +kernel
theorem dX5_faultOf_71 : decode cX5_faultOf 71 = .ok (.dup, 1) := by decide +kernel
theorem dX5_faultOf_72 : decode cX5_faultOf 72 = .ok (.getfield 28, 3) := by decide +kernel
theorem dX5_faultOf_75 : decode cX5_faultOf 75 = .ok (.iconst 1, 1) := by decide +kernel
theorem dX5_faultOf_76 : decode cX5_faultOf 76 = .ok (.iadd, 1) := by decide +kernel
theorem dX5_faultOf_77 : decode cX5_faultOf 77 = .ok (.putfield 28, 3) := by decide +kernel
theorem dX5_faultOf_80 : decode cX5_faultOf 80 = .ok (.goto 8, 3) := by decide +kernel
theorem dX5_faultOf_83 : decode cX5_faultOf 83 = .ok (.aload_n 0, 1) := by decide +kernel
theorem dX5_faultOf_84 : decode cX5_faultOf 84 = .ok (.aload_n 3, 1) := by decide +kernel
theorem dX5_faultOf_85 : decode cX5_faultOf 85 = .ok (.invokevirtual 44, 3) := by decide +kernel
theorem dX5_faultOf_88 : decode cX5_faultOf 88 = .ok (.iinc 4 1, 3) := by decide +kernel
theorem dX5_faultOf_91 : decode cX5_faultOf 91 = .ok (.goto (-55), 3) := by decide +kernel
theorem dX5_faultOf_94 : decode cX5_faultOf 94 = .ok (.aload_n 0, 1) := by decide +kernel
theorem dX5_faultOf_95 : decode cX5_faultOf 95 = .ok (.getfield 31, 3) := by decide +kernel
theorem dX5_faultOf_98 : decode cX5_faultOf 98 = .ok (.ifCond .eq 10, 3) := by decide +kernel
theorem dX5_faultOf_101 : decode cX5_faultOf 101 = .ok (.aload_n 0, 1) := by decide +kernel
theorem dX5_faultOf_102 : decode cX5_faultOf 102 = .ok (.getfield 28, 3) := by decide +kernel
theorem dX5_faultOf_105 : decode cX5_faultOf 105 = .ok (.goto 5, 3) := by decide +kernel
theorem dX5_faultOf_108 : decode cX5_faultOf 108 = .ok (.bipush (-9), 2) := by decide +kernel
theorem dX5_faultOf_110 : decode cX5_faultOf 110 = .ok (.ireturn, 1) := by decide +kernel
theorem dX5_sign_0 : decode cX5_sign 0 = .ok (.aload_n 0, 1) := by decide +kernel
theorem dX5_sign_1 : decode cX5_sign 1 = .ok (.getfield 9, 3) := by decide +kernel
theorem dX5_sign_4 : decode cX5_sign 4 = .ok (.aload_n 0, 1) := by decide +kernel
theorem dX5_sign_5 : decode cX5_sign 5 = .ok (.getfield 15, 3) := by decide +kernel
theorem dX5_sign_8 : decode cX5_sign 8 = .ok (.aload_n 0, 1) := by decide +kernel
theorem dX5_sign_9 : decode cX5_sign 9 = .ok (.getfield 28, 3) := by decide +kernel
theorem dX5_sign_12 : decode cX5_sign 12 = .ok (.invokevirtual 48, 3) := by decide +kernel
theorem dX5_sign_15 : decode cX5_sign 15 = .ok (.ireturn, 1) := by decide +kernel
theorem dX5_takeItem_0 : decode cX5_takeItem 0 = .ok (.aload_n 0, 1) := by decide +kernel
theorem dX5_takeItem_1 : decode cX5_takeItem 1 = .ok (.invokevirtual 40, 3) := by decide +kernel
theorem dX5_takeItem_4 : decode cX5_takeItem 4 = .ok (.invokestatic 52, 3) := by decide +kernel
theorem dX5_takeItem_7 : decode cX5_takeItem 7 = .ok (.istore_n 2, 1) := by decide +kernel
theorem dX5_takeItem_8 : decode cX5_takeItem 8 = .ok (.iload_n 2, 1) := by decide +kernel
theorem dX5_takeItem_9 : decode cX5_takeItem 9 = .ok (.bipush (-9), 2) := by decide +kernel
theorem dX5_takeItem_11 : decode cX5_takeItem 11 = .ok (.if_icmp .eq 12, 3) := by decide +kernel
theorem dX5_takeItem_14 : decode cX5_takeItem 14 = .ok (.aload_n 1, 1) := by decide +kernel
theorem dX5_takeItem_15 : decode cX5_takeItem 15 = .ok (.getfield 55, 3) := by decide +kernel
theorem dX5_takeItem_18 : decode cX5_takeItem 18 = .ok (.bipush 6, 2) := by decide +kernel
theorem dX5_takeItem_20 : decode cX5_takeItem 20 = .ok (.if_icmp .ne 9, 3) := by decide +kernel
theorem dX5_takeItem_23 : decode cX5_takeItem 23 = .ok (.aload_n 0, 1) := by decide +kernel
theorem dX5_takeItem_24 : decode cX5_takeItem 24 = .ok (.iconst 1, 1) := by decide +kernel
theorem dX5_takeItem_25 : decode cX5_takeItem 25 = .ok (.putfield 31, 3) := by decide +kernel
theorem dX5_takeItem_28 : decode cX5_takeItem 28 = .ok (.return_, 1) := by decide +kernel
theorem dX5_takeItem_29 : decode cX5_takeItem 29 = .ok (.aload_n 0, 1) := by decide +kernel
theorem dX5_takeItem_30 : decode cX5_takeItem 30 = .ok (.dup, 1) := by decide +kernel
theorem dX5_takeItem_31 : decode cX5_takeItem 31 = .ok (.getfield 28, 3) := by decide +kernel
theorem dX5_takeItem_34 : decode cX5_takeItem 34 = .ok (.iconst 1, 1) := by decide +kernel
theorem dX5_takeItem_35 : decode cX5_takeItem 35 = .ok (.iadd, 1) := by decide +kernel
theorem dX5_takeItem_36 : decode cX5_takeItem 36 = .ok (.putfield 28, 3) := by decide +kernel
theorem dX5_takeItem_39 : decode cX5_takeItem 39 = .ok (.iload_n 2, 1) := by decide +kernel
theorem dX5_takeItem_40 : decode cX5_takeItem 40 = .ok (.iconst 3, 1) := by decide +kernel
theorem dX5_takeItem_41 : decode cX5_takeItem 41 = .ok (.if_icmp .ne 35, 3) := by decide +kernel
theorem dX5_takeItem_44 : decode cX5_takeItem 44 = .ok (.aload_n 0, 1) := by decide +kernel
theorem dX5_takeItem_45 : decode cX5_takeItem 45 = .ok (.iconst 5, 1) := by decide +kernel
theorem dX5_takeItem_46 : decode cX5_takeItem 46 = .ok (.bipush 6, 2) := by decide +kernel
theorem dX5_takeItem_48 : decode cX5_takeItem 48 = .ok (.invokevirtual 58, 3) := by decide +kernel
theorem dX5_takeItem_51 : decode cX5_takeItem 51 = .ok (.istore_n 3, 1) := by decide +kernel
theorem dX5_takeItem_52 : decode cX5_takeItem 52 = .ok (.aload_n 0, 1) := by decide +kernel
theorem dX5_takeItem_53 : decode cX5_takeItem 53 = .ok (.iconst 0, 1) := by decide +kernel
theorem dX5_takeItem_54 : decode cX5_takeItem 54 = .ok (.iconst 4, 1) := by decide +kernel
theorem dX5_takeItem_55 : decode cX5_takeItem 55 = .ok (.invokevirtual 58, 3) := by decide +kernel
theorem dX5_takeItem_58 : decode cX5_takeItem 58 = .ok (.istore 4, 2) := by decide +kernel
theorem dX5_takeItem_60 : decode cX5_takeItem 60 = .ok (.aload_n 1, 1) := by decide +kernel
theorem dX5_takeItem_61 : decode cX5_takeItem 61 = .ok (.iload_n 2, 1) := by decide +kernel
theorem dX5_takeItem_62 : decode cX5_takeItem 62 = .ok (.bipush (-9), 2) := by decide +kernel
theorem dX5_takeItem_64 : decode cX5_takeItem 64 = .ok (.iconst 0, 1) := by decide +kernel
theorem dX5_takeItem_65 : decode cX5_takeItem 65 = .ok (.iconst 1, 1) := by decide +kernel
theorem dX5_takeItem_66 : decode cX5_takeItem 66 = .ok (.iload_n 3, 1) := by decide +kernel
theorem dX5_takeItem_67 : decode cX5_takeItem 67 = .ok (.ishl, 1) := by decide +kernel
theorem dX5_takeItem_68 : decode cX5_takeItem 68 = .ok (.iload 4, 2) := by decide +kernel
theorem dX5_takeItem_70 : decode cX5_takeItem 70 = .ok (.invokevirtual 61, 3) := by decide +kernel
theorem dX5_takeItem_73 : decode cX5_takeItem 73 = .ok (.goto 47, 3) := by decide +kernel
theorem dX5_takeItem_76 : decode cX5_takeItem 76 = .ok (.iload_n 2, 1) := by decide +kernel
theorem dX5_takeItem_77 : decode cX5_takeItem 77 = .ok (.iconst 2, 1) := by decide +kernel
theorem dX5_takeItem_78 : decode cX5_takeItem 78 = .ok (.if_icmp .eq 8, 3) := by decide +kernel
theorem dX5_takeItem_81 : decode cX5_takeItem 81 = .ok (.iload_n 2, 1) := by decide +kernel
theorem dX5_takeItem_82 : decode cX5_takeItem 82 = .ok (.iconst 5, 1) := by decide +kernel
theorem dX5_takeItem_83 : decode cX5_takeItem 83 = .ok (.if_icmp .ne 12, 3) := by decide +kernel
theorem dX5_takeItem_86 : decode cX5_takeItem 86 = .ok (.aload_n 0, 1) := by decide +kernel
theorem dX5_takeItem_87 : decode cX5_takeItem 87 = .ok (.iconst 0, 1) := by decide +kernel
theorem dX5_takeItem_88 : decode cX5_takeItem 88 = .ok (.iconst 5, 1) := by decide +kernel
theorem dX5_takeItem_89 : decode cX5_takeItem 89 = .ok (.invokevirtual 58, 3) := by decide +kernel
theorem dX5_takeItem_92 : decode cX5_takeItem 92 = .ok (.goto 5, 3) := by decide +kernel
theorem dX5_takeItem_95 : decode cX5_takeItem 95 = .ok (.bipush (-9), 2) := by decide +kernel
theorem dX5_takeItem_97 : decode cX5_takeItem 97 = .ok (.istore_n 3, 1) := by decide +kernel
theorem dX5_takeItem_98 : decode cX5_takeItem 98 = .ok (.aload_n 0, 1) := by decide +kernel
theorem dX5_takeItem_99 : decode cX5_takeItem 99 = .ok (.iconst 0, 1) := by decide +kernel
theorem dX5_takeItem_100 : decode cX5_takeItem 100 = .ok (.iconst 1, 1) := by decide +kernel
theorem dX5_takeItem_101 : decode cX5_takeItem 101 = .ok (.invokevirtual 58, 3) := by decide +kernel
theorem dX5_takeItem_104 : decode cX5_takeItem 104 = .ok (.istore 4, 2) := by decide +kernel
theorem dX5_takeItem_106 : decode cX5_takeItem 106 = .ok (.aload_n 1, 1) := by decide +kernel
theorem dX5_takeItem_107 : decode cX5_takeItem 107 = .ok (.iload_n 2, 1) := by decide +kernel
theorem dX5_takeItem_108 : decode cX5_takeItem 108 = .ok (.iload_n 3, 1) := by decide +kernel
theorem dX5_takeItem_109 : decode cX5_takeItem 109 = .ok (.iload 4, 2) := by decide +kernel
theorem dX5_takeItem_111 : decode cX5_takeItem 111 = .ok (.aload_n 0, 1) := by decide +kernel
theorem dX5_takeItem_112 : decode cX5_takeItem 112 = .ok (.invokevirtual 65, 3) := by decide +kernel
theorem dX5_takeItem_115 : decode cX5_takeItem 115 = .ok (.bipush (-9), 2) := by decide +kernel
theorem dX5_takeItem_117 : decode cX5_takeItem 117 = .ok (.invokevirtual 61, 3) := by decide +kernel
theorem dX5_takeItem_120 : decode cX5_takeItem 120 = .ok (.return_, 1) := by decide +kernel
theorem dX5_kindByLetter_0 : decode cX5_kindByLetter 0 = .ok (.iconst 0, 1) := by decide +kernel
theorem dX5_kindByLetter_1 : decode cX5_kindByLetter 1 = .ok (.istore_n 1, 1) := by decide +kernel
theorem dX5_kindByLetter_2 : decode cX5_kindByLetter 2 = .ok (.iload_n 1, 1) := by decide +kernel
theorem dX5_kindByLetter_3 : decode cX5_kindByLetter 3 = .ok (.getstatic 68, 3) := by decide +kernel
theorem dX5_kindByLetter_6 : decode cX5_kindByLetter 6 = .ok (.arraylength, 1) := by decide +kernel
theorem dX5_kindByLetter_7 : decode cX5_kindByLetter 7 = .ok (.if_icmp .ge 20, 3) := by decide +kernel
theorem dX5_kindByLetter_10 : decode cX5_kindByLetter 10 = .ok (.getstatic 68, 3) := by decide +kernel
theorem dX5_kindByLetter_13 : decode cX5_kindByLetter 13 = .ok (.iload_n 1, 1) := by decide +kernel
theorem dX5_kindByLetter_14 : decode cX5_kindByLetter 14 = .ok (.iaload, 1) := by decide +kernel
theorem dX5_kindByLetter_15 : decode cX5_kindByLetter 15 = .ok (.iload_n 0, 1) := by decide +kernel
theorem dX5_kindByLetter_16 : decode cX5_kindByLetter 16 = .ok (.if_icmp .ne 5, 3) := by decide +kernel
theorem dX5_kindByLetter_19 : decode cX5_kindByLetter 19 = .ok (.iload_n 1, 1) := by decide +kernel
theorem dX5_kindByLetter_20 : decode cX5_kindByLetter 20 = .ok (.ireturn, 1) := by decide +kernel
theorem dX5_kindByLetter_21 : decode cX5_kindByLetter 21 = .ok (.iinc 1 1, 3) := by decide +kernel
theorem dX5_kindByLetter_24 : decode cX5_kindByLetter 24 = .ok (.goto (-22), 3) := by decide +kernel
theorem dX5_kindByLetter_27 : decode cX5_kindByLetter 27 = .ok (.bipush (-9), 2) := by decide +kernel
theorem dX5_kindByLetter_29 : decode cX5_kindByLetter 29 = .ok (.ireturn, 1) := by decide +kernel
theorem dX5_takeFigure_0 : decode cX5_takeFigure 0 = .ok (.aload_n 0, 1) := by decide +kernel
theorem dX5_takeFigure_1 : decode cX5_takeFigure 1 = .ok (.getfield 31, 3) := by decide +kernel
theorem dX5_takeFigure_4 : decode cX5_takeFigure 4 = .ok (.ifCond .eq 5, 3) := by decide +kernel
theorem dX5_takeFigure_7 : decode cX5_takeFigure 7 = .ok (.iload_n 1, 1) := by decide +kernel
theorem dX5_takeFigure_8 : decode cX5_takeFigure 8 = .ok (.ireturn, 1) := by decide +kernel
theorem dX5_takeFigure_9 : decode cX5_takeFigure 9 = .ok (.aload_n 0, 1) := by decide +kernel
theorem dX5_takeFigure_10 : decode cX5_takeFigure 10 = .ok (.getfield 28, 3) := by decide +kernel
theorem dX5_takeFigure_13 : decode cX5_takeFigure 13 = .ok (.aload_n 0, 1) := by decide +kernel
theorem dX5_takeFigure_14 : decode cX5_takeFigure 14 = .ok (.getfield 25, 3) := by decide +kernel
theorem dX5_takeFigure_17 : decode cX5_takeFigure 17 = .ok (.if_icmp .ge 25, 3) := by decide +kernel
theorem dX5_takeFigure_20 : decode cX5_takeFigure 20 = .ok (.aload_n 0, 1) := by decide +kernel
theorem dX5_takeFigure_21 : decode cX5_takeFigure 21 = .ok (.invokevirtual 40, 3) := by decide +kernel
theorem dX5_takeFigure_24 : decode cX5_takeFigure 24 = .ok (.bipush 48, 2) := by decide +kernel
theorem dX5_takeFigure_26 : decode cX5_takeFigure 26 = .ok (.iload_n 1, 1) := by decide +kernel
theorem dX5_takeFigure_27 : decode cX5_takeFigure 27 = .ok (.iadd, 1) := by decide +kernel
theorem dX5_takeFigure_28 : decode cX5_takeFigure 28 = .ok (.if_icmp .lt 14, 3) := by decide +kernel
theorem dX5_takeFigure_31 : decode cX5_takeFigure 31 = .ok (.aload_n 0, 1) := by decide +kernel
theorem dX5_takeFigure_32 : decode cX5_takeFigure 32 = .ok (.invokevirtual 40, 3) := by decide +kernel
theorem dX5_takeFigure_35 : decode cX5_takeFigure 35 = .ok (.bipush 48, 2) := by decide +kernel
theorem dX5_takeFigure_37 : decode cX5_takeFigure 37 = .ok (.iload_n 2, 1) := by decide +kernel
theorem dX5_takeFigure_38 : decode cX5_takeFigure 38 = .ok (.iadd, 1) := by decide +kernel
theorem dX5_takeFigure_39 : decode cX5_takeFigure 39 = .ok (.if_icmp .le 10, 3) := by decide +kernel
theorem dX5_takeFigure_42 : decode cX5_takeFigure 42 = .ok (.aload_n 0, 1) := by decide +kernel
theorem dX5_takeFigure_43 : decode cX5_takeFigure 43 = .ok (.iconst 1, 1) := by decide +kernel
theorem dX5_takeFigure_44 : decode cX5_takeFigure 44 = .ok (.putfield 31, 3) := by decide +kernel
theorem dX5_takeFigure_47 : decode cX5_takeFigure 47 = .ok (.iload_n 1, 1) := by decide +kernel
theorem dX5_takeFigure_48 : decode cX5_takeFigure 48 = .ok (.ireturn, 1) := by decide +kernel
theorem dX5_takeFigure_49 : decode cX5_takeFigure 49 = .ok (.aload_n 0, 1) := by decide +kernel
theorem dX5_takeFigure_50 : decode cX5_takeFigure 50 = .ok (.dup, 1) := by decide +kernel
theorem dX5_takeFigure_51 : decode cX5_takeFigure 51 = .ok (.getfield 28, 3) := by decide +kernel
theorem dX5_takeFigure_54 : decode cX5_takeFigure 54 = .ok (.iconst 1, 1) := by decide +kernel
theorem dX5_takeFigure_55 : decode cX5_takeFigure 55 = .ok (.iadd, 1) := by decide +kernel
theorem dX5_takeFigure_56 : decode cX5_takeFigure 56 = .ok (.putfield 28, 3) := by decide +kernel
theorem dX5_takeFigure_59 : decode cX5_takeFigure 59 = .ok (.aload_n 0, 1) := by decide +kernel
theorem dX5_takeFigure_60 : decode cX5_takeFigure 60 = .ok (.getfield 9, 3) := by decide +kernel
theorem dX5_takeFigure_63 : decode cX5_takeFigure 63 = .ok (.aload_n 0, 1) := by decide +kernel
theorem dX5_takeFigure_64 : decode cX5_takeFigure 64 = .ok (.getfield 15, 3) := by decide +kernel
theorem dX5_takeFigure_67 : decode cX5_takeFigure 67 = .ok (.aload_n 0, 1) := by decide +kernel
theorem dX5_takeFigure_68 : decode cX5_takeFigure 68 = .ok (.getfield 28, 3) := by decide +kernel
theorem dX5_takeFigure_71 : decode cX5_takeFigure 71 = .ok (.iconst 1, 1) := by decide +kernel
theorem dX5_takeFigure_72 : decode cX5_takeFigure 72 = .ok (.isub, 1) := by decide +kernel
theorem dX5_takeFigure_73 : decode cX5_takeFigure 73 = .ok (.invokevirtual 48, 3) := by decide +kernel
theorem dX5_takeFigure_76 : decode cX5_takeFigure 76 = .ok (.bipush 48, 2) := by decide +kernel
theorem dX5_takeFigure_78 : decode cX5_takeFigure 78 = .ok (.isub, 1) := by decide +kernel
theorem dX5_takeFigure_79 : decode cX5_takeFigure 79 = .ok (.ireturn, 1) := by decide +kernel
theorem dX5_isAtFigure_0 : decode cX5_isAtFigure 0 = .ok (.aload_n 0, 1) := by decide +kernel
theorem dX5_isAtFigure_1 : decode cX5_isAtFigure 1 = .ok (.getfield 31, 3) := by decide +kernel
theorem dX5_isAtFigure_4 : decode cX5_isAtFigure 4 = .ok (.ifCond .ne 36, 3) := by decide +kernel
theorem dX5_isAtFigure_7 : decode cX5_isAtFigure 7 = .ok (.aload_n 0, 1) := by decide +kernel
theorem dX5_isAtFigure_8 : decode cX5_isAtFigure 8 = .ok (.getfield 28, 3) := by decide +kernel
theorem dX5_isAtFigure_11 : decode cX5_isAtFigure 11 = .ok (.aload_n 0, 1) := by decide +kernel
theorem dX5_isAtFigure_12 : decode cX5_isAtFigure 12 = .ok (.getfield 25, 3) := by decide +kernel
theorem dX5_isAtFigure_15 : decode cX5_isAtFigure 15 = .ok (.if_icmp .ge 25, 3) := by decide +kernel
theorem dX5_isAtFigure_18 : decode cX5_isAtFigure 18 = .ok (.aload_n 0, 1) := by decide +kernel
theorem dX5_isAtFigure_19 : decode cX5_isAtFigure 19 = .ok (.invokevirtual 40, 3) := by decide +kernel
theorem dX5_isAtFigure_22 : decode cX5_isAtFigure 22 = .ok (.bipush 48, 2) := by decide +kernel
theorem dX5_isAtFigure_24 : decode cX5_isAtFigure 24 = .ok (.if_icmp .lt 16, 3) := by decide +kernel
theorem dX5_isAtFigure_27 : decode cX5_isAtFigure 27 = .ok (.aload_n 0, 1) := by decide +kernel
theorem dX5_isAtFigure_28 : decode cX5_isAtFigure 28 = .ok (.invokevirtual 40, 3) := by decide +kernel
theorem dX5_isAtFigure_31 : decode cX5_isAtFigure 31 = .ok (.bipush 57, 2) := by decide +kernel
theorem dX5_isAtFigure_33 : decode cX5_isAtFigure 33 = .ok (.if_icmp .gt 7, 3) := by decide +kernel
theorem dX5_isAtFigure_36 : decode cX5_isAtFigure 36 = .ok (.iconst 1, 1) := by decide +kernel
theorem dX5_isAtFigure_37 : decode cX5_isAtFigure 37 = .ok (.goto 4, 3) := by decide +kernel
theorem dX5_isAtFigure_40 : decode cX5_isAtFigure 40 = .ok (.iconst 0, 1) := by decide +kernel
theorem dX5_isAtFigure_41 : decode cX5_isAtFigure 41 = .ok (.ireturn, 1) := by decide +kernel
theorem dX5_takeWords_0 : decode cX5_takeWords 0 = .ok (.iconst 0, 1) := by decide +kernel
theorem dX5_takeWords_1 : decode cX5_takeWords 1 = .ok (.istore_n 1, 1) := by decide +kernel
theorem dX5_takeWords_2 : decode cX5_takeWords 2 = .ok (.iconst 0, 1) := by decide +kernel
theorem dX5_takeWords_3 : decode cX5_takeWords 3 = .ok (.istore_n 2, 1) := by decide +kernel
theorem dX5_takeWords_4 : decode cX5_takeWords 4 = .ok (.iconst 0, 1) := by decide +kernel
theorem dX5_takeWords_5 : decode cX5_takeWords 5 = .ok (.istore_n 3, 1) := by decide +kernel
theorem dX5_takeWords_6 : decode cX5_takeWords 6 = .ok (.iload_n 3, 1) := by decide +kernel
theorem dX5_takeWords_7 : decode cX5_takeWords 7 = .ok (.bipush 80, 2) := by decide +kernel
theorem dX5_takeWords_9 : decode cX5_takeWords 9 = .ok (.if_icmp .ge 46, 3) := by decide +kernel
theorem dX5_takeWords_12 : decode cX5_takeWords 12 = .ok (.aload_n 0, 1) := by decide +kernel
theorem dX5_takeWords_13 : decode cX5_takeWords 13 = .ok (.invokevirtual 72, 3) := by decide +kernel
theorem dX5_takeWords_16 : decode cX5_takeWords 16 = .ok (.ifCond .eq 39, 3) := by decide +kernel
theorem dX5_takeWords_19 : decode cX5_takeWords 19 = .ok (.aload_n 0, 1) := by decide +kernel
theorem dX5_takeWords_20 : decode cX5_takeWords 20 = .ok (.iload_n 2, 1) := by decide +kernel
theorem dX5_takeWords_21 : decode cX5_takeWords 21 = .ok (.bipush 6, 2) := by decide +kernel
theorem dX5_takeWords_23 : decode cX5_takeWords 23 = .ok (.invokevirtual 58, 3) := by decide +kernel
theorem dX5_takeWords_26 : decode cX5_takeWords 26 = .ok (.istore 4, 2) := by decide +kernel
theorem dX5_takeWords_28 : decode cX5_takeWords 28 = .ok (.aload_n 0, 1) := by decide +kernel
theorem dX5_takeWords_29 : decode cX5_takeWords 29 = .ok (.getfield 31, 3) := by decide +kernel
theorem dX5_takeWords_32 : decode cX5_takeWords 32 = .ok (.ifCond .eq 5, 3) := by decide +kernel
theorem dX5_takeWords_35 : decode cX5_takeWords 35 = .ok (.iload_n 1, 1) := by decide +kernel
theorem dX5_takeWords_36 : decode cX5_takeWords 36 = .ok (.ireturn, 1) := by decide +kernel
theorem dX5_takeWords_37 : decode cX5_takeWords 37 = .ok (.iload_n 1, 1) := by decide +kernel
theorem dX5_takeWords_38 : decode cX5_takeWords 38 = .ok (.iconst 1, 1) := by decide +kernel
theorem dX5_takeWords_39 : decode cX5_takeWords 39 = .ok (.iload 4, 2) := by decide +kernel
theorem dX5_takeWords_41 : decode cX5_takeWords 41 = .ok (.ishl, 1) := by decide +kernel
theorem dX5_takeWords_42 : decode cX5_takeWords 42 = .ok (.ior, 1) := by decide +kernel
theorem dX5_takeWords_43 : decode cX5_takeWords 43 = .ok (.istore_n 1, 1) := by decide +kernel
theorem dX5_takeWords_44 : decode cX5_takeWords 44 = .ok (.iload 4, 2) := by decide +kernel
theorem dX5_takeWords_46 : decode cX5_takeWords 46 = .ok (.iconst 1, 1) := by decide +kernel
theorem dX5_takeWords_47 : decode cX5_takeWords 47 = .ok (.iadd, 1) := by decide +kernel
theorem dX5_takeWords_48 : decode cX5_takeWords 48 = .ok (.istore_n 2, 1) := by decide +kernel
theorem dX5_takeWords_49 : decode cX5_takeWords 49 = .ok (.iinc 3 1, 3) := by decide +kernel
theorem dX5_takeWords_52 : decode cX5_takeWords 52 = .ok (.goto (-46), 3) := by decide +kernel
theorem dX5_takeWords_55 : decode cX5_takeWords 55 = .ok (.iload_n 1, 1) := by decide +kernel
theorem dX5_takeWords_56 : decode cX5_takeWords 56 = .ok (.ireturn, 1) := by decide +kernel
theorem dX6_init_0 : decode cX6_init 0 = .ok (.aload_n 0, 1) := by decide +kernel
theorem dX6_init_1 : decode cX6_init 1 = .ok (.invokespecial 3, 3) := by decide +kernel
theorem dX6_init_4 : decode cX6_init 4 = .ok (.aload_n 0, 1) := by decide +kernel
theorem dX6_init_5 : decode cX6_init 5 = .ok (.iload_n 1, 1) := by decide +kernel
theorem dX6_init_6 : decode cX6_init 6 = .ok (.iload_n 2, 1) := by decide +kernel
theorem dX6_init_7 : decode cX6_init 7 = .ok (.multianewarray 9 2, 4) := by decide +kernel
theorem dX6_init_11 : decode cX6_init 11 = .ok (.putfield 11, 3) := by decide +kernel
theorem dX6_init_14 : decode cX6_init 14 = .ok (.aload_n 0, 1) := by decide +kernel
theorem dX6_init_15 : decode cX6_init 15 = .ok (.iload_n 1, 1) := by decide +kernel
theorem dX6_init_16 : decode cX6_init 16 = .ok (.newarray .int, 2) := by decide +kernel
theorem dX6_init_18 : decode cX6_init 18 = .ok (.putfield 16, 3) := by decide +kernel
theorem dX6_init_21 : decode cX6_init 21 = .ok (.aload_n 0, 1) := by decide +kernel
theorem dX6_init_22 : decode cX6_init 22 = .ok (.getfield 16, 3) := by decide +kernel
theorem dX6_init_25 : decode cX6_init 25 = .ok (.iconst (-1), 1) := by decide +kernel
theorem dX6_init_26 : decode cX6_init 26 = .ok (.invokestatic 20, 3) := by decide +kernel
theorem dX6_init_29 : decode cX6_init 29 = .ok (.return_, 1) := by decide +kernel
theorem dX6_isOne_0 : decode cX6_isOne 0 = .ok (.iload_n 1, 1) := by decide +kernel
theorem dX6_isOne_1 : decode cX6_isOne 1 = .ok (.ifCond .lt 16, 3) := by decide +kernel
theorem dX6_isOne_4 : decode cX6_isOne 4 = .ok (.iload_n 1, 1) := by decide +kernel
theorem dX6_isOne_5 : decode cX6_isOne 5 = .ok (.aload_n 0, 1) := by decide +kernel
theorem dX6_isOne_6 : decode cX6_isOne 6 = .ok (.getfield 16, 3) := by decide +kernel
theorem dX6_isOne_9 : decode cX6_isOne 9 = .ok (.arraylength, 1) := by decide +kernel
theorem dX6_isOne_10 : decode cX6_isOne 10 = .ok (.if_icmp .ge 7, 3) := by decide +kernel
theorem dX6_isOne_13 : decode cX6_isOne 13 = .ok (.iconst 1, 1) := by decide +kernel
theorem dX6_isOne_14 : decode cX6_isOne 14 = .ok (.goto 4, 3) := by decide +kernel
theorem dX6_isOne_17 : decode cX6_isOne 17 = .ok (.iconst 0, 1) := by decide +kernel
theorem dX6_isOne_18 : decode cX6_isOne 18 = .ok (.ireturn, 1) := by decide +kernel
theorem dX6_isThere_0 : decode cX6_isThere 0 = .ok (.aload_n 0, 1) := by decide +kernel
theorem dX6_isThere_1 : decode cX6_isThere 1 = .ok (.getfield 16, 3) := by decide +kernel
theorem dX6_isThere_4 : decode cX6_isThere 4 = .ok (.iload_n 1, 1) := by decide +kernel
theorem dX6_isThere_5 : decode cX6_isThere 5 = .ok (.iaload, 1) := by decide +kernel
theorem dX6_isThere_6 : decode cX6_isThere 6 = .ok (.iconst (-1), 1) := by decide +kernel
theorem dX6_isThere_7 : decode cX6_isThere 7 = .ok (.if_icmp .eq 7, 3) := by decide +kernel
theorem dX6_isThere_10 : decode cX6_isThere 10 = .ok (.iconst 1, 1) := by decide +kernel
theorem dX6_isThere_11 : decode cX6_isThere 11 = .ok (.goto 4, 3) := by decide +kernel
theorem dX6_isThere_14 : decode cX6_isThere 14 = .ok (.iconst 0, 1) := by decide +kernel
theorem dX6_isThere_15 : decode cX6_isThere 15 = .ok (.ireturn, 1) := by decide +kernel
theorem dX6_isPlace_0 : decode cX6_isPlace 0 = .ok (.iload_n 2, 1) := by decide +kernel
theorem dX6_isPlace_1 : decode cX6_isPlace 1 = .ok (.ifCond .lt 17, 3) := by decide +kernel
theorem dX6_isPlace_4 : decode cX6_isPlace 4 = .ok (.iload_n 2, 1) := by decide +kernel
theorem dX6_isPlace_5 : decode cX6_isPlace 5 = .ok (.aload_n 0, 1) := by decide +kernel
theorem dX6_isPlace_6 : decode cX6_isPlace 6 = .ok (.getfield 16, 3) := by decide +kernel
theorem dX6_isPlace_9 : decode cX6_isPlace 9 = .ok (.iload_n 1, 1) := by decide +kernel
theorem dX6_isPlace_10 : decode cX6_isPlace 10 = .ok (.iaload, 1) := by decide +kernel
theorem dX6_isPlace_11 : decode cX6_isPlace 11 = .ok (.if_icmp .ge 7, 3) := by decide +kernel
theorem dX6_isPlace_14 : decode cX6_isPlace 14 = .ok (.iconst 1, 1) := by decide +kernel
theorem dX6_isPlace_15 : decode cX6_isPlace 15 = .ok (.goto 4, 3) := by decide +kernel
theorem dX6_isPlace_18 : decode cX6_isPlace 18 = .ok (.iconst 0, 1) := by decide +kernel
theorem dX6_isPlace_19 : decode cX6_isPlace 19 = .ok (.ireturn, 1) := by decide +kernel
theorem dX6_arePlaces_0 : decode cX6_arePlaces 0 = .ok (.iload_n 2, 1) := by decide +kernel
theorem dX6_arePlaces_1 : decode cX6_arePlaces 1 = .ok (.ifCond .lt 19, 3) := by decide +kernel
theorem dX6_arePlaces_4 : decode cX6_arePlaces 4 = .ok (.iload_n 2, 1) := by decide +kernel
theorem dX6_arePlaces_5 : decode cX6_arePlaces 5 = .ok (.aload_n 0, 1) := by decide +kernel
theorem dX6_arePlaces_6 : decode cX6_arePlaces 6 = .ok (.getfield 16, 3) := by decide +kernel
theorem dX6_arePlaces_9 : decode cX6_arePlaces 9 = .ok (.iload_n 1, 1) := by decide +kernel
theorem dX6_arePlaces_10 : decode cX6_arePlaces 10 = .ok (.iaload, 1) := by decide +kernel
theorem dX6_arePlaces_11 : decode cX6_arePlaces 11 = .ok (.iload_n 3, 1) := by decide +kernel
theorem dX6_arePlaces_12 : decode cX6_arePlaces 12 = .ok (.isub, 1) := by decide +kernel
theorem dX6_arePlaces_13 : decode cX6_arePlaces 13 = .ok (.if_icmp .gt 7, 3) := by decide +kernel
theorem dX6_arePlaces_16 : decode cX6_arePlaces 16 = .ok (.iconst 1, 1) := by decide +kernel
theorem dX6_arePlaces_17 : decode cX6_arePlaces 17 = .ok (.goto 4, 3) := by decide +kernel
theorem dX6_arePlaces_20 : decode cX6_arePlaces 20 = .ok (.iconst 0, 1) := by decide +kernel
theorem dX6_arePlaces_21 : decode cX6_arePlaces 21 = .ok (.ireturn, 1) := by decide +kernel
theorem dX6_sizeOf_0 : decode cX6_sizeOf 0 = .ok (.aload_n 0, 1) := by decide +kernel
theorem dX6_sizeOf_1 : decode cX6_sizeOf 1 = .ok (.getfield 16, 3) := by decide +kernel
theorem dX6_sizeOf_4 : decode cX6_sizeOf 4 = .ok (.iload_n 1, 1) := by decide +kernel
theorem dX6_sizeOf_5 : decode cX6_sizeOf 5 = .ok (.iaload, 1) := by decide +kernel
theorem dX6_sizeOf_6 : decode cX6_sizeOf 6 = .ok (.ireturn, 1) := by decide +kernel
theorem dX6_placeOf_0 : decode cX6_placeOf 0 = .ok (.aload_n 0, 1) := by decide +kernel
theorem dX6_placeOf_1 : decode cX6_placeOf 1 = .ok (.getfield 11, 3) := by decide +kernel
theorem dX6_placeOf_4 : decode cX6_placeOf 4 = .ok (.iload_n 1, 1) := by decide +kernel
theorem dX6_placeOf_5 : decode cX6_placeOf 5 = .ok (.aaload, 1) := by decide +kernel
theorem dX6_placeOf_6 : decode cX6_placeOf 6 = .ok (.iload_n 2, 1) := by decide +kernel
theorem dX6_placeOf_7 : decode cX6_placeOf 7 = .ok (.iaload, 1) := by decide +kernel
theorem dX6_placeOf_8 : decode cX6_placeOf 8 = .ok (.ireturn, 1) := by decide +kernel
theorem dX6_write_0 : decode cX6_write 0 = .ok (.aload_n 0, 1) := by decide +kernel
theorem dX6_write_1 : decode cX6_write 1 = .ok (.getfield 11, 3) := by decide +kernel
theorem dX6_write_4 : decode cX6_write 4 = .ok (.iload_n 1, 1) := by decide +kernel
theorem dX6_write_5 : decode cX6_write 5 = .ok (.aaload, 1) := by decide +kernel
theorem dX6_write_6 : decode cX6_write 6 = .ok (.iload_n 2, 1) := by decide +kernel
theorem dX6_write_7 : decode cX6_write 7 = .ok (.iload_n 3, 1) := by decide +kernel
theorem dX6_write_8 : decode cX6_write 8 = .ok (.iastore, 1) := by decide +kernel
theorem dX6_write_9 : decode cX6_write 9 = .ok (.return_, 1) := by decide +kernel
theorem dX6_make_0 : decode cX6_make 0 = .ok (.aload_n 0, 1) := by decide +kernel
theorem dX6_make_1 : decode cX6_make 1 = .ok (.getfield 16, 3) := by decide +kernel
theorem dX6_make_4 : decode cX6_make 4 = .ok (.iload_n 1, 1) := by decide +kernel
theorem dX6_make_5 : decode cX6_make 5 = .ok (.iload_n 2, 1) := by decide +kernel
theorem dX6_make_6 : decode cX6_make 6 = .ok (.iastore, 1) := by decide +kernel
theorem dX6_make_7 : decode cX6_make 7 = .ok (.iconst 0, 1) := by decide +kernel
theorem dX6_make_8 : decode cX6_make 8 = .ok (.istore 4, 2) := by decide +kernel
theorem dX6_make_10 : decode cX6_make 10 = .ok (.iload 4, 2) := by decide +kernel
theorem dX6_make_12 : decode cX6_make 12 = .ok (.iload_n 2, 1) := by decide +kernel
theorem dX6_make_13 : decode cX6_make 13 = .ok (.if_icmp .ge 19, 3) := by decide +kernel
theorem dX6_make_16 : decode cX6_make 16 = .ok (.aload_n 0, 1) := by decide +kernel
theorem dX6_make_17 : decode cX6_make 17 = .ok (.getfield 11, 3) := by decide +kernel
theorem dX6_make_20 : decode cX6_make 20 = .ok (.iload_n 1, 1) := by decide +kernel
theorem dX6_make_21 : decode cX6_make 21 = .ok (.aaload, 1) := by decide +kernel
theorem dX6_make_22 : decode cX6_make 22 = .ok (.iload 4, 2) := by decide +kernel
theorem dX6_make_24 : decode cX6_make 24 = .ok (.iload_n 3, 1) := by decide +kernel
theorem dX6_make_25 : decode cX6_make 25 = .ok (.iastore, 1) := by decide +kernel
theorem dX6_make_26 : decode cX6_make 26 = .ok (.iinc 4 1, 3) := by decide +kernel
theorem dX6_make_29 : decode cX6_make 29 = .ok (.goto (-19), 3) := by decide +kernel
theorem dX6_make_32 : decode cX6_make 32 = .ok (.return_, 1) := by decide +kernel
theorem dX6_drop_0 : decode cX6_drop 0 = .ok (.aload_n 0, 1) := by decide +kernel
theorem dX6_drop_1 : decode cX6_drop 1 = .ok (.getfield 16, 3) := by decide +kernel
theorem dX6_drop_4 : decode cX6_drop 4 = .ok (.iload_n 1, 1) := by decide +kernel
theorem dX6_drop_5 : decode cX6_drop 5 = .ok (.iconst (-1), 1) := by decide +kernel
theorem dX6_drop_6 : decode cX6_drop 6 = .ok (.iastore, 1) := by decide +kernel
theorem dX6_drop_7 : decode cX6_drop 7 = .ok (.return_, 1) := by decide +kernel
theorem dX6_carry_0 : decode cX6_carry 0 = .ok (.aload_n 0, 1) := by decide +kernel
theorem dX6_carry_1 : decode cX6_carry 1 = .ok (.getfield 11, 3) := by decide +kernel
theorem dX6_carry_4 : decode cX6_carry 4 = .ok (.iload_n 1, 1) := by decide +kernel
theorem dX6_carry_5 : decode cX6_carry 5 = .ok (.aaload, 1) := by decide +kernel
theorem dX6_carry_6 : decode cX6_carry 6 = .ok (.iload_n 2, 1) := by decide +kernel
theorem dX6_carry_7 : decode cX6_carry 7 = .ok (.aload_n 0, 1) := by decide +kernel
theorem dX6_carry_8 : decode cX6_carry 8 = .ok (.getfield 11, 3) := by decide +kernel
theorem dX6_carry_11 : decode cX6_carry 11 = .ok (.iload_n 3, 1) := by decide +kernel
theorem dX6_carry_12 : decode cX6_carry 12 = .ok (.aaload, 1) := by decide +kernel
theorem dX6_carry_13 : decode cX6_carry 13 = .ok (.iload 4, 2) := by decide +kernel
theorem dX6_carry_15 : decode cX6_carry 15 = .ok (.iload 5, 2) := by decide +kernel
theorem dX6_carry_17 : decode cX6_carry 17 = .ok (.invokestatic 26, 3) := by decide +kernel
theorem dX6_carry_20 : decode cX6_carry 20 = .ok (.return_, 1) := by decide +kernel
theorem dX6_sumOf_0 : decode cX6_sumOf 0 = .ok (.lconst 0, 1) := by decide +kernel
theorem dX6_sumOf_1 : decode cX6_sumOf 1 = .ok (.lstore_n 2, 1) := by decide +kernel
theorem dX6_sumOf_2 : decode cX6_sumOf 2 = .ok (.iconst 0, 1) := by decide +kernel
theorem dX6_sumOf_3 : decode cX6_sumOf 3 = .ok (.istore 4, 2) := by decide +kernel
theorem dX6_sumOf_5 : decode cX6_sumOf 5 = .ok (.iload 4, 2) := by decide +kernel
theorem dX6_sumOf_7 : decode cX6_sumOf 7 = .ok (.aload_n 0, 1) := by decide +kernel
theorem dX6_sumOf_8 : decode cX6_sumOf 8 = .ok (.getfield 16, 3) := by decide +kernel
theorem dX6_sumOf_11 : decode cX6_sumOf 11 = .ok (.iload_n 1, 1) := by decide +kernel
theorem dX6_sumOf_12 : decode cX6_sumOf 12 = .ok (.iaload, 1) := by decide +kernel
theorem dX6_sumOf_13 : decode cX6_sumOf 13 = .ok (.if_icmp .ge 22, 3) := by decide +kernel
theorem dX6_sumOf_16 : decode cX6_sumOf 16 = .ok (.lload_n 2, 1) := by decide +kernel
theorem dX6_sumOf_17 : decode cX6_sumOf 17 = .ok (.aload_n 0, 1) := by decide +kernel
theorem dX6_sumOf_18 : decode cX6_sumOf 18 = .ok (.getfield 11, 3) := by decide +kernel
theorem dX6_sumOf_21 : decode cX6_sumOf 21 = .ok (.iload_n 1, 1) := by decide +kernel
theorem dX6_sumOf_22 : decode cX6_sumOf 22 = .ok (.aaload, 1) := by decide +kernel
theorem dX6_sumOf_23 : decode cX6_sumOf 23 = .ok (.iload 4, 2) := by decide +kernel
theorem dX6_sumOf_25 : decode cX6_sumOf 25 = .ok (.iaload, 1) := by decide +kernel
theorem dX6_sumOf_26 : decode cX6_sumOf 26 = .ok (.i2l, 1) := by decide +kernel
theorem dX6_sumOf_27 : decode cX6_sumOf 27 = .ok (.ladd, 1) := by decide +kernel
theorem dX6_sumOf_28 : decode cX6_sumOf 28 = .ok (.lstore_n 2, 1) := by decide +kernel
theorem dX6_sumOf_29 : decode cX6_sumOf 29 = .ok (.iinc 4 1, 3) := by decide +kernel
theorem dX6_sumOf_32 : decode cX6_sumOf 32 = .ok (.goto (-27), 3) := by decide +kernel
theorem dX6_sumOf_35 : decode cX6_sumOf 35 = .ok (.lload_n 2, 1) := by decide +kernel
theorem dX6_sumOf_36 : decode cX6_sumOf 36 = .ok (.lreturn, 1) := by decide +kernel
theorem dX6_countThere_0 : decode cX6_countThere 0 = .ok (.iconst 0, 1) := by decide +kernel
theorem dX6_countThere_1 : decode cX6_countThere 1 = .ok (.istore_n 1, 1) := by decide +kernel
theorem dX6_countThere_2 : decode cX6_countThere 2 = .ok (.iconst 0, 1) := by decide +kernel
theorem dX6_countThere_3 : decode cX6_countThere 3 = .ok (.istore_n 2, 1) := by decide +kernel
theorem dX6_countThere_4 : decode cX6_countThere 4 = .ok (.iload_n 2, 1) := by decide +kernel
theorem dX6_countThere_5 : decode cX6_countThere 5 = .ok (.aload_n 0, 1) := by decide +kernel
theorem dX6_countThere_6 : decode cX6_countThere 6 = .ok (.getfield 16, 3) := by decide +kernel
theorem dX6_countThere_9 : decode cX6_countThere 9 = .ok (.arraylength, 1) := by decide +kernel
theorem dX6_countThere_10 : decode cX6_countThere 10 = .ok (.if_icmp .ge 20, 3) := by decide +kernel
theorem dX6_countThere_13 : decode cX6_countThere 13 = .ok (.aload_n 0, 1) := by decide +kernel
theorem dX6_countThere_14 : decode cX6_countThere 14 = .ok (.iload_n 2, 1) := by decide +kernel
theorem dX6_countThere_15 : decode cX6_countThere 15 = .ok (.invokevirtual 32, 3) := by decide +kernel
theorem dX6_countThere_18 : decode cX6_countThere 18 = .ok (.ifCond .eq 6, 3) := by decide +kernel
theorem dX6_countThere_21 : decode cX6_countThere 21 = .ok (.iinc 1 1, 3) := by decide +kernel
theorem dX6_countThere_24 : decode cX6_countThere 24 = .ok (.iinc 2 1, 3) := by decide +kernel
theorem dX6_countThere_27 : decode cX6_countThere 27 = .ok (.goto (-23), 3) := by decide +kernel
theorem dX6_countThere_30 : decode cX6_countThere 30 = .ok (.iload_n 1, 1) := by decide +kernel
theorem dX6_countThere_31 : decode cX6_countThere 31 = .ok (.ireturn, 1) := by decide +kernel
theorem dX6_digestOn_0 : decode cX6_digestOn 0 = .ok (.lload_n 1, 1) := by decide +kernel
theorem dX6_digestOn_1 : decode cX6_digestOn 1 = .ok (.lstore_n 3, 1) := by decide +kernel
theorem dX6_digestOn_2 : decode cX6_digestOn 2 = .ok (.iconst 0, 1) := by decide +kernel
theorem dX6_digestOn_3 : decode cX6_digestOn 3 = .ok (.istore 5, 2) := by decide +kernel
theorem dX6_digestOn_5 : decode cX6_digestOn 5 = .ok (.iload 5, 2) := by decide +kernel
theorem dX6_digestOn_7 : decode cX6_digestOn 7 = .ok (.aload_n 0, 1) := by decide +kernel
theorem dX6_digestOn_8 : decode cX6_digestOn 8 = .ok (.getfield 16, 3) := by decide +kernel
theorem dX6_digestOn_11 : decode cX6_digestOn 11 = .ok (.arraylength, 1) := by decide +kernel
theorem dX6_digestOn_12 : decode cX6_digestOn 12 = .ok (.if_icmp .ge 63, 3) := by decide +kernel
theorem dX6_digestOn_15 : decode cX6_digestOn 15 = .ok (.ldc2_w 36, 3) := by decide +kernel
theorem dX6_digestOn_18 : decode cX6_digestOn 18 = .ok (.lload_n 3, 1) := by decide +kernel
theorem dX6_digestOn_19 : decode cX6_digestOn 19 = .ok (.lmul, 1) := by decide +kernel
theorem dX6_digestOn_20 : decode cX6_digestOn 20 = .ok (.aload_n 0, 1) := by decide +kernel
theorem dX6_digestOn_21 : decode cX6_digestOn 21 = .ok (.getfield 16, 3) := by decide +kernel
theorem dX6_digestOn_24 : decode cX6_digestOn 24 = .ok (.iload 5, 2) := by decide +kernel
theorem dX6_digestOn_26 : decode cX6_digestOn 26 = .ok (.iaload, 1) := by decide +kernel
theorem dX6_digestOn_27 : decode cX6_digestOn 27 = .ok (.i2l, 1) := by decide +kernel
theorem dX6_digestOn_28 : decode cX6_digestOn 28 = .ok (.ladd, 1) := by decide +kernel
theorem dX6_digestOn_29 : decode cX6_digestOn 29 = .ok (.lstore_n 3, 1) := by decide +kernel
theorem dX6_digestOn_30 : decode cX6_digestOn 30 = .ok (.iconst 0, 1) := by decide +kernel
theorem dX6_digestOn_31 : decode cX6_digestOn 31 = .ok (.istore 6, 2) := by decide +kernel
theorem dX6_digestOn_33 : decode cX6_digestOn 33 = .ok (.iload 6, 2) := by decide +kernel
theorem dX6_digestOn_35 : decode cX6_digestOn 35 = .ok (.aload_n 0, 1) := by decide +kernel
theorem dX6_digestOn_36 : decode cX6_digestOn 36 = .ok (.getfield 16, 3) := by decide +kernel
theorem dX6_digestOn_39 : decode cX6_digestOn 39 = .ok (.iload 5, 2) := by decide +kernel
theorem dX6_digestOn_41 : decode cX6_digestOn 41 = .ok (.iaload, 1) := by decide +kernel
theorem dX6_digestOn_42 : decode cX6_digestOn 42 = .ok (.if_icmp .ge 27, 3) := by decide +kernel
theorem dX6_digestOn_45 : decode cX6_digestOn 45 = .ok (.ldc2_w 36, 3) := by decide +kernel
theorem dX6_digestOn_48 : decode cX6_digestOn 48 = .ok (.lload_n 3, 1) := by decide +kernel
theorem dX6_digestOn_49 : decode cX6_digestOn 49 = .ok (.lmul, 1) := by decide +kernel
theorem dX6_digestOn_50 : decode cX6_digestOn 50 = .ok (.aload_n 0, 1) := by decide +kernel
theorem dX6_digestOn_51 : decode cX6_digestOn 51 = .ok (.getfield 11, 3) := by decide +kernel
theorem dX6_digestOn_54 : decode cX6_digestOn 54 = .ok (.iload 5, 2) := by decide +kernel
theorem dX6_digestOn_56 : decode cX6_digestOn 56 = .ok (.aaload, 1) := by decide +kernel
theorem dX6_digestOn_57 : decode cX6_digestOn 57 = .ok (.iload 6, 2) := by decide +kernel
theorem dX6_digestOn_59 : decode cX6_digestOn 59 = .ok (.iaload, 1) := by decide +kernel
theorem dX6_digestOn_60 : decode cX6_digestOn 60 = .ok (.i2l, 1) := by decide +kernel
theorem dX6_digestOn_61 : decode cX6_digestOn 61 = .ok (.ladd, 1) := by decide +kernel
theorem dX6_digestOn_62 : decode cX6_digestOn 62 = .ok (.lstore_n 3, 1) := by decide +kernel
theorem dX6_digestOn_63 : decode cX6_digestOn 63 = .ok (.iinc 6 1, 3) := by decide +kernel
theorem dX6_digestOn_66 : decode cX6_digestOn 66 = .ok (.goto (-33), 3) := by decide +kernel
theorem dX6_digestOn_69 : decode cX6_digestOn 69 = .ok (.iinc 5 1, 3) := by decide +kernel
theorem dX6_digestOn_72 : decode cX6_digestOn 72 = .ok (.goto (-67), 3) := by decide +kernel
theorem dX6_digestOn_75 : decode cX6_digestOn 75 = .ok (.lload_n 3, 1) := by decide +kernel
theorem dX6_digestOn_76 : decode cX6_digestOn 76 = .ok (.lreturn, 1) := by decide +kernel
theorem dX7_init_0 : decode cX7_init 0 = .ok (.aload_n 0, 1) := by decide +kernel
theorem dX7_init_1 : decode cX7_init 1 = .ok (.invokespecial 1, 3) := by decide +kernel
theorem dX7_init_4 : decode cX7_init 4 = .ok (.aload_n 0, 1) := by decide +kernel
theorem dX7_init_5 : decode cX7_init 5 = .ok (.new 7, 3) := by decide +kernel
theorem dX7_init_8 : decode cX7_init 8 = .ok (.dup, 1) := by decide +kernel
theorem dX7_init_9 : decode cX7_init 9 = .ok (.bipush 6, 2) := by decide +kernel
theorem dX7_init_11 : decode cX7_init 11 = .ok (.bipush 40, 2) := by decide +kernel
theorem dX7_init_13 : decode cX7_init 13 = .ok (.invokespecial 11, 3) := by decide +kernel
theorem dX7_init_16 : decode cX7_init 16 = .ok (.putfield 14, 3) := by decide +kernel
theorem dX7_init_19 : decode cX7_init 19 = .ok (.aload_n 0, 1) := by decide +kernel
theorem dX7_init_20 : decode cX7_init 20 = .ok (.new 7, 3) := by decide +kernel
theorem dX7_init_23 : decode cX7_init 23 = .ok (.dup, 1) := by decide +kernel
theorem dX7_init_24 : decode cX7_init 24 = .ok (.iconst 4, 1) := by decide +kernel
theorem dX7_init_25 : decode cX7_init 25 = .ok (.bipush 80, 2) := by decide +kernel
theorem dX7_init_27 : decode cX7_init 27 = .ok (.invokespecial 11, 3) := by decide +kernel
theorem dX7_init_30 : decode cX7_init 30 = .ok (.putfield 18, 3) := by decide +kernel
theorem dX7_init_33 : decode cX7_init 33 = .ok (.aload_n 0, 1) := by decide +kernel
theorem dX7_init_34 : decode cX7_init 34 = .ok (.new 21, 3) := by decide +kernel
theorem dX7_init_37 : decode cX7_init 37 = .ok (.dup, 1) := by decide +kernel
theorem dX7_init_38 : decode cX7_init 38 = .ok (.invokespecial 23, 3) := by decide +kernel
theorem dX7_init_41 : decode cX7_init 41 = .ok (.putfield 24, 3) := by decide +kernel
theorem dX7_init_44 : decode cX7_init 44 = .ok (.aload_n 0, 1) := by decide +kernel
theorem dX7_init_45 : decode cX7_init 45 = .ok (.new 21, 3) := by decide +kernel
theorem dX7_init_48 : decode cX7_init 48 = .ok (.dup, 1) := by decide +kernel
theorem dX7_init_49 : decode cX7_init 49 = .ok (.invokespecial 23, 3) := by decide +kernel
theorem dX7_init_52 : decode cX7_init 52 = .ok (.putfield 28, 3) := by decide +kernel
theorem dX7_init_55 : decode cX7_init 55 = .ok (.aload_n 0, 1) := by decide +kernel
theorem dX7_init_56 : decode cX7_init 56 = .ok (.iconst 3, 1) := by decide +kernel
theorem dX7_init_57 : decode cX7_init 57 = .ok (.anewarray 21, 3) := by decide +kernel
theorem dX7_init_60 : decode cX7_init 60 = .ok (.dup, 1) := by decide +kernel
theorem dX7_init_61 : decode cX7_init 61 = .ok (.iconst 0, 1) := by decide +kernel
theorem dX7_init_62 : decode cX7_init 62 = .ok (.new 21, 3) := by decide +kernel
theorem dX7_init_65 : decode cX7_init 65 = .ok (.dup, 1) := by decide +kernel
theorem dX7_init_66 : decode cX7_init 66 = .ok (.invokespecial 23, 3) := by decide +kernel
theorem dX7_init_69 : decode cX7_init 69 = .ok (.aastore, 1) := by decide +kernel
theorem dX7_init_70 : decode cX7_init 70 = .ok (.dup, 1) := by decide +kernel
theorem dX7_init_71 : decode cX7_init 71 = .ok (.iconst 1, 1) := by decide +kernel
theorem dX7_init_72 : decode cX7_init 72 = .ok (.new 21, 3) := by decide +kernel
theorem dX7_init_75 : decode cX7_init 75 = .ok (.dup, 1) := by decide +kernel
theorem dX7_init_76 : decode cX7_init 76 = .ok (.invokespecial 23, 3) := by decide +kernel
theorem dX7_init_79 : decode cX7_init 79 = .ok (.aastore, 1) := by decide +kernel
theorem dX7_init_80 : decode cX7_init 80 = .ok (.dup, 1) := by decide +kernel
theorem dX7_init_81 : decode cX7_init 81 = .ok (.iconst 2, 1) := by decide +kernel
theorem dX7_init_82 : decode cX7_init 82 = .ok (.new 21, 3) := by decide +kernel
theorem dX7_init_85 : decode cX7_init 85 = .ok (.dup, 1) := by decide +kernel
theorem dX7_init_86 : decode cX7_init 86 = .ok (.invokespecial 23, 3) := by decide +kernel
theorem dX7_init_89 : decode cX7_init 89 = .ok (.aastore, 1) := by decide +kernel
theorem dX7_init_90 : decode cX7_init 90 = .ok (.putfield 31, 3) := by decide +kernel
theorem dX7_init_93 : decode cX7_init 93 = .ok (.aload_n 0, 1) := by decide +kernel
theorem dX7_init_94 : decode cX7_init 94 = .ok (.new 35, 3) := by decide +kernel
theorem dX7_init_97 : decode cX7_init 97 = .ok (.dup, 1) := by decide +kernel
theorem dX7_init_98 : decode cX7_init 98 = .ok (.invokespecial 37, 3) := by decide +kernel
theorem dX7_init_101 : decode cX7_init 101 = .ok (.putfield 38, 3) := by decide +kernel
theorem dX7_init_104 : decode cX7_init 104 = .ok (.aload_n 0, 1) := by decide +kernel
theorem dX7_init_105 : decode cX7_init 105 = .ok (.new 42, 3) := by decide +kernel
theorem dX7_init_108 : decode cX7_init 108 = .ok (.dup, 1) := by decide +kernel
theorem dX7_init_109 : decode cX7_init 109 = .ok (.invokespecial 44, 3) := by decide +kernel
theorem dX7_init_112 : decode cX7_init 112 = .ok (.putfield 45, 3) := by decide +kernel
theorem dX7_init_115 : decode cX7_init 115 = .ok (.aload_n 0, 1) := by decide +kernel
theorem dX7_init_116 : decode cX7_init 116 = .ok (.new 49, 3) := by decide +kernel
theorem dX7_init_119 : decode cX7_init 119 = .ok (.dup, 1) := by decide +kernel
theorem dX7_init_120 : decode cX7_init 120 = .ok (.invokespecial 51, 3) := by decide +kernel
theorem dX7_init_123 : decode cX7_init 123 = .ok (.putfield 52, 3) := by decide +kernel
theorem dX7_init_126 : decode cX7_init 126 = .ok (.aload_n 0, 1) := by decide +kernel
theorem dX7_init_127 : decode cX7_init 127 = .ok (.new 56, 3) := by decide +kernel
theorem dX7_init_130 : decode cX7_init 130 = .ok (.dup, 1) := by decide +kernel
theorem dX7_init_131 : decode cX7_init 131 = .ok (.invokespecial 58, 3) := by decide +kernel
theorem dX7_init_134 : decode cX7_init 134 = .ok (.putfield 59, 3) := by decide +kernel
theorem dX7_init_137 : decode cX7_init 137 = .ok (.aload_n 0, 1) := by decide +kernel
theorem dX7_init_138 : decode cX7_init 138 = .ok (.bipush 6, 2) := by decide +kernel
theorem dX7_init_140 : decode cX7_init 140 = .ok (.newarray .int, 2) := by decide +kernel
theorem dX7_init_142 : decode cX7_init 142 = .ok (.putfield 63, 3) := by decide +kernel
theorem dX7_init_145 : decode cX7_init 145 = .ok (.aload_n 0, 1) := by decide +kernel
theorem dX7_init_146 : decode cX7_init 146 = .ok (.lconst 1, 1) := by decide +kernel
theorem dX7_init_147 : decode cX7_init 147 = .ok (.putfield 67, 3) := by decide +kernel
theorem dX7_init_150 : decode cX7_init 150 = .ok (.return_, 1) := by decide +kernel
theorem dX7_row_0 : decode cX7_row 0 = .ok (.aload_n 0, 1) := by decide +kernel
theorem dX7_row_1 : decode cX7_row 1 = .ok (.getfield 14, 3) := by decide +kernel
theorem dX7_row_4 : decode cX7_row 4 = .ok (.iload_n 1, 1) := by decide +kernel
theorem dX7_row_5 : decode cX7_row 5 = .ok (.invokevirtual 71, 3) := by decide +kernel
theorem dX7_row_8 : decode cX7_row 8 = .ok (.ifCond .eq 9, 3) := by decide +kernel
theorem dX7_row_11 : decode cX7_row 11 = .ok (.iload_n 2, 1) := by decide +kernel
theorem dX7_row_12 : decode cX7_row 12 = .ok (.bipush 40, 2) := by decide +kernel
theorem dX7_row_14 : decode cX7_row 14 = .ok (.if_icmp .le 5, 3) := by decide +kernel
theorem dX7_row_17 : decode cX7_row 17 = .ok (.iconst (-1), 1) := by decide +kernel
theorem dX7_row_18 : decode cX7_row 18 = .ok (.ireturn, 1) := by decide +kernel
theorem dX7_row_19 : decode cX7_row 19 = .ok (.iload_n 2, 1) := by decide +kernel
theorem dX7_row_20 : decode cX7_row 20 = .ok (.ifCond .ge 9, 3) := by decide +kernel
theorem dX7_row_23 : decode cX7_row 23 = .ok (.aload_n 0, 1) := by decide +kernel
theorem dX7_row_24 : decode cX7_row 24 = .ok (.iconst 5, 1) := by decide +kernel
theorem dX7_row_25 : decode cX7_row 25 = .ok (.invokevirtual 75, 3) := by decide +kernel
theorem dX7_row_28 : decode cX7_row 28 = .ok (.ireturn, 1) := by decide +kernel
theorem dX7_row_29 : decode cX7_row 29 = .ok (.aload_n 0, 1) := by decide +kernel
theorem dX7_row_30 : decode cX7_row 30 = .ok (.getfield 14, 3) := by decide +kernel
theorem dX7_row_33 : decode cX7_row 33 = .ok (.iload_n 1, 1) := by decide +kernel
theorem dX7_row_34 : decode cX7_row 34 = .ok (.iload_n 2, 1) := by decide +kernel
theorem dX7_row_35 : decode cX7_row 35 = .ok (.iconst 0, 1) := by decide +kernel
theorem dX7_row_36 : decode cX7_row 36 = .ok (.invokevirtual 79, 3) := by decide +kernel
theorem dX7_row_39 : decode cX7_row 39 = .ok (.iload_n 2, 1) := by decide +kernel
theorem dX7_row_40 : decode cX7_row 40 = .ok (.ireturn, 1) := by decide +kernel
theorem dX7_lay_0 : decode cX7_lay 0 = .ok (.aload_n 0, 1) := by decide +kernel
theorem dX7_lay_1 : decode cX7_lay 1 = .ok (.getfield 14, 3) := by decide +kernel
theorem dX7_lay_4 : decode cX7_lay 4 = .ok (.iload_n 1, 1) := by decide +kernel
theorem dX7_lay_5 : decode cX7_lay 5 = .ok (.invokevirtual 71, 3) := by decide +kernel
theorem dX7_lay_8 : decode cX7_lay 8 = .ok (.ifCond .ne 5, 3) := by decide +kernel
theorem dX7_lay_11 : decode cX7_lay 11 = .ok (.iconst (-1), 1) := by decide +kernel
theorem dX7_lay_12 : decode cX7_lay 12 = .ok (.ireturn, 1) := by decide +kernel
theorem dX7_lay_13 : decode cX7_lay 13 = .ok (.aload_n 0, 1) := by decide +kernel
theorem dX7_lay_14 : decode cX7_lay 14 = .ok (.getfield 14, 3) := by decide +kernel
theorem dX7_lay_17 : decode cX7_lay 17 = .ok (.iload_n 1, 1) := by decide +kernel
theorem dX7_lay_18 : decode cX7_lay 18 = .ok (.invokevirtual 83, 3) := by decide +kernel
theorem dX7_lay_21 : decode cX7_lay 21 = .ok (.ifCond .ne 9, 3) := by decide +kernel
theorem dX7_lay_24 : decode cX7_lay 24 = .ok (.aload_n 0, 1) := by decide +kernel
theorem dX7_lay_25 : decode cX7_lay 25 = .ok (.iconst 1, 1) := by decide +kernel
theorem dX7_lay_26 : decode cX7_lay 26 = .ok (.invokevirtual 75, 3) := by decide +kernel
theorem dX7_lay_29 : decode cX7_lay 29 = .ok (.ireturn, 1) := by decide +kernel
theorem dX7_lay_30 : decode cX7_lay 30 = .ok (.aload_n 0, 1) := by decide +kernel
theorem dX7_lay_31 : decode cX7_lay 31 = .ok (.getfield 14, 3) := by decide +kernel
theorem dX7_lay_34 : decode cX7_lay 34 = .ok (.iload_n 1, 1) := by decide +kernel
theorem dX7_lay_35 : decode cX7_lay 35 = .ok (.iload_n 2, 1) := by decide +kernel
theorem dX7_lay_36 : decode cX7_lay 36 = .ok (.invokevirtual 86, 3) := by decide +kernel
theorem dX7_lay_39 : decode cX7_lay 39 = .ok (.ifCond .ne 9, 3) := by decide +kernel
theorem dX7_lay_42 : decode cX7_lay 42 = .ok (.aload_n 0, 1) := by decide +kernel
theorem dX7_lay_43 : decode cX7_lay 43 = .ok (.iconst 2, 1) := by decide +kernel
theorem dX7_lay_44 : decode cX7_lay 44 = .ok (.invokevirtual 75, 3) := by decide +kernel
theorem dX7_lay_47 : decode cX7_lay 47 = .ok (.ireturn, 1) := by decide +kernel
theorem dX7_lay_48 : decode cX7_lay 48 = .ok (.aload_n 0, 1) := by decide +kernel
theorem dX7_lay_49 : decode cX7_lay 49 = .ok (.aload_n 0, 1) := by decide +kernel
theorem dX7_lay_50 : decode cX7_lay 50 = .ok (.getfield 14, 3) := by decide +kernel
theorem dX7_lay_53 : decode cX7_lay 53 = .ok (.iload_n 1, 1) := by decide +kernel
theorem dX7_lay_54 : decode cX7_lay 54 = .ok (.iload_n 2, 1) := by decide +kernel
theorem dX7_lay_55 : decode cX7_lay 55 = .ok (.invokevirtual 90, 3) := by decide +kernel
theorem dX7_lay_58 : decode cX7_lay 58 = .ok (.putfield 94, 3) := by decide +kernel
theorem dX7_lay_61 : decode cX7_lay 61 = .ok (.aload_n 0, 1) := by decide +kernel
theorem dX7_lay_62 : decode cX7_lay 62 = .ok (.getfield 14, 3) := by decide +kernel
theorem dX7_lay_65 : decode cX7_lay 65 = .ok (.iload_n 1, 1) := by decide +kernel
theorem dX7_lay_66 : decode cX7_lay 66 = .ok (.iload_n 2, 1) := by decide +kernel
theorem dX7_lay_67 : decode cX7_lay 67 = .ok (.iload_n 3, 1) := by decide +kernel
theorem dX7_lay_68 : decode cX7_lay 68 = .ok (.invokevirtual 98, 3) := by decide +kernel
theorem dX7_lay_71 : decode cX7_lay 71 = .ok (.iconst 1, 1) := by decide +kernel
theorem dX7_lay_72 : decode cX7_lay 72 = .ok (.ireturn, 1) := by decide +kernel
theorem dX7_at_0 : decode cX7_at 0 = .ok (.aload_n 0, 1) := by decide +kernel
theorem dX7_at_1 : decode cX7_at 1 = .ok (.getfield 14, 3) := by decide +kernel
theorem dX7_at_4 : decode cX7_at 4 = .ok (.iload_n 1, 1) := by decide +kernel
theorem dX7_at_5 : decode cX7_at 5 = .ok (.invokevirtual 71, 3) := by decide +kernel
theorem dX7_at_8 : decode cX7_at 8 = .ok (.ifCond .ne 5, 3) := by decide +kernel
theorem dX7_at_11 : decode cX7_at 11 = .ok (.iconst (-1), 1) := by decide +kernel
theorem dX7_at_12 : decode cX7_at 12 = .ok (.ireturn, 1) := by decide +kernel
theorem dX7_at_13 : decode cX7_at 13 = .ok (.aload_n 0, 1) := by decide +kernel
theorem dX7_at_14 : decode cX7_at 14 = .ok (.getfield 14, 3) := by decide +kernel
theorem dX7_at_17 : decode cX7_at 17 = .ok (.iload_n 1, 1) := by decide +kernel
theorem dX7_at_18 : decode cX7_at 18 = .ok (.invokevirtual 83, 3) := by decide +kernel
theorem dX7_at_21 : decode cX7_at 21 = .ok (.ifCond .ne 9, 3) := by decide +kernel
theorem dX7_at_24 : decode cX7_at 24 = .ok (.aload_n 0, 1) := by decide +kernel
theorem dX7_at_25 : decode cX7_at 25 = .ok (.iconst 1, 1) := by decide +kernel
theorem dX7_at_26 : decode cX7_at 26 = .ok (.invokevirtual 75, 3) := by decide +kernel
theorem dX7_at_29 : decode cX7_at 29 = .ok (.ireturn, 1) := by decide +kernel
theorem dX7_at_30 : decode cX7_at 30 = .ok (.aload_n 0, 1) := by decide +kernel
theorem dX7_at_31 : decode cX7_at 31 = .ok (.getfield 14, 3) := by decide +kernel
theorem dX7_at_34 : decode cX7_at 34 = .ok (.iload_n 1, 1) := by decide +kernel
theorem dX7_at_35 : decode cX7_at 35 = .ok (.iload_n 2, 1) := by decide +kernel
theorem dX7_at_36 : decode cX7_at 36 = .ok (.invokevirtual 86, 3) := by decide +kernel
theorem dX7_at_39 : decode cX7_at 39 = .ok (.ifCond .ne 9, 3) := by decide +kernel
theorem dX7_at_42 : decode cX7_at 42 = .ok (.aload_n 0, 1) := by decide +kernel
theorem dX7_at_43 : decode cX7_at 43 = .ok (.iconst 2, 1) := by decide +kernel
theorem dX7_at_44 : decode cX7_at 44 = .ok (.invokevirtual 75, 3) := by decide +kernel
theorem dX7_at_47 : decode cX7_at 47 = .ok (.ireturn, 1) := by decide +kernel
theorem dX7_at_48 : decode cX7_at 48 = .ok (.aload_n 0, 1) := by decide +kernel
theorem dX7_at_49 : decode cX7_at 49 = .ok (.aload_n 0, 1) := by decide +kernel
theorem dX7_at_50 : decode cX7_at 50 = .ok (.getfield 14, 3) := by decide +kernel
theorem dX7_at_53 : decode cX7_at 53 = .ok (.iload_n 1, 1) := by decide +kernel
theorem dX7_at_54 : decode cX7_at 54 = .ok (.iload_n 2, 1) := by decide +kernel
theorem dX7_at_55 : decode cX7_at 55 = .ok (.invokevirtual 90, 3) := by decide +kernel
theorem dX7_at_58 : decode cX7_at 58 = .ok (.putfield 94, 3) := by decide +kernel
theorem dX7_at_61 : decode cX7_at 61 = .ok (.iconst 1, 1) := by decide +kernel
theorem dX7_at_62 : decode cX7_at 62 = .ok (.ireturn, 1) := by decide +kernel
theorem dX7_tear_0 : decode cX7_tear 0 = .ok (.aload_n 0, 1) := by decide +kernel
theorem dX7_tear_1 : decode cX7_tear 1 = .ok (.getfield 14, 3) := by decide +kernel
theorem dX7_tear_4 : decode cX7_tear 4 = .ok (.iload_n 1, 1) := by decide +kernel
theorem dX7_tear_5 : decode cX7_tear 5 = .ok (.invokevirtual 71, 3) := by decide +kernel
theorem dX7_tear_8 : decode cX7_tear 8 = .ok (.ifCond .ne 5, 3) := by decide +kernel
theorem dX7_tear_11 : decode cX7_tear 11 = .ok (.iconst (-1), 1) := by decide +kernel
theorem dX7_tear_12 : decode cX7_tear 12 = .ok (.ireturn, 1) := by decide +kernel
theorem dX7_tear_13 : decode cX7_tear 13 = .ok (.aload_n 0, 1) := by decide +kernel
theorem dX7_tear_14 : decode cX7_tear 14 = .ok (.getfield 14, 3) := by decide +kernel
theorem dX7_tear_17 : decode cX7_tear 17 = .ok (.iload_n 1, 1) := by decide +kernel
theorem dX7_tear_18 : decode cX7_tear 18 = .ok (.invokevirtual 83, 3) := by decide +kernel
theorem dX7_tear_21 : decode cX7_tear 21 = .ok (.ifCond .ne 9, 3) := by decide +kernel
theorem dX7_tear_24 : decode cX7_tear 24 = .ok (.aload_n 0, 1) := by decide +kernel
theorem dX7_tear_25 : decode cX7_tear 25 = .ok (.iconst 1, 1) := by decide +kernel
theorem dX7_tear_26 : decode cX7_tear 26 = .ok (.invokevirtual 75, 3) := by decide +kernel
theorem dX7_tear_29 : decode cX7_tear 29 = .ok (.ireturn, 1) := by decide +kernel
theorem dX7_tear_30 : decode cX7_tear 30 = .ok (.aload_n 0, 1) := by decide +kernel
theorem dX7_tear_31 : decode cX7_tear 31 = .ok (.getfield 14, 3) := by decide +kernel
theorem dX7_tear_34 : decode cX7_tear 34 = .ok (.iload_n 1, 1) := by decide +kernel
theorem dX7_tear_35 : decode cX7_tear 35 = .ok (.invokevirtual 101, 3) := by decide +kernel
theorem dX7_tear_38 : decode cX7_tear 38 = .ok (.iconst 1, 1) := by decide +kernel
theorem dX7_tear_39 : decode cX7_tear 39 = .ok (.ireturn, 1) := by decide +kernel
theorem dX7_copy_0 : decode cX7_copy 0 = .ok (.aload_n 0, 1) := by decide +kernel
theorem dX7_copy_1 : decode cX7_copy 1 = .ok (.getfield 14, 3) := by decide +kernel
theorem dX7_copy_4 : decode cX7_copy 4 = .ok (.iload_n 1, 1) := by decide +kernel
theorem dX7_copy_5 : decode cX7_copy 5 = .ok (.invokevirtual 71, 3) := by decide +kernel
theorem dX7_copy_8 : decode cX7_copy 8 = .ok (.ifCond .eq 14, 3) := by decide +kernel
theorem dX7_copy_11 : decode cX7_copy 11 = .ok (.aload_n 0, 1) := by decide +kernel
theorem dX7_copy_12 : decode cX7_copy 12 = .ok (.getfield 14, 3) := by decide +kernel
theorem dX7_copy_15 : decode cX7_copy 15 = .ok (.iload_n 3, 1) := by decide +kernel
theorem dX7_copy_16 : decode cX7_copy 16 = .ok (.invokevirtual 71, 3) := by decide +kernel
theorem dX7_copy_19 : decode cX7_copy 19 = .ok (.ifCond .ne 5, 3) := by decide +kernel
theorem dX7_copy_22 : decode cX7_copy 22 = .ok (.iconst (-1), 1) := by decide +kernel
theorem dX7_copy_23 : decode cX7_copy 23 = .ok (.ireturn, 1) := by decide +kernel
theorem dX7_copy_24 : decode cX7_copy 24 = .ok (.iload 5, 2) := by decide +kernel
theorem dX7_copy_26 : decode cX7_copy 26 = .ok (.ifCond .ge 9, 3) := by decide +kernel
theorem dX7_copy_29 : decode cX7_copy 29 = .ok (.aload_n 0, 1) := by decide +kernel
theorem dX7_copy_30 : decode cX7_copy 30 = .ok (.iconst 5, 1) := by decide +kernel
theorem dX7_copy_31 : decode cX7_copy 31 = .ok (.invokevirtual 75, 3) := by decide +kernel
theorem dX7_copy_34 : decode cX7_copy 34 = .ok (.ireturn, 1) := by decide +kernel
theorem dX7_copy_35 : decode cX7_copy 35 = .ok (.aload_n 0, 1) := by decide +kernel
theorem dX7_copy_36 : decode cX7_copy 36 = .ok (.getfield 14, 3) := by decide +kernel
theorem dX7_copy_39 : decode cX7_copy 39 = .ok (.iload_n 1, 1) := by decide +kernel
theorem dX7_copy_40 : decode cX7_copy 40 = .ok (.invokevirtual 83, 3) := by decide +kernel
theorem dX7_copy_43 : decode cX7_copy 43 = .ok (.ifCond .eq 14, 3) := by decide +kernel
theorem dX7_copy_46 : decode cX7_copy 46 = .ok (.aload_n 0, 1) := by decide +kernel
theorem dX7_copy_47 : decode cX7_copy 47 = .ok (.getfield 14, 3) := by decide +kernel
theorem dX7_copy_50 : decode cX7_copy 50 = .ok (.iload_n 3, 1) := by decide +kernel
theorem dX7_copy_51 : decode cX7_copy 51 = .ok (.invokevirtual 83, 3) := by decide +kernel
theorem dX7_copy_54 : decode cX7_copy 54 = .ok (.ifCond .ne 9, 3) := by decide +kernel
theorem dX7_copy_57 : decode cX7_copy 57 = .ok (.aload_n 0, 1) := by decide +kernel
theorem dX7_copy_58 : decode cX7_copy 58 = .ok (.iconst 1, 1) := by decide +kernel
theorem dX7_copy_59 : decode cX7_copy 59 = .ok (.invokevirtual 75, 3) := by decide +kernel
theorem dX7_copy_62 : decode cX7_copy 62 = .ok (.ireturn, 1) := by decide +kernel
theorem dX7_copy_63 : decode cX7_copy 63 = .ok (.aload_n 0, 1) := by decide +kernel
theorem dX7_copy_64 : decode cX7_copy 64 = .ok (.getfield 14, 3) := by decide +kernel
theorem dX7_copy_67 : decode cX7_copy 67 = .ok (.iload_n 1, 1) := by decide +kernel
theorem dX7_copy_68 : decode cX7_copy 68 = .ok (.iload_n 2, 1) := by decide +kernel
theorem dX7_copy_69 : decode cX7_copy 69 = .ok (.iload 5, 2) := by decide +kernel
theorem dX7_copy_71 : decode cX7_copy 71 = .ok (.invokevirtual 105, 3) := by decide +kernel
theorem dX7_copy_74 : decode cX7_copy 74 = .ok (.ifCond .eq 18, 3) := by decide +kernel
theorem dX7_copy_77 : decode cX7_copy 77 = .ok (.aload_n 0, 1) := by decide +kernel
theorem dX7_copy_78 : decode cX7_copy 78 = .ok (.getfield 14, 3) := by decide +kernel
theorem dX7_copy_81 : decode cX7_copy 81 = .ok (.iload_n 3, 1) := by decide +kernel
theorem dX7_copy_82 : decode cX7_copy 82 = .ok (.iload 4, 2) := by decide +kernel
theorem dX7_copy_84 : decode cX7_copy 84 = .ok (.iload 5, 2) := by decide +kernel
theorem dX7_copy_86 : decode cX7_copy 86 = .ok (.invokevirtual 105, 3) := by decide +kernel
theorem dX7_copy_89 : decode cX7_copy 89 = .ok (.ifCond .ne 9, 3) := by decide +kernel
theorem dX7_copy_92 : decode cX7_copy 92 = .ok (.aload_n 0, 1) := by decide +kernel
theorem dX7_copy_93 : decode cX7_copy 93 = .ok (.iconst 2, 1) := by decide +kernel
theorem dX7_copy_94 : decode cX7_copy 94 = .ok (.invokevirtual 75, 3) := by decide +kernel
theorem dX7_copy_97 : decode cX7_copy 97 = .ok (.ireturn, 1) := by decide +kernel
theorem dX7_copy_98 : decode cX7_copy 98 = .ok (.aload_n 0, 1) := by decide +kernel
theorem dX7_copy_99 : decode cX7_copy 99 = .ok (.getfield 14, 3) := by decide +kernel
theorem dX7_copy_102 : decode cX7_copy 102 = .ok (.iload_n 1, 1) := by decide +kernel
theorem dX7_copy_103 : decode cX7_copy 103 = .ok (.iload_n 2, 1) := by decide +kernel
theorem dX7_copy_104 : decode cX7_copy 104 = .ok (.iload_n 3, 1) := by decide +kernel
theorem dX7_copy_105 : decode cX7_copy 105 = .ok (.iload 4, 2) := by decide +kernel
theorem dX7_copy_107 : decode cX7_copy 107 = .ok (.iload 5, 2) := by decide +kernel
theorem dX7_copy_109 : decode cX7_copy 109 = .ok (.invokevirtual 109, 3) := by decide +kernel
theorem dX7_copy_112 : decode cX7_copy 112 = .ok (.iconst 1, 1) := by decide +kernel
theorem dX7_copy_113 : decode cX7_copy 113 = .ok (.ireturn, 1) := by decide +kernel
theorem dX7_mean_0 : decode cX7_mean 0 = .ok (.aload_n 0, 1) := by decide +kernel
theorem dX7_mean_1 : decode cX7_mean 1 = .ok (.getfield 14, 3) := by decide +kernel
theorem dX7_mean_4 : decode cX7_mean 4 = .ok (.iload_n 1, 1) := by decide +kernel
theorem dX7_mean_5 : decode cX7_mean 5 = .ok (.invokevirtual 71, 3) := by decide +kernel
theorem dX7_mean_8 : decode cX7_mean 8 = .ok (.ifCond .ne 5, 3) := by decide +kernel
theorem dX7_mean_11 : decode cX7_mean 11 = .ok (.iconst (-1), 1) := by decide +kernel
theorem dX7_mean_12 : decode cX7_mean 12 = .ok (.ireturn, 1) := by decide +kernel
theorem dX7_mean_13 : decode cX7_mean 13 = .ok (.aload_n 0, 1) := by decide +kernel
theorem dX7_mean_14 : decode cX7_mean 14 = .ok (.getfield 14, 3) := by decide +kernel
theorem dX7_mean_17 : decode cX7_mean 17 = .ok (.iload_n 1, 1) := by decide +kernel
theorem dX7_mean_18 : decode cX7_mean 18 = .ok (.invokevirtual 83, 3) := by decide +kernel
theorem dX7_mean_21 : decode cX7_mean 21 = .ok (.ifCond .ne 9, 3) := by decide +kernel
theorem dX7_mean_24 : decode cX7_mean 24 = .ok (.aload_n 0, 1) := by decide +kernel
theorem dX7_mean_25 : decode cX7_mean 25 = .ok (.iconst 1, 1) := by decide +kernel
theorem dX7_mean_26 : decode cX7_mean 26 = .ok (.invokevirtual 75, 3) := by decide +kernel
theorem dX7_mean_29 : decode cX7_mean 29 = .ok (.ireturn, 1) := by decide +kernel
theorem dX7_mean_30 : decode cX7_mean 30 = .ok (.aload_n 0, 1) := by decide +kernel
theorem dX7_mean_31 : decode cX7_mean 31 = .ok (.getfield 14, 3) := by decide +kernel
theorem dX7_mean_34 : decode cX7_mean 34 = .ok (.iload_n 1, 1) := by decide +kernel
theorem dX7_mean_35 : decode cX7_mean 35 = .ok (.invokevirtual 113, 3) := by decide +kernel
theorem dX7_mean_38 : decode cX7_mean 38 = .ok (.istore_n 2, 1) := by decide +kernel
theorem dX7_mean_39 : decode cX7_mean 39 = .ok (.iload_n 2, 1) := by decide +kernel
theorem dX7_mean_40 : decode cX7_mean 40 = .ok (.ifCond .ne 9, 3) := by decide +kernel
theorem dX7_mean_43 : decode cX7_mean 43 = .ok (.aload_n 0, 1) := by decide +kernel
theorem dX7_mean_44 : decode cX7_mean 44 = .ok (.iconst 4, 1) := by decide +kernel
theorem dX7_mean_45 : decode cX7_mean 45 = .ok (.invokevirtual 75, 3) := by decide +kernel
theorem dX7_mean_48 : decode cX7_mean 48 = .ok (.ireturn, 1) := by decide +kernel
theorem dX7_mean_49 : decode cX7_mean 49 = .ok (.aload_n 0, 1) := by decide +kernel
theorem dX7_mean_50 : decode cX7_mean 50 = .ok (.aload_n 0, 1) := by decide +kernel
theorem dX7_mean_51 : decode cX7_mean 51 = .ok (.getfield 14, 3) := by decide +kernel
theorem dX7_mean_54 : decode cX7_mean 54 = .ok (.iload_n 1, 1) := by decide +kernel
theorem dX7_mean_55 : decode cX7_mean 55 = .ok (.invokevirtual 116, 3) := by decide +kernel
theorem dX7_mean_58 : decode cX7_mean 58 = .ok (.iload_n 2, 1) := by decide +kernel
theorem dX7_mean_59 : decode cX7_mean 59 = .ok (.i2l, 1) := by decide +kernel
theorem dX7_mean_60 : decode cX7_mean 60 = .ok (.ldiv, 1) := by decide +kernel
theorem dX7_mean_61 : decode cX7_mean 61 = .ok (.l2i, 1) := by decide +kernel
theorem dX7_mean_62 : decode cX7_mean 62 = .ok (.putfield 94, 3) := by decide +kernel
theorem dX7_mean_65 : decode cX7_mean 65 = .ok (.iconst 1, 1) := by decide +kernel
theorem dX7_mean_66 : decode cX7_mean 66 = .ok (.ireturn, 1) := by decide +kernel
theorem dX7_text_0 : decode cX7_text 0 = .ok (.aload_n 0, 1) := by decide +kernel
theorem dX7_text_1 : decode cX7_text 1 = .ok (.getfield 18, 3) := by decide +kernel
theorem dX7_text_4 : decode cX7_text 4 = .ok (.iload_n 1, 1) := by decide +kernel
theorem dX7_text_5 : decode cX7_text 5 = .ok (.invokevirtual 71, 3) := by decide +kernel
theorem dX7_text_8 : decode cX7_text 8 = .ok (.ifCond .eq 9, 3) := by decide +kernel
theorem dX7_text_11 : decode cX7_text 11 = .ok (.iload_n 2, 1) := by decide +kernel
theorem dX7_text_12 : decode cX7_text 12 = .ok (.bipush 80, 2) := by decide +kernel
theorem dX7_text_14 : decode cX7_text 14 = .ok (.if_icmp .le 5, 3) := by decide +kernel
theorem dX7_text_17 : decode cX7_text 17 = .ok (.iconst (-1), 1) := by decide +kernel
theorem dX7_text_18 : decode cX7_text 18 = .ok (.ireturn, 1) := by decide +kernel
theorem dX7_text_19 : decode cX7_text 19 = .ok (.iload_n 2, 1) := by decide +kernel
theorem dX7_text_20 : decode cX7_text 20 = .ok (.ifCond .ge 9, 3) := by decide +kernel
theorem dX7_text_23 : decode cX7_text 23 = .ok (.aload_n 0, 1) := by decide +kernel
theorem dX7_text_24 : decode cX7_text 24 = .ok (.iconst 5, 1) := by decide +kernel
theorem dX7_text_25 : decode cX7_text 25 = .ok (.invokevirtual 75, 3) := by decide +kernel
theorem dX7_text_28 : decode cX7_text 28 = .ok (.ireturn, 1) := by decide +kernel
theorem dX7_text_29 : decode cX7_text 29 = .ok (.aload_n 0, 1) := by decide +kernel
theorem dX7_text_30 : decode cX7_text 30 = .ok (.getfield 18, 3) := by decide +kernel
theorem dX7_text_33 : decode cX7_text 33 = .ok (.iload_n 1, 1) := by decide +kernel
theorem dX7_text_34 : decode cX7_text 34 = .ok (.iload_n 2, 1) := by decide +kernel
theorem dX7_text_35 : decode cX7_text 35 = .ok (.bipush 32, 2) := by decide +kernel
theorem dX7_text_37 : decode cX7_text 37 = .ok (.invokevirtual 79, 3) := by decide +kernel
theorem dX7_text_40 : decode cX7_text 40 = .ok (.iload_n 2, 1) := by decide +kernel
theorem dX7_text_41 : decode cX7_text 41 = .ok (.ireturn, 1) := by decide +kernel
theorem dX7_put_0 : decode cX7_put 0 = .ok (.aload_n 0, 1) := by decide +kernel
theorem dX7_put_1 : decode cX7_put 1 = .ok (.getfield 18, 3) := by decide +kernel
theorem dX7_put_4 : decode cX7_put 4 = .ok (.iload_n 1, 1) := by decide +kernel
theorem dX7_put_5 : decode cX7_put 5 = .ok (.invokevirtual 71, 3) := by decide +kernel
theorem dX7_put_8 : decode cX7_put 8 = .ok (.ifCond .ne 5, 3) := by decide +kernel
theorem dX7_put_11 : decode cX7_put 11 = .ok (.iconst (-1), 1) := by decide +kernel
theorem dX7_put_12 : decode cX7_put 12 = .ok (.ireturn, 1) := by decide +kernel
theorem dX7_put_13 : decode cX7_put 13 = .ok (.aload_n 0, 1) := by decide +kernel
theorem dX7_put_14 : decode cX7_put 14 = .ok (.getfield 18, 3) := by decide +kernel
theorem dX7_put_17 : decode cX7_put 17 = .ok (.iload_n 1, 1) := by decide +kernel
theorem dX7_put_18 : decode cX7_put 18 = .ok (.invokevirtual 83, 3) := by decide +kernel
theorem dX7_put_21 : decode cX7_put 21 = .ok (.ifCond .ne 9, 3) := by decide +kernel
theorem dX7_put_24 : decode cX7_put 24 = .ok (.aload_n 0, 1) := by decide +kernel
theorem dX7_put_25 : decode cX7_put 25 = .ok (.iconst 1, 1) := by decide +kernel
theorem dX7_put_26 : decode cX7_put 26 = .ok (.invokevirtual 75, 3) := by decide +kernel
theorem dX7_put_29 : decode cX7_put 29 = .ok (.ireturn, 1) := by decide +kernel
theorem dX7_put_30 : decode cX7_put 30 = .ok (.aload_n 0, 1) := by decide +kernel
theorem dX7_put_31 : decode cX7_put 31 = .ok (.getfield 18, 3) := by decide +kernel
theorem dX7_put_34 : decode cX7_put 34 = .ok (.iload_n 1, 1) := by decide +kernel
theorem dX7_put_35 : decode cX7_put 35 = .ok (.iload_n 2, 1) := by decide +kernel
theorem dX7_put_36 : decode cX7_put 36 = .ok (.invokevirtual 86, 3) := by decide +kernel
theorem dX7_put_39 : decode cX7_put 39 = .ok (.ifCond .ne 9, 3) := by decide +kernel
theorem dX7_put_42 : decode cX7_put 42 = .ok (.aload_n 0, 1) := by decide +kernel
theorem dX7_put_43 : decode cX7_put 43 = .ok (.iconst 2, 1) := by decide +kernel
theorem dX7_put_44 : decode cX7_put 44 = .ok (.invokevirtual 75, 3) := by decide +kernel
theorem dX7_put_47 : decode cX7_put 47 = .ok (.ireturn, 1) := by decide +kernel
theorem dX7_put_48 : decode cX7_put 48 = .ok (.aload_n 0, 1) := by decide +kernel
theorem dX7_put_49 : decode cX7_put 49 = .ok (.getfield 18, 3) := by decide +kernel
theorem dX7_put_52 : decode cX7_put 52 = .ok (.iload_n 1, 1) := by decide +kernel
theorem dX7_put_53 : decode cX7_put 53 = .ok (.iload_n 2, 1) := by decide +kernel
