theorem dX7_put_54 : decode cX7_put 54 = .ok (.invokevirtual 90, 3) := by decide +kernel
theorem dX7_put_57 : decode cX7_put 57 = .ok (.istore 4, 2) := by decide +kernel
theorem dX7_put_59 : decode cX7_put 59 = .ok (.aload_n 0, 1) := by decide +kernel
theorem dX7_put_60 : decode cX7_put 60 = .ok (.getfield 18, 3) := by decide +kernel
theorem dX7_put_63 : decode cX7_put 63 = .ok (.iload_n 1, 1) := by decide +kernel
theorem dX7_put_64 : decode cX7_put 64 = .ok (.iload_n 2, 1) := by decide +kernel
theorem dX7_put_65 : decode cX7_put 65 = .ok (.iload_n 3, 1) := by decide +kernel
theorem dX7_put_66 : decode cX7_put 66 = .ok (.i2b, 1) := by decide +kernel
theorem dX7_put_67 : decode cX7_put 67 = .ok (.invokevirtual 98, 3) := by decide +kernel
theorem dX7_put_70 : decode cX7_put 70 = .ok (.iload 4, 2) := by decide +kernel
theorem dX7_put_72 : decode cX7_put 72 = .ok (.sipush 1000, 3) := by decide +kernel
theorem dX7_put_75 : decode cX7_put 75 = .ok (.iadd, 1) := by decide +kernel
theorem dX7_put_76 : decode cX7_put 76 = .ok (.ireturn, 1) := by decide +kernel
theorem dX7_fault_0 : decode cX7_fault 0 = .ok (.aload_n 0, 1) := by decide +kernel
theorem dX7_fault_1 : decode cX7_fault 1 = .ok (.getfield 18, 3) := by decide +kernel
theorem dX7_fault_4 : decode cX7_fault 4 = .ok (.iload_n 1, 1) := by decide +kernel
theorem dX7_fault_5 : decode cX7_fault 5 = .ok (.invokevirtual 71, 3) := by decide +kernel
theorem dX7_fault_8 : decode cX7_fault 8 = .ok (.ifCond .ne 5, 3) := by decide +kernel
theorem dX7_fault_11 : decode cX7_fault 11 = .ok (.iconst (-1), 1) := by decide +kernel
theorem dX7_fault_12 : decode cX7_fault 12 = .ok (.ireturn, 1) := by decide +kernel
theorem dX7_fault_13 : decode cX7_fault 13 = .ok (.aload_n 0, 1) := by decide +kernel
theorem dX7_fault_14 : decode cX7_fault 14 = .ok (.getfield 18, 3) := by decide +kernel
theorem dX7_fault_17 : decode cX7_fault 17 = .ok (.iload_n 1, 1) := by decide +kernel
theorem dX7_fault_18 : decode cX7_fault 18 = .ok (.invokevirtual 83, 3) := by decide +kernel
theorem dX7_fault_21 : decode cX7_fault 21 = .ok (.ifCond .ne 9, 3) := by decide +kernel
theorem dX7_fault_24 : decode cX7_fault 24 = .ok (.aload_n 0, 1) := by decide +kernel
theorem dX7_fault_25 : decode cX7_fault 25 = .ok (.iconst 1, 1) := by decide +kernel
theorem dX7_fault_26 : decode cX7_fault 26 = .ok (.invokevirtual 75, 3) := by decide +kernel
theorem dX7_fault_29 : decode cX7_fault 29 = .ok (.ireturn, 1) := by decide +kernel
theorem dX7_fault_30 : decode cX7_fault 30 = .ok (.aload_n 0, 1) := by decide +kernel
theorem dX7_fault_31 : decode cX7_fault 31 = .ok (.getfield 38, 3) := by decide +kernel
theorem dX7_fault_34 : decode cX7_fault 34 = .ok (.aload_n 0, 1) := by decide +kernel
theorem dX7_fault_35 : decode cX7_fault 35 = .ok (.getfield 18, 3) := by decide +kernel
theorem dX7_fault_38 : decode cX7_fault 38 = .ok (.iload_n 1, 1) := by decide +kernel
theorem dX7_fault_39 : decode cX7_fault 39 = .ok (.aload_n 0, 1) := by decide +kernel
theorem dX7_fault_40 : decode cX7_fault 40 = .ok (.getfield 28, 3) := by decide +kernel
theorem dX7_fault_43 : decode cX7_fault 43 = .ok (.invokevirtual 120, 3) := by decide +kernel
theorem dX7_fault_46 : decode cX7_fault 46 = .ok (.ireturn, 1) := by decide +kernel
theorem dX7_book_0 : decode cX7_book 0 = .ok (.aload_n 0, 1) := by decide +kernel
theorem dX7_book_1 : decode cX7_book 1 = .ok (.getfield 18, 3) := by decide +kernel
theorem dX7_book_4 : decode cX7_book 4 = .ok (.iload_n 1, 1) := by decide +kernel
theorem dX7_book_5 : decode cX7_book 5 = .ok (.invokevirtual 71, 3) := by decide +kernel
theorem dX7_book_8 : decode cX7_book 8 = .ok (.ifCond .ne 5, 3) := by decide +kernel
theorem dX7_book_11 : decode cX7_book 11 = .ok (.iconst (-1), 1) := by decide +kernel
theorem dX7_book_12 : decode cX7_book 12 = .ok (.ireturn, 1) := by decide +kernel
theorem dX7_book_13 : decode cX7_book 13 = .ok (.aload_n 0, 1) := by decide +kernel
theorem dX7_book_14 : decode cX7_book 14 = .ok (.getfield 18, 3) := by decide +kernel
theorem dX7_book_17 : decode cX7_book 17 = .ok (.iload_n 1, 1) := by decide +kernel
theorem dX7_book_18 : decode cX7_book 18 = .ok (.invokevirtual 83, 3) := by decide +kernel
theorem dX7_book_21 : decode cX7_book 21 = .ok (.ifCond .ne 9, 3) := by decide +kernel
theorem dX7_book_24 : decode cX7_book 24 = .ok (.aload_n 0, 1) := by decide +kernel
theorem dX7_book_25 : decode cX7_book 25 = .ok (.iconst 1, 1) := by decide +kernel
theorem dX7_book_26 : decode cX7_book 26 = .ok (.invokevirtual 75, 3) := by decide +kernel
theorem dX7_book_29 : decode cX7_book 29 = .ok (.ireturn, 1) := by decide +kernel
theorem dX7_book_30 : decode cX7_book 30 = .ok (.aload_n 0, 1) := by decide +kernel
theorem dX7_book_31 : decode cX7_book 31 = .ok (.getfield 38, 3) := by decide +kernel
theorem dX7_book_34 : decode cX7_book 34 = .ok (.aload_n 0, 1) := by decide +kernel
theorem dX7_book_35 : decode cX7_book 35 = .ok (.getfield 18, 3) := by decide +kernel
theorem dX7_book_38 : decode cX7_book 38 = .ok (.iload_n 1, 1) := by decide +kernel
theorem dX7_book_39 : decode cX7_book 39 = .ok (.aload_n 0, 1) := by decide +kernel
theorem dX7_book_40 : decode cX7_book 40 = .ok (.getfield 28, 3) := by decide +kernel
theorem dX7_book_43 : decode cX7_book 43 = .ok (.invokevirtual 120, 3) := by decide +kernel
theorem dX7_book_46 : decode cX7_book 46 = .ok (.bipush (-9), 2) := by decide +kernel
theorem dX7_book_48 : decode cX7_book 48 = .ok (.if_icmp .eq 6, 3) := by decide +kernel
theorem dX7_book_51 : decode cX7_book 51 = .ok (.bipush (-4), 2) := by decide +kernel
theorem dX7_book_53 : decode cX7_book 53 = .ok (.ireturn, 1) := by decide +kernel
theorem dX7_book_54 : decode cX7_book 54 = .ok (.aload_n 0, 1) := by decide +kernel
theorem dX7_book_55 : decode cX7_book 55 = .ok (.getfield 24, 3) := by decide +kernel
theorem dX7_book_58 : decode cX7_book 58 = .ok (.aload_n 0, 1) := by decide +kernel
theorem dX7_book_59 : decode cX7_book 59 = .ok (.getfield 28, 3) := by decide +kernel
theorem dX7_book_62 : decode cX7_book 62 = .ok (.invokevirtual 124, 3) := by decide +kernel
theorem dX7_book_65 : decode cX7_book 65 = .ok (.aload_n 0, 1) := by decide +kernel
theorem dX7_book_66 : decode cX7_book 66 = .ok (.getfield 24, 3) := by decide +kernel
theorem dX7_book_69 : decode cX7_book 69 = .ok (.invokevirtual 128, 3) := by decide +kernel
theorem dX7_book_72 : decode cX7_book 72 = .ok (.iconst 0, 1) := by decide +kernel
theorem dX7_book_73 : decode cX7_book 73 = .ok (.istore_n 2, 1) := by decide +kernel
theorem dX7_book_74 : decode cX7_book 74 = .ok (.iload_n 2, 1) := by decide +kernel
theorem dX7_book_75 : decode cX7_book 75 = .ok (.iconst 3, 1) := by decide +kernel
theorem dX7_book_76 : decode cX7_book 76 = .ok (.if_icmp .ge 18, 3) := by decide +kernel
theorem dX7_book_79 : decode cX7_book 79 = .ok (.aload_n 0, 1) := by decide +kernel
theorem dX7_book_80 : decode cX7_book 80 = .ok (.getfield 31, 3) := by decide +kernel
theorem dX7_book_83 : decode cX7_book 83 = .ok (.iload_n 2, 1) := by decide +kernel
theorem dX7_book_84 : decode cX7_book 84 = .ok (.aaload, 1) := by decide +kernel
theorem dX7_book_85 : decode cX7_book 85 = .ok (.invokevirtual 131, 3) := by decide +kernel
theorem dX7_book_88 : decode cX7_book 88 = .ok (.iinc 2 1, 3) := by decide +kernel
theorem dX7_book_91 : decode cX7_book 91 = .ok (.goto (-17), 3) := by decide +kernel
theorem dX7_book_94 : decode cX7_book 94 = .ok (.aload_n 0, 1) := by decide +kernel
theorem dX7_book_95 : decode cX7_book 95 = .ok (.getfield 24, 3) := by decide +kernel
theorem dX7_book_98 : decode cX7_book 98 = .ok (.getfield 134, 3) := by decide +kernel
theorem dX7_book_101 : decode cX7_book 101 = .ok (.ireturn, 1) := by decide +kernel
theorem dX7_page_0 : decode cX7_page 0 = .ok (.aload_n 0, 1) := by decide +kernel
theorem dX7_page_1 : decode cX7_page 1 = .ok (.getfield 24, 3) := by decide +kernel
theorem dX7_page_4 : decode cX7_page 4 = .ok (.iload_n 1, 1) := by decide +kernel
theorem dX7_page_5 : decode cX7_page 5 = .ok (.invokevirtual 137, 3) := by decide +kernel
theorem dX7_page_8 : decode cX7_page 8 = .ok (.ifCond .eq 12, 3) := by decide +kernel
theorem dX7_page_11 : decode cX7_page 11 = .ok (.iload_n 2, 1) := by decide +kernel
theorem dX7_page_12 : decode cX7_page 12 = .ok (.ifCond .lt 8, 3) := by decide +kernel
theorem dX7_page_15 : decode cX7_page 15 = .ok (.iload_n 2, 1) := by decide +kernel
theorem dX7_page_16 : decode cX7_page 16 = .ok (.iconst 5, 1) := by decide +kernel
theorem dX7_page_17 : decode cX7_page 17 = .ok (.if_icmp .le 5, 3) := by decide +kernel
theorem dX7_page_20 : decode cX7_page 20 = .ok (.iconst (-1), 1) := by decide +kernel
theorem dX7_page_21 : decode cX7_page 21 = .ok (.ireturn, 1) := by decide +kernel
theorem dX7_page_22 : decode cX7_page 22 = .ok (.aload_n 0, 1) := by decide +kernel
theorem dX7_page_23 : decode cX7_page 23 = .ok (.aload_n 0, 1) := by decide +kernel
theorem dX7_page_24 : decode cX7_page 24 = .ok (.getfield 24, 3) := by decide +kernel
theorem dX7_page_27 : decode cX7_page 27 = .ok (.iload_n 1, 1) := by decide +kernel
theorem dX7_page_28 : decode cX7_page 28 = .ok (.iload_n 2, 1) := by decide +kernel
theorem dX7_page_29 : decode cX7_page 29 = .ok (.invokevirtual 138, 3) := by decide +kernel
theorem dX7_page_32 : decode cX7_page 32 = .ok (.putfield 94, 3) := by decide +kernel
theorem dX7_page_35 : decode cX7_page 35 = .ok (.iconst 1, 1) := by decide +kernel
theorem dX7_page_36 : decode cX7_page 36 = .ok (.ireturn, 1) := by decide +kernel
theorem dX7_mark_0 : decode cX7_mark 0 = .ok (.aload_n 0, 1) := by decide +kernel
theorem dX7_mark_1 : decode cX7_mark 1 = .ok (.getfield 24, 3) := by decide +kernel
theorem dX7_mark_4 : decode cX7_mark 4 = .ok (.iload_n 1, 1) := by decide +kernel
theorem dX7_mark_5 : decode cX7_mark 5 = .ok (.invokevirtual 137, 3) := by decide +kernel
theorem dX7_mark_8 : decode cX7_mark 8 = .ok (.ifCond .eq 13, 3) := by decide +kernel
theorem dX7_mark_11 : decode cX7_mark 11 = .ok (.iload_n 2, 1) := by decide +kernel
theorem dX7_mark_12 : decode cX7_mark 12 = .ok (.iconst 1, 1) := by decide +kernel
theorem dX7_mark_13 : decode cX7_mark 13 = .ok (.if_icmp .lt 8, 3) := by decide +kernel
theorem dX7_mark_16 : decode cX7_mark 16 = .ok (.iload_n 2, 1) := by decide +kernel
theorem dX7_mark_17 : decode cX7_mark 17 = .ok (.iconst 5, 1) := by decide +kernel
theorem dX7_mark_18 : decode cX7_mark 18 = .ok (.if_icmp .le 5, 3) := by decide +kernel
theorem dX7_mark_21 : decode cX7_mark 21 = .ok (.iconst (-1), 1) := by decide +kernel
theorem dX7_mark_22 : decode cX7_mark 22 = .ok (.ireturn, 1) := by decide +kernel
theorem dX7_mark_23 : decode cX7_mark 23 = .ok (.aload_n 0, 1) := by decide +kernel
theorem dX7_mark_24 : decode cX7_mark 24 = .ok (.getfield 24, 3) := by decide +kernel
theorem dX7_mark_27 : decode cX7_mark 27 = .ok (.getfield 141, 3) := by decide +kernel
theorem dX7_mark_30 : decode cX7_mark 30 = .ok (.iload_n 1, 1) := by decide +kernel
theorem dX7_mark_31 : decode cX7_mark 31 = .ok (.aaload, 1) := by decide +kernel
theorem dX7_mark_32 : decode cX7_mark 32 = .ok (.iload_n 2, 1) := by decide +kernel
theorem dX7_mark_33 : decode cX7_mark 33 = .ok (.invokevirtual 145, 3) := by decide +kernel
theorem dX7_mark_36 : decode cX7_mark 36 = .ok (.ifCond .ne 9, 3) := by decide +kernel
theorem dX7_mark_39 : decode cX7_mark 39 = .ok (.aload_n 0, 1) := by decide +kernel
theorem dX7_mark_40 : decode cX7_mark 40 = .ok (.iconst 3, 1) := by decide +kernel
theorem dX7_mark_41 : decode cX7_mark 41 = .ok (.invokevirtual 75, 3) := by decide +kernel
theorem dX7_mark_44 : decode cX7_mark 44 = .ok (.ireturn, 1) := by decide +kernel
theorem dX7_mark_45 : decode cX7_mark 45 = .ok (.iload_n 2, 1) := by decide +kernel
theorem dX7_mark_46 : decode cX7_mark 46 = .ok (.tableswitch 97 1 4 #[30, 43, 62, 82], 30) := by decide +kernel
theorem dX7_mark_76 : decode cX7_mark 76 = .ok (.aload_n 0, 1) := by decide +kernel
theorem dX7_mark_77 : decode cX7_mark 77 = .ok (.getfield 24, 3) := by decide +kernel
theorem dX7_mark_80 : decode cX7_mark 80 = .ok (.getfield 141, 3) := by decide +kernel
theorem dX7_mark_83 : decode cX7_mark 83 = .ok (.iload_n 1, 1) := by decide +kernel
theorem dX7_mark_84 : decode cX7_mark 84 = .ok (.aaload, 1) := by decide +kernel
theorem dX7_mark_85 : decode cX7_mark 85 = .ok (.invokevirtual 150, 3) := by decide +kernel
theorem dX7_mark_88 : decode cX7_mark 88 = .ok (.ireturn, 1) := by decide +kernel
theorem dX7_mark_89 : decode cX7_mark 89 = .ok (.aload_n 0, 1) := by decide +kernel
theorem dX7_mark_90 : decode cX7_mark 90 = .ok (.getfield 24, 3) := by decide +kernel
theorem dX7_mark_93 : decode cX7_mark 93 = .ok (.iload_n 1, 1) := by decide +kernel
theorem dX7_mark_94 : decode cX7_mark 94 = .ok (.bipush 20, 2) := by decide +kernel
theorem dX7_mark_96 : decode cX7_mark 96 = .ok (.invokevirtual 154, 3) := by decide +kernel
theorem dX7_mark_99 : decode cX7_mark 99 = .ok (.ifCond .eq 7, 3) := by decide +kernel
theorem dX7_mark_102 : decode cX7_mark 102 = .ok (.iconst 1, 1) := by decide +kernel
theorem dX7_mark_103 : decode cX7_mark 103 = .ok (.goto 4, 3) := by decide +kernel
theorem dX7_mark_106 : decode cX7_mark 106 = .ok (.iconst 0, 1) := by decide +kernel
theorem dX7_mark_107 : decode cX7_mark 107 = .ok (.ireturn, 1) := by decide +kernel
theorem dX7_mark_108 : decode cX7_mark 108 = .ok (.aload_n 0, 1) := by decide +kernel
theorem dX7_mark_109 : decode cX7_mark 109 = .ok (.getfield 24, 3) := by decide +kernel
theorem dX7_mark_112 : decode cX7_mark 112 = .ok (.aload_n 0, 1) := by decide +kernel
theorem dX7_mark_113 : decode cX7_mark 113 = .ok (.getfield 24, 3) := by decide +kernel
theorem dX7_mark_116 : decode cX7_mark 116 = .ok (.getfield 141, 3) := by decide +kernel
theorem dX7_mark_119 : decode cX7_mark 119 = .ok (.iload_n 1, 1) := by decide +kernel
theorem dX7_mark_120 : decode cX7_mark 120 = .ok (.aaload, 1) := by decide +kernel
theorem dX7_mark_121 : decode cX7_mark 121 = .ok (.getfield 157, 3) := by decide +kernel
theorem dX7_mark_124 : decode cX7_mark 124 = .ok (.invokevirtual 160, 3) := by decide +kernel
theorem dX7_mark_127 : decode cX7_mark 127 = .ok (.ireturn, 1) := by decide +kernel
theorem dX7_mark_128 : decode cX7_mark 128 = .ok (.aload_n 0, 1) := by decide +kernel
theorem dX7_mark_129 : decode cX7_mark 129 = .ok (.getfield 24, 3) := by decide +kernel
theorem dX7_mark_132 : decode cX7_mark 132 = .ok (.getfield 141, 3) := by decide +kernel
theorem dX7_mark_135 : decode cX7_mark 135 = .ok (.iload_n 1, 1) := by decide +kernel
theorem dX7_mark_136 : decode cX7_mark 136 = .ok (.aaload, 1) := by decide +kernel
theorem dX7_mark_137 : decode cX7_mark 137 = .ok (.getfield 163, 3) := by decide +kernel
theorem dX7_mark_140 : decode cX7_mark 140 = .ok (.iconst 2, 1) := by decide +kernel
theorem dX7_mark_141 : decode cX7_mark 141 = .ok (.iadd, 1) := by decide +kernel
theorem dX7_mark_142 : decode cX7_mark 142 = .ok (.ireturn, 1) := by decide +kernel
theorem dX7_mark_143 : decode cX7_mark 143 = .ok (.aload_n 0, 1) := by decide +kernel
theorem dX7_mark_144 : decode cX7_mark 144 = .ok (.getfield 24, 3) := by decide +kernel
theorem dX7_mark_147 : decode cX7_mark 147 = .ok (.iload_n 1, 1) := by decide +kernel
theorem dX7_mark_148 : decode cX7_mark 148 = .ok (.invokevirtual 166, 3) := by decide +kernel
theorem dX7_mark_151 : decode cX7_mark 151 = .ok (.ireturn, 1) := by decide +kernel
theorem dX7_reverse_0 : decode cX7_reverse 0 = .ok (.aload_n 0, 1) := by decide +kernel
theorem dX7_reverse_1 : decode cX7_reverse 1 = .ok (.getfield 24, 3) := by decide +kernel
theorem dX7_reverse_4 : decode cX7_reverse 4 = .ok (.iload_n 1, 1) := by decide +kernel
theorem dX7_reverse_5 : decode cX7_reverse 5 = .ok (.invokevirtual 137, 3) := by decide +kernel
theorem dX7_reverse_8 : decode cX7_reverse 8 = .ok (.ifCond .eq 10, 3) := by decide +kernel
theorem dX7_reverse_11 : decode cX7_reverse 11 = .ok (.iload_n 2, 1) := by decide +kernel
theorem dX7_reverse_12 : decode cX7_reverse 12 = .ok (.invokestatic 169, 3) := by decide +kernel
theorem dX7_reverse_15 : decode cX7_reverse 15 = .ok (.ifCond .ne 5, 3) := by decide +kernel
theorem dX7_reverse_18 : decode cX7_reverse 18 = .ok (.iconst (-1), 1) := by decide +kernel
theorem dX7_reverse_19 : decode cX7_reverse 19 = .ok (.ireturn, 1) := by decide +kernel
theorem dX7_reverse_20 : decode cX7_reverse 20 = .ok (.aload_n 0, 1) := by decide +kernel
theorem dX7_reverse_21 : decode cX7_reverse 21 = .ok (.getfield 24, 3) := by decide +kernel
theorem dX7_reverse_24 : decode cX7_reverse 24 = .ok (.getfield 141, 3) := by decide +kernel
theorem dX7_reverse_27 : decode cX7_reverse 27 = .ok (.iload_n 1, 1) := by decide +kernel
theorem dX7_reverse_28 : decode cX7_reverse 28 = .ok (.aaload, 1) := by decide +kernel
theorem dX7_reverse_29 : decode cX7_reverse 29 = .ok (.astore_n 3, 1) := by decide +kernel
theorem dX7_reverse_30 : decode cX7_reverse 30 = .ok (.aload_n 3, 1) := by decide +kernel
theorem dX7_reverse_31 : decode cX7_reverse 31 = .ok (.getfield 172, 3) := by decide +kernel
theorem dX7_reverse_34 : decode cX7_reverse 34 = .ok (.iconst 3, 1) := by decide +kernel
theorem dX7_reverse_35 : decode cX7_reverse 35 = .ok (.if_icmp .ne 9, 3) := by decide +kernel
theorem dX7_reverse_38 : decode cX7_reverse 38 = .ok (.aload_n 0, 1) := by decide +kernel
theorem dX7_reverse_39 : decode cX7_reverse 39 = .ok (.iconst 3, 1) := by decide +kernel
theorem dX7_reverse_40 : decode cX7_reverse 40 = .ok (.invokevirtual 75, 3) := by decide +kernel
theorem dX7_reverse_43 : decode cX7_reverse 43 = .ok (.ireturn, 1) := by decide +kernel
theorem dX7_reverse_44 : decode cX7_reverse 44 = .ok (.aload_n 3, 1) := by decide +kernel
theorem dX7_reverse_45 : decode cX7_reverse 45 = .ok (.getfield 175, 3) := by decide +kernel
theorem dX7_reverse_48 : decode cX7_reverse 48 = .ok (.istore 4, 2) := by decide +kernel
theorem dX7_reverse_50 : decode cX7_reverse 50 = .ok (.aload_n 3, 1) := by decide +kernel
theorem dX7_reverse_51 : decode cX7_reverse 51 = .ok (.iload_n 2, 1) := by decide +kernel
theorem dX7_reverse_52 : decode cX7_reverse 52 = .ok (.putfield 175, 3) := by decide +kernel
theorem dX7_reverse_55 : decode cX7_reverse 55 = .ok (.iload 4, 2) := by decide +kernel
theorem dX7_reverse_57 : decode cX7_reverse 57 = .ok (.ireturn, 1) := by decide +kernel
theorem dX7_swap_0 : decode cX7_swap 0 = .ok (.aload_n 0, 1) := by decide +kernel
theorem dX7_swap_1 : decode cX7_swap 1 = .ok (.getfield 24, 3) := by decide +kernel
theorem dX7_swap_4 : decode cX7_swap 4 = .ok (.iload_n 1, 1) := by decide +kernel
theorem dX7_swap_5 : decode cX7_swap 5 = .ok (.invokevirtual 137, 3) := by decide +kernel
theorem dX7_swap_8 : decode cX7_swap 8 = .ok (.ifCond .eq 14, 3) := by decide +kernel
theorem dX7_swap_11 : decode cX7_swap 11 = .ok (.aload_n 0, 1) := by decide +kernel
theorem dX7_swap_12 : decode cX7_swap 12 = .ok (.getfield 24, 3) := by decide +kernel
theorem dX7_swap_15 : decode cX7_swap 15 = .ok (.iload_n 2, 1) := by decide +kernel
theorem dX7_swap_16 : decode cX7_swap 16 = .ok (.invokevirtual 137, 3) := by decide +kernel
theorem dX7_swap_19 : decode cX7_swap 19 = .ok (.ifCond .ne 5, 3) := by decide +kernel
theorem dX7_swap_22 : decode cX7_swap 22 = .ok (.iconst (-1), 1) := by decide +kernel
theorem dX7_swap_23 : decode cX7_swap 23 = .ok (.ireturn, 1) := by decide +kernel
theorem dX7_swap_24 : decode cX7_swap 24 = .ok (.aload_n 0, 1) := by decide +kernel
theorem dX7_swap_25 : decode cX7_swap 25 = .ok (.getfield 24, 3) := by decide +kernel
theorem dX7_swap_28 : decode cX7_swap 28 = .ok (.getfield 141, 3) := by decide +kernel
theorem dX7_swap_31 : decode cX7_swap 31 = .ok (.iload_n 1, 1) := by decide +kernel
theorem dX7_swap_32 : decode cX7_swap 32 = .ok (.aaload, 1) := by decide +kernel
theorem dX7_swap_33 : decode cX7_swap 33 = .ok (.getfield 163, 3) := by decide +kernel
theorem dX7_swap_36 : decode cX7_swap 36 = .ok (.istore_n 3, 1) := by decide +kernel
theorem dX7_swap_37 : decode cX7_swap 37 = .ok (.aload_n 0, 1) := by decide +kernel
theorem dX7_swap_38 : decode cX7_swap 38 = .ok (.getfield 24, 3) := by decide +kernel
theorem dX7_swap_41 : decode cX7_swap 41 = .ok (.getfield 141, 3) := by decide +kernel
theorem dX7_swap_44 : decode cX7_swap 44 = .ok (.iload_n 1, 1) := by decide +kernel
theorem dX7_swap_45 : decode cX7_swap 45 = .ok (.aaload, 1) := by decide +kernel
theorem dX7_swap_46 : decode cX7_swap 46 = .ok (.aload_n 0, 1) := by decide +kernel
theorem dX7_swap_47 : decode cX7_swap 47 = .ok (.getfield 24, 3) := by decide +kernel
theorem dX7_swap_50 : decode cX7_swap 50 = .ok (.getfield 141, 3) := by decide +kernel
theorem dX7_swap_53 : decode cX7_swap 53 = .ok (.iload_n 2, 1) := by decide +kernel
theorem dX7_swap_54 : decode cX7_swap 54 = .ok (.aaload, 1) := by decide +kernel
theorem dX7_swap_55 : decode cX7_swap 55 = .ok (.getfield 163, 3) := by decide +kernel
theorem dX7_swap_58 : decode cX7_swap 58 = .ok (.putfield 163, 3) := by decide +kernel
theorem dX7_swap_61 : decode cX7_swap 61 = .ok (.aload_n 0, 1) := by decide +kernel
theorem dX7_swap_62 : decode cX7_swap 62 = .ok (.getfield 24, 3) := by decide +kernel
theorem dX7_swap_65 : decode cX7_swap 65 = .ok (.getfield 141, 3) := by decide +kernel
theorem dX7_swap_68 : decode cX7_swap 68 = .ok (.iload_n 2, 1) := by decide +kernel
theorem dX7_swap_69 : decode cX7_swap 69 = .ok (.aaload, 1) := by decide +kernel
theorem dX7_swap_70 : decode cX7_swap 70 = .ok (.iload_n 3, 1) := by decide +kernel
theorem dX7_swap_71 : decode cX7_swap 71 = .ok (.putfield 163, 3) := by decide +kernel
theorem dX7_swap_74 : decode cX7_swap 74 = .ok (.aload_n 0, 1) := by decide +kernel
theorem dX7_swap_75 : decode cX7_swap 75 = .ok (.getfield 24, 3) := by decide +kernel
theorem dX7_swap_78 : decode cX7_swap 78 = .ok (.getfield 141, 3) := by decide +kernel
theorem dX7_swap_81 : decode cX7_swap 81 = .ok (.iload_n 1, 1) := by decide +kernel
theorem dX7_swap_82 : decode cX7_swap 82 = .ok (.aaload, 1) := by decide +kernel
theorem dX7_swap_83 : decode cX7_swap 83 = .ok (.getfield 163, 3) := by decide +kernel
theorem dX7_swap_86 : decode cX7_swap 86 = .ok (.ireturn, 1) := by decide +kernel
theorem dX7_read_0 : decode cX7_read 0 = .ok (.aload_n 0, 1) := by decide +kernel
theorem dX7_read_1 : decode cX7_read 1 = .ok (.getfield 14, 3) := by decide +kernel
theorem dX7_read_4 : decode cX7_read 4 = .ok (.iload_n 1, 1) := by decide +kernel
theorem dX7_read_5 : decode cX7_read 5 = .ok (.invokevirtual 71, 3) := by decide +kernel
theorem dX7_read_8 : decode cX7_read 8 = .ok (.ifCond .ne 5, 3) := by decide +kernel
theorem dX7_read_11 : decode cX7_read 11 = .ok (.iconst (-1), 1) := by decide +kernel
theorem dX7_read_12 : decode cX7_read 12 = .ok (.ireturn, 1) := by decide +kernel
theorem dX7_read_13 : decode cX7_read 13 = .ok (.aload_n 0, 1) := by decide +kernel
theorem dX7_read_14 : decode cX7_read 14 = .ok (.getfield 24, 3) := by decide +kernel
theorem dX7_read_17 : decode cX7_read 17 = .ok (.getfield 134, 3) := by decide +kernel
theorem dX7_read_20 : decode cX7_read 20 = .ok (.ifCond .ne 6, 3) := by decide +kernel
theorem dX7_read_23 : decode cX7_read 23 = .ok (.bipush (-4), 2) := by decide +kernel
theorem dX7_read_25 : decode cX7_read 25 = .ok (.ireturn, 1) := by decide +kernel
theorem dX7_read_26 : decode cX7_read 26 = .ok (.aload_n 0, 1) := by decide +kernel
theorem dX7_read_27 : decode cX7_read 27 = .ok (.getfield 14, 3) := by decide +kernel
theorem dX7_read_30 : decode cX7_read 30 = .ok (.iload_n 1, 1) := by decide +kernel
theorem dX7_read_31 : decode cX7_read 31 = .ok (.invokevirtual 83, 3) := by decide +kernel
theorem dX7_read_34 : decode cX7_read 34 = .ok (.ifCond .ne 9, 3) := by decide +kernel
theorem dX7_read_37 : decode cX7_read 37 = .ok (.aload_n 0, 1) := by decide +kernel
theorem dX7_read_38 : decode cX7_read 38 = .ok (.iconst 1, 1) := by decide +kernel
theorem dX7_read_39 : decode cX7_read 39 = .ok (.invokevirtual 75, 3) := by decide +kernel
theorem dX7_read_42 : decode cX7_read 42 = .ok (.ireturn, 1) := by decide +kernel
theorem dX7_read_43 : decode cX7_read 43 = .ok (.aload_n 0, 1) := by decide +kernel
theorem dX7_read_44 : decode cX7_read 44 = .ok (.getfield 14, 3) := by decide +kernel
theorem dX7_read_47 : decode cX7_read 47 = .ok (.iload_n 1, 1) := by decide +kernel
theorem dX7_read_48 : decode cX7_read 48 = .ok (.invokevirtual 113, 3) := by decide +kernel
theorem dX7_read_51 : decode cX7_read 51 = .ok (.aload_n 0, 1) := by decide +kernel
theorem dX7_read_52 : decode cX7_read 52 = .ok (.getfield 24, 3) := by decide +kernel
theorem dX7_read_55 : decode cX7_read 55 = .ok (.getfield 134, 3) := by decide +kernel
theorem dX7_read_58 : decode cX7_read 58 = .ok (.if_icmp .eq 9, 3) := by decide +kernel
theorem dX7_read_61 : decode cX7_read 61 = .ok (.aload_n 0, 1) := by decide +kernel
theorem dX7_read_62 : decode cX7_read 62 = .ok (.iconst 5, 1) := by decide +kernel
theorem dX7_read_63 : decode cX7_read 63 = .ok (.invokevirtual 75, 3) := by decide +kernel
theorem dX7_read_66 : decode cX7_read 66 = .ok (.ireturn, 1) := by decide +kernel
theorem dX7_read_67 : decode cX7_read 67 = .ok (.aload_n 0, 1) := by decide +kernel
theorem dX7_read_68 : decode cX7_read 68 = .ok (.iload_n 1, 1) := by decide +kernel
theorem dX7_read_69 : decode cX7_read 69 = .ok (.invokevirtual 178, 3) := by decide +kernel
theorem dX7_read_72 : decode cX7_read 72 = .ok (.ifCond .ne 9, 3) := by decide +kernel
theorem dX7_read_75 : decode cX7_read 75 = .ok (.aload_n 0, 1) := by decide +kernel
theorem dX7_read_76 : decode cX7_read 76 = .ok (.iconst 3, 1) := by decide +kernel
theorem dX7_read_77 : decode cX7_read 77 = .ok (.invokevirtual 75, 3) := by decide +kernel
theorem dX7_read_80 : decode cX7_read 80 = .ok (.ireturn, 1) := by decide +kernel
theorem dX7_read_81 : decode cX7_read 81 = .ok (.iconst 0, 1) := by decide +kernel
theorem dX7_read_82 : decode cX7_read 82 = .ok (.istore_n 2, 1) := by decide +kernel
theorem dX7_read_83 : decode cX7_read 83 = .ok (.iload_n 2, 1) := by decide +kernel
theorem dX7_read_84 : decode cX7_read 84 = .ok (.aload_n 0, 1) := by decide +kernel
theorem dX7_read_85 : decode cX7_read 85 = .ok (.getfield 24, 3) := by decide +kernel
theorem dX7_read_88 : decode cX7_read 88 = .ok (.getfield 134, 3) := by decide +kernel
theorem dX7_read_91 : decode cX7_read 91 = .ok (.if_icmp .ge 43, 3) := by decide +kernel
theorem dX7_read_94 : decode cX7_read 94 = .ok (.aload_n 0, 1) := by decide +kernel
theorem dX7_read_95 : decode cX7_read 95 = .ok (.getfield 14, 3) := by decide +kernel
theorem dX7_read_98 : decode cX7_read 98 = .ok (.iload_n 1, 1) := by decide +kernel
theorem dX7_read_99 : decode cX7_read 99 = .ok (.iload_n 2, 1) := by decide +kernel
theorem dX7_read_100 : decode cX7_read 100 = .ok (.invokevirtual 90, 3) := by decide +kernel
theorem dX7_read_103 : decode cX7_read 103 = .ok (.istore_n 3, 1) := by decide +kernel
theorem dX7_read_104 : decode cX7_read 104 = .ok (.aload_n 0, 1) := by decide +kernel
theorem dX7_read_105 : decode cX7_read 105 = .ok (.getfield 24, 3) := by decide +kernel
theorem dX7_read_108 : decode cX7_read 108 = .ok (.iload_n 3, 1) := by decide +kernel
theorem dX7_read_109 : decode cX7_read 109 = .ok (.invokevirtual 137, 3) := by decide +kernel
theorem dX7_read_112 : decode cX7_read 112 = .ok (.ifCond .eq 16, 3) := by decide +kernel
theorem dX7_read_115 : decode cX7_read 115 = .ok (.aload_n 0, 1) := by decide +kernel
theorem dX7_read_116 : decode cX7_read 116 = .ok (.getfield 24, 3) := by decide +kernel
theorem dX7_read_119 : decode cX7_read 119 = .ok (.getfield 141, 3) := by decide +kernel
theorem dX7_read_122 : decode cX7_read 122 = .ok (.iload_n 3, 1) := by decide +kernel
theorem dX7_read_123 : decode cX7_read 123 = .ok (.aaload, 1) := by decide +kernel
theorem dX7_read_124 : decode cX7_read 124 = .ok (.iload_n 2, 1) := by decide +kernel
theorem dX7_read_125 : decode cX7_read 125 = .ok (.putfield 163, 3) := by decide +kernel
theorem dX7_read_128 : decode cX7_read 128 = .ok (.iinc 2 1, 3) := by decide +kernel
theorem dX7_read_131 : decode cX7_read 131 = .ok (.goto (-48), 3) := by decide +kernel
theorem dX7_read_134 : decode cX7_read 134 = .ok (.iconst 1, 1) := by decide +kernel
theorem dX7_read_135 : decode cX7_read 135 = .ok (.ireturn, 1) := by decide +kernel
theorem dX7_add_0 : decode cX7_add 0 = .ok (.iload_n 1, 1) := by decide +kernel
theorem dX7_add_1 : decode cX7_add 1 = .ok (.invokestatic 169, 3) := by decide +kernel
theorem dX7_add_4 : decode cX7_add 4 = .ok (.ifCond .eq 13, 3) := by decide +kernel
theorem dX7_add_7 : decode cX7_add 7 = .ok (.iload_n 2, 1) := by decide +kernel
theorem dX7_add_8 : decode cX7_add 8 = .ok (.ifCond .lt 9, 3) := by decide +kernel
theorem dX7_add_11 : decode cX7_add 11 = .ok (.iload_n 2, 1) := by decide +kernel
theorem dX7_add_12 : decode cX7_add 12 = .ok (.bipush 127, 2) := by decide +kernel
theorem dX7_add_14 : decode cX7_add 14 = .ok (.if_icmp .le 5, 3) := by decide +kernel
theorem dX7_add_17 : decode cX7_add 17 = .ok (.iconst (-1), 1) := by decide +kernel
theorem dX7_add_18 : decode cX7_add 18 = .ok (.ireturn, 1) := by decide +kernel
theorem dX7_add_19 : decode cX7_add 19 = .ok (.aload_n 0, 1) := by decide +kernel
theorem dX7_add_20 : decode cX7_add 20 = .ok (.getfield 24, 3) := by decide +kernel
theorem dX7_add_23 : decode cX7_add 23 = .ok (.getfield 134, 3) := by decide +kernel
theorem dX7_add_26 : decode cX7_add 26 = .ok (.bipush 6, 2) := by decide +kernel
theorem dX7_add_28 : decode cX7_add 28 = .ok (.if_icmp .ne 6, 3) := by decide +kernel
theorem dX7_add_31 : decode cX7_add 31 = .ok (.bipush (-2), 2) := by decide +kernel
theorem dX7_add_33 : decode cX7_add 33 = .ok (.ireturn, 1) := by decide +kernel
theorem dX7_add_34 : decode cX7_add 34 = .ok (.aload_n 0, 1) := by decide +kernel
theorem dX7_add_35 : decode cX7_add 35 = .ok (.getfield 24, 3) := by decide +kernel
theorem dX7_add_38 : decode cX7_add 38 = .ok (.iconst 0, 1) := by decide +kernel
theorem dX7_add_39 : decode cX7_add 39 = .ok (.bipush (-9), 2) := by decide +kernel
theorem dX7_add_41 : decode cX7_add 41 = .ok (.iload_n 1, 1) := by decide +kernel
theorem dX7_add_42 : decode cX7_add 42 = .ok (.iload_n 2, 1) := by decide +kernel
theorem dX7_add_43 : decode cX7_add 43 = .ok (.bipush (-9), 2) := by decide +kernel
theorem dX7_add_45 : decode cX7_add 45 = .ok (.invokevirtual 181, 3) := by decide +kernel
theorem dX7_add_48 : decode cX7_add 48 = .ok (.aload_n 0, 1) := by decide +kernel
theorem dX7_add_49 : decode cX7_add 49 = .ok (.getfield 24, 3) := by decide +kernel
theorem dX7_add_52 : decode cX7_add 52 = .ok (.getfield 134, 3) := by decide +kernel
theorem dX7_add_55 : decode cX7_add 55 = .ok (.iconst 1, 1) := by decide +kernel
theorem dX7_add_56 : decode cX7_add 56 = .ok (.isub, 1) := by decide +kernel
theorem dX7_add_57 : decode cX7_add 57 = .ok (.ireturn, 1) := by decide +kernel
theorem dX7_rip_0 : decode cX7_rip 0 = .ok (.aload_n 0, 1) := by decide +kernel
theorem dX7_rip_1 : decode cX7_rip 1 = .ok (.getfield 24, 3) := by decide +kernel
theorem dX7_rip_4 : decode cX7_rip 4 = .ok (.getfield 134, 3) := by decide +kernel
theorem dX7_rip_7 : decode cX7_rip 7 = .ok (.ifCond .ne 6, 3) := by decide +kernel
theorem dX7_rip_10 : decode cX7_rip 10 = .ok (.bipush (-4), 2) := by decide +kernel
theorem dX7_rip_12 : decode cX7_rip 12 = .ok (.ireturn, 1) := by decide +kernel
theorem dX7_rip_13 : decode cX7_rip 13 = .ok (.aload_n 0, 1) := by decide +kernel
theorem dX7_rip_14 : decode cX7_rip 14 = .ok (.getfield 24, 3) := by decide +kernel
theorem dX7_rip_17 : decode cX7_rip 17 = .ok (.invokevirtual 184, 3) := by decide +kernel
theorem dX7_rip_20 : decode cX7_rip 20 = .ok (.aload_n 0, 1) := by decide +kernel
theorem dX7_rip_21 : decode cX7_rip 21 = .ok (.getfield 24, 3) := by decide +kernel
theorem dX7_rip_24 : decode cX7_rip 24 = .ok (.getfield 134, 3) := by decide +kernel
theorem dX7_rip_27 : decode cX7_rip 27 = .ok (.ireturn, 1) := by decide +kernel
theorem dX7_keep_0 : decode cX7_keep 0 = .ok (.iload_n 1, 1) := by decide +kernel
theorem dX7_keep_1 : decode cX7_keep 1 = .ok (.invokestatic 187, 3) := by decide +kernel
theorem dX7_keep_4 : decode cX7_keep 4 = .ok (.ifCond .ne 5, 3) := by decide +kernel
theorem dX7_keep_7 : decode cX7_keep 7 = .ok (.iconst (-1), 1) := by decide +kernel
theorem dX7_keep_8 : decode cX7_keep 8 = .ok (.ireturn, 1) := by decide +kernel
theorem dX7_keep_9 : decode cX7_keep 9 = .ok (.aload_n 0, 1) := by decide +kernel
theorem dX7_keep_10 : decode cX7_keep 10 = .ok (.getfield 24, 3) := by decide +kernel
theorem dX7_keep_13 : decode cX7_keep 13 = .ok (.getfield 134, 3) := by decide +kernel
theorem dX7_keep_16 : decode cX7_keep 16 = .ok (.ifCond .ne 6, 3) := by decide +kernel
theorem dX7_keep_19 : decode cX7_keep 19 = .ok (.bipush (-4), 2) := by decide +kernel
theorem dX7_keep_21 : decode cX7_keep 21 = .ok (.ireturn, 1) := by decide +kernel
theorem dX7_keep_22 : decode cX7_keep 22 = .ok (.aload_n 0, 1) := by decide +kernel
theorem dX7_keep_23 : decode cX7_keep 23 = .ok (.getfield 31, 3) := by decide +kernel
theorem dX7_keep_26 : decode cX7_keep 26 = .ok (.iload_n 1, 1) := by decide +kernel
theorem dX7_keep_27 : decode cX7_keep 27 = .ok (.aaload, 1) := by decide +kernel
theorem dX7_keep_28 : decode cX7_keep 28 = .ok (.aload_n 0, 1) := by decide +kernel
theorem dX7_keep_29 : decode cX7_keep 29 = .ok (.getfield 24, 3) := by decide +kernel
theorem dX7_keep_32 : decode cX7_keep 32 = .ok (.invokevirtual 124, 3) := by decide +kernel
theorem dX7_keep_35 : decode cX7_keep 35 = .ok (.aload_n 0, 1) := by decide +kernel
theorem dX7_keep_36 : decode cX7_keep 36 = .ok (.getfield 24, 3) := by decide +kernel
theorem dX7_keep_39 : decode cX7_keep 39 = .ok (.getfield 134, 3) := by decide +kernel
theorem dX7_keep_42 : decode cX7_keep 42 = .ok (.ireturn, 1) := by decide +kernel
theorem dX7_on_0 : decode cX7_on 0 = .ok (.iload_n 1, 1) := by decide +kernel
theorem dX7_on_1 : decode cX7_on 1 = .ok (.invokestatic 187, 3) := by decide +kernel
theorem dX7_on_4 : decode cX7_on 4 = .ok (.ifCond .ne 5, 3) := by decide +kernel
theorem dX7_on_7 : decode cX7_on 7 = .ok (.iconst (-1), 1) := by decide +kernel
theorem dX7_on_8 : decode cX7_on 8 = .ok (.ireturn, 1) := by decide +kernel
theorem dX7_on_9 : decode cX7_on 9 = .ok (.aload_n 0, 1) := by decide +kernel
theorem dX7_on_10 : decode cX7_on 10 = .ok (.getfield 31, 3) := by decide +kernel
theorem dX7_on_13 : decode cX7_on 13 = .ok (.iload_n 1, 1) := by decide +kernel
theorem dX7_on_14 : decode cX7_on 14 = .ok (.aaload, 1) := by decide +kernel
theorem dX7_on_15 : decode cX7_on 15 = .ok (.getfield 134, 3) := by decide +kernel
theorem dX7_on_18 : decode cX7_on 18 = .ok (.ifCond .ne 9, 3) := by decide +kernel
theorem dX7_on_21 : decode cX7_on 21 = .ok (.aload_n 0, 1) := by decide +kernel
theorem dX7_on_22 : decode cX7_on 22 = .ok (.iconst 1, 1) := by decide +kernel
theorem dX7_on_23 : decode cX7_on 23 = .ok (.invokevirtual 75, 3) := by decide +kernel
theorem dX7_on_26 : decode cX7_on 26 = .ok (.ireturn, 1) := by decide +kernel
theorem dX7_on_27 : decode cX7_on 27 = .ok (.aload_n 0, 1) := by decide +kernel
theorem dX7_on_28 : decode cX7_on 28 = .ok (.getfield 24, 3) := by decide +kernel
theorem dX7_on_31 : decode cX7_on 31 = .ok (.aload_n 0, 1) := by decide +kernel
theorem dX7_on_32 : decode cX7_on 32 = .ok (.getfield 31, 3) := by decide +kernel
theorem dX7_on_35 : decode cX7_on 35 = .ok (.iload_n 1, 1) := by decide +kernel
theorem dX7_on_36 : decode cX7_on 36 = .ok (.aaload, 1) := by decide +kernel
theorem dX7_on_37 : decode cX7_on 37 = .ok (.invokevirtual 124, 3) := by decide +kernel
theorem dX7_on_40 : decode cX7_on 40 = .ok (.aload_n 0, 1) := by decide +kernel
theorem dX7_on_41 : decode cX7_on 41 = .ok (.getfield 24, 3) := by decide +kernel
theorem dX7_on_44 : decode cX7_on 44 = .ok (.getfield 134, 3) := by decide +kernel
theorem dX7_on_47 : decode cX7_on 47 = .ok (.ireturn, 1) := by decide +kernel
theorem dX7_binds_0 : decode cX7_binds 0 = .ok (.iload_n 1, 1) := by decide +kernel
theorem dX7_binds_1 : decode cX7_binds 1 = .ok (.invokestatic 190, 3) := by decide +kernel
theorem dX7_binds_4 : decode cX7_binds 4 = .ok (.ifCond .eq 14, 3) := by decide +kernel
theorem dX7_binds_7 : decode cX7_binds 7 = .ok (.aload_n 0, 1) := by decide +kernel
theorem dX7_binds_8 : decode cX7_binds 8 = .ok (.getfield 24, 3) := by decide +kernel
theorem dX7_binds_11 : decode cX7_binds 11 = .ok (.iload_n 1, 1) := by decide +kernel
theorem dX7_binds_12 : decode cX7_binds 12 = .ok (.invokevirtual 193, 3) := by decide +kernel
theorem dX7_binds_15 : decode cX7_binds 15 = .ok (.goto 4, 3) := by decide +kernel
theorem dX7_binds_18 : decode cX7_binds 18 = .ok (.iconst (-1), 1) := by decide +kernel
theorem dX7_binds_19 : decode cX7_binds 19 = .ok (.ireturn, 1) := by decide +kernel
theorem dX7_means_0 : decode cX7_means 0 = .ok (.iload_n 1, 1) := by decide +kernel
theorem dX7_means_1 : decode cX7_means 1 = .ok (.iconst 5, 1) := by decide +kernel
theorem dX7_means_2 : decode cX7_means 2 = .ok (.if_icmp .eq 9, 3) := by decide +kernel
theorem dX7_means_5 : decode cX7_means 5 = .ok (.iload_n 1, 1) := by decide +kernel
theorem dX7_means_6 : decode cX7_means 6 = .ok (.bipush 6, 2) := by decide +kernel
theorem dX7_means_8 : decode cX7_means 8 = .ok (.if_icmp .ne 10, 3) := by decide +kernel
theorem dX7_means_11 : decode cX7_means 11 = .ok (.iload_n 2, 1) := by decide +kernel
theorem dX7_means_12 : decode cX7_means 12 = .ok (.invokestatic 190, 3) := by decide +kernel
theorem dX7_means_15 : decode cX7_means 15 = .ok (.ifCond .ne 5, 3) := by decide +kernel
theorem dX7_means_18 : decode cX7_means 18 = .ok (.iconst (-1), 1) := by decide +kernel
theorem dX7_means_19 : decode cX7_means 19 = .ok (.ireturn, 1) := by decide +kernel
theorem dX7_means_20 : decode cX7_means 20 = .ok (.aload_n 0, 1) := by decide +kernel
theorem dX7_means_21 : decode cX7_means 21 = .ok (.getfield 24, 3) := by decide +kernel
theorem dX7_means_24 : decode cX7_means 24 = .ok (.iload_n 1, 1) := by decide +kernel
theorem dX7_means_25 : decode cX7_means 25 = .ok (.aload_n 0, 1) := by decide +kernel
theorem dX7_means_26 : decode cX7_means 26 = .ok (.getfield 24, 3) := by decide +kernel
theorem dX7_means_29 : decode cX7_means 29 = .ok (.iload_n 2, 1) := by decide +kernel
theorem dX7_means_30 : decode cX7_means 30 = .ok (.invokevirtual 193, 3) := by decide +kernel
theorem dX7_means_33 : decode cX7_means 33 = .ok (.invokevirtual 196, 3) := by decide +kernel
theorem dX7_means_36 : decode cX7_means 36 = .ok (.ireturn, 1) := by decide +kernel
theorem dX7_meanings_0 : decode cX7_meanings 0 = .ok (.iload_n 1, 1) := by decide +kernel
theorem dX7_meanings_1 : decode cX7_meanings 1 = .ok (.invokestatic 190, 3) := by decide +kernel
theorem dX7_meanings_4 : decode cX7_meanings 4 = .ok (.ifCond .ne 5, 3) := by decide +kernel
theorem dX7_meanings_7 : decode cX7_meanings 7 = .ok (.iconst (-1), 1) := by decide +kernel
theorem dX7_meanings_8 : decode cX7_meanings 8 = .ok (.ireturn, 1) := by decide +kernel
theorem dX7_meanings_9 : decode cX7_meanings 9 = .ok (.aload_n 0, 1) := by decide +kernel
theorem dX7_meanings_10 : decode cX7_meanings 10 = .ok (.getfield 24, 3) := by decide +kernel
theorem dX7_meanings_13 : decode cX7_meanings 13 = .ok (.iload_n 1, 1) := by decide +kernel
theorem dX7_meanings_14 : decode cX7_meanings 14 = .ok (.invokevirtual 193, 3) := by decide +kernel
theorem dX7_meanings_17 : decode cX7_meanings 17 = .ok (.istore_n 2, 1) := by decide +kernel
theorem dX7_meanings_18 : decode cX7_meanings 18 = .ok (.aload_n 0, 1) := by decide +kernel
theorem dX7_meanings_19 : decode cX7_meanings 19 = .ok (.getfield 24, 3) := by decide +kernel
theorem dX7_meanings_22 : decode cX7_meanings 22 = .ok (.iconst 5, 1) := by decide +kernel
theorem dX7_meanings_23 : decode cX7_meanings 23 = .ok (.iload_n 2, 1) := by decide +kernel
theorem dX7_meanings_24 : decode cX7_meanings 24 = .ok (.invokevirtual 196, 3) := by decide +kernel
theorem dX7_meanings_27 : decode cX7_meanings 27 = .ok (.invokestatic 199, 3) := by decide +kernel
theorem dX7_meanings_30 : decode cX7_meanings 30 = .ok (.aload_n 0, 1) := by decide +kernel
theorem dX7_meanings_31 : decode cX7_meanings 31 = .ok (.getfield 24, 3) := by decide +kernel
theorem dX7_meanings_34 : decode cX7_meanings 34 = .ok (.bipush 6, 2) := by decide +kernel
theorem dX7_meanings_36 : decode cX7_meanings 36 = .ok (.iload_n 2, 1) := by decide +kernel
theorem dX7_meanings_37 : decode cX7_meanings 37 = .ok (.invokevirtual 196, 3) := by decide +kernel
theorem dX7_meanings_40 : decode cX7_meanings 40 = .ok (.invokestatic 199, 3) := by decide +kernel
theorem dX7_meanings_43 : decode cX7_meanings 43 = .ok (.imul, 1) := by decide +kernel
theorem dX7_meanings_44 : decode cX7_meanings 44 = .ok (.ireturn, 1) := by decide +kernel
theorem dX7_never_0 : decode cX7_never 0 = .ok (.iconst 0, 1) := by decide +kernel
theorem dX7_never_1 : decode cX7_never 1 = .ok (.istore_n 1, 1) := by decide +kernel
theorem dX7_never_2 : decode cX7_never 2 = .ok (.iconst 0, 1) := by decide +kernel
theorem dX7_never_3 : decode cX7_never 3 = .ok (.istore_n 2, 1) := by decide +kernel
theorem dX7_never_4 : decode cX7_never 4 = .ok (.iconst 0, 1) := by decide +kernel
theorem dX7_never_5 : decode cX7_never 5 = .ok (.istore_n 3, 1) := by decide +kernel
theorem dX7_never_6 : decode cX7_never 6 = .ok (.iload_n 3, 1) := by decide +kernel
theorem dX7_never_7 : decode cX7_never 7 = .ok (.aload_n 0, 1) := by decide +kernel
theorem dX7_never_8 : decode cX7_never 8 = .ok (.getfield 24, 3) := by decide +kernel
theorem dX7_never_11 : decode cX7_never 11 = .ok (.getfield 134, 3) := by decide +kernel
theorem dX7_never_14 : decode cX7_never 14 = .ok (.if_icmp .ge 48, 3) := by decide +kernel
theorem dX7_never_17 : decode cX7_never 17 = .ok (.aload_n 0, 1) := by decide +kernel
theorem dX7_never_18 : decode cX7_never 18 = .ok (.getfield 24, 3) := by decide +kernel
theorem dX7_never_21 : decode cX7_never 21 = .ok (.iload_n 3, 1) := by decide +kernel
theorem dX7_never_22 : decode cX7_never 22 = .ok (.invokevirtual 166, 3) := by decide +kernel
theorem dX7_never_25 : decode cX7_never 25 = .ok (.bipush (-9), 2) := by decide +kernel
theorem dX7_never_27 : decode cX7_never 27 = .ok (.if_icmp .eq 6, 3) := by decide +kernel
theorem dX7_never_30 : decode cX7_never 30 = .ok (.goto 26, 3) := by decide +kernel
theorem dX7_never_33 : decode cX7_never 33 = .ok (.iload_n 1, 1) := by decide +kernel
theorem dX7_never_34 : decode cX7_never 34 = .ok (.iconst 1, 1) := by decide +kernel
theorem dX7_never_35 : decode cX7_never 35 = .ok (.iload_n 3, 1) := by decide +kernel
theorem dX7_never_36 : decode cX7_never 36 = .ok (.ishl, 1) := by decide +kernel
theorem dX7_never_37 : decode cX7_never 37 = .ok (.ior, 1) := by decide +kernel
theorem dX7_never_38 : decode cX7_never 38 = .ok (.istore_n 1, 1) := by decide +kernel
theorem dX7_never_39 : decode cX7_never 39 = .ok (.aload_n 0, 1) := by decide +kernel
theorem dX7_never_40 : decode cX7_never 40 = .ok (.getfield 24, 3) := by decide +kernel
theorem dX7_never_43 : decode cX7_never 43 = .ok (.iload_n 3, 1) := by decide +kernel
theorem dX7_never_44 : decode cX7_never 44 = .ok (.invokevirtual 204, 3) := by decide +kernel
theorem dX7_never_47 : decode cX7_never 47 = .ok (.ifCond .eq 9, 3) := by decide +kernel
theorem dX7_never_50 : decode cX7_never 50 = .ok (.iload_n 2, 1) := by decide +kernel
theorem dX7_never_51 : decode cX7_never 51 = .ok (.iconst 1, 1) := by decide +kernel
theorem dX7_never_52 : decode cX7_never 52 = .ok (.iload_n 3, 1) := by decide +kernel
theorem dX7_never_53 : decode cX7_never 53 = .ok (.ishl, 1) := by decide +kernel
theorem dX7_never_54 : decode cX7_never 54 = .ok (.ior, 1) := by decide +kernel
theorem dX7_never_55 : decode cX7_never 55 = .ok (.istore_n 2, 1) := by decide +kernel
theorem dX7_never_56 : decode cX7_never 56 = .ok (.iinc 3 1, 3) := by decide +kernel
theorem dX7_never_59 : decode cX7_never 59 = .ok (.goto (-53), 3) := by decide +kernel
theorem dX7_never_62 : decode cX7_never 62 = .ok (.aload_n 0, 1) := by decide +kernel
theorem dX7_never_63 : decode cX7_never 63 = .ok (.iload_n 2, 1) := by decide +kernel
theorem dX7_never_64 : decode cX7_never 64 = .ok (.putfield 94, 3) := by decide +kernel
theorem dX7_never_67 : decode cX7_never 67 = .ok (.iload_n 1, 1) := by decide +kernel
theorem dX7_never_68 : decode cX7_never 68 = .ok (.ireturn, 1) := by decide +kernel
theorem dX7_verdict_0 : decode cX7_verdict 0 = .ok (.iload_n 1, 1) := by decide +kernel
theorem dX7_verdict_1 : decode cX7_verdict 1 = .ok (.invokestatic 207, 3) := by decide +kernel
theorem dX7_verdict_4 : decode cX7_verdict 4 = .ok (.ifCond .eq 10, 3) := by decide +kernel
theorem dX7_verdict_7 : decode cX7_verdict 7 = .ok (.iload_n 2, 1) := by decide +kernel
theorem dX7_verdict_8 : decode cX7_verdict 8 = .ok (.invokestatic 190, 3) := by decide +kernel
theorem dX7_verdict_11 : decode cX7_verdict 11 = .ok (.ifCond .ne 5, 3) := by decide +kernel
theorem dX7_verdict_14 : decode cX7_verdict 14 = .ok (.iconst (-1), 1) := by decide +kernel
theorem dX7_verdict_15 : decode cX7_verdict 15 = .ok (.ireturn, 1) := by decide +kernel
theorem dX7_verdict_16 : decode cX7_verdict 16 = .ok (.aload_n 0, 1) := by decide +kernel
theorem dX7_verdict_17 : decode cX7_verdict 17 = .ok (.getfield 45, 3) := by decide +kernel
theorem dX7_verdict_20 : decode cX7_verdict 20 = .ok (.aload_n 0, 1) := by decide +kernel
theorem dX7_verdict_21 : decode cX7_verdict 21 = .ok (.getfield 24, 3) := by decide +kernel
theorem dX7_verdict_24 : decode cX7_verdict 24 = .ok (.iload_n 2, 1) := by decide +kernel
theorem dX7_verdict_25 : decode cX7_verdict 25 = .ok (.invokevirtual 210, 3) := by decide +kernel
theorem dX7_verdict_28 : decode cX7_verdict 28 = .ok (.aload_n 0, 1) := by decide +kernel
theorem dX7_verdict_29 : decode cX7_verdict 29 = .ok (.aload_n 0, 1) := by decide +kernel
theorem dX7_verdict_30 : decode cX7_verdict 30 = .ok (.getfield 45, 3) := by decide +kernel
theorem dX7_verdict_33 : decode cX7_verdict 33 = .ok (.iload_n 1, 1) := by decide +kernel
theorem dX7_verdict_34 : decode cX7_verdict 34 = .ok (.invokevirtual 214, 3) := by decide +kernel
theorem dX7_verdict_37 : decode cX7_verdict 37 = .ok (.putfield 94, 3) := by decide +kernel
theorem dX7_verdict_40 : decode cX7_verdict 40 = .ok (.aload_n 0, 1) := by decide +kernel
theorem dX7_verdict_41 : decode cX7_verdict 41 = .ok (.getfield 45, 3) := by decide +kernel
theorem dX7_verdict_44 : decode cX7_verdict 44 = .ok (.iload_n 1, 1) := by decide +kernel
theorem dX7_verdict_45 : decode cX7_verdict 45 = .ok (.invokevirtual 217, 3) := by decide +kernel
theorem dX7_verdict_48 : decode cX7_verdict 48 = .ok (.ireturn, 1) := by decide +kernel
theorem dX7_judge_0 : decode cX7_judge 0 = .ok (.iload_n 1, 1) := by decide +kernel
theorem dX7_judge_1 : decode cX7_judge 1 = .ok (.invokestatic 207, 3) := by decide +kernel
theorem dX7_judge_4 : decode cX7_judge 4 = .ok (.ifCond .eq 14, 3) := by decide +kernel
theorem dX7_judge_7 : decode cX7_judge 7 = .ok (.iload_n 3, 1) := by decide +kernel
theorem dX7_judge_8 : decode cX7_judge 8 = .ok (.invokestatic 190, 3) := by decide +kernel
theorem dX7_judge_11 : decode cX7_judge 11 = .ok (.ifCond .eq 7, 3) := by decide +kernel
theorem dX7_judge_14 : decode cX7_judge 14 = .ok (.iload_n 2, 1) := by decide +kernel
theorem dX7_judge_15 : decode cX7_judge 15 = .ok (.ifCond .ge 5, 3) := by decide +kernel
theorem dX7_judge_18 : decode cX7_judge 18 = .ok (.iconst (-1), 1) := by decide +kernel
theorem dX7_judge_19 : decode cX7_judge 19 = .ok (.ireturn, 1) := by decide +kernel
theorem dX7_judge_20 : decode cX7_judge 20 = .ok (.iload_n 2, 1) := by decide +kernel
theorem dX7_judge_21 : decode cX7_judge 21 = .ok (.bipush 10, 2) := by decide +kernel
theorem dX7_judge_23 : decode cX7_judge 23 = .ok (.idiv, 1) := by decide +kernel
theorem dX7_judge_24 : decode cX7_judge 24 = .ok (.istore 4, 2) := by decide +kernel
theorem dX7_judge_26 : decode cX7_judge 26 = .ok (.iload_n 2, 1) := by decide +kernel
theorem dX7_judge_27 : decode cX7_judge 27 = .ok (.bipush 10, 2) := by decide +kernel
theorem dX7_judge_29 : decode cX7_judge 29 = .ok (.irem, 1) := by decide +kernel
theorem dX7_judge_30 : decode cX7_judge 30 = .ok (.istore 5, 2) := by decide +kernel
theorem dX7_judge_32 : decode cX7_judge 32 = .ok (.iload 4, 2) := by decide +kernel
theorem dX7_judge_34 : decode cX7_judge 34 = .ok (.iconst 5, 1) := by decide +kernel
theorem dX7_judge_35 : decode cX7_judge 35 = .ok (.if_icmp .ge 9, 3) := by decide +kernel
theorem dX7_judge_38 : decode cX7_judge 38 = .ok (.iload 5, 2) := by decide +kernel
theorem dX7_judge_40 : decode cX7_judge 40 = .ok (.iconst 5, 1) := by decide +kernel
theorem dX7_judge_41 : decode cX7_judge 41 = .ok (.if_icmp .lt 5, 3) := by decide +kernel
theorem dX7_judge_44 : decode cX7_judge 44 = .ok (.iconst (-1), 1) := by decide +kernel
theorem dX7_judge_45 : decode cX7_judge 45 = .ok (.ireturn, 1) := by decide +kernel
theorem dX7_judge_46 : decode cX7_judge 46 = .ok (.aload_n 0, 1) := by decide +kernel
theorem dX7_judge_47 : decode cX7_judge 47 = .ok (.getfield 24, 3) := by decide +kernel
theorem dX7_judge_50 : decode cX7_judge 50 = .ok (.iload_n 3, 1) := by decide +kernel
theorem dX7_judge_51 : decode cX7_judge 51 = .ok (.invokevirtual 193, 3) := by decide +kernel
theorem dX7_judge_54 : decode cX7_judge 54 = .ok (.istore 6, 2) := by decide +kernel
theorem dX7_judge_56 : decode cX7_judge 56 = .ok (.aload_n 0, 1) := by decide +kernel
theorem dX7_judge_57 : decode cX7_judge 57 = .ok (.getfield 24, 3) := by decide +kernel
theorem dX7_judge_60 : decode cX7_judge 60 = .ok (.iconst 5, 1) := by decide +kernel
theorem dX7_judge_61 : decode cX7_judge 61 = .ok (.iload 6, 2) := by decide +kernel
theorem dX7_judge_63 : decode cX7_judge 63 = .ok (.invokevirtual 196, 3) := by decide +kernel
theorem dX7_judge_66 : decode cX7_judge 66 = .ok (.iload 4, 2) := by decide +kernel
theorem dX7_judge_68 : decode cX7_judge 68 = .ok (.invokestatic 220, 3) := by decide +kernel
theorem dX7_judge_71 : decode cX7_judge 71 = .ok (.ifCond .eq 22, 3) := by decide +kernel
theorem dX7_judge_74 : decode cX7_judge 74 = .ok (.aload_n 0, 1) := by decide +kernel
theorem dX7_judge_75 : decode cX7_judge 75 = .ok (.getfield 24, 3) := by decide +kernel
theorem dX7_judge_78 : decode cX7_judge 78 = .ok (.bipush 6, 2) := by decide +kernel
theorem dX7_judge_80 : decode cX7_judge 80 = .ok (.iload 6, 2) := by decide +kernel
theorem dX7_judge_82 : decode cX7_judge 82 = .ok (.invokevirtual 196, 3) := by decide +kernel
theorem dX7_judge_85 : decode cX7_judge 85 = .ok (.iload 5, 2) := by decide +kernel
theorem dX7_judge_87 : decode cX7_judge 87 = .ok (.invokestatic 220, 3) := by decide +kernel
theorem dX7_judge_90 : decode cX7_judge 90 = .ok (.ifCond .ne 5, 3) := by decide +kernel
theorem dX7_judge_93 : decode cX7_judge 93 = .ok (.iconst (-1), 1) := by decide +kernel
theorem dX7_judge_94 : decode cX7_judge 94 = .ok (.ireturn, 1) := by decide +kernel
theorem dX7_judge_95 : decode cX7_judge 95 = .ok (.aload_n 0, 1) := by decide +kernel
theorem dX7_judge_96 : decode cX7_judge 96 = .ok (.getfield 24, 3) := by decide +kernel
theorem dX7_judge_99 : decode cX7_judge 99 = .ok (.iload_n 1, 1) := by decide +kernel
theorem dX7_judge_100 : decode cX7_judge 100 = .ok (.iload 6, 2) := by decide +kernel
theorem dX7_judge_102 : decode cX7_judge 102 = .ok (.iload 4, 2) := by decide +kernel
theorem dX7_judge_104 : decode cX7_judge 104 = .ok (.iload 5, 2) := by decide +kernel
theorem dX7_judge_106 : decode cX7_judge 106 = .ok (.invokevirtual 223, 3) := by decide +kernel
theorem dX7_judge_109 : decode cX7_judge 109 = .ok (.ireturn, 1) := by decide +kernel
theorem dX7_odds_0 : decode cX7_odds 0 = .ok (.iload_n 1, 1) := by decide +kernel
theorem dX7_odds_1 : decode cX7_odds 1 = .ok (.invokestatic 207, 3) := by decide +kernel
theorem dX7_odds_4 : decode cX7_odds 4 = .ok (.ifCond .eq 10, 3) := by decide +kernel
theorem dX7_odds_7 : decode cX7_odds 7 = .ok (.iload_n 2, 1) := by decide +kernel
theorem dX7_odds_8 : decode cX7_odds 8 = .ok (.invokestatic 190, 3) := by decide +kernel
theorem dX7_odds_11 : decode cX7_odds 11 = .ok (.ifCond .ne 5, 3) := by decide +kernel
theorem dX7_odds_14 : decode cX7_odds 14 = .ok (.iconst (-1), 1) := by decide +kernel
theorem dX7_odds_15 : decode cX7_odds 15 = .ok (.ireturn, 1) := by decide +kernel
theorem dX7_odds_16 : decode cX7_odds 16 = .ok (.aload_n 0, 1) := by decide +kernel
theorem dX7_odds_17 : decode cX7_odds 17 = .ok (.getfield 45, 3) := by decide +kernel
theorem dX7_odds_20 : decode cX7_odds 20 = .ok (.aload_n 0, 1) := by decide +kernel
theorem dX7_odds_21 : decode cX7_odds 21 = .ok (.getfield 24, 3) := by decide +kernel
theorem dX7_odds_24 : decode cX7_odds 24 = .ok (.iload_n 2, 1) := by decide +kernel
theorem dX7_odds_25 : decode cX7_odds 25 = .ok (.invokevirtual 210, 3) := by decide +kernel
theorem dX7_odds_28 : decode cX7_odds 28 = .ok (.aload_n 0, 1) := by decide +kernel
theorem dX7_odds_29 : decode cX7_odds 29 = .ok (.aload_n 0, 1) := by decide +kernel
theorem dX7_odds_30 : decode cX7_odds 30 = .ok (.getfield 45, 3) := by decide +kernel
theorem dX7_odds_33 : decode cX7_odds 33 = .ok (.iload_n 1, 1) := by decide +kernel
theorem dX7_odds_34 : decode cX7_odds 34 = .ok (.invokevirtual 214, 3) := by decide +kernel
theorem dX7_odds_37 : decode cX7_odds 37 = .ok (.aload_n 0, 1) := by decide +kernel
theorem dX7_odds_38 : decode cX7_odds 38 = .ok (.getfield 45, 3) := by decide +kernel
theorem dX7_odds_41 : decode cX7_odds 41 = .ok (.getfield 227, 3) := by decide +kernel
theorem dX7_odds_44 : decode cX7_odds 44 = .ok (.invokevirtual 230, 3) := by decide +kernel
theorem dX7_odds_47 : decode cX7_odds 47 = .ok (.iconst 1, 1) := by decide +kernel
theorem dX7_odds_48 : decode cX7_odds 48 = .ok (.ireturn, 1) := by decide +kernel
theorem dX7_waits_0 : decode cX7_waits 0 = .ok (.iload_n 1, 1) := by decide +kernel
theorem dX7_waits_1 : decode cX7_waits 1 = .ok (.invokestatic 190, 3) := by decide +kernel
theorem dX7_waits_4 : decode cX7_waits 4 = .ok (.ifCond .ne 5, 3) := by decide +kernel
theorem dX7_waits_7 : decode cX7_waits 7 = .ok (.iconst (-1), 1) := by decide +kernel
theorem dX7_waits_8 : decode cX7_waits 8 = .ok (.ireturn, 1) := by decide +kernel
theorem dX7_waits_9 : decode cX7_waits 9 = .ok (.aload_n 0, 1) := by decide +kernel
theorem dX7_waits_10 : decode cX7_waits 10 = .ok (.getfield 45, 3) := by decide +kernel
theorem dX7_waits_13 : decode cX7_waits 13 = .ok (.aload_n 0, 1) := by decide +kernel
theorem dX7_waits_14 : decode cX7_waits 14 = .ok (.getfield 24, 3) := by decide +kernel
theorem dX7_waits_17 : decode cX7_waits 17 = .ok (.iload_n 1, 1) := by decide +kernel
theorem dX7_waits_18 : decode cX7_waits 18 = .ok (.invokevirtual 210, 3) := by decide +kernel
theorem dX7_waits_21 : decode cX7_waits 21 = .ok (.aload_n 0, 1) := by decide +kernel
theorem dX7_waits_22 : decode cX7_waits 22 = .ok (.aload_n 0, 1) := by decide +kernel
theorem dX7_waits_23 : decode cX7_waits 23 = .ok (.getfield 45, 3) := by decide +kernel
theorem dX7_waits_26 : decode cX7_waits 26 = .ok (.getfield 233, 3) := by decide +kernel
theorem dX7_waits_29 : decode cX7_waits 29 = .ok (.invokestatic 199, 3) := by decide +kernel
theorem dX7_waits_32 : decode cX7_waits 32 = .ok (.putfield 94, 3) := by decide +kernel
theorem dX7_waits_35 : decode cX7_waits 35 = .ok (.aload_n 0, 1) := by decide +kernel
theorem dX7_waits_36 : decode cX7_waits 36 = .ok (.getfield 45, 3) := by decide +kernel
theorem dX7_waits_39 : decode cX7_waits 39 = .ok (.invokevirtual 236, 3) := by decide +kernel
theorem dX7_waits_42 : decode cX7_waits 42 = .ok (.invokestatic 199, 3) := by decide +kernel
theorem dX7_waits_45 : decode cX7_waits 45 = .ok (.ireturn, 1) := by decide +kernel
theorem dX7_all_0 : decode cX7_all 0 = .ok (.aload_n 0, 1) := by decide +kernel
theorem dX7_all_1 : decode cX7_all 1 = .ok (.getfield 45, 3) := by decide +kernel
theorem dX7_all_4 : decode cX7_all 4 = .ok (.aload_n 0, 1) := by decide +kernel
theorem dX7_all_5 : decode cX7_all 5 = .ok (.getfield 24, 3) := by decide +kernel
theorem dX7_all_8 : decode cX7_all 8 = .ok (.invokevirtual 239, 3) := by decide +kernel
theorem dX7_all_11 : decode cX7_all 11 = .ok (.ireturn, 1) := by decide +kernel
theorem dX7_free_0 : decode cX7_free 0 = .ok (.iload_n 1, 1) := by decide +kernel
theorem dX7_free_1 : decode cX7_free 1 = .ok (.invokestatic 207, 3) := by decide +kernel
theorem dX7_free_4 : decode cX7_free 4 = .ok (.ifCond .eq 10, 3) := by decide +kernel
theorem dX7_free_7 : decode cX7_free 7 = .ok (.iload_n 2, 1) := by decide +kernel
theorem dX7_free_8 : decode cX7_free 8 = .ok (.invokestatic 190, 3) := by decide +kernel
theorem dX7_free_11 : decode cX7_free 11 = .ok (.ifCond .ne 5, 3) := by decide +kernel
theorem dX7_free_14 : decode cX7_free 14 = .ok (.iconst (-1), 1) := by decide +kernel
theorem dX7_free_15 : decode cX7_free 15 = .ok (.ireturn, 1) := by decide +kernel
theorem dX7_free_16 : decode cX7_free 16 = .ok (.iload_n 2, 1) := by decide +kernel
theorem dX7_free_17 : decode cX7_free 17 = .ok (.istore_n 3, 1) := by decide +kernel
theorem dX7_free_18 : decode cX7_free 18 = .ok (.iload_n 3, 1) := by decide +kernel
theorem dX7_free_19 : decode cX7_free 19 = .ok (.bipush 20, 2) := by decide +kernel
theorem dX7_free_21 : decode cX7_free 21 = .ok (.if_icmp .gt 34, 3) := by decide +kernel
theorem dX7_free_24 : decode cX7_free 24 = .ok (.aload_n 0, 1) := by decide +kernel
theorem dX7_free_25 : decode cX7_free 25 = .ok (.getfield 45, 3) := by decide +kernel
theorem dX7_free_28 : decode cX7_free 28 = .ok (.aload_n 0, 1) := by decide +kernel
theorem dX7_free_29 : decode cX7_free 29 = .ok (.getfield 24, 3) := by decide +kernel
theorem dX7_free_32 : decode cX7_free 32 = .ok (.iload_n 3, 1) := by decide +kernel
theorem dX7_free_33 : decode cX7_free 33 = .ok (.invokevirtual 210, 3) := by decide +kernel
theorem dX7_free_36 : decode cX7_free 36 = .ok (.aload_n 0, 1) := by decide +kernel
theorem dX7_free_37 : decode cX7_free 37 = .ok (.getfield 45, 3) := by decide +kernel
theorem dX7_free_40 : decode cX7_free 40 = .ok (.iload_n 1, 1) := by decide +kernel
theorem dX7_free_41 : decode cX7_free 41 = .ok (.invokevirtual 217, 3) := by decide +kernel
theorem dX7_free_44 : decode cX7_free 44 = .ok (.ifCond .ne 5, 3) := by decide +kernel
theorem dX7_free_47 : decode cX7_free 47 = .ok (.iload_n 3, 1) := by decide +kernel
theorem dX7_free_48 : decode cX7_free 48 = .ok (.ireturn, 1) := by decide +kernel
theorem dX7_free_49 : decode cX7_free 49 = .ok (.iinc 3 1, 3) := by decide +kernel
theorem dX7_free_52 : decode cX7_free 52 = .ok (.goto (-34), 3) := by decide +kernel
theorem dX7_free_55 : decode cX7_free 55 = .ok (.bipush (-9), 2) := by decide +kernel
theorem dX7_free_57 : decode cX7_free 57 = .ok (.ireturn, 1) := by decide +kernel
theorem dX7_deeds_0 : decode cX7_deeds 0 = .ok (.aload_n 0, 1) := by decide +kernel
theorem dX7_deeds_1 : decode cX7_deeds 1 = .ok (.iload_n 1, 1) := by decide +kernel
theorem dX7_deeds_2 : decode cX7_deeds 2 = .ok (.iload_n 2, 1) := by decide +kernel
theorem dX7_deeds_3 : decode cX7_deeds 3 = .ok (.bipush 8, 2) := by decide +kernel
theorem dX7_deeds_5 : decode cX7_deeds 5 = .ok (.invokevirtual 243, 3) := by decide +kernel
theorem dX7_deeds_8 : decode cX7_deeds 8 = .ok (.istore_n 3, 1) := by decide +kernel
theorem dX7_deeds_9 : decode cX7_deeds 9 = .ok (.iload_n 3, 1) := by decide +kernel
theorem dX7_deeds_10 : decode cX7_deeds 10 = .ok (.ifCond .eq 5, 3) := by decide +kernel
theorem dX7_deeds_13 : decode cX7_deeds 13 = .ok (.iload_n 3, 1) := by decide +kernel
theorem dX7_deeds_14 : decode cX7_deeds 14 = .ok (.ireturn, 1) := by decide +kernel
theorem dX7_deeds_15 : decode cX7_deeds 15 = .ok (.aload_n 0, 1) := by decide +kernel
theorem dX7_deeds_16 : decode cX7_deeds 16 = .ok (.getfield 52, 3) := by decide +kernel
theorem dX7_deeds_19 : decode cX7_deeds 19 = .ok (.aload_n 0, 1) := by decide +kernel
theorem dX7_deeds_20 : decode cX7_deeds 20 = .ok (.getfield 14, 3) := by decide +kernel
theorem dX7_deeds_23 : decode cX7_deeds 23 = .ok (.iload_n 1, 1) := by decide +kernel
theorem dX7_deeds_24 : decode cX7_deeds 24 = .ok (.aload_n 0, 1) := by decide +kernel
theorem dX7_deeds_25 : decode cX7_deeds 25 = .ok (.getfield 45, 3) := by decide +kernel
theorem dX7_deeds_28 : decode cX7_deeds 28 = .ok (.aload_n 0, 1) := by decide +kernel
theorem dX7_deeds_29 : decode cX7_deeds 29 = .ok (.getfield 24, 3) := by decide +kernel
theorem dX7_deeds_32 : decode cX7_deeds 32 = .ok (.invokevirtual 247, 3) := by decide +kernel
theorem dX7_deeds_35 : decode cX7_deeds 35 = .ok (.aload_n 0, 1) := by decide +kernel
theorem dX7_deeds_36 : decode cX7_deeds 36 = .ok (.getfield 52, 3) := by decide +kernel
theorem dX7_deeds_39 : decode cX7_deeds 39 = .ok (.invokevirtual 251, 3) := by decide +kernel
theorem dX7_deeds_42 : decode cX7_deeds 42 = .ok (.ifCond .ne 6, 3) := by decide +kernel
theorem dX7_deeds_45 : decode cX7_deeds 45 = .ok (.bipush (-6), 2) := by decide +kernel
theorem dX7_deeds_47 : decode cX7_deeds 47 = .ok (.ireturn, 1) := by decide +kernel
theorem dX7_deeds_48 : decode cX7_deeds 48 = .ok (.aload_n 0, 1) := by decide +kernel
theorem dX7_deeds_49 : decode cX7_deeds 49 = .ok (.getfield 52, 3) := by decide +kernel
theorem dX7_deeds_52 : decode cX7_deeds 52 = .ok (.aload_n 0, 1) := by decide +kernel
theorem dX7_deeds_53 : decode cX7_deeds 53 = .ok (.getfield 14, 3) := by decide +kernel
theorem dX7_deeds_56 : decode cX7_deeds 56 = .ok (.iload_n 2, 1) := by decide +kernel
theorem dX7_deeds_57 : decode cX7_deeds 57 = .ok (.invokevirtual 255, 3) := by decide +kernel
theorem dX7_deeds_60 : decode cX7_deeds 60 = .ok (.aload_n 0, 1) := by decide +kernel
theorem dX7_deeds_61 : decode cX7_deeds 61 = .ok (.getfield 52, 3) := by decide +kernel
theorem dX7_deeds_64 : decode cX7_deeds 64 = .ok (.getfield 259, 3) := by decide +kernel
theorem dX7_deeds_67 : decode cX7_deeds 67 = .ok (.ireturn, 1) := by decide +kernel
theorem dX7_order_0 : decode cX7_order 0 = .ok (.aload_n 0, 1) := by decide +kernel
theorem dX7_order_1 : decode cX7_order 1 = .ok (.iload_n 1, 1) := by decide +kernel
theorem dX7_order_2 : decode cX7_order 2 = .ok (.iload_n 2, 1) := by decide +kernel
theorem dX7_order_3 : decode cX7_order 3 = .ok (.iconst 5, 1) := by decide +kernel
theorem dX7_order_4 : decode cX7_order 4 = .ok (.invokevirtual 243, 3) := by decide +kernel
theorem dX7_order_7 : decode cX7_order 7 = .ok (.istore_n 3, 1) := by decide +kernel
theorem dX7_order_8 : decode cX7_order 8 = .ok (.iload_n 3, 1) := by decide +kernel
theorem dX7_order_9 : decode cX7_order 9 = .ok (.ifCond .eq 5, 3) := by decide +kernel
theorem dX7_order_12 : decode cX7_order 12 = .ok (.iload_n 3, 1) := by decide +kernel
theorem dX7_order_13 : decode cX7_order 13 = .ok (.ireturn, 1) := by decide +kernel
theorem dX7_order_14 : decode cX7_order 14 = .ok (.aload_n 0, 1) := by decide +kernel
theorem dX7_order_15 : decode cX7_order 15 = .ok (.getfield 52, 3) := by decide +kernel
theorem dX7_order_18 : decode cX7_order 18 = .ok (.aload_n 0, 1) := by decide +kernel
theorem dX7_order_19 : decode cX7_order 19 = .ok (.getfield 14, 3) := by decide +kernel
theorem dX7_order_22 : decode cX7_order 22 = .ok (.iload_n 1, 1) := by decide +kernel
theorem dX7_order_23 : decode cX7_order 23 = .ok (.aload_n 0, 1) := by decide +kernel
theorem dX7_order_24 : decode cX7_order 24 = .ok (.getfield 45, 3) := by decide +kernel
theorem dX7_order_27 : decode cX7_order 27 = .ok (.aload_n 0, 1) := by decide +kernel
theorem dX7_order_28 : decode cX7_order 28 = .ok (.getfield 24, 3) := by decide +kernel
theorem dX7_order_31 : decode cX7_order 31 = .ok (.invokevirtual 247, 3) := by decide +kernel
theorem dX7_order_34 : decode cX7_order 34 = .ok (.aload_n 0, 1) := by decide +kernel
theorem dX7_order_35 : decode cX7_order 35 = .ok (.getfield 52, 3) := by decide +kernel
theorem dX7_order_38 : decode cX7_order 38 = .ok (.invokevirtual 262, 3) := by decide +kernel
theorem dX7_order_41 : decode cX7_order 41 = .ok (.ifCond .ne 6, 3) := by decide +kernel
theorem dX7_order_44 : decode cX7_order 44 = .ok (.bipush (-6), 2) := by decide +kernel
theorem dX7_order_46 : decode cX7_order 46 = .ok (.ireturn, 1) := by decide +kernel
theorem dX7_order_47 : decode cX7_order 47 = .ok (.aload_n 0, 1) := by decide +kernel
theorem dX7_order_48 : decode cX7_order 48 = .ok (.getfield 52, 3) := by decide +kernel
theorem dX7_order_51 : decode cX7_order 51 = .ok (.aload_n 0, 1) := by decide +kernel
theorem dX7_order_52 : decode cX7_order 52 = .ok (.getfield 14, 3) := by decide +kernel
theorem dX7_order_55 : decode cX7_order 55 = .ok (.iload_n 2, 1) := by decide +kernel
theorem dX7_order_56 : decode cX7_order 56 = .ok (.invokevirtual 265, 3) := by decide +kernel
theorem dX7_order_59 : decode cX7_order 59 = .ok (.aload_n 0, 1) := by decide +kernel
theorem dX7_order_60 : decode cX7_order 60 = .ok (.getfield 52, 3) := by decide +kernel
theorem dX7_order_63 : decode cX7_order 63 = .ok (.getfield 259, 3) := by decide +kernel
theorem dX7_order_66 : decode cX7_order 66 = .ok (.ireturn, 1) := by decide +kernel
theorem dX7_flips_0 : decode cX7_flips 0 = .ok (.iload_n 1, 1) := by decide +kernel
theorem dX7_flips_1 : decode cX7_flips 1 = .ok (.invokestatic 207, 3) := by decide +kernel
theorem dX7_flips_4 : decode cX7_flips 4 = .ok (.ifCond .ne 5, 3) := by decide +kernel
theorem dX7_flips_7 : decode cX7_flips 7 = .ok (.iconst (-1), 1) := by decide +kernel
theorem dX7_flips_8 : decode cX7_flips 8 = .ok (.ireturn, 1) := by decide +kernel
theorem dX7_flips_9 : decode cX7_flips 9 = .ok (.aload_n 0, 1) := by decide +kernel
theorem dX7_flips_10 : decode cX7_flips 10 = .ok (.getfield 45, 3) := by decide +kernel
theorem dX7_flips_13 : decode cX7_flips 13 = .ok (.aload_n 0, 1) := by decide +kernel
theorem dX7_flips_14 : decode cX7_flips 14 = .ok (.getfield 24, 3) := by decide +kernel
theorem dX7_flips_17 : decode cX7_flips 17 = .ok (.invokevirtual 268, 3) := by decide +kernel
theorem dX7_flips_20 : decode cX7_flips 20 = .ok (.aload_n 0, 1) := by decide +kernel
theorem dX7_flips_21 : decode cX7_flips 21 = .ok (.getfield 45, 3) := by decide +kernel
theorem dX7_flips_24 : decode cX7_flips 24 = .ok (.iload_n 1, 1) := by decide +kernel
theorem dX7_flips_25 : decode cX7_flips 25 = .ok (.invokevirtual 271, 3) := by decide +kernel
theorem dX7_flips_28 : decode cX7_flips 28 = .ok (.ireturn, 1) := by decide +kernel
theorem dX7_flip_0 : decode cX7_flip 0 = .ok (.iload_n 1, 1) := by decide +kernel
theorem dX7_flip_1 : decode cX7_flip 1 = .ok (.invokestatic 207, 3) := by decide +kernel
theorem dX7_flip_4 : decode cX7_flip 4 = .ok (.ifCond .eq 7, 3) := by decide +kernel
theorem dX7_flip_7 : decode cX7_flip 7 = .ok (.iload_n 2, 1) := by decide +kernel
theorem dX7_flip_8 : decode cX7_flip 8 = .ok (.ifCond .ge 5, 3) := by decide +kernel
theorem dX7_flip_11 : decode cX7_flip 11 = .ok (.iconst (-1), 1) := by decide +kernel
theorem dX7_flip_12 : decode cX7_flip 12 = .ok (.ireturn, 1) := by decide +kernel
theorem dX7_flip_13 : decode cX7_flip 13 = .ok (.aload_n 0, 1) := by decide +kernel
theorem dX7_flip_14 : decode cX7_flip 14 = .ok (.getfield 45, 3) := by decide +kernel
theorem dX7_flip_17 : decode cX7_flip 17 = .ok (.aload_n 0, 1) := by decide +kernel
theorem dX7_flip_18 : decode cX7_flip 18 = .ok (.getfield 24, 3) := by decide +kernel
theorem dX7_flip_21 : decode cX7_flip 21 = .ok (.invokevirtual 268, 3) := by decide +kernel
theorem dX7_flip_24 : decode cX7_flip 24 = .ok (.iload_n 2, 1) := by decide +kernel
theorem dX7_flip_25 : decode cX7_flip 25 = .ok (.aload_n 0, 1) := by decide +kernel
theorem dX7_flip_26 : decode cX7_flip 26 = .ok (.getfield 45, 3) := by decide +kernel
theorem dX7_flip_29 : decode cX7_flip 29 = .ok (.iload_n 1, 1) := by decide +kernel
theorem dX7_flip_30 : decode cX7_flip 30 = .ok (.invokevirtual 271, 3) := by decide +kernel
theorem dX7_flip_33 : decode cX7_flip 33 = .ok (.if_icmp .ge 22, 3) := by decide +kernel
theorem dX7_flip_36 : decode cX7_flip 36 = .ok (.aload_n 0, 1) := by decide +kernel
theorem dX7_flip_37 : decode cX7_flip 37 = .ok (.getfield 24, 3) := by decide +kernel
theorem dX7_flip_40 : decode cX7_flip 40 = .ok (.aload_n 0, 1) := by decide +kernel
theorem dX7_flip_41 : decode cX7_flip 41 = .ok (.getfield 45, 3) := by decide +kernel
theorem dX7_flip_44 : decode cX7_flip 44 = .ok (.getfield 274, 3) := by decide +kernel
theorem dX7_flip_47 : decode cX7_flip 47 = .ok (.iload_n 2, 1) := by decide +kernel
theorem dX7_flip_48 : decode cX7_flip 48 = .ok (.iaload, 1) := by decide +kernel
theorem dX7_flip_49 : decode cX7_flip 49 = .ok (.invokevirtual 277, 3) := by decide +kernel
theorem dX7_flip_52 : decode cX7_flip 52 = .ok (.goto 5, 3) := by decide +kernel
theorem dX7_flip_55 : decode cX7_flip 55 = .ok (.bipush (-9), 2) := by decide +kernel
theorem dX7_flip_57 : decode cX7_flip 57 = .ok (.ireturn, 1) := by decide +kernel
theorem dX7_most_0 : decode cX7_most 0 = .ok (.aload_n 0, 1) := by decide +kernel
theorem dX7_most_1 : decode cX7_most 1 = .ok (.getfield 45, 3) := by decide +kernel
theorem dX7_most_4 : decode cX7_most 4 = .ok (.aload_n 0, 1) := by decide +kernel
theorem dX7_most_5 : decode cX7_most 5 = .ok (.getfield 24, 3) := by decide +kernel
theorem dX7_most_8 : decode cX7_most 8 = .ok (.invokevirtual 268, 3) := by decide +kernel
theorem dX7_most_11 : decode cX7_most 11 = .ok (.iconst 0, 1) := by decide +kernel
theorem dX7_most_12 : decode cX7_most 12 = .ok (.istore_n 1, 1) := by decide +kernel
theorem dX7_most_13 : decode cX7_most 13 = .ok (.iconst 0, 1) := by decide +kernel
theorem dX7_most_14 : decode cX7_most 14 = .ok (.istore_n 2, 1) := by decide +kernel
theorem dX7_most_15 : decode cX7_most 15 = .ok (.iconst 0, 1) := by decide +kernel
theorem dX7_most_16 : decode cX7_most 16 = .ok (.istore_n 3, 1) := by decide +kernel
theorem dX7_most_17 : decode cX7_most 17 = .ok (.iload_n 3, 1) := by decide +kernel
theorem dX7_most_18 : decode cX7_most 18 = .ok (.bipush 32, 2) := by decide +kernel
theorem dX7_most_20 : decode cX7_most 20 = .ok (.if_icmp .ge 30, 3) := by decide +kernel
theorem dX7_most_23 : decode cX7_most 23 = .ok (.aload_n 0, 1) := by decide +kernel
theorem dX7_most_24 : decode cX7_most 24 = .ok (.getfield 45, 3) := by decide +kernel
theorem dX7_most_27 : decode cX7_most 27 = .ok (.iload_n 3, 1) := by decide +kernel
theorem dX7_most_28 : decode cX7_most 28 = .ok (.invokevirtual 271, 3) := by decide +kernel
theorem dX7_most_31 : decode cX7_most 31 = .ok (.istore 4, 2) := by decide +kernel
theorem dX7_most_33 : decode cX7_most 33 = .ok (.iload 4, 2) := by decide +kernel
theorem dX7_most_35 : decode cX7_most 35 = .ok (.iload_n 2, 1) := by decide +kernel
theorem dX7_most_36 : decode cX7_most 36 = .ok (.if_icmp .le 8, 3) := by decide +kernel
theorem dX7_most_39 : decode cX7_most 39 = .ok (.iload 4, 2) := by decide +kernel
theorem dX7_most_41 : decode cX7_most 41 = .ok (.istore_n 2, 1) := by decide +kernel
theorem dX7_most_42 : decode cX7_most 42 = .ok (.iload_n 3, 1) := by decide +kernel
theorem dX7_most_43 : decode cX7_most 43 = .ok (.istore_n 1, 1) := by decide +kernel
theorem dX7_most_44 : decode cX7_most 44 = .ok (.iinc 3 1, 3) := by decide +kernel
theorem dX7_most_47 : decode cX7_most 47 = .ok (.goto (-30), 3) := by decide +kernel
theorem dX7_most_50 : decode cX7_most 50 = .ok (.aload_n 0, 1) := by decide +kernel
theorem dX7_most_51 : decode cX7_most 51 = .ok (.iload_n 2, 1) := by decide +kernel
theorem dX7_most_52 : decode cX7_most 52 = .ok (.putfield 94, 3) := by decide +kernel
theorem dX7_most_55 : decode cX7_most 55 = .ok (.iload_n 1, 1) := by decide +kernel
theorem dX7_most_56 : decode cX7_most 56 = .ok (.ireturn, 1) := by decide +kernel
theorem dX7_matter_0 : decode cX7_matter 0 = .ok (.aload_n 0, 1) := by decide +kernel
theorem dX7_matter_1 : decode cX7_matter 1 = .ok (.getfield 24, 3) := by decide +kernel
theorem dX7_matter_4 : decode cX7_matter 4 = .ok (.iload_n 1, 1) := by decide +kernel
theorem dX7_matter_5 : decode cX7_matter 5 = .ok (.invokevirtual 137, 3) := by decide +kernel
theorem dX7_matter_8 : decode cX7_matter 8 = .ok (.ifCond .eq 10, 3) := by decide +kernel
theorem dX7_matter_11 : decode cX7_matter 11 = .ok (.iload_n 2, 1) := by decide +kernel
theorem dX7_matter_12 : decode cX7_matter 12 = .ok (.invokestatic 190, 3) := by decide +kernel
theorem dX7_matter_15 : decode cX7_matter 15 = .ok (.ifCond .ne 5, 3) := by decide +kernel
theorem dX7_matter_18 : decode cX7_matter 18 = .ok (.iconst (-1), 1) := by decide +kernel
theorem dX7_matter_19 : decode cX7_matter 19 = .ok (.ireturn, 1) := by decide +kernel
theorem dX7_matter_20 : decode cX7_matter 20 = .ok (.aload_n 0, 1) := by decide +kernel
theorem dX7_matter_21 : decode cX7_matter 21 = .ok (.getfield 45, 3) := by decide +kernel
theorem dX7_matter_24 : decode cX7_matter 24 = .ok (.aload_n 0, 1) := by decide +kernel
theorem dX7_matter_25 : decode cX7_matter 25 = .ok (.getfield 24, 3) := by decide +kernel
theorem dX7_matter_28 : decode cX7_matter 28 = .ok (.iload_n 2, 1) := by decide +kernel
theorem dX7_matter_29 : decode cX7_matter 29 = .ok (.invokevirtual 210, 3) := by decide +kernel
theorem dX7_matter_32 : decode cX7_matter 32 = .ok (.aload_n 0, 1) := by decide +kernel
theorem dX7_matter_33 : decode cX7_matter 33 = .ok (.getfield 45, 3) := by decide +kernel
theorem dX7_matter_36 : decode cX7_matter 36 = .ok (.getfield 233, 3) := by decide +kernel
theorem dX7_matter_39 : decode cX7_matter 39 = .ok (.istore_n 3, 1) := by decide +kernel
theorem dX7_matter_40 : decode cX7_matter 40 = .ok (.aload_n 0, 1) := by decide +kernel
theorem dX7_matter_41 : decode cX7_matter 41 = .ok (.getfield 45, 3) := by decide +kernel
theorem dX7_matter_44 : decode cX7_matter 44 = .ok (.getfield 280, 3) := by decide +kernel
theorem dX7_matter_47 : decode cX7_matter 47 = .ok (.istore 4, 2) := by decide +kernel
theorem dX7_matter_49 : decode cX7_matter 49 = .ok (.aload_n 0, 1) := by decide +kernel
theorem dX7_matter_50 : decode cX7_matter 50 = .ok (.getfield 28, 3) := by decide +kernel
theorem dX7_matter_53 : decode cX7_matter 53 = .ok (.aload_n 0, 1) := by decide +kernel
theorem dX7_matter_54 : decode cX7_matter 54 = .ok (.getfield 24, 3) := by decide +kernel
theorem dX7_matter_57 : decode cX7_matter 57 = .ok (.invokevirtual 124, 3) := by decide +kernel
theorem dX7_matter_60 : decode cX7_matter 60 = .ok (.aload_n 0, 1) := by decide +kernel
theorem dX7_matter_61 : decode cX7_matter 61 = .ok (.getfield 28, 3) := by decide +kernel
theorem dX7_matter_64 : decode cX7_matter 64 = .ok (.iload_n 1, 1) := by decide +kernel
theorem dX7_matter_65 : decode cX7_matter 65 = .ok (.invokevirtual 283, 3) := by decide +kernel
theorem dX7_matter_68 : decode cX7_matter 68 = .ok (.aload_n 0, 1) := by decide +kernel
theorem dX7_matter_69 : decode cX7_matter 69 = .ok (.getfield 45, 3) := by decide +kernel
theorem dX7_matter_72 : decode cX7_matter 72 = .ok (.aload_n 0, 1) := by decide +kernel
theorem dX7_matter_73 : decode cX7_matter 73 = .ok (.getfield 28, 3) := by decide +kernel
theorem dX7_matter_76 : decode cX7_matter 76 = .ok (.iload_n 2, 1) := by decide +kernel
theorem dX7_matter_77 : decode cX7_matter 77 = .ok (.invokevirtual 210, 3) := by decide +kernel
theorem dX7_matter_80 : decode cX7_matter 80 = .ok (.iload_n 3, 1) := by decide +kernel
theorem dX7_matter_81 : decode cX7_matter 81 = .ok (.aload_n 0, 1) := by decide +kernel
theorem dX7_matter_82 : decode cX7_matter 82 = .ok (.getfield 45, 3) := by decide +kernel
theorem dX7_matter_85 : decode cX7_matter 85 = .ok (.getfield 233, 3) := by decide +kernel
theorem dX7_matter_88 : decode cX7_matter 88 = .ok (.ixor, 1) := by decide +kernel
theorem dX7_matter_89 : decode cX7_matter 89 = .ok (.iload 4, 2) := by decide +kernel
theorem dX7_matter_91 : decode cX7_matter 91 = .ok (.aload_n 0, 1) := by decide +kernel
theorem dX7_matter_92 : decode cX7_matter 92 = .ok (.getfield 45, 3) := by decide +kernel
theorem dX7_matter_95 : decode cX7_matter 95 = .ok (.getfield 280, 3) := by decide +kernel
theorem dX7_matter_98 : decode cX7_matter 98 = .ok (.ixor, 1) := by decide +kernel
theorem dX7_matter_99 : decode cX7_matter 99 = .ok (.ior, 1) := by decide +kernel
theorem dX7_matter_100 : decode cX7_matter 100 = .ok (.invokestatic 199, 3) := by decide +kernel
theorem dX7_matter_103 : decode cX7_matter 103 = .ok (.ireturn, 1) := by decide +kernel
theorem dX7_best_0 : decode cX7_best 0 = .ok (.aload_n 0, 1) := by decide +kernel
theorem dX7_best_1 : decode cX7_best 1 = .ok (.getfield 14, 3) := by decide +kernel
theorem dX7_best_4 : decode cX7_best 4 = .ok (.iload_n 1, 1) := by decide +kernel
theorem dX7_best_5 : decode cX7_best 5 = .ok (.invokevirtual 71, 3) := by decide +kernel
theorem dX7_best_8 : decode cX7_best 8 = .ok (.ifCond .ne 5, 3) := by decide +kernel
theorem dX7_best_11 : decode cX7_best 11 = .ok (.iconst (-1), 1) := by decide +kernel
theorem dX7_best_12 : decode cX7_best 12 = .ok (.ireturn, 1) := by decide +kernel
theorem dX7_best_13 : decode cX7_best 13 = .ok (.aload_n 0, 1) := by decide +kernel
theorem dX7_best_14 : decode cX7_best 14 = .ok (.getfield 24, 3) := by decide +kernel
theorem dX7_best_17 : decode cX7_best 17 = .ok (.getfield 134, 3) := by decide +kernel
theorem dX7_best_20 : decode cX7_best 20 = .ok (.ifCond .ne 6, 3) := by decide +kernel
theorem dX7_best_23 : decode cX7_best 23 = .ok (.bipush (-4), 2) := by decide +kernel
theorem dX7_best_25 : decode cX7_best 25 = .ok (.ireturn, 1) := by decide +kernel
theorem dX7_best_26 : decode cX7_best 26 = .ok (.aload_n 0, 1) := by decide +kernel
theorem dX7_best_27 : decode cX7_best 27 = .ok (.getfield 28, 3) := by decide +kernel
theorem dX7_best_30 : decode cX7_best 30 = .ok (.aload_n 0, 1) := by decide +kernel
theorem dX7_best_31 : decode cX7_best 31 = .ok (.getfield 24, 3) := by decide +kernel
theorem dX7_best_34 : decode cX7_best 34 = .ok (.invokevirtual 124, 3) := by decide +kernel
theorem dX7_best_37 : decode cX7_best 37 = .ok (.aload_n 0, 1) := by decide +kernel
theorem dX7_best_38 : decode cX7_best 38 = .ok (.getfield 59, 3) := by decide +kernel
theorem dX7_best_41 : decode cX7_best 41 = .ok (.aload_n 0, 1) := by decide +kernel
theorem dX7_best_42 : decode cX7_best 42 = .ok (.getfield 28, 3) := by decide +kernel
theorem dX7_best_45 : decode cX7_best 45 = .ok (.aload_n 0, 1) := by decide +kernel
theorem dX7_best_46 : decode cX7_best 46 = .ok (.getfield 45, 3) := by decide +kernel
theorem dX7_best_49 : decode cX7_best 49 = .ok (.invokevirtual 286, 3) := by decide +kernel
theorem dX7_best_52 : decode cX7_best 52 = .ok (.aload_n 0, 1) := by decide +kernel
theorem dX7_best_53 : decode cX7_best 53 = .ok (.getfield 14, 3) := by decide +kernel
theorem dX7_best_56 : decode cX7_best 56 = .ok (.iload_n 1, 1) := by decide +kernel
theorem dX7_best_57 : decode cX7_best 57 = .ok (.aload_n 0, 1) := by decide +kernel
theorem dX7_best_58 : decode cX7_best 58 = .ok (.getfield 24, 3) := by decide +kernel
theorem dX7_best_61 : decode cX7_best 61 = .ok (.getfield 134, 3) := by decide +kernel
theorem dX7_best_64 : decode cX7_best 64 = .ok (.iconst 0, 1) := by decide +kernel
theorem dX7_best_65 : decode cX7_best 65 = .ok (.invokevirtual 79, 3) := by decide +kernel
theorem dX7_best_68 : decode cX7_best 68 = .ok (.iconst 0, 1) := by decide +kernel
theorem dX7_best_69 : decode cX7_best 69 = .ok (.istore_n 2, 1) := by decide +kernel
theorem dX7_best_70 : decode cX7_best 70 = .ok (.iload_n 2, 1) := by decide +kernel
theorem dX7_best_71 : decode cX7_best 71 = .ok (.aload_n 0, 1) := by decide +kernel
theorem dX7_best_72 : decode cX7_best 72 = .ok (.getfield 24, 3) := by decide +kernel
theorem dX7_best_75 : decode cX7_best 75 = .ok (.getfield 134, 3) := by decide +kernel
theorem dX7_best_78 : decode cX7_best 78 = .ok (.if_icmp .ge 27, 3) := by decide +kernel
theorem dX7_best_81 : decode cX7_best 81 = .ok (.aload_n 0, 1) := by decide +kernel
theorem dX7_best_82 : decode cX7_best 82 = .ok (.getfield 14, 3) := by decide +kernel
theorem dX7_best_85 : decode cX7_best 85 = .ok (.iload_n 1, 1) := by decide +kernel
theorem dX7_best_86 : decode cX7_best 86 = .ok (.iload_n 2, 1) := by decide +kernel
theorem dX7_best_87 : decode cX7_best 87 = .ok (.aload_n 0, 1) := by decide +kernel
theorem dX7_best_88 : decode cX7_best 88 = .ok (.getfield 59, 3) := by decide +kernel
theorem dX7_best_91 : decode cX7_best 91 = .ok (.getfield 290, 3) := by decide +kernel
theorem dX7_best_94 : decode cX7_best 94 = .ok (.iload_n 2, 1) := by decide +kernel
theorem dX7_best_95 : decode cX7_best 95 = .ok (.iaload, 1) := by decide +kernel
theorem dX7_best_96 : decode cX7_best 96 = .ok (.invokevirtual 98, 3) := by decide +kernel
theorem dX7_best_99 : decode cX7_best 99 = .ok (.iinc 2 1, 3) := by decide +kernel
theorem dX7_best_102 : decode cX7_best 102 = .ok (.goto (-32), 3) := by decide +kernel
theorem dX7_best_105 : decode cX7_best 105 = .ok (.aload_n 0, 1) := by decide +kernel
theorem dX7_best_106 : decode cX7_best 106 = .ok (.getfield 59, 3) := by decide +kernel
theorem dX7_best_109 : decode cX7_best 109 = .ok (.getfield 293, 3) := by decide +kernel
theorem dX7_best_112 : decode cX7_best 112 = .ok (.ireturn, 1) := by decide +kernel
theorem dX7_front_0 : decode cX7_front 0 = .ok (.aload_n 0, 1) := by decide +kernel
theorem dX7_front_1 : decode cX7_front 1 = .ok (.getfield 28, 3) := by decide +kernel
theorem dX7_front_4 : decode cX7_front 4 = .ok (.aload_n 0, 1) := by decide +kernel
theorem dX7_front_5 : decode cX7_front 5 = .ok (.getfield 24, 3) := by decide +kernel
theorem dX7_front_8 : decode cX7_front 8 = .ok (.invokevirtual 124, 3) := by decide +kernel
theorem dX7_front_11 : decode cX7_front 11 = .ok (.aload_n 0, 1) := by decide +kernel
theorem dX7_front_12 : decode cX7_front 12 = .ok (.getfield 28, 3) := by decide +kernel
theorem dX7_front_15 : decode cX7_front 15 = .ok (.invokevirtual 128, 3) := by decide +kernel
theorem dX7_front_18 : decode cX7_front 18 = .ok (.aload_n 0, 1) := by decide +kernel
theorem dX7_front_19 : decode cX7_front 19 = .ok (.aload_n 0, 1) := by decide +kernel
theorem dX7_front_20 : decode cX7_front 20 = .ok (.getfield 45, 3) := by decide +kernel
theorem dX7_front_23 : decode cX7_front 23 = .ok (.aload_n 0, 1) := by decide +kernel
theorem dX7_front_24 : decode cX7_front 24 = .ok (.getfield 28, 3) := by decide +kernel
theorem dX7_front_27 : decode cX7_front 27 = .ok (.invokevirtual 239, 3) := by decide +kernel
theorem dX7_front_30 : decode cX7_front 30 = .ok (.putfield 94, 3) := by decide +kernel
theorem dX7_front_33 : decode cX7_front 33 = .ok (.aload_n 0, 1) := by decide +kernel
theorem dX7_front_34 : decode cX7_front 34 = .ok (.getfield 28, 3) := by decide +kernel
theorem dX7_front_37 : decode cX7_front 37 = .ok (.invokevirtual 296, 3) := by decide +kernel
theorem dX7_front_40 : decode cX7_front 40 = .ok (.aload_n 0, 1) := by decide +kernel
theorem dX7_front_41 : decode cX7_front 41 = .ok (.getfield 45, 3) := by decide +kernel
theorem dX7_front_44 : decode cX7_front 44 = .ok (.aload_n 0, 1) := by decide +kernel
theorem dX7_front_45 : decode cX7_front 45 = .ok (.getfield 28, 3) := by decide +kernel
theorem dX7_front_48 : decode cX7_front 48 = .ok (.invokevirtual 239, 3) := by decide +kernel
theorem dX7_front_51 : decode cX7_front 51 = .ok (.ireturn, 1) := by decide +kernel
theorem dX7_meant_0 : decode cX7_meant 0 = .ok (.aload_n 0, 1) := by decide +kernel
theorem dX7_meant_1 : decode cX7_meant 1 = .ok (.getfield 14, 3) := by decide +kernel
theorem dX7_meant_4 : decode cX7_meant 4 = .ok (.iload_n 1, 1) := by decide +kernel
theorem dX7_meant_5 : decode cX7_meant 5 = .ok (.invokevirtual 71, 3) := by decide +kernel
theorem dX7_meant_8 : decode cX7_meant 8 = .ok (.ifCond .ne 5, 3) := by decide +kernel
theorem dX7_meant_11 : decode cX7_meant 11 = .ok (.iconst (-1), 1) := by decide +kernel
theorem dX7_meant_12 : decode cX7_meant 12 = .ok (.ireturn, 1) := by decide +kernel
theorem dX7_meant_13 : decode cX7_meant 13 = .ok (.aload_n 0, 1) := by decide +kernel
theorem dX7_meant_14 : decode cX7_meant 14 = .ok (.getfield 14, 3) := by decide +kernel
theorem dX7_meant_17 : decode cX7_meant 17 = .ok (.iload_n 1, 1) := by decide +kernel
theorem dX7_meant_18 : decode cX7_meant 18 = .ok (.invokevirtual 83, 3) := by decide +kernel
theorem dX7_meant_21 : decode cX7_meant 21 = .ok (.ifCond .ne 9, 3) := by decide +kernel
theorem dX7_meant_24 : decode cX7_meant 24 = .ok (.aload_n 0, 1) := by decide +kernel
theorem dX7_meant_25 : decode cX7_meant 25 = .ok (.iconst 1, 1) := by decide +kernel
theorem dX7_meant_26 : decode cX7_meant 26 = .ok (.invokevirtual 75, 3) := by decide +kernel
theorem dX7_meant_29 : decode cX7_meant 29 = .ok (.ireturn, 1) := by decide +kernel
theorem dX7_meant_30 : decode cX7_meant 30 = .ok (.aload_n 0, 1) := by decide +kernel
theorem dX7_meant_31 : decode cX7_meant 31 = .ok (.getfield 14, 3) := by decide +kernel
theorem dX7_meant_34 : decode cX7_meant 34 = .ok (.iload_n 1, 1) := by decide +kernel
theorem dX7_meant_35 : decode cX7_meant 35 = .ok (.invokevirtual 113, 3) := by decide +kernel
theorem dX7_meant_38 : decode cX7_meant 38 = .ok (.iconst 3, 1) := by decide +kernel
theorem dX7_meant_39 : decode cX7_meant 39 = .ok (.irem, 1) := by decide +kernel
theorem dX7_meant_40 : decode cX7_meant 40 = .ok (.ifCond .eq 9, 3) := by decide +kernel
theorem dX7_meant_43 : decode cX7_meant 43 = .ok (.aload_n 0, 1) := by decide +kernel
theorem dX7_meant_44 : decode cX7_meant 44 = .ok (.iconst 5, 1) := by decide +kernel
theorem dX7_meant_45 : decode cX7_meant 45 = .ok (.invokevirtual 75, 3) := by decide +kernel
theorem dX7_meant_48 : decode cX7_meant 48 = .ok (.ireturn, 1) := by decide +kernel
theorem dX7_meant_49 : decode cX7_meant 49 = .ok (.aload_n 0, 1) := by decide +kernel
theorem dX7_meant_50 : decode cX7_meant 50 = .ok (.iload_n 1, 1) := by decide +kernel
theorem dX7_meant_51 : decode cX7_meant 51 = .ok (.invokevirtual 299, 3) := by decide +kernel
theorem dX7_meant_54 : decode cX7_meant 54 = .ok (.ifCond .ne 9, 3) := by decide +kernel
theorem dX7_meant_57 : decode cX7_meant 57 = .ok (.aload_n 0, 1) := by decide +kernel
theorem dX7_meant_58 : decode cX7_meant 58 = .ok (.iconst 3, 1) := by decide +kernel
theorem dX7_meant_59 : decode cX7_meant 59 = .ok (.invokevirtual 75, 3) := by decide +kernel
theorem dX7_meant_62 : decode cX7_meant 62 = .ok (.ireturn, 1) := by decide +kernel
theorem dX7_meant_63 : decode cX7_meant 63 = .ok (.iconst 0, 1) := by decide +kernel
theorem dX7_meant_64 : decode cX7_meant 64 = .ok (.istore_n 2, 1) := by decide +kernel
theorem dX7_meant_65 : decode cX7_meant 65 = .ok (.iconst 0, 1) := by decide +kernel
theorem dX7_meant_66 : decode cX7_meant 66 = .ok (.istore_n 3, 1) := by decide +kernel
theorem dX7_meant_67 : decode cX7_meant 67 = .ok (.iconst 0, 1) := by decide +kernel
theorem dX7_meant_68 : decode cX7_meant 68 = .ok (.istore 4, 2) := by decide +kernel
theorem dX7_meant_70 : decode cX7_meant 70 = .ok (.iload 4, 2) := by decide +kernel
theorem dX7_meant_72 : decode cX7_meant 72 = .ok (.iconst 5, 1) := by decide +kernel
theorem dX7_meant_73 : decode cX7_meant 73 = .ok (.if_icmp .ge 49, 3) := by decide +kernel
theorem dX7_meant_76 : decode cX7_meant 76 = .ok (.iconst 0, 1) := by decide +kernel
theorem dX7_meant_77 : decode cX7_meant 77 = .ok (.istore 5, 2) := by decide +kernel
theorem dX7_meant_79 : decode cX7_meant 79 = .ok (.iload 5, 2) := by decide +kernel
theorem dX7_meant_81 : decode cX7_meant 81 = .ok (.iconst 5, 1) := by decide +kernel
theorem dX7_meant_82 : decode cX7_meant 82 = .ok (.if_icmp .ge 34, 3) := by decide +kernel
theorem dX7_meant_85 : decode cX7_meant 85 = .ok (.aload_n 0, 1) := by decide +kernel
theorem dX7_meant_86 : decode cX7_meant 86 = .ok (.iload_n 1, 1) := by decide +kernel
theorem dX7_meant_87 : decode cX7_meant 87 = .ok (.iload 4, 2) := by decide +kernel
theorem dX7_meant_89 : decode cX7_meant 89 = .ok (.iload 5, 2) := by decide +kernel
theorem dX7_meant_91 : decode cX7_meant 91 = .ok (.invokevirtual 302, 3) := by decide +kernel
theorem dX7_meant_94 : decode cX7_meant 94 = .ok (.ifCond .ne 6, 3) := by decide +kernel
theorem dX7_meant_97 : decode cX7_meant 97 = .ok (.goto 13, 3) := by decide +kernel
theorem dX7_meant_100 : decode cX7_meant 100 = .ok (.iinc 2 1, 3) := by decide +kernel
theorem dX7_meant_103 : decode cX7_meant 103 = .ok (.iload_n 3, 1) := by decide +kernel
theorem dX7_meant_104 : decode cX7_meant 104 = .ok (.iconst 1, 1) := by decide +kernel
theorem dX7_meant_105 : decode cX7_meant 105 = .ok (.iload 4, 2) := by decide +kernel
theorem dX7_meant_107 : decode cX7_meant 107 = .ok (.ishl, 1) := by decide +kernel
theorem dX7_meant_108 : decode cX7_meant 108 = .ok (.ior, 1) := by decide +kernel
theorem dX7_meant_109 : decode cX7_meant 109 = .ok (.istore_n 3, 1) := by decide +kernel
theorem dX7_meant_110 : decode cX7_meant 110 = .ok (.iinc 5 1, 3) := by decide +kernel
theorem dX7_meant_113 : decode cX7_meant 113 = .ok (.goto (-34), 3) := by decide +kernel
theorem dX7_meant_116 : decode cX7_meant 116 = .ok (.iinc 4 1, 3) := by decide +kernel
theorem dX7_meant_119 : decode cX7_meant 119 = .ok (.goto (-49), 3) := by decide +kernel
theorem dX7_meant_122 : decode cX7_meant 122 = .ok (.aload_n 0, 1) := by decide +kernel
theorem dX7_meant_123 : decode cX7_meant 123 = .ok (.iload_n 3, 1) := by decide +kernel
theorem dX7_meant_124 : decode cX7_meant 124 = .ok (.putfield 94, 3) := by decide +kernel
theorem dX7_meant_127 : decode cX7_meant 127 = .ok (.iload_n 2, 1) := by decide +kernel
theorem dX7_meant_128 : decode cX7_meant 128 = .ok (.ireturn, 1) := by decide +kernel
theorem dX7_kinds_0 : decode cX7_kinds 0 = .ok (.aload_n 0, 1) := by decide +kernel
theorem dX7_kinds_1 : decode cX7_kinds 1 = .ok (.getfield 24, 3) := by decide +kernel
theorem dX7_kinds_4 : decode cX7_kinds 4 = .ok (.iload_n 1, 1) := by decide +kernel
theorem dX7_kinds_5 : decode cX7_kinds 5 = .ok (.invokevirtual 137, 3) := by decide +kernel
theorem dX7_kinds_8 : decode cX7_kinds 8 = .ok (.ifCond .eq 25, 3) := by decide +kernel
theorem dX7_kinds_11 : decode cX7_kinds 11 = .ok (.iload_n 2, 1) := by decide +kernel
theorem dX7_kinds_12 : decode cX7_kinds 12 = .ok (.invokestatic 207, 3) := by decide +kernel
theorem dX7_kinds_15 : decode cX7_kinds 15 = .ok (.ifCond .eq 18, 3) := by decide +kernel
theorem dX7_kinds_18 : decode cX7_kinds 18 = .ok (.iload_n 3, 1) := by decide +kernel
theorem dX7_kinds_19 : decode cX7_kinds 19 = .ok (.invokestatic 190, 3) := by decide +kernel
theorem dX7_kinds_22 : decode cX7_kinds 22 = .ok (.ifCond .eq 11, 3) := by decide +kernel
theorem dX7_kinds_25 : decode cX7_kinds 25 = .ok (.iload 4, 2) := by decide +kernel
theorem dX7_kinds_27 : decode cX7_kinds 27 = .ok (.invokestatic 169, 3) := by decide +kernel
theorem dX7_kinds_30 : decode cX7_kinds 30 = .ok (.ifCond .ne 5, 3) := by decide +kernel
theorem dX7_kinds_33 : decode cX7_kinds 33 = .ok (.iconst (-1), 1) := by decide +kernel
theorem dX7_kinds_34 : decode cX7_kinds 34 = .ok (.ireturn, 1) := by decide +kernel
theorem dX7_kinds_35 : decode cX7_kinds 35 = .ok (.aload_n 0, 1) := by decide +kernel
theorem dX7_kinds_36 : decode cX7_kinds 36 = .ok (.getfield 24, 3) := by decide +kernel
theorem dX7_kinds_39 : decode cX7_kinds 39 = .ok (.getfield 141, 3) := by decide +kernel
theorem dX7_kinds_42 : decode cX7_kinds 42 = .ok (.iload_n 1, 1) := by decide +kernel
theorem dX7_kinds_43 : decode cX7_kinds 43 = .ok (.aaload, 1) := by decide +kernel
theorem dX7_kinds_44 : decode cX7_kinds 44 = .ok (.getfield 172, 3) := by decide +kernel
theorem dX7_kinds_47 : decode cX7_kinds 47 = .ok (.istore 5, 2) := by decide +kernel
theorem dX7_kinds_49 : decode cX7_kinds 49 = .ok (.iload 5, 2) := by decide +kernel
theorem dX7_kinds_51 : decode cX7_kinds 51 = .ok (.ifCond .eq 21, 3) := by decide +kernel
theorem dX7_kinds_54 : decode cX7_kinds 54 = .ok (.iload 5, 2) := by decide +kernel
theorem dX7_kinds_56 : decode cX7_kinds 56 = .ok (.iconst 1, 1) := by decide +kernel
theorem dX7_kinds_57 : decode cX7_kinds 57 = .ok (.if_icmp .eq 15, 3) := by decide +kernel
theorem dX7_kinds_60 : decode cX7_kinds 60 = .ok (.iload 5, 2) := by decide +kernel
theorem dX7_kinds_62 : decode cX7_kinds 62 = .ok (.iconst 4, 1) := by decide +kernel
theorem dX7_kinds_63 : decode cX7_kinds 63 = .ok (.if_icmp .eq 9, 3) := by decide +kernel
theorem dX7_kinds_66 : decode cX7_kinds 66 = .ok (.aload_n 0, 1) := by decide +kernel
theorem dX7_kinds_67 : decode cX7_kinds 67 = .ok (.iconst 3, 1) := by decide +kernel
theorem dX7_kinds_68 : decode cX7_kinds 68 = .ok (.invokevirtual 75, 3) := by decide +kernel
theorem dX7_kinds_71 : decode cX7_kinds 71 = .ok (.ireturn, 1) := by decide +kernel
theorem dX7_kinds_72 : decode cX7_kinds 72 = .ok (.aload_n 0, 1) := by decide +kernel
theorem dX7_kinds_73 : decode cX7_kinds 73 = .ok (.iconst 0, 1) := by decide +kernel
theorem dX7_kinds_74 : decode cX7_kinds 74 = .ok (.iload_n 1, 1) := by decide +kernel
theorem dX7_kinds_75 : decode cX7_kinds 75 = .ok (.iload_n 2, 1) := by decide +kernel
theorem dX7_kinds_76 : decode cX7_kinds 76 = .ok (.iload_n 3, 1) := by decide +kernel
theorem dX7_kinds_77 : decode cX7_kinds 77 = .ok (.iload 4, 2) := by decide +kernel
theorem dX7_kinds_79 : decode cX7_kinds 79 = .ok (.invokevirtual 305, 3) := by decide +kernel
theorem dX7_kinds_82 : decode cX7_kinds 82 = .ok (.aload_n 0, 1) := by decide +kernel
theorem dX7_kinds_83 : decode cX7_kinds 83 = .ok (.iconst 1, 1) := by decide +kernel
theorem dX7_kinds_84 : decode cX7_kinds 84 = .ok (.iload_n 1, 1) := by decide +kernel
theorem dX7_kinds_85 : decode cX7_kinds 85 = .ok (.iload_n 2, 1) := by decide +kernel
theorem dX7_kinds_86 : decode cX7_kinds 86 = .ok (.iload_n 3, 1) := by decide +kernel
theorem dX7_kinds_87 : decode cX7_kinds 87 = .ok (.iload 4, 2) := by decide +kernel
theorem dX7_kinds_89 : decode cX7_kinds 89 = .ok (.invokevirtual 305, 3) := by decide +kernel
theorem dX7_kinds_92 : decode cX7_kinds 92 = .ok (.ior, 1) := by decide +kernel
theorem dX7_kinds_93 : decode cX7_kinds 93 = .ok (.aload_n 0, 1) := by decide +kernel
theorem dX7_kinds_94 : decode cX7_kinds 94 = .ok (.iconst 4, 1) := by decide +kernel
theorem dX7_kinds_95 : decode cX7_kinds 95 = .ok (.iload_n 1, 1) := by decide +kernel
theorem dX7_kinds_96 : decode cX7_kinds 96 = .ok (.iload_n 2, 1) := by decide +kernel
theorem dX7_kinds_97 : decode cX7_kinds 97 = .ok (.iload_n 3, 1) := by decide +kernel
theorem dX7_kinds_98 : decode cX7_kinds 98 = .ok (.iload 4, 2) := by decide +kernel
theorem dX7_kinds_100 : decode cX7_kinds 100 = .ok (.invokevirtual 305, 3) := by decide +kernel
theorem dX7_kinds_103 : decode cX7_kinds 103 = .ok (.ior, 1) := by decide +kernel
theorem dX7_kinds_104 : decode cX7_kinds 104 = .ok (.ireturn, 1) := by decide +kernel
theorem dX7_lots_0 : decode cX7_lots 0 = .ok (.iload_n 1, 1) := by decide +kernel
theorem dX7_lots_1 : decode cX7_lots 1 = .ok (.iconst 1, 1) := by decide +kernel
theorem dX7_lots_2 : decode cX7_lots 2 = .ok (.if_icmp .lt 21, 3) := by decide +kernel
theorem dX7_lots_5 : decode cX7_lots 5 = .ok (.iload_n 1, 1) := by decide +kernel
theorem dX7_lots_6 : decode cX7_lots 6 = .ok (.bipush 60, 2) := by decide +kernel
theorem dX7_lots_8 : decode cX7_lots 8 = .ok (.if_icmp .gt 15, 3) := by decide +kernel
theorem dX7_lots_11 : decode cX7_lots 11 = .ok (.iload_n 2, 1) := by decide +kernel
theorem dX7_lots_12 : decode cX7_lots 12 = .ok (.iconst 1, 1) := by decide +kernel
theorem dX7_lots_13 : decode cX7_lots 13 = .ok (.if_icmp .lt 10, 3) := by decide +kernel
theorem dX7_lots_16 : decode cX7_lots 16 = .ok (.iload_n 2, 1) := by decide +kernel
theorem dX7_lots_17 : decode cX7_lots 17 = .ok (.ldc_w 309, 3) := by decide +kernel
theorem dX7_lots_20 : decode cX7_lots 20 = .ok (.if_icmp .le 5, 3) := by decide +kernel
theorem dX7_lots_23 : decode cX7_lots 23 = .ok (.iconst (-1), 1) := by decide +kernel
theorem dX7_lots_24 : decode cX7_lots 24 = .ok (.ireturn, 1) := by decide +kernel
theorem dX7_lots_25 : decode cX7_lots 25 = .ok (.iconst 0, 1) := by decide +kernel
theorem dX7_lots_26 : decode cX7_lots 26 = .ok (.istore_n 3, 1) := by decide +kernel
theorem dX7_lots_27 : decode cX7_lots 27 = .ok (.iload_n 2, 1) := by decide +kernel
theorem dX7_lots_28 : decode cX7_lots 28 = .ok (.i2l, 1) := by decide +kernel
theorem dX7_lots_29 : decode cX7_lots 29 = .ok (.lstore 4, 2) := by decide +kernel
theorem dX7_lots_31 : decode cX7_lots 31 = .ok (.iconst 0, 1) := by decide +kernel
theorem dX7_lots_32 : decode cX7_lots 32 = .ok (.istore 6, 2) := by decide +kernel
theorem dX7_lots_34 : decode cX7_lots 34 = .ok (.iload 6, 2) := by decide +kernel
theorem dX7_lots_36 : decode cX7_lots 36 = .ok (.iload_n 1, 1) := by decide +kernel
theorem dX7_lots_37 : decode cX7_lots 37 = .ok (.if_icmp .ge 66, 3) := by decide +kernel
theorem dX7_lots_40 : decode cX7_lots 40 = .ok (.ldc2_w 310, 3) := by decide +kernel
theorem dX7_lots_43 : decode cX7_lots 43 = .ok (.lload 4, 2) := by decide +kernel
theorem dX7_lots_45 : decode cX7_lots 45 = .ok (.lmul, 1) := by decide +kernel
theorem dX7_lots_46 : decode cX7_lots 46 = .ok (.ldc2_w 312, 3) := by decide +kernel
theorem dX7_lots_49 : decode cX7_lots 49 = .ok (.lrem, 1) := by decide +kernel
theorem dX7_lots_50 : decode cX7_lots 50 = .ok (.lstore 4, 2) := by decide +kernel
theorem dX7_lots_52 : decode cX7_lots 52 = .ok (.aload_n 0, 1) := by decide +kernel
theorem dX7_lots_53 : decode cX7_lots 53 = .ok (.getfield 45, 3) := by decide +kernel
theorem dX7_lots_56 : decode cX7_lots 56 = .ok (.aload_n 0, 1) := by decide +kernel
theorem dX7_lots_57 : decode cX7_lots 57 = .ok (.getfield 24, 3) := by decide +kernel
theorem dX7_lots_60 : decode cX7_lots 60 = .ok (.lload 4, 2) := by decide +kernel
theorem dX7_lots_62 : decode cX7_lots 62 = .ok (.ldc2_w 314, 3) := by decide +kernel
theorem dX7_lots_65 : decode cX7_lots 65 = .ok (.ldiv, 1) := by decide +kernel
theorem dX7_lots_66 : decode cX7_lots 66 = .ok (.ldc2_w 316, 3) := by decide +kernel
theorem dX7_lots_69 : decode cX7_lots 69 = .ok (.lrem, 1) := by decide +kernel
theorem dX7_lots_70 : decode cX7_lots 70 = .ok (.l2i, 1) := by decide +kernel
theorem dX7_lots_71 : decode cX7_lots 71 = .ok (.invokevirtual 210, 3) := by decide +kernel
theorem dX7_lots_74 : decode cX7_lots 74 = .ok (.aload_n 0, 1) := by decide +kernel
theorem dX7_lots_75 : decode cX7_lots 75 = .ok (.getfield 45, 3) := by decide +kernel
theorem dX7_lots_78 : decode cX7_lots 78 = .ok (.invokevirtual 236, 3) := by decide +kernel
theorem dX7_lots_81 : decode cX7_lots 81 = .ok (.lload 4, 2) := by decide +kernel
theorem dX7_lots_83 : decode cX7_lots 83 = .ok (.ldc2_w 314, 3) := by decide +kernel
theorem dX7_lots_86 : decode cX7_lots 86 = .ok (.lrem, 1) := by decide +kernel
theorem dX7_lots_87 : decode cX7_lots 87 = .ok (.l2i, 1) := by decide +kernel
theorem dX7_lots_88 : decode cX7_lots 88 = .ok (.invokestatic 220, 3) := by decide +kernel
theorem dX7_lots_91 : decode cX7_lots 91 = .ok (.ifCond .eq 6, 3) := by decide +kernel
theorem dX7_lots_94 : decode cX7_lots 94 = .ok (.iinc 3 1, 3) := by decide +kernel
theorem dX7_lots_97 : decode cX7_lots 97 = .ok (.iinc 6 1, 3) := by decide +kernel
theorem dX7_lots_100 : decode cX7_lots 100 = .ok (.goto (-66), 3) := by decide +kernel
theorem dX7_lots_103 : decode cX7_lots 103 = .ok (.iload_n 3, 1) := by decide +kernel
theorem dX7_lots_104 : decode cX7_lots 104 = .ok (.ireturn, 1) := by decide +kernel
theorem dX7_asked_0 : decode cX7_asked 0 = .ok (.aload_n 0, 1) := by decide +kernel
theorem dX7_asked_1 : decode cX7_asked 1 = .ok (.getfield 94, 3) := by decide +kernel
theorem dX7_asked_4 : decode cX7_asked 4 = .ok (.ireturn, 1) := by decide +kernel
theorem dX7_upper_0 : decode cX7_upper 0 = .ok (.aload_n 0, 1) := by decide +kernel
theorem dX7_upper_1 : decode cX7_upper 1 = .ok (.getfield 318, 3) := by decide +kernel
theorem dX7_upper_4 : decode cX7_upper 4 = .ok (.lreturn, 1) := by decide +kernel
theorem dX7_lower_0 : decode cX7_lower 0 = .ok (.aload_n 0, 1) := by decide +kernel
theorem dX7_lower_1 : decode cX7_lower 1 = .ok (.getfield 67, 3) := by decide +kernel
theorem dX7_lower_4 : decode cX7_lower 4 = .ok (.lreturn, 1) := by decide +kernel
theorem dX7_count_0 : decode cX7_count 0 = .ok (.iload_n 1, 1) := by decide +kernel
theorem dX7_count_1 : decode cX7_count 1 = .ok (.tableswitch 99 0 6 #[43, 51, 60, 69, 78, 86, 94], 43) := by decide +kernel
theorem dX7_count_44 : decode cX7_count 44 = .ok (.aload_n 0, 1) := by decide +kernel
theorem dX7_count_45 : decode cX7_count 45 = .ok (.getfield 24, 3) := by decide +kernel
theorem dX7_count_48 : decode cX7_count 48 = .ok (.getfield 134, 3) := by decide +kernel
theorem dX7_count_51 : decode cX7_count 51 = .ok (.ireturn, 1) := by decide +kernel
theorem dX7_count_52 : decode cX7_count 52 = .ok (.aload_n 0, 1) := by decide +kernel
theorem dX7_count_53 : decode cX7_count 53 = .ok (.getfield 24, 3) := by decide +kernel
theorem dX7_count_56 : decode cX7_count 56 = .ok (.iconst 3, 1) := by decide +kernel
theorem dX7_count_57 : decode cX7_count 57 = .ok (.invokevirtual 321, 3) := by decide +kernel
theorem dX7_count_60 : decode cX7_count 60 = .ok (.ireturn, 1) := by decide +kernel
theorem dX7_count_61 : decode cX7_count 61 = .ok (.aload_n 0, 1) := by decide +kernel
theorem dX7_count_62 : decode cX7_count 62 = .ok (.getfield 24, 3) := by decide +kernel
theorem dX7_count_65 : decode cX7_count 65 = .ok (.iconst 1, 1) := by decide +kernel
theorem dX7_count_66 : decode cX7_count 66 = .ok (.invokevirtual 321, 3) := by decide +kernel
theorem dX7_count_69 : decode cX7_count 69 = .ok (.ireturn, 1) := by decide +kernel
theorem dX7_count_70 : decode cX7_count 70 = .ok (.aload_n 0, 1) := by decide +kernel
theorem dX7_count_71 : decode cX7_count 71 = .ok (.getfield 24, 3) := by decide +kernel
theorem dX7_count_74 : decode cX7_count 74 = .ok (.iconst 2, 1) := by decide +kernel
theorem dX7_count_75 : decode cX7_count 75 = .ok (.invokevirtual 321, 3) := by decide +kernel
theorem dX7_count_78 : decode cX7_count 78 = .ok (.ireturn, 1) := by decide +kernel
theorem dX7_count_79 : decode cX7_count 79 = .ok (.aload_n 0, 1) := by decide +kernel
theorem dX7_count_80 : decode cX7_count 80 = .ok (.getfield 14, 3) := by decide +kernel
theorem dX7_count_83 : decode cX7_count 83 = .ok (.invokevirtual 324, 3) := by decide +kernel
theorem dX7_count_86 : decode cX7_count 86 = .ok (.ireturn, 1) := by decide +kernel
theorem dX7_count_87 : decode cX7_count 87 = .ok (.aload_n 0, 1) := by decide +kernel
theorem dX7_count_88 : decode cX7_count 88 = .ok (.getfield 18, 3) := by decide +kernel
theorem dX7_count_91 : decode cX7_count 91 = .ok (.invokevirtual 324, 3) := by decide +kernel
theorem dX7_count_94 : decode cX7_count 94 = .ok (.ireturn, 1) := by decide +kernel
theorem dX7_count_95 : decode cX7_count 95 = .ok (.aload_n 0, 1) := by decide +kernel
theorem dX7_count_96 : decode cX7_count 96 = .ok (.invokevirtual 327, 3) := by decide +kernel
theorem dX7_count_99 : decode cX7_count 99 = .ok (.ireturn, 1) := by decide +kernel
theorem dX7_count_100 : decode cX7_count 100 = .ok (.iconst (-1), 1) := by decide +kernel
theorem dX7_count_101 : decode cX7_count 101 = .ok (.ireturn, 1) := by decide +kernel
theorem dX7_finding_0 : decode cX7_finding 0 = .ok (.aload_n 0, 1) := by decide +kernel
theorem dX7_finding_1 : decode cX7_finding 1 = .ok (.getfield 330, 3) := by decide +kernel
theorem dX7_finding_4 : decode cX7_finding 4 = .ok (.ireturn, 1) := by decide +kernel
theorem dX7_findings_0 : decode cX7_findings 0 = .ok (.iload_n 1, 1) := by decide +kernel
theorem dX7_findings_1 : decode cX7_findings 1 = .ok (.iconst 1, 1) := by decide +kernel
theorem dX7_findings_2 : decode cX7_findings 2 = .ok (.if_icmp .lt 8, 3) := by decide +kernel
theorem dX7_findings_5 : decode cX7_findings 5 = .ok (.iload_n 1, 1) := by decide +kernel
theorem dX7_findings_6 : decode cX7_findings 6 = .ok (.iconst 5, 1) := by decide +kernel
theorem dX7_findings_7 : decode cX7_findings 7 = .ok (.if_icmp .le 7, 3) := by decide +kernel
theorem dX7_findings_10 : decode cX7_findings 10 = .ok (.iconst (-1), 1) := by decide +kernel
theorem dX7_findings_11 : decode cX7_findings 11 = .ok (.goto 9, 3) := by decide +kernel
theorem dX7_findings_14 : decode cX7_findings 14 = .ok (.aload_n 0, 1) := by decide +kernel
theorem dX7_findings_15 : decode cX7_findings 15 = .ok (.getfield 63, 3) := by decide +kernel
theorem dX7_findings_18 : decode cX7_findings 18 = .ok (.iload_n 1, 1) := by decide +kernel
theorem dX7_findings_19 : decode cX7_findings 19 = .ok (.iaload, 1) := by decide +kernel
theorem dX7_findings_20 : decode cX7_findings 20 = .ok (.ireturn, 1) := by decide +kernel
theorem dX7_digest_0 : decode cX7_digest 0 = .ok (.ldc2_w 333, 3) := by decide +kernel
theorem dX7_digest_3 : decode cX7_digest 3 = .ok (.lstore_n 1, 1) := by decide +kernel
theorem dX7_digest_4 : decode cX7_digest 4 = .ok (.iconst 0, 1) := by decide +kernel
theorem dX7_digest_5 : decode cX7_digest 5 = .ok (.istore_n 3, 1) := by decide +kernel
theorem dX7_digest_6 : decode cX7_digest 6 = .ok (.iload_n 3, 1) := by decide +kernel
theorem dX7_digest_7 : decode cX7_digest 7 = .ok (.bipush 6, 2) := by decide +kernel
theorem dX7_digest_9 : decode cX7_digest 9 = .ok (.if_icmp .gt 22, 3) := by decide +kernel
theorem dX7_digest_12 : decode cX7_digest 12 = .ok (.ldc2_w 335, 3) := by decide +kernel
theorem dX7_digest_15 : decode cX7_digest 15 = .ok (.lload_n 1, 1) := by decide +kernel
theorem dX7_digest_16 : decode cX7_digest 16 = .ok (.lmul, 1) := by decide +kernel
theorem dX7_digest_17 : decode cX7_digest 17 = .ok (.aload_n 0, 1) := by decide +kernel
theorem dX7_digest_18 : decode cX7_digest 18 = .ok (.iload_n 3, 1) := by decide +kernel
theorem dX7_digest_19 : decode cX7_digest 19 = .ok (.invokevirtual 337, 3) := by decide +kernel
theorem dX7_digest_22 : decode cX7_digest 22 = .ok (.i2l, 1) := by decide +kernel
theorem dX7_digest_23 : decode cX7_digest 23 = .ok (.ladd, 1) := by decide +kernel
theorem dX7_digest_24 : decode cX7_digest 24 = .ok (.lstore_n 1, 1) := by decide +kernel
theorem dX7_digest_25 : decode cX7_digest 25 = .ok (.iinc 3 1, 3) := by decide +kernel
theorem dX7_digest_28 : decode cX7_digest 28 = .ok (.goto (-22), 3) := by decide +kernel
theorem dX7_digest_31 : decode cX7_digest 31 = .ok (.iconst 0, 1) := by decide +kernel
theorem dX7_digest_32 : decode cX7_digest 32 = .ok (.istore_n 3, 1) := by decide +kernel
theorem dX7_digest_33 : decode cX7_digest 33 = .ok (.iload_n 3, 1) := by decide +kernel
theorem dX7_digest_34 : decode cX7_digest 34 = .ok (.aload_n 0, 1) := by decide +kernel
theorem dX7_digest_35 : decode cX7_digest 35 = .ok (.getfield 24, 3) := by decide +kernel
theorem dX7_digest_38 : decode cX7_digest 38 = .ok (.getfield 134, 3) := by decide +kernel
theorem dX7_digest_41 : decode cX7_digest 41 = .ok (.if_icmp .ge 42, 3) := by decide +kernel
theorem dX7_digest_44 : decode cX7_digest 44 = .ok (.iconst 0, 1) := by decide +kernel
theorem dX7_digest_45 : decode cX7_digest 45 = .ok (.istore 4, 2) := by decide +kernel
theorem dX7_digest_47 : decode cX7_digest 47 = .ok (.iload 4, 2) := by decide +kernel
theorem dX7_digest_49 : decode cX7_digest 49 = .ok (.iconst 5, 1) := by decide +kernel
theorem dX7_digest_50 : decode cX7_digest 50 = .ok (.if_icmp .gt 27, 3) := by decide +kernel
theorem dX7_digest_53 : decode cX7_digest 53 = .ok (.ldc2_w 335, 3) := by decide +kernel
theorem dX7_digest_56 : decode cX7_digest 56 = .ok (.lload_n 1, 1) := by decide +kernel
theorem dX7_digest_57 : decode cX7_digest 57 = .ok (.lmul, 1) := by decide +kernel
theorem dX7_digest_58 : decode cX7_digest 58 = .ok (.aload_n 0, 1) := by decide +kernel
theorem dX7_digest_59 : decode cX7_digest 59 = .ok (.getfield 24, 3) := by decide +kernel
theorem dX7_digest_62 : decode cX7_digest 62 = .ok (.iload_n 3, 1) := by decide +kernel
theorem dX7_digest_63 : decode cX7_digest 63 = .ok (.iload 4, 2) := by decide +kernel
theorem dX7_digest_65 : decode cX7_digest 65 = .ok (.invokevirtual 138, 3) := by decide +kernel
theorem dX7_digest_68 : decode cX7_digest 68 = .ok (.i2l, 1) := by decide +kernel
theorem dX7_digest_69 : decode cX7_digest 69 = .ok (.ladd, 1) := by decide +kernel
theorem dX7_digest_70 : decode cX7_digest 70 = .ok (.lstore_n 1, 1) := by decide +kernel
theorem dX7_digest_71 : decode cX7_digest 71 = .ok (.iinc 4 1, 3) := by decide +kernel
theorem dX7_digest_74 : decode cX7_digest 74 = .ok (.goto (-27), 3) := by decide +kernel
theorem dX7_digest_77 : decode cX7_digest 77 = .ok (.iinc 3 1, 3) := by decide +kernel
theorem dX7_digest_80 : decode cX7_digest 80 = .ok (.goto (-47), 3) := by decide +kernel
theorem dX7_digest_83 : decode cX7_digest 83 = .ok (.iconst 0, 1) := by decide +kernel
theorem dX7_digest_84 : decode cX7_digest 84 = .ok (.istore_n 3, 1) := by decide +kernel
theorem dX7_digest_85 : decode cX7_digest 85 = .ok (.iload_n 3, 1) := by decide +kernel
theorem dX7_digest_86 : decode cX7_digest 86 = .ok (.iconst 3, 1) := by decide +kernel
theorem dX7_digest_87 : decode cX7_digest 87 = .ok (.if_icmp .ge 42, 3) := by decide +kernel
theorem dX7_digest_90 : decode cX7_digest 90 = .ok (.ldc2_w 335, 3) := by decide +kernel
theorem dX7_digest_93 : decode cX7_digest 93 = .ok (.lload_n 1, 1) := by decide +kernel
theorem dX7_digest_94 : decode cX7_digest 94 = .ok (.lmul, 1) := by decide +kernel
theorem dX7_digest_95 : decode cX7_digest 95 = .ok (.aload_n 0, 1) := by decide +kernel
theorem dX7_digest_96 : decode cX7_digest 96 = .ok (.getfield 31, 3) := by decide +kernel
theorem dX7_digest_99 : decode cX7_digest 99 = .ok (.iload_n 3, 1) := by decide +kernel
theorem dX7_digest_100 : decode cX7_digest 100 = .ok (.aaload, 1) := by decide +kernel
theorem dX7_digest_101 : decode cX7_digest 101 = .ok (.getfield 134, 3) := by decide +kernel
theorem dX7_digest_104 : decode cX7_digest 104 = .ok (.ifCond .ne 7, 3) := by decide +kernel
theorem dX7_digest_107 : decode cX7_digest 107 = .ok (.iconst (-1), 1) := by decide +kernel
theorem dX7_digest_108 : decode cX7_digest 108 = .ok (.goto 12, 3) := by decide +kernel
theorem dX7_digest_111 : decode cX7_digest 111 = .ok (.aload_n 0, 1) := by decide +kernel
theorem dX7_digest_112 : decode cX7_digest 112 = .ok (.getfield 31, 3) := by decide +kernel
theorem dX7_digest_115 : decode cX7_digest 115 = .ok (.iload_n 3, 1) := by decide +kernel
theorem dX7_digest_116 : decode cX7_digest 116 = .ok (.aaload, 1) := by decide +kernel
theorem dX7_digest_117 : decode cX7_digest 117 = .ok (.getfield 134, 3) := by decide +kernel
theorem dX7_digest_120 : decode cX7_digest 120 = .ok (.i2l, 1) := by decide +kernel
theorem dX7_digest_121 : decode cX7_digest 121 = .ok (.ladd, 1) := by decide +kernel
theorem dX7_digest_122 : decode cX7_digest 122 = .ok (.lstore_n 1, 1) := by decide +kernel
theorem dX7_digest_123 : decode cX7_digest 123 = .ok (.iinc 3 1, 3) := by decide +kernel
theorem dX7_digest_126 : decode cX7_digest 126 = .ok (.goto (-41), 3) := by decide +kernel
theorem dX7_digest_129 : decode cX7_digest 129 = .ok (.aload_n 0, 1) := by decide +kernel
theorem dX7_digest_130 : decode cX7_digest 130 = .ok (.getfield 18, 3) := by decide +kernel
theorem dX7_digest_133 : decode cX7_digest 133 = .ok (.aload_n 0, 1) := by decide +kernel
theorem dX7_digest_134 : decode cX7_digest 134 = .ok (.getfield 14, 3) := by decide +kernel
theorem dX7_digest_137 : decode cX7_digest 137 = .ok (.lload_n 1, 1) := by decide +kernel
theorem dX7_digest_138 : decode cX7_digest 138 = .ok (.invokevirtual 339, 3) := by decide +kernel
theorem dX7_digest_141 : decode cX7_digest 141 = .ok (.invokevirtual 339, 3) := by decide +kernel
theorem dX7_digest_144 : decode cX7_digest 144 = .ok (.lreturn, 1) := by decide +kernel
theorem dX7_hasBit_0 : decode cX7_hasBit 0 = .ok (.iload_n 0, 1) := by decide +kernel
theorem dX7_hasBit_1 : decode cX7_hasBit 1 = .ok (.iload_n 1, 1) := by decide +kernel
theorem dX7_hasBit_2 : decode cX7_hasBit 2 = .ok (.ishr, 1) := by decide +kernel
theorem dX7_hasBit_3 : decode cX7_hasBit 3 = .ok (.iconst 1, 1) := by decide +kernel
theorem dX7_hasBit_4 : decode cX7_hasBit 4 = .ok (.iand, 1) := by decide +kernel
theorem dX7_hasBit_5 : decode cX7_hasBit 5 = .ok (.ifCond .eq 7, 3) := by decide +kernel
theorem dX7_hasBit_8 : decode cX7_hasBit 8 = .ok (.iconst 1, 1) := by decide +kernel
theorem dX7_hasBit_9 : decode cX7_hasBit 9 = .ok (.goto 4, 3) := by decide +kernel
theorem dX7_hasBit_12 : decode cX7_hasBit 12 = .ok (.iconst 0, 1) := by decide +kernel
theorem dX7_hasBit_13 : decode cX7_hasBit 13 = .ok (.ireturn, 1) := by decide +kernel
theorem dX7_isDay_0 : decode cX7_isDay 0 = .ok (.iload_n 0, 1) := by decide +kernel
theorem dX7_isDay_1 : decode cX7_isDay 1 = .ok (.ifCond .lt 13, 3) := by decide +kernel
theorem dX7_isDay_4 : decode cX7_isDay 4 = .ok (.iload_n 0, 1) := by decide +kernel
theorem dX7_isDay_5 : decode cX7_isDay 5 = .ok (.bipush 20, 2) := by decide +kernel
theorem dX7_isDay_7 : decode cX7_isDay 7 = .ok (.if_icmp .gt 7, 3) := by decide +kernel
theorem dX7_isDay_10 : decode cX7_isDay 10 = .ok (.iconst 1, 1) := by decide +kernel
theorem dX7_isDay_11 : decode cX7_isDay 11 = .ok (.goto 4, 3) := by decide +kernel
theorem dX7_isDay_14 : decode cX7_isDay 14 = .ok (.iconst 0, 1) := by decide +kernel
theorem dX7_isDay_15 : decode cX7_isDay 15 = .ok (.ireturn, 1) := by decide +kernel
theorem dX7_isCase_0 : decode cX7_isCase 0 = .ok (.iload_n 0, 1) := by decide +kernel
theorem dX7_isCase_1 : decode cX7_isCase 1 = .ok (.ifCond .lt 13, 3) := by decide +kernel
theorem dX7_isCase_4 : decode cX7_isCase 4 = .ok (.iload_n 0, 1) := by decide +kernel
theorem dX7_isCase_5 : decode cX7_isCase 5 = .ok (.bipush 32, 2) := by decide +kernel
theorem dX7_isCase_7 : decode cX7_isCase 7 = .ok (.if_icmp .ge 7, 3) := by decide +kernel
theorem dX7_isCase_10 : decode cX7_isCase 10 = .ok (.iconst 1, 1) := by decide +kernel
theorem dX7_isCase_11 : decode cX7_isCase 11 = .ok (.goto 4, 3) := by decide +kernel
theorem dX7_isCase_14 : decode cX7_isCase 14 = .ok (.iconst 0, 1) := by decide +kernel
theorem dX7_isCase_15 : decode cX7_isCase 15 = .ok (.ireturn, 1) := by decide +kernel
theorem dX7_isVerdict_0 : decode cX7_isVerdict 0 = .ok (.iload_n 0, 1) := by decide +kernel
theorem dX7_isVerdict_1 : decode cX7_isVerdict 1 = .ok (.ifCond .eq 8, 3) := by decide +kernel
theorem dX7_isVerdict_4 : decode cX7_isVerdict 4 = .ok (.iload_n 0, 1) := by decide +kernel
theorem dX7_isVerdict_5 : decode cX7_isVerdict 5 = .ok (.iconst 1, 1) := by decide +kernel
theorem dX7_isVerdict_6 : decode cX7_isVerdict 6 = .ok (.if_icmp .ne 7, 3) := by decide +kernel
theorem dX7_isVerdict_9 : decode cX7_isVerdict 9 = .ok (.iconst 1, 1) := by decide +kernel
theorem dX7_isVerdict_10 : decode cX7_isVerdict 10 = .ok (.goto 4, 3) := by decide +kernel
theorem dX7_isVerdict_13 : decode cX7_isVerdict 13 = .ok (.iconst 0, 1) := by decide +kernel
theorem dX7_isVerdict_14 : decode cX7_isVerdict 14 = .ok (.ireturn, 1) := by decide +kernel
theorem dX7_isShelf_0 : decode cX7_isShelf 0 = .ok (.iload_n 0, 1) := by decide +kernel
theorem dX7_isShelf_1 : decode cX7_isShelf 1 = .ok (.ifCond .lt 12, 3) := by decide +kernel
theorem dX7_isShelf_4 : decode cX7_isShelf 4 = .ok (.iload_n 0, 1) := by decide +kernel
theorem dX7_isShelf_5 : decode cX7_isShelf 5 = .ok (.iconst 3, 1) := by decide +kernel
theorem dX7_isShelf_6 : decode cX7_isShelf 6 = .ok (.if_icmp .ge 7, 3) := by decide +kernel
theorem dX7_isShelf_9 : decode cX7_isShelf 9 = .ok (.iconst 1, 1) := by decide +kernel
theorem dX7_isShelf_10 : decode cX7_isShelf 10 = .ok (.goto 4, 3) := by decide +kernel
theorem dX7_isShelf_13 : decode cX7_isShelf 13 = .ok (.iconst 0, 1) := by decide +kernel
theorem dX7_isShelf_14 : decode cX7_isShelf 14 = .ok (.ireturn, 1) := by decide +kernel
theorem dX7_refuse_0 : decode cX7_refuse 0 = .ok (.aload_n 0, 1) := by decide +kernel
theorem dX7_refuse_1 : decode cX7_refuse 1 = .ok (.iload_n 1, 1) := by decide +kernel
theorem dX7_refuse_2 : decode cX7_refuse 2 = .ok (.putfield 330, 3) := by decide +kernel
theorem dX7_refuse_5 : decode cX7_refuse 5 = .ok (.iload_n 1, 1) := by decide +kernel
theorem dX7_refuse_6 : decode cX7_refuse 6 = .ok (.iconst 1, 1) := by decide +kernel
theorem dX7_refuse_7 : decode cX7_refuse 7 = .ok (.if_icmp .lt 18, 3) := by decide +kernel
theorem dX7_refuse_10 : decode cX7_refuse 10 = .ok (.iload_n 1, 1) := by decide +kernel
theorem dX7_refuse_11 : decode cX7_refuse 11 = .ok (.iconst 5, 1) := by decide +kernel
theorem dX7_refuse_12 : decode cX7_refuse 12 = .ok (.if_icmp .gt 13, 3) := by decide +kernel
theorem dX7_refuse_15 : decode cX7_refuse 15 = .ok (.aload_n 0, 1) := by decide +kernel
theorem dX7_refuse_16 : decode cX7_refuse 16 = .ok (.getfield 63, 3) := by decide +kernel
theorem dX7_refuse_19 : decode cX7_refuse 19 = .ok (.iload_n 1, 1) := by decide +kernel
theorem dX7_refuse_20 : decode cX7_refuse 20 = .ok (.dup2, 1) := by decide +kernel
theorem dX7_refuse_21 : decode cX7_refuse 21 = .ok (.iaload, 1) := by decide +kernel
theorem dX7_refuse_22 : decode cX7_refuse 22 = .ok (.iconst 1, 1) := by decide +kernel
theorem dX7_refuse_23 : decode cX7_refuse 23 = .ok (.iadd, 1) := by decide +kernel
theorem dX7_refuse_24 : decode cX7_refuse 24 = .ok (.iastore, 1) := by decide +kernel
theorem dX7_refuse_25 : decode cX7_refuse 25 = .ok (.bipush (-3), 2) := by decide +kernel
theorem dX7_refuse_27 : decode cX7_refuse 27 = .ok (.ireturn, 1) := by decide +kernel
theorem dX7_keptBooks_0 : decode cX7_keptBooks 0 = .ok (.iconst 0, 1) := by decide +kernel
theorem dX7_keptBooks_1 : decode cX7_keptBooks 1 = .ok (.istore_n 1, 1) := by decide +kernel
theorem dX7_keptBooks_2 : decode cX7_keptBooks 2 = .ok (.iconst 0, 1) := by decide +kernel
theorem dX7_keptBooks_3 : decode cX7_keptBooks 3 = .ok (.istore_n 2, 1) := by decide +kernel
theorem dX7_keptBooks_4 : decode cX7_keptBooks 4 = .ok (.iload_n 2, 1) := by decide +kernel
theorem dX7_keptBooks_5 : decode cX7_keptBooks 5 = .ok (.iconst 3, 1) := by decide +kernel
theorem dX7_keptBooks_6 : decode cX7_keptBooks 6 = .ok (.if_icmp .ge 24, 3) := by decide +kernel
theorem dX7_keptBooks_9 : decode cX7_keptBooks 9 = .ok (.aload_n 0, 1) := by decide +kernel
theorem dX7_keptBooks_10 : decode cX7_keptBooks 10 = .ok (.getfield 31, 3) := by decide +kernel
theorem dX7_keptBooks_13 : decode cX7_keptBooks 13 = .ok (.iload_n 2, 1) := by decide +kernel
theorem dX7_keptBooks_14 : decode cX7_keptBooks 14 = .ok (.aaload, 1) := by decide +kernel
theorem dX7_keptBooks_15 : decode cX7_keptBooks 15 = .ok (.getfield 134, 3) := by decide +kernel
theorem dX7_keptBooks_18 : decode cX7_keptBooks 18 = .ok (.ifCond .le 6, 3) := by decide +kernel
theorem dX7_keptBooks_21 : decode cX7_keptBooks 21 = .ok (.iinc 1 1, 3) := by decide +kernel
theorem dX7_keptBooks_24 : decode cX7_keptBooks 24 = .ok (.iinc 2 1, 3) := by decide +kernel
theorem dX7_keptBooks_27 : decode cX7_keptBooks 27 = .ok (.goto (-23), 3) := by decide +kernel
theorem dX7_keptBooks_30 : decode cX7_keptBooks 30 = .ok (.iload_n 1, 1) := by decide +kernel
theorem dX7_keptBooks_31 : decode cX7_keptBooks 31 = .ok (.ireturn, 1) := by decide +kernel
theorem dX7_namesEachPageOnce_0 : decode cX7_namesEachPageOnce 0 = .ok (.iconst 0, 1) := by decide +kernel
theorem dX7_namesEachPageOnce_1 : decode cX7_namesEachPageOnce 1 = .ok (.istore_n 2, 1) := by decide +kernel
theorem dX7_namesEachPageOnce_2 : decode cX7_namesEachPageOnce 2 = .ok (.iconst 0, 1) := by decide +kernel
theorem dX7_namesEachPageOnce_3 : decode cX7_namesEachPageOnce 3 = .ok (.istore_n 3, 1) := by decide +kernel
theorem dX7_namesEachPageOnce_4 : decode cX7_namesEachPageOnce 4 = .ok (.iload_n 3, 1) := by decide +kernel
theorem dX7_namesEachPageOnce_5 : decode cX7_namesEachPageOnce 5 = .ok (.aload_n 0, 1) := by decide +kernel
theorem dX7_namesEachPageOnce_6 : decode cX7_namesEachPageOnce 6 = .ok (.getfield 14, 3) := by decide +kernel
theorem dX7_namesEachPageOnce_9 : decode cX7_namesEachPageOnce 9 = .ok (.iload_n 1, 1) := by decide +kernel
theorem dX7_namesEachPageOnce_10 : decode cX7_namesEachPageOnce 10 = .ok (.invokevirtual 113, 3) := by decide +kernel
theorem dX7_namesEachPageOnce_13 : decode cX7_namesEachPageOnce 13 = .ok (.if_icmp .ge 50, 3) := by decide +kernel
theorem dX7_namesEachPageOnce_16 : decode cX7_namesEachPageOnce 16 = .ok (.aload_n 0, 1) := by decide +kernel
theorem dX7_namesEachPageOnce_17 : decode cX7_namesEachPageOnce 17 = .ok (.getfield 14, 3) := by decide +kernel
theorem dX7_namesEachPageOnce_20 : decode cX7_namesEachPageOnce 20 = .ok (.iload_n 1, 1) := by decide +kernel
theorem dX7_namesEachPageOnce_21 : decode cX7_namesEachPageOnce 21 = .ok (.iload_n 3, 1) := by decide +kernel
theorem dX7_namesEachPageOnce_22 : decode cX7_namesEachPageOnce 22 = .ok (.invokevirtual 90, 3) := by decide +kernel
theorem dX7_namesEachPageOnce_25 : decode cX7_namesEachPageOnce 25 = .ok (.istore 4, 2) := by decide +kernel
theorem dX7_namesEachPageOnce_27 : decode cX7_namesEachPageOnce 27 = .ok (.aload_n 0, 1) := by decide +kernel
theorem dX7_namesEachPageOnce_28 : decode cX7_namesEachPageOnce 28 = .ok (.getfield 24, 3) := by decide +kernel
theorem dX7_namesEachPageOnce_31 : decode cX7_namesEachPageOnce 31 = .ok (.iload 4, 2) := by decide +kernel
theorem dX7_namesEachPageOnce_33 : decode cX7_namesEachPageOnce 33 = .ok (.invokevirtual 137, 3) := by decide +kernel
theorem dX7_namesEachPageOnce_36 : decode cX7_namesEachPageOnce 36 = .ok (.ifCond .eq 12, 3) := by decide +kernel
theorem dX7_namesEachPageOnce_39 : decode cX7_namesEachPageOnce 39 = .ok (.iload_n 2, 1) := by decide +kernel
theorem dX7_namesEachPageOnce_40 : decode cX7_namesEachPageOnce 40 = .ok (.iload 4, 2) := by decide +kernel
theorem dX7_namesEachPageOnce_42 : decode cX7_namesEachPageOnce 42 = .ok (.invokestatic 220, 3) := by decide +kernel
theorem dX7_namesEachPageOnce_45 : decode cX7_namesEachPageOnce 45 = .ok (.ifCond .eq 5, 3) := by decide +kernel
theorem dX7_namesEachPageOnce_48 : decode cX7_namesEachPageOnce 48 = .ok (.iconst 0, 1) := by decide +kernel
theorem dX7_namesEachPageOnce_49 : decode cX7_namesEachPageOnce 49 = .ok (.ireturn, 1) := by decide +kernel
theorem dX7_namesEachPageOnce_50 : decode cX7_namesEachPageOnce 50 = .ok (.iload_n 2, 1) := by decide +kernel
theorem dX7_namesEachPageOnce_51 : decode cX7_namesEachPageOnce 51 = .ok (.iconst 1, 1) := by decide +kernel
theorem dX7_namesEachPageOnce_52 : decode cX7_namesEachPageOnce 52 = .ok (.iload 4, 2) := by decide +kernel
theorem dX7_namesEachPageOnce_54 : decode cX7_namesEachPageOnce 54 = .ok (.ishl, 1) := by decide +kernel
theorem dX7_namesEachPageOnce_55 : decode cX7_namesEachPageOnce 55 = .ok (.ior, 1) := by decide +kernel
theorem dX7_namesEachPageOnce_56 : decode cX7_namesEachPageOnce 56 = .ok (.istore_n 2, 1) := by decide +kernel
theorem dX7_namesEachPageOnce_57 : decode cX7_namesEachPageOnce 57 = .ok (.iinc 3 1, 3) := by decide +kernel
theorem dX7_namesEachPageOnce_60 : decode cX7_namesEachPageOnce 60 = .ok (.goto (-56), 3) := by decide +kernel
theorem dX7_namesEachPageOnce_63 : decode cX7_namesEachPageOnce 63 = .ok (.iconst 1, 1) := by decide +kernel
theorem dX7_namesEachPageOnce_64 : decode cX7_namesEachPageOnce 64 = .ok (.ireturn, 1) := by decide +kernel
theorem dX7_tellFraction_0 : decode cX7_tellFraction 0 = .ok (.iload_n 2, 1) := by decide +kernel
theorem dX7_tellFraction_1 : decode cX7_tellFraction 1 = .ok (.istore_n 3, 1) := by decide +kernel
theorem dX7_tellFraction_2 : decode cX7_tellFraction 2 = .ok (.iload_n 3, 1) := by decide +kernel
theorem dX7_tellFraction_3 : decode cX7_tellFraction 3 = .ok (.iconst 1, 1) := by decide +kernel
theorem dX7_tellFraction_4 : decode cX7_tellFraction 4 = .ok (.if_icmp .lt 41, 3) := by decide +kernel
theorem dX7_tellFraction_7 : decode cX7_tellFraction 7 = .ok (.iload_n 1, 1) := by decide +kernel
theorem dX7_tellFraction_8 : decode cX7_tellFraction 8 = .ok (.iload_n 3, 1) := by decide +kernel
theorem dX7_tellFraction_9 : decode cX7_tellFraction 9 = .ok (.irem, 1) := by decide +kernel
theorem dX7_tellFraction_10 : decode cX7_tellFraction 10 = .ok (.ifCond .ne 29, 3) := by decide +kernel
theorem dX7_tellFraction_13 : decode cX7_tellFraction 13 = .ok (.iload_n 2, 1) := by decide +kernel
theorem dX7_tellFraction_14 : decode cX7_tellFraction 14 = .ok (.iload_n 3, 1) := by decide +kernel
theorem dX7_tellFraction_15 : decode cX7_tellFraction 15 = .ok (.irem, 1) := by decide +kernel
theorem dX7_tellFraction_16 : decode cX7_tellFraction 16 = .ok (.ifCond .eq 6, 3) := by decide +kernel
theorem dX7_tellFraction_19 : decode cX7_tellFraction 19 = .ok (.goto 20, 3) := by decide +kernel
theorem dX7_tellFraction_22 : decode cX7_tellFraction 22 = .ok (.aload_n 0, 1) := by decide +kernel
theorem dX7_tellFraction_23 : decode cX7_tellFraction 23 = .ok (.iload_n 1, 1) := by decide +kernel
theorem dX7_tellFraction_24 : decode cX7_tellFraction 24 = .ok (.iload_n 3, 1) := by decide +kernel
theorem dX7_tellFraction_25 : decode cX7_tellFraction 25 = .ok (.idiv, 1) := by decide +kernel
theorem dX7_tellFraction_26 : decode cX7_tellFraction 26 = .ok (.i2l, 1) := by decide +kernel
theorem dX7_tellFraction_27 : decode cX7_tellFraction 27 = .ok (.putfield 318, 3) := by decide +kernel
theorem dX7_tellFraction_30 : decode cX7_tellFraction 30 = .ok (.aload_n 0, 1) := by decide +kernel
theorem dX7_tellFraction_31 : decode cX7_tellFraction 31 = .ok (.iload_n 2, 1) := by decide +kernel
theorem dX7_tellFraction_32 : decode cX7_tellFraction 32 = .ok (.iload_n 3, 1) := by decide +kernel
theorem dX7_tellFraction_33 : decode cX7_tellFraction 33 = .ok (.idiv, 1) := by decide +kernel
theorem dX7_tellFraction_34 : decode cX7_tellFraction 34 = .ok (.i2l, 1) := by decide +kernel
theorem dX7_tellFraction_35 : decode cX7_tellFraction 35 = .ok (.putfield 67, 3) := by decide +kernel
theorem dX7_tellFraction_38 : decode cX7_tellFraction 38 = .ok (.return_, 1) := by decide +kernel
theorem dX7_tellFraction_39 : decode cX7_tellFraction 39 = .ok (.iinc 3 (-1), 3) := by decide +kernel
theorem dX7_tellFraction_42 : decode cX7_tellFraction 42 = .ok (.goto (-40), 3) := by decide +kernel
theorem dX7_tellFraction_45 : decode cX7_tellFraction 45 = .ok (.return_, 1) := by decide +kernel
theorem dX7_refusalOfDeeds_0 : decode cX7_refusalOfDeeds 0 = .ok (.aload_n 0, 1) := by decide +kernel
theorem dX7_refusalOfDeeds_1 : decode cX7_refusalOfDeeds 1 = .ok (.getfield 14, 3) := by decide +kernel
theorem dX7_refusalOfDeeds_4 : decode cX7_refusalOfDeeds 4 = .ok (.iload_n 1, 1) := by decide +kernel
theorem dX7_refusalOfDeeds_5 : decode cX7_refusalOfDeeds 5 = .ok (.invokevirtual 71, 3) := by decide +kernel
theorem dX7_refusalOfDeeds_8 : decode cX7_refusalOfDeeds 8 = .ok (.ifCond .eq 14, 3) := by decide +kernel
theorem dX7_refusalOfDeeds_11 : decode cX7_refusalOfDeeds 11 = .ok (.aload_n 0, 1) := by decide +kernel
theorem dX7_refusalOfDeeds_12 : decode cX7_refusalOfDeeds 12 = .ok (.getfield 14, 3) := by decide +kernel
theorem dX7_refusalOfDeeds_15 : decode cX7_refusalOfDeeds 15 = .ok (.iload_n 2, 1) := by decide +kernel
theorem dX7_refusalOfDeeds_16 : decode cX7_refusalOfDeeds 16 = .ok (.invokevirtual 71, 3) := by decide +kernel
theorem dX7_refusalOfDeeds_19 : decode cX7_refusalOfDeeds 19 = .ok (.ifCond .ne 5, 3) := by decide +kernel
theorem dX7_refusalOfDeeds_22 : decode cX7_refusalOfDeeds 22 = .ok (.iconst (-1), 1) := by decide +kernel
theorem dX7_refusalOfDeeds_23 : decode cX7_refusalOfDeeds 23 = .ok (.ireturn, 1) := by decide +kernel
theorem dX7_refusalOfDeeds_24 : decode cX7_refusalOfDeeds 24 = .ok (.aload_n 0, 1) := by decide +kernel
theorem dX7_refusalOfDeeds_25 : decode cX7_refusalOfDeeds 25 = .ok (.getfield 14, 3) := by decide +kernel
theorem dX7_refusalOfDeeds_28 : decode cX7_refusalOfDeeds 28 = .ok (.iload_n 1, 1) := by decide +kernel
theorem dX7_refusalOfDeeds_29 : decode cX7_refusalOfDeeds 29 = .ok (.invokevirtual 83, 3) := by decide +kernel
theorem dX7_refusalOfDeeds_32 : decode cX7_refusalOfDeeds 32 = .ok (.ifCond .ne 9, 3) := by decide +kernel
theorem dX7_refusalOfDeeds_35 : decode cX7_refusalOfDeeds 35 = .ok (.aload_n 0, 1) := by decide +kernel
theorem dX7_refusalOfDeeds_36 : decode cX7_refusalOfDeeds 36 = .ok (.iconst 1, 1) := by decide +kernel
theorem dX7_refusalOfDeeds_37 : decode cX7_refusalOfDeeds 37 = .ok (.invokevirtual 75, 3) := by decide +kernel
theorem dX7_refusalOfDeeds_40 : decode cX7_refusalOfDeeds 40 = .ok (.ireturn, 1) := by decide +kernel
theorem dX7_refusalOfDeeds_41 : decode cX7_refusalOfDeeds 41 = .ok (.aload_n 0, 1) := by decide +kernel
theorem dX7_refusalOfDeeds_42 : decode cX7_refusalOfDeeds 42 = .ok (.getfield 14, 3) := by decide +kernel
theorem dX7_refusalOfDeeds_45 : decode cX7_refusalOfDeeds 45 = .ok (.iload_n 1, 1) := by decide +kernel
theorem dX7_refusalOfDeeds_46 : decode cX7_refusalOfDeeds 46 = .ok (.invokevirtual 113, 3) := by decide +kernel
theorem dX7_refusalOfDeeds_49 : decode cX7_refusalOfDeeds 49 = .ok (.iload_n 3, 1) := by decide +kernel
theorem dX7_refusalOfDeeds_50 : decode cX7_refusalOfDeeds 50 = .ok (.if_icmp .le 9, 3) := by decide +kernel
theorem dX7_refusalOfDeeds_53 : decode cX7_refusalOfDeeds 53 = .ok (.aload_n 0, 1) := by decide +kernel
theorem dX7_refusalOfDeeds_54 : decode cX7_refusalOfDeeds 54 = .ok (.iconst 5, 1) := by decide +kernel
theorem dX7_refusalOfDeeds_55 : decode cX7_refusalOfDeeds 55 = .ok (.invokevirtual 75, 3) := by decide +kernel
theorem dX7_refusalOfDeeds_58 : decode cX7_refusalOfDeeds 58 = .ok (.ireturn, 1) := by decide +kernel
theorem dX7_refusalOfDeeds_59 : decode cX7_refusalOfDeeds 59 = .ok (.iconst 0, 1) := by decide +kernel
theorem dX7_refusalOfDeeds_60 : decode cX7_refusalOfDeeds 60 = .ok (.istore 4, 2) := by decide +kernel
theorem dX7_refusalOfDeeds_62 : decode cX7_refusalOfDeeds 62 = .ok (.iload 4, 2) := by decide +kernel
theorem dX7_refusalOfDeeds_64 : decode cX7_refusalOfDeeds 64 = .ok (.aload_n 0, 1) := by decide +kernel
theorem dX7_refusalOfDeeds_65 : decode cX7_refusalOfDeeds 65 = .ok (.getfield 14, 3) := by decide +kernel
theorem dX7_refusalOfDeeds_68 : decode cX7_refusalOfDeeds 68 = .ok (.iload_n 1, 1) := by decide +kernel
theorem dX7_refusalOfDeeds_69 : decode cX7_refusalOfDeeds 69 = .ok (.invokevirtual 113, 3) := by decide +kernel
theorem dX7_refusalOfDeeds_72 : decode cX7_refusalOfDeeds 72 = .ok (.if_icmp .ge 31, 3) := by decide +kernel
theorem dX7_refusalOfDeeds_75 : decode cX7_refusalOfDeeds 75 = .ok (.aload_n 0, 1) := by decide +kernel
theorem dX7_refusalOfDeeds_76 : decode cX7_refusalOfDeeds 76 = .ok (.getfield 14, 3) := by decide +kernel
theorem dX7_refusalOfDeeds_79 : decode cX7_refusalOfDeeds 79 = .ok (.iload_n 1, 1) := by decide +kernel
theorem dX7_refusalOfDeeds_80 : decode cX7_refusalOfDeeds 80 = .ok (.iload 4, 2) := by decide +kernel
theorem dX7_refusalOfDeeds_82 : decode cX7_refusalOfDeeds 82 = .ok (.invokevirtual 90, 3) := by decide +kernel
theorem dX7_refusalOfDeeds_85 : decode cX7_refusalOfDeeds 85 = .ok (.invokestatic 207, 3) := by decide +kernel
theorem dX7_refusalOfDeeds_88 : decode cX7_refusalOfDeeds 88 = .ok (.ifCond .ne 9, 3) := by decide +kernel
theorem dX7_refusalOfDeeds_91 : decode cX7_refusalOfDeeds 91 = .ok (.aload_n 0, 1) := by decide +kernel
theorem dX7_refusalOfDeeds_92 : decode cX7_refusalOfDeeds 92 = .ok (.iconst 3, 1) := by decide +kernel
theorem dX7_refusalOfDeeds_93 : decode cX7_refusalOfDeeds 93 = .ok (.invokevirtual 75, 3) := by decide +kernel
theorem dX7_refusalOfDeeds_96 : decode cX7_refusalOfDeeds 96 = .ok (.ireturn, 1) := by decide +kernel
theorem dX7_refusalOfDeeds_97 : decode cX7_refusalOfDeeds 97 = .ok (.iinc 4 1, 3) := by decide +kernel
theorem dX7_refusalOfDeeds_100 : decode cX7_refusalOfDeeds 100 = .ok (.goto (-38), 3) := by decide +kernel
theorem dX7_refusalOfDeeds_103 : decode cX7_refusalOfDeeds 103 = .ok (.iconst 0, 1) := by decide +kernel
theorem dX7_refusalOfDeeds_104 : decode cX7_refusalOfDeeds 104 = .ok (.ireturn, 1) := by decide +kernel
theorem dX7_tellsJudgements_0 : decode cX7_tellsJudgements 0 = .ok (.iconst 0, 1) := by decide +kernel
theorem dX7_tellsJudgements_1 : decode cX7_tellsJudgements 1 = .ok (.istore_n 2, 1) := by decide +kernel
theorem dX7_tellsJudgements_2 : decode cX7_tellsJudgements 2 = .ok (.iload_n 2, 1) := by decide +kernel
theorem dX7_tellsJudgements_3 : decode cX7_tellsJudgements 3 = .ok (.iconst 2, 1) := by decide +kernel
theorem dX7_tellsJudgements_4 : decode cX7_tellsJudgements 4 = .ok (.iadd, 1) := by decide +kernel
theorem dX7_tellsJudgements_5 : decode cX7_tellsJudgements 5 = .ok (.aload_n 0, 1) := by decide +kernel
theorem dX7_tellsJudgements_6 : decode cX7_tellsJudgements 6 = .ok (.getfield 14, 3) := by decide +kernel
theorem dX7_tellsJudgements_9 : decode cX7_tellsJudgements 9 = .ok (.iload_n 1, 1) := by decide +kernel
theorem dX7_tellsJudgements_10 : decode cX7_tellsJudgements 10 = .ok (.invokevirtual 113, 3) := by decide +kernel
theorem dX7_tellsJudgements_13 : decode cX7_tellsJudgements 13 = .ok (.if_icmp .ge 64, 3) := by decide +kernel
theorem dX7_tellsJudgements_16 : decode cX7_tellsJudgements 16 = .ok (.aload_n 0, 1) := by decide +kernel
theorem dX7_tellsJudgements_17 : decode cX7_tellsJudgements 17 = .ok (.getfield 14, 3) := by decide +kernel
theorem dX7_tellsJudgements_20 : decode cX7_tellsJudgements 20 = .ok (.iload_n 1, 1) := by decide +kernel
theorem dX7_tellsJudgements_21 : decode cX7_tellsJudgements 21 = .ok (.iload_n 2, 1) := by decide +kernel
theorem dX7_tellsJudgements_22 : decode cX7_tellsJudgements 22 = .ok (.invokevirtual 90, 3) := by decide +kernel
theorem dX7_tellsJudgements_25 : decode cX7_tellsJudgements 25 = .ok (.invokestatic 207, 3) := by decide +kernel
theorem dX7_tellsJudgements_28 : decode cX7_tellsJudgements 28 = .ok (.ifCond .ne 5, 3) := by decide +kernel
theorem dX7_tellsJudgements_31 : decode cX7_tellsJudgements 31 = .ok (.iconst 0, 1) := by decide +kernel
theorem dX7_tellsJudgements_32 : decode cX7_tellsJudgements 32 = .ok (.ireturn, 1) := by decide +kernel
theorem dX7_tellsJudgements_33 : decode cX7_tellsJudgements 33 = .ok (.aload_n 0, 1) := by decide +kernel
theorem dX7_tellsJudgements_34 : decode cX7_tellsJudgements 34 = .ok (.getfield 14, 3) := by decide +kernel
theorem dX7_tellsJudgements_37 : decode cX7_tellsJudgements 37 = .ok (.iload_n 1, 1) := by decide +kernel
theorem dX7_tellsJudgements_38 : decode cX7_tellsJudgements 38 = .ok (.iload_n 2, 1) := by decide +kernel
theorem dX7_tellsJudgements_39 : decode cX7_tellsJudgements 39 = .ok (.iconst 1, 1) := by decide +kernel
theorem dX7_tellsJudgements_40 : decode cX7_tellsJudgements 40 = .ok (.iadd, 1) := by decide +kernel
theorem dX7_tellsJudgements_41 : decode cX7_tellsJudgements 41 = .ok (.invokevirtual 90, 3) := by decide +kernel
theorem dX7_tellsJudgements_44 : decode cX7_tellsJudgements 44 = .ok (.invokestatic 190, 3) := by decide +kernel
theorem dX7_tellsJudgements_47 : decode cX7_tellsJudgements 47 = .ok (.ifCond .ne 5, 3) := by decide +kernel
theorem dX7_tellsJudgements_50 : decode cX7_tellsJudgements 50 = .ok (.iconst 0, 1) := by decide +kernel
theorem dX7_tellsJudgements_51 : decode cX7_tellsJudgements 51 = .ok (.ireturn, 1) := by decide +kernel
theorem dX7_tellsJudgements_52 : decode cX7_tellsJudgements 52 = .ok (.aload_n 0, 1) := by decide +kernel
theorem dX7_tellsJudgements_53 : decode cX7_tellsJudgements 53 = .ok (.getfield 14, 3) := by decide +kernel
theorem dX7_tellsJudgements_56 : decode cX7_tellsJudgements 56 = .ok (.iload_n 1, 1) := by decide +kernel
theorem dX7_tellsJudgements_57 : decode cX7_tellsJudgements 57 = .ok (.iload_n 2, 1) := by decide +kernel
theorem dX7_tellsJudgements_58 : decode cX7_tellsJudgements 58 = .ok (.iconst 2, 1) := by decide +kernel
theorem dX7_tellsJudgements_59 : decode cX7_tellsJudgements 59 = .ok (.iadd, 1) := by decide +kernel
theorem dX7_tellsJudgements_60 : decode cX7_tellsJudgements 60 = .ok (.invokevirtual 90, 3) := by decide +kernel
theorem dX7_tellsJudgements_63 : decode cX7_tellsJudgements 63 = .ok (.invokestatic 169, 3) := by decide +kernel
theorem dX7_tellsJudgements_66 : decode cX7_tellsJudgements 66 = .ok (.ifCond .ne 5, 3) := by decide +kernel
theorem dX7_tellsJudgements_69 : decode cX7_tellsJudgements 69 = .ok (.iconst 0, 1) := by decide +kernel
theorem dX7_tellsJudgements_70 : decode cX7_tellsJudgements 70 = .ok (.ireturn, 1) := by decide +kernel
theorem dX7_tellsJudgements_71 : decode cX7_tellsJudgements 71 = .ok (.iinc 2 3, 3) := by decide +kernel
theorem dX7_tellsJudgements_74 : decode cX7_tellsJudgements 74 = .ok (.goto (-72), 3) := by decide +kernel
theorem dX7_tellsJudgements_77 : decode cX7_tellsJudgements 77 = .ok (.iconst 1, 1) := by decide +kernel
theorem dX7_tellsJudgements_78 : decode cX7_tellsJudgements 78 = .ok (.ireturn, 1) := by decide +kernel
theorem dX7_couldMean_0 : decode cX7_couldMean 0 = .ok (.iconst 0, 1) := by decide +kernel
theorem dX7_couldMean_1 : decode cX7_couldMean 1 = .ok (.istore 4, 2) := by decide +kernel
theorem dX7_couldMean_3 : decode cX7_couldMean 3 = .ok (.iload 4, 2) := by decide +kernel
theorem dX7_couldMean_5 : decode cX7_couldMean 5 = .ok (.iconst 2, 1) := by decide +kernel
theorem dX7_couldMean_6 : decode cX7_couldMean 6 = .ok (.iadd, 1) := by decide +kernel
theorem dX7_couldMean_7 : decode cX7_couldMean 7 = .ok (.aload_n 0, 1) := by decide +kernel
theorem dX7_couldMean_8 : decode cX7_couldMean 8 = .ok (.getfield 14, 3) := by decide +kernel
theorem dX7_couldMean_11 : decode cX7_couldMean 11 = .ok (.iload_n 1, 1) := by decide +kernel
theorem dX7_couldMean_12 : decode cX7_couldMean 12 = .ok (.invokevirtual 113, 3) := by decide +kernel
theorem dX7_couldMean_15 : decode cX7_couldMean 15 = .ok (.if_icmp .ge 84, 3) := by decide +kernel
theorem dX7_couldMean_18 : decode cX7_couldMean 18 = .ok (.aload_n 0, 1) := by decide +kernel
theorem dX7_couldMean_19 : decode cX7_couldMean 19 = .ok (.getfield 24, 3) := by decide +kernel
theorem dX7_couldMean_22 : decode cX7_couldMean 22 = .ok (.aload_n 0, 1) := by decide +kernel
theorem dX7_couldMean_23 : decode cX7_couldMean 23 = .ok (.getfield 14, 3) := by decide +kernel
theorem dX7_couldMean_26 : decode cX7_couldMean 26 = .ok (.iload_n 1, 1) := by decide +kernel
theorem dX7_couldMean_27 : decode cX7_couldMean 27 = .ok (.iload 4, 2) := by decide +kernel
theorem dX7_couldMean_29 : decode cX7_couldMean 29 = .ok (.iconst 1, 1) := by decide +kernel
theorem dX7_couldMean_30 : decode cX7_couldMean 30 = .ok (.iadd, 1) := by decide +kernel
theorem dX7_couldMean_31 : decode cX7_couldMean 31 = .ok (.invokevirtual 90, 3) := by decide +kernel
theorem dX7_couldMean_34 : decode cX7_couldMean 34 = .ok (.invokevirtual 193, 3) := by decide +kernel
theorem dX7_couldMean_37 : decode cX7_couldMean 37 = .ok (.istore 5, 2) := by decide +kernel
theorem dX7_couldMean_39 : decode cX7_couldMean 39 = .ok (.aload_n 0, 1) := by decide +kernel
theorem dX7_couldMean_40 : decode cX7_couldMean 40 = .ok (.getfield 24, 3) := by decide +kernel
theorem dX7_couldMean_43 : decode cX7_couldMean 43 = .ok (.iload 5, 2) := by decide +kernel
theorem dX7_couldMean_45 : decode cX7_couldMean 45 = .ok (.iload_n 2, 1) := by decide +kernel
theorem dX7_couldMean_46 : decode cX7_couldMean 46 = .ok (.iload_n 3, 1) := by decide +kernel
theorem dX7_couldMean_47 : decode cX7_couldMean 47 = .ok (.invokevirtual 343, 3) := by decide +kernel
theorem dX7_couldMean_50 : decode cX7_couldMean 50 = .ok (.aload_n 0, 1) := by decide +kernel
theorem dX7_couldMean_51 : decode cX7_couldMean 51 = .ok (.getfield 14, 3) := by decide +kernel
theorem dX7_couldMean_54 : decode cX7_couldMean 54 = .ok (.iload_n 1, 1) := by decide +kernel
theorem dX7_couldMean_55 : decode cX7_couldMean 55 = .ok (.iload 4, 2) := by decide +kernel
theorem dX7_couldMean_57 : decode cX7_couldMean 57 = .ok (.invokevirtual 90, 3) := by decide +kernel
theorem dX7_couldMean_60 : decode cX7_couldMean 60 = .ok (.invokestatic 220, 3) := by decide +kernel
theorem dX7_couldMean_63 : decode cX7_couldMean 63 = .ok (.istore 6, 2) := by decide +kernel
theorem dX7_couldMean_65 : decode cX7_couldMean 65 = .ok (.iload 6, 2) := by decide +kernel
theorem dX7_couldMean_67 : decode cX7_couldMean 67 = .ok (.aload_n 0, 1) := by decide +kernel
theorem dX7_couldMean_68 : decode cX7_couldMean 68 = .ok (.getfield 14, 3) := by decide +kernel
theorem dX7_couldMean_71 : decode cX7_couldMean 71 = .ok (.iload_n 1, 1) := by decide +kernel
theorem dX7_couldMean_72 : decode cX7_couldMean 72 = .ok (.iload 4, 2) := by decide +kernel
theorem dX7_couldMean_74 : decode cX7_couldMean 74 = .ok (.iconst 2, 1) := by decide +kernel
theorem dX7_couldMean_75 : decode cX7_couldMean 75 = .ok (.iadd, 1) := by decide +kernel
theorem dX7_couldMean_76 : decode cX7_couldMean 76 = .ok (.invokevirtual 90, 3) := by decide +kernel
theorem dX7_couldMean_79 : decode cX7_couldMean 79 = .ok (.iconst 1, 1) := by decide +kernel
theorem dX7_couldMean_80 : decode cX7_couldMean 80 = .ok (.if_icmp .ne 7, 3) := by decide +kernel
theorem dX7_couldMean_83 : decode cX7_couldMean 83 = .ok (.iconst 1, 1) := by decide +kernel
theorem dX7_couldMean_84 : decode cX7_couldMean 84 = .ok (.goto 4, 3) := by decide +kernel
theorem dX7_couldMean_87 : decode cX7_couldMean 87 = .ok (.iconst 0, 1) := by decide +kernel
theorem dX7_couldMean_88 : decode cX7_couldMean 88 = .ok (.if_icmp .eq 5, 3) := by decide +kernel
theorem dX7_couldMean_91 : decode cX7_couldMean 91 = .ok (.iconst 0, 1) := by decide +kernel
theorem dX7_couldMean_92 : decode cX7_couldMean 92 = .ok (.ireturn, 1) := by decide +kernel
theorem dX7_couldMean_93 : decode cX7_couldMean 93 = .ok (.iinc 4 3, 3) := by decide +kernel
theorem dX7_couldMean_96 : decode cX7_couldMean 96 = .ok (.goto (-93), 3) := by decide +kernel
theorem dX7_couldMean_99 : decode cX7_couldMean 99 = .ok (.iconst 1, 1) := by decide +kernel
theorem dX7_couldMean_100 : decode cX7_couldMean 100 = .ok (.ireturn, 1) := by decide +kernel
theorem dX7_bitIfKind_0 : decode cX7_bitIfKind 0 = .ok (.aload_n 0, 1) := by decide +kernel
theorem dX7_bitIfKind_1 : decode cX7_bitIfKind 1 = .ok (.getfield 28, 3) := by decide +kernel
theorem dX7_bitIfKind_4 : decode cX7_bitIfKind 4 = .ok (.aload_n 0, 1) := by decide +kernel
theorem dX7_bitIfKind_5 : decode cX7_bitIfKind 5 = .ok (.getfield 24, 3) := by decide +kernel
theorem dX7_bitIfKind_8 : decode cX7_bitIfKind 8 = .ok (.invokevirtual 124, 3) := by decide +kernel
theorem dX7_bitIfKind_11 : decode cX7_bitIfKind 11 = .ok (.aload_n 0, 1) := by decide +kernel
theorem dX7_bitIfKind_12 : decode cX7_bitIfKind 12 = .ok (.getfield 28, 3) := by decide +kernel
theorem dX7_bitIfKind_15 : decode cX7_bitIfKind 15 = .ok (.iload_n 2, 1) := by decide +kernel
theorem dX7_bitIfKind_16 : decode cX7_bitIfKind 16 = .ok (.iload_n 1, 1) := by decide +kernel
theorem dX7_bitIfKind_17 : decode cX7_bitIfKind 17 = .ok (.invokevirtual 346, 3) := by decide +kernel
theorem dX7_bitIfKind_20 : decode cX7_bitIfKind 20 = .ok (.aload_n 0, 1) := by decide +kernel
theorem dX7_bitIfKind_21 : decode cX7_bitIfKind 21 = .ok (.getfield 45, 3) := by decide +kernel
theorem dX7_bitIfKind_24 : decode cX7_bitIfKind 24 = .ok (.aload_n 0, 1) := by decide +kernel
theorem dX7_bitIfKind_25 : decode cX7_bitIfKind 25 = .ok (.getfield 28, 3) := by decide +kernel
theorem dX7_bitIfKind_28 : decode cX7_bitIfKind 28 = .ok (.iload 4, 2) := by decide +kernel
theorem dX7_bitIfKind_30 : decode cX7_bitIfKind 30 = .ok (.invokevirtual 210, 3) := by decide +kernel
theorem dX7_bitIfKind_33 : decode cX7_bitIfKind 33 = .ok (.aload_n 0, 1) := by decide +kernel
theorem dX7_bitIfKind_34 : decode cX7_bitIfKind 34 = .ok (.getfield 45, 3) := by decide +kernel
theorem dX7_bitIfKind_37 : decode cX7_bitIfKind 37 = .ok (.iload_n 3, 1) := by decide +kernel
theorem dX7_bitIfKind_38 : decode cX7_bitIfKind 38 = .ok (.invokevirtual 217, 3) := by decide +kernel
theorem dX7_bitIfKind_41 : decode cX7_bitIfKind 41 = .ok (.iload 5, 2) := by decide +kernel
theorem dX7_bitIfKind_43 : decode cX7_bitIfKind 43 = .ok (.if_icmp .ne 9, 3) := by decide +kernel
theorem dX7_bitIfKind_46 : decode cX7_bitIfKind 46 = .ok (.iconst 1, 1) := by decide +kernel
theorem dX7_bitIfKind_47 : decode cX7_bitIfKind 47 = .ok (.iload_n 1, 1) := by decide +kernel
theorem dX7_bitIfKind_48 : decode cX7_bitIfKind 48 = .ok (.ishl, 1) := by decide +kernel
theorem dX7_bitIfKind_49 : decode cX7_bitIfKind 49 = .ok (.goto 4, 3) := by decide +kernel
theorem dX7_bitIfKind_52 : decode cX7_bitIfKind 52 = .ok (.iconst 0, 1) := by decide +kernel
theorem dX7_bitIfKind_53 : decode cX7_bitIfKind 53 = .ok (.ireturn, 1) := by decide +kernel
theorem dX8_init_0 : decode cX8_init 0 = .ok (.aload_n 0, 1) := by decide +kernel
theorem dX8_init_1 : decode cX8_init 1 = .ok (.invokespecial 1, 3) := by decide +kernel
theorem dX8_init_4 : decode cX8_init 4 = .ok (.aload_n 0, 1) := by decide +kernel
theorem dX8_init_5 : decode cX8_init 5 = .ok (.bipush 6, 2) := by decide +kernel
theorem dX8_init_7 : decode cX8_init 7 = .ok (.newarray .int, 2) := by decide +kernel
theorem dX8_init_9 : decode cX8_init 9 = .ok (.putfield 7, 3) := by decide +kernel
theorem dX8_init_12 : decode cX8_init 12 = .ok (.aload_n 0, 1) := by decide +kernel
theorem dX8_init_13 : decode cX8_init 13 = .ok (.lconst 1, 1) := by decide +kernel
theorem dX8_init_14 : decode cX8_init 14 = .ok (.putfield 13, 3) := by decide +kernel
theorem dX8_init_17 : decode cX8_init 17 = .ok (.aload_n 0, 1) := by decide +kernel
theorem dX8_init_18 : decode cX8_init 18 = .ok (.bipush 6, 2) := by decide +kernel
theorem dX8_init_20 : decode cX8_init 20 = .ok (.newarray .int, 2) := by decide +kernel
theorem dX8_init_22 : decode cX8_init 22 = .ok (.putfield 17, 3) := by decide +kernel
theorem dX8_init_25 : decode cX8_init 25 = .ok (.aload_n 0, 1) := by decide +kernel
theorem dX8_init_26 : decode cX8_init 26 = .ok (.sipush 240, 3) := by decide +kernel
theorem dX8_init_29 : decode cX8_init 29 = .ok (.newarray .int, 2) := by decide +kernel
theorem dX8_init_31 : decode cX8_init 31 = .ok (.putfield 20, 3) := by decide +kernel
theorem dX8_init_34 : decode cX8_init 34 = .ok (.aload_n 0, 1) := by decide +kernel
theorem dX8_init_35 : decode cX8_init 35 = .ok (.bipush 40, 2) := by decide +kernel
theorem dX8_init_37 : decode cX8_init 37 = .ok (.newarray .int, 2) := by decide +kernel
theorem dX8_init_39 : decode cX8_init 39 = .ok (.putfield 23, 3) := by decide +kernel
theorem dX8_init_42 : decode cX8_init 42 = .ok (.aload_n 0, 1) := by decide +kernel
theorem dX8_init_43 : decode cX8_init 43 = .ok (.iconst 4, 1) := by decide +kernel
theorem dX8_init_44 : decode cX8_init 44 = .ok (.newarray .int, 2) := by decide +kernel
theorem dX8_init_46 : decode cX8_init 46 = .ok (.putfield 26, 3) := by decide +kernel
theorem dX8_init_49 : decode cX8_init 49 = .ok (.aload_n 0, 1) := by decide +kernel
theorem dX8_init_50 : decode cX8_init 50 = .ok (.sipush 320, 3) := by decide +kernel
theorem dX8_init_53 : decode cX8_init 53 = .ok (.newarray .int, 2) := by decide +kernel
theorem dX8_init_55 : decode cX8_init 55 = .ok (.putfield 29, 3) := by decide +kernel
theorem dX8_init_58 : decode cX8_init 58 = .ok (.aload_n 0, 1) := by decide +kernel
theorem dX8_init_59 : decode cX8_init 59 = .ok (.bipush 6, 2) := by decide +kernel
theorem dX8_init_61 : decode cX8_init 61 = .ok (.newarray .int, 2) := by decide +kernel
theorem dX8_init_63 : decode cX8_init 63 = .ok (.putfield 32, 3) := by decide +kernel
theorem dX8_init_66 : decode cX8_init 66 = .ok (.aload_n 0, 1) := by decide +kernel
theorem dX8_init_67 : decode cX8_init 67 = .ok (.bipush 6, 2) := by decide +kernel
theorem dX8_init_69 : decode cX8_init 69 = .ok (.newarray .int, 2) := by decide +kernel
theorem dX8_init_71 : decode cX8_init 71 = .ok (.putfield 35, 3) := by decide +kernel
theorem dX8_init_74 : decode cX8_init 74 = .ok (.aload_n 0, 1) := by decide +kernel
theorem dX8_init_75 : decode cX8_init 75 = .ok (.bipush 6, 2) := by decide +kernel
theorem dX8_init_77 : decode cX8_init 77 = .ok (.newarray .int, 2) := by decide +kernel
theorem dX8_init_79 : decode cX8_init 79 = .ok (.putfield 38, 3) := by decide +kernel
theorem dX8_init_82 : decode cX8_init 82 = .ok (.aload_n 0, 1) := by decide +kernel
theorem dX8_init_83 : decode cX8_init 83 = .ok (.bipush 6, 2) := by decide +kernel
theorem dX8_init_85 : decode cX8_init 85 = .ok (.newarray .int, 2) := by decide +kernel
theorem dX8_init_87 : decode cX8_init 87 = .ok (.putfield 41, 3) := by decide +kernel
theorem dX8_init_90 : decode cX8_init 90 = .ok (.aload_n 0, 1) := by decide +kernel
theorem dX8_init_91 : decode cX8_init 91 = .ok (.bipush 6, 2) := by decide +kernel
theorem dX8_init_93 : decode cX8_init 93 = .ok (.newarray .int, 2) := by decide +kernel
theorem dX8_init_95 : decode cX8_init 95 = .ok (.putfield 44, 3) := by decide +kernel
theorem dX8_init_98 : decode cX8_init 98 = .ok (.aload_n 0, 1) := by decide +kernel
theorem dX8_init_99 : decode cX8_init 99 = .ok (.bipush 6, 2) := by decide +kernel
theorem dX8_init_101 : decode cX8_init 101 = .ok (.newarray .int, 2) := by decide +kernel
theorem dX8_init_103 : decode cX8_init 103 = .ok (.putfield 47, 3) := by decide +kernel
theorem dX8_init_106 : decode cX8_init 106 = .ok (.aload_n 0, 1) := by decide +kernel
theorem dX8_init_107 : decode cX8_init 107 = .ok (.bipush 30, 2) := by decide +kernel
theorem dX8_init_109 : decode cX8_init 109 = .ok (.newarray .int, 2) := by decide +kernel
theorem dX8_init_111 : decode cX8_init 111 = .ok (.putfield 50, 3) := by decide +kernel
theorem dX8_init_114 : decode cX8_init 114 = .ok (.aload_n 0, 1) := by decide +kernel
theorem dX8_init_115 : decode cX8_init 115 = .ok (.bipush (-9), 2) := by decide +kernel
theorem dX8_init_117 : decode cX8_init 117 = .ok (.putfield 53, 3) := by decide +kernel
theorem dX8_init_120 : decode cX8_init 120 = .ok (.aload_n 0, 1) := by decide +kernel
theorem dX8_init_121 : decode cX8_init 121 = .ok (.bipush 114, 2) := by decide +kernel
theorem dX8_init_123 : decode cX8_init 123 = .ok (.newarray .int, 2) := by decide +kernel
theorem dX8_init_125 : decode cX8_init 125 = .ok (.putfield 57, 3) := by decide +kernel
theorem dX8_init_128 : decode cX8_init 128 = .ok (.aload_n 0, 1) := by decide +kernel
theorem dX8_init_129 : decode cX8_init 129 = .ok (.bipush 8, 2) := by decide +kernel
theorem dX8_init_131 : decode cX8_init 131 = .ok (.newarray .int, 2) := by decide +kernel
theorem dX8_init_133 : decode cX8_init 133 = .ok (.putfield 60, 3) := by decide +kernel
theorem dX8_init_136 : decode cX8_init 136 = .ok (.aload_n 0, 1) := by decide +kernel
theorem dX8_init_137 : decode cX8_init 137 = .ok (.bipush 6, 2) := by decide +kernel
theorem dX8_init_139 : decode cX8_init 139 = .ok (.newarray .int, 2) := by decide +kernel
theorem dX8_init_141 : decode cX8_init 141 = .ok (.putfield 63, 3) := by decide +kernel
theorem dX8_init_144 : decode cX8_init 144 = .ok (.aload_n 0, 1) := by decide +kernel
theorem dX8_init_145 : decode cX8_init 145 = .ok (.bipush 6, 2) := by decide +kernel
theorem dX8_init_147 : decode cX8_init 147 = .ok (.newarray .int, 2) := by decide +kernel
theorem dX8_init_149 : decode cX8_init 149 = .ok (.putfield 66, 3) := by decide +kernel
theorem dX8_init_152 : decode cX8_init 152 = .ok (.aload_n 0, 1) := by decide +kernel
theorem dX8_init_153 : decode cX8_init 153 = .ok (.bipush 6, 2) := by decide +kernel
theorem dX8_init_155 : decode cX8_init 155 = .ok (.newarray .int, 2) := by decide +kernel
theorem dX8_init_157 : decode cX8_init 157 = .ok (.putfield 69, 3) := by decide +kernel
theorem dX8_init_160 : decode cX8_init 160 = .ok (.iconst 0, 1) := by decide +kernel
theorem dX8_init_161 : decode cX8_init 161 = .ok (.istore_n 1, 1) := by decide +kernel
theorem dX8_init_162 : decode cX8_init 162 = .ok (.iload_n 1, 1) := by decide +kernel
theorem dX8_init_163 : decode cX8_init 163 = .ok (.bipush 6, 2) := by decide +kernel
theorem dX8_init_165 : decode cX8_init 165 = .ok (.if_icmp .ge 17, 3) := by decide +kernel
theorem dX8_init_168 : decode cX8_init 168 = .ok (.aload_n 0, 1) := by decide +kernel
theorem dX8_init_169 : decode cX8_init 169 = .ok (.getfield 17, 3) := by decide +kernel
theorem dX8_init_172 : decode cX8_init 172 = .ok (.iload_n 1, 1) := by decide +kernel
theorem dX8_init_173 : decode cX8_init 173 = .ok (.bipush (-9), 2) := by decide +kernel
theorem dX8_init_175 : decode cX8_init 175 = .ok (.iastore, 1) := by decide +kernel
theorem dX8_init_176 : decode cX8_init 176 = .ok (.iinc 1 1, 3) := by decide +kernel
theorem dX8_init_179 : decode cX8_init 179 = .ok (.goto (-17), 3) := by decide +kernel
theorem dX8_init_182 : decode cX8_init 182 = .ok (.iconst 0, 1) := by decide +kernel
theorem dX8_init_183 : decode cX8_init 183 = .ok (.istore_n 1, 1) := by decide +kernel
theorem dX8_init_184 : decode cX8_init 184 = .ok (.iload_n 1, 1) := by decide +kernel
theorem dX8_init_185 : decode cX8_init 185 = .ok (.iconst 4, 1) := by decide +kernel
theorem dX8_init_186 : decode cX8_init 186 = .ok (.if_icmp .ge 17, 3) := by decide +kernel
theorem dX8_init_189 : decode cX8_init 189 = .ok (.aload_n 0, 1) := by decide +kernel
theorem dX8_init_190 : decode cX8_init 190 = .ok (.getfield 26, 3) := by decide +kernel
theorem dX8_init_193 : decode cX8_init 193 = .ok (.iload_n 1, 1) := by decide +kernel
theorem dX8_init_194 : decode cX8_init 194 = .ok (.bipush (-9), 2) := by decide +kernel
theorem dX8_init_196 : decode cX8_init 196 = .ok (.iastore, 1) := by decide +kernel
theorem dX8_init_197 : decode cX8_init 197 = .ok (.iinc 1 1, 3) := by decide +kernel
theorem dX8_init_200 : decode cX8_init 200 = .ok (.goto (-16), 3) := by decide +kernel
theorem dX8_init_203 : decode cX8_init 203 = .ok (.iconst 0, 1) := by decide +kernel
theorem dX8_init_204 : decode cX8_init 204 = .ok (.istore_n 1, 1) := by decide +kernel
theorem dX8_init_205 : decode cX8_init 205 = .ok (.iload_n 1, 1) := by decide +kernel
theorem dX8_init_206 : decode cX8_init 206 = .ok (.iconst 3, 1) := by decide +kernel
theorem dX8_init_207 : decode cX8_init 207 = .ok (.if_icmp .ge 20, 3) := by decide +kernel
theorem dX8_init_210 : decode cX8_init 210 = .ok (.aload_n 0, 1) := by decide +kernel
theorem dX8_init_211 : decode cX8_init 211 = .ok (.getfield 57, 3) := by decide +kernel
theorem dX8_init_214 : decode cX8_init 214 = .ok (.bipush 38, 2) := by decide +kernel
theorem dX8_init_216 : decode cX8_init 216 = .ok (.iload_n 1, 1) := by decide +kernel
theorem dX8_init_217 : decode cX8_init 217 = .ok (.imul, 1) := by decide +kernel
theorem dX8_init_218 : decode cX8_init 218 = .ok (.bipush (-9), 2) := by decide +kernel
theorem dX8_init_220 : decode cX8_init 220 = .ok (.iastore, 1) := by decide +kernel
theorem dX8_init_221 : decode cX8_init 221 = .ok (.iinc 1 1, 3) := by decide +kernel
theorem dX8_init_224 : decode cX8_init 224 = .ok (.goto (-19), 3) := by decide +kernel
theorem dX8_init_227 : decode cX8_init 227 = .ok (.return_, 1) := by decide +kernel
theorem dX8_in_0 : decode cX8_in 0 = .ok (.iload_n 0, 1) := by decide +kernel
theorem dX8_in_1 : decode cX8_in 1 = .ok (.iload_n 1, 1) := by decide +kernel
theorem dX8_in_2 : decode cX8_in 2 = .ok (.if_icmp .lt 12, 3) := by decide +kernel
theorem dX8_in_5 : decode cX8_in 5 = .ok (.iload_n 0, 1) := by decide +kernel
theorem dX8_in_6 : decode cX8_in 6 = .ok (.iload_n 2, 1) := by decide +kernel
theorem dX8_in_7 : decode cX8_in 7 = .ok (.if_icmp .gt 7, 3) := by decide +kernel
theorem dX8_in_10 : decode cX8_in 10 = .ok (.iconst 1, 1) := by decide +kernel
theorem dX8_in_11 : decode cX8_in 11 = .ok (.goto 4, 3) := by decide +kernel
theorem dX8_in_14 : decode cX8_in 14 = .ok (.iconst 0, 1) := by decide +kernel
theorem dX8_in_15 : decode cX8_in 15 = .ok (.ireturn, 1) := by decide +kernel
theorem dX8_meet_0 : decode cX8_meet 0 = .ok (.aload_n 0, 1) := by decide +kernel
theorem dX8_meet_1 : decode cX8_meet 1 = .ok (.iload_n 1, 1) := by decide +kernel
theorem dX8_meet_2 : decode cX8_meet 2 = .ok (.putfield 72, 3) := by decide +kernel
theorem dX8_meet_5 : decode cX8_meet 5 = .ok (.aload_n 0, 1) := by decide +kernel
theorem dX8_meet_6 : decode cX8_meet 6 = .ok (.getfield 7, 3) := by decide +kernel
theorem dX8_meet_9 : decode cX8_meet 9 = .ok (.iload_n 1, 1) := by decide +kernel
theorem dX8_meet_10 : decode cX8_meet 10 = .ok (.dup2, 1) := by decide +kernel
theorem dX8_meet_11 : decode cX8_meet 11 = .ok (.iaload, 1) := by decide +kernel
theorem dX8_meet_12 : decode cX8_meet 12 = .ok (.iconst 1, 1) := by decide +kernel
theorem dX8_meet_13 : decode cX8_meet 13 = .ok (.iadd, 1) := by decide +kernel
theorem dX8_meet_14 : decode cX8_meet 14 = .ok (.iastore, 1) := by decide +kernel
theorem dX8_meet_15 : decode cX8_meet 15 = .ok (.bipush (-3), 2) := by decide +kernel
theorem dX8_meet_17 : decode cX8_meet 17 = .ok (.ireturn, 1) := by decide +kernel
theorem dX8_ask_0 : decode cX8_ask 0 = .ok (.aload_n 0, 1) := by decide +kernel
theorem dX8_ask_1 : decode cX8_ask 1 = .ok (.iload_n 1, 1) := by decide +kernel
theorem dX8_ask_2 : decode cX8_ask 2 = .ok (.putfield 75, 3) := by decide +kernel
theorem dX8_ask_5 : decode cX8_ask 5 = .ok (.iload_n 2, 1) := by decide +kernel
theorem dX8_ask_6 : decode cX8_ask 6 = .ok (.ireturn, 1) := by decide +kernel
theorem dX8_has_0 : decode cX8_has 0 = .ok (.iload_n 0, 1) := by decide +kernel
theorem dX8_has_1 : decode cX8_has 1 = .ok (.iload_n 1, 1) := by decide +kernel
theorem dX8_has_2 : decode cX8_has 2 = .ok (.ishr, 1) := by decide +kernel
theorem dX8_has_3 : decode cX8_has 3 = .ok (.iconst 1, 1) := by decide +kernel
theorem dX8_has_4 : decode cX8_has 4 = .ok (.iand, 1) := by decide +kernel
theorem dX8_has_5 : decode cX8_has 5 = .ok (.iconst 1, 1) := by decide +kernel
theorem dX8_has_6 : decode cX8_has 6 = .ok (.if_icmp .ne 7, 3) := by decide +kernel
theorem dX8_has_9 : decode cX8_has 9 = .ok (.iconst 1, 1) := by decide +kernel
theorem dX8_has_10 : decode cX8_has 10 = .ok (.goto 4, 3) := by decide +kernel
theorem dX8_has_13 : decode cX8_has 13 = .ok (.iconst 0, 1) := by decide +kernel
theorem dX8_has_14 : decode cX8_has 14 = .ok (.ireturn, 1) := by decide +kernel
theorem dX8_sizeOf_0 : decode cX8_sizeOf 0 = .ok (.iconst 0, 1) := by decide +kernel
theorem dX8_sizeOf_1 : decode cX8_sizeOf 1 = .ok (.istore_n 1, 1) := by decide +kernel
theorem dX8_sizeOf_2 : decode cX8_sizeOf 2 = .ok (.iconst 0, 1) := by decide +kernel
theorem dX8_sizeOf_3 : decode cX8_sizeOf 3 = .ok (.istore_n 2, 1) := by decide +kernel
theorem dX8_sizeOf_4 : decode cX8_sizeOf 4 = .ok (.iload_n 2, 1) := by decide +kernel
theorem dX8_sizeOf_5 : decode cX8_sizeOf 5 = .ok (.bipush 8, 2) := by decide +kernel
theorem dX8_sizeOf_7 : decode cX8_sizeOf 7 = .ok (.if_icmp .ge 17, 3) := by decide +kernel
theorem dX8_sizeOf_10 : decode cX8_sizeOf 10 = .ok (.iload_n 1, 1) := by decide +kernel
theorem dX8_sizeOf_11 : decode cX8_sizeOf 11 = .ok (.iload_n 0, 1) := by decide +kernel
theorem dX8_sizeOf_12 : decode cX8_sizeOf 12 = .ok (.iload_n 2, 1) := by decide +kernel
theorem dX8_sizeOf_13 : decode cX8_sizeOf 13 = .ok (.ishr, 1) := by decide +kernel
theorem dX8_sizeOf_14 : decode cX8_sizeOf 14 = .ok (.iconst 1, 1) := by decide +kernel
theorem dX8_sizeOf_15 : decode cX8_sizeOf 15 = .ok (.iand, 1) := by decide +kernel
theorem dX8_sizeOf_16 : decode cX8_sizeOf 16 = .ok (.iadd, 1) := by decide +kernel
theorem dX8_sizeOf_17 : decode cX8_sizeOf 17 = .ok (.istore_n 1, 1) := by decide +kernel
theorem dX8_sizeOf_18 : decode cX8_sizeOf 18 = .ok (.iinc 2 1, 3) := by decide +kernel
theorem dX8_sizeOf_21 : decode cX8_sizeOf 21 = .ok (.goto (-17), 3) := by decide +kernel
theorem dX8_sizeOf_24 : decode cX8_sizeOf 24 = .ok (.iload_n 1, 1) := by decide +kernel
theorem dX8_sizeOf_25 : decode cX8_sizeOf 25 = .ok (.ireturn, 1) := by decide +kernel
theorem dX8_isRow_0 : decode cX8_isRow 0 = .ok (.iload_n 0, 1) := by decide +kernel
theorem dX8_isRow_1 : decode cX8_isRow 1 = .ok (.iconst 0, 1) := by decide +kernel
theorem dX8_isRow_2 : decode cX8_isRow 2 = .ok (.iconst 5, 1) := by decide +kernel
theorem dX8_isRow_3 : decode cX8_isRow 3 = .ok (.invokestatic 78, 3) := by decide +kernel
theorem dX8_isRow_6 : decode cX8_isRow 6 = .ok (.ireturn, 1) := by decide +kernel
theorem dX8_isText_0 : decode cX8_isText 0 = .ok (.iload_n 0, 1) := by decide +kernel
theorem dX8_isText_1 : decode cX8_isText 1 = .ok (.iconst 0, 1) := by decide +kernel
theorem dX8_isText_2 : decode cX8_isText 2 = .ok (.iconst 3, 1) := by decide +kernel
theorem dX8_isText_3 : decode cX8_isText 3 = .ok (.invokestatic 78, 3) := by decide +kernel
theorem dX8_isText_6 : decode cX8_isText 6 = .ok (.ireturn, 1) := by decide +kernel
theorem dX8_askedRow_0 : decode cX8_askedRow 0 = .ok (.iload_n 1, 1) := by decide +kernel
theorem dX8_askedRow_1 : decode cX8_askedRow 1 = .ok (.invokestatic 82, 3) := by decide +kernel
theorem dX8_askedRow_4 : decode cX8_askedRow 4 = .ok (.ifCond .ne 7, 3) := by decide +kernel
theorem dX8_askedRow_7 : decode cX8_askedRow 7 = .ok (.iconst (-1), 1) := by decide +kernel
theorem dX8_askedRow_8 : decode cX8_askedRow 8 = .ok (.goto 21, 3) := by decide +kernel
theorem dX8_askedRow_11 : decode cX8_askedRow 11 = .ok (.aload_n 0, 1) := by decide +kernel
theorem dX8_askedRow_12 : decode cX8_askedRow 12 = .ok (.getfield 17, 3) := by decide +kernel
theorem dX8_askedRow_15 : decode cX8_askedRow 15 = .ok (.iload_n 1, 1) := by decide +kernel
theorem dX8_askedRow_16 : decode cX8_askedRow 16 = .ok (.iaload, 1) := by decide +kernel
theorem dX8_askedRow_17 : decode cX8_askedRow 17 = .ok (.ifCond .ge 11, 3) := by decide +kernel
theorem dX8_askedRow_20 : decode cX8_askedRow 20 = .ok (.aload_n 0, 1) := by decide +kernel
theorem dX8_askedRow_21 : decode cX8_askedRow 21 = .ok (.iconst 1, 1) := by decide +kernel
theorem dX8_askedRow_22 : decode cX8_askedRow 22 = .ok (.invokevirtual 86, 3) := by decide +kernel
theorem dX8_askedRow_25 : decode cX8_askedRow 25 = .ok (.goto 4, 3) := by decide +kernel
theorem dX8_askedRow_28 : decode cX8_askedRow 28 = .ok (.iconst 0, 1) := by decide +kernel
theorem dX8_askedRow_29 : decode cX8_askedRow 29 = .ok (.ireturn, 1) := by decide +kernel
theorem dX8_askedText_0 : decode cX8_askedText 0 = .ok (.iload_n 1, 1) := by decide +kernel
theorem dX8_askedText_1 : decode cX8_askedText 1 = .ok (.invokestatic 90, 3) := by decide +kernel
theorem dX8_askedText_4 : decode cX8_askedText 4 = .ok (.ifCond .ne 7, 3) := by decide +kernel
theorem dX8_askedText_7 : decode cX8_askedText 7 = .ok (.iconst (-1), 1) := by decide +kernel
theorem dX8_askedText_8 : decode cX8_askedText 8 = .ok (.goto 21, 3) := by decide +kernel
theorem dX8_askedText_11 : decode cX8_askedText 11 = .ok (.aload_n 0, 1) := by decide +kernel
theorem dX8_askedText_12 : decode cX8_askedText 12 = .ok (.getfield 26, 3) := by decide +kernel
theorem dX8_askedText_15 : decode cX8_askedText 15 = .ok (.iload_n 1, 1) := by decide +kernel
theorem dX8_askedText_16 : decode cX8_askedText 16 = .ok (.iaload, 1) := by decide +kernel
theorem dX8_askedText_17 : decode cX8_askedText 17 = .ok (.ifCond .ge 11, 3) := by decide +kernel
theorem dX8_askedText_20 : decode cX8_askedText 20 = .ok (.aload_n 0, 1) := by decide +kernel
theorem dX8_askedText_21 : decode cX8_askedText 21 = .ok (.iconst 1, 1) := by decide +kernel
theorem dX8_askedText_22 : decode cX8_askedText 22 = .ok (.invokevirtual 86, 3) := by decide +kernel
theorem dX8_askedText_25 : decode cX8_askedText 25 = .ok (.goto 4, 3) := by decide +kernel
theorem dX8_askedText_28 : decode cX8_askedText 28 = .ok (.iconst 0, 1) := by decide +kernel
theorem dX8_askedText_29 : decode cX8_askedText 29 = .ok (.ireturn, 1) := by decide +kernel
theorem dX8_rowAt_0 : decode cX8_rowAt 0 = .ok (.aload_n 0, 1) := by decide +kernel
theorem dX8_rowAt_1 : decode cX8_rowAt 1 = .ok (.getfield 20, 3) := by decide +kernel
theorem dX8_rowAt_4 : decode cX8_rowAt 4 = .ok (.bipush 40, 2) := by decide +kernel
theorem dX8_rowAt_6 : decode cX8_rowAt 6 = .ok (.iload_n 1, 1) := by decide +kernel
theorem dX8_rowAt_7 : decode cX8_rowAt 7 = .ok (.imul, 1) := by decide +kernel
theorem dX8_rowAt_8 : decode cX8_rowAt 8 = .ok (.iload_n 2, 1) := by decide +kernel
theorem dX8_rowAt_9 : decode cX8_rowAt 9 = .ok (.iadd, 1) := by decide +kernel
theorem dX8_rowAt_10 : decode cX8_rowAt 10 = .ok (.iaload, 1) := by decide +kernel
theorem dX8_rowAt_11 : decode cX8_rowAt 11 = .ok (.ireturn, 1) := by decide +kernel
theorem dX8_setRow_0 : decode cX8_setRow 0 = .ok (.aload_n 0, 1) := by decide +kernel
theorem dX8_setRow_1 : decode cX8_setRow 1 = .ok (.getfield 20, 3) := by decide +kernel
theorem dX8_setRow_4 : decode cX8_setRow 4 = .ok (.bipush 40, 2) := by decide +kernel
theorem dX8_setRow_6 : decode cX8_setRow 6 = .ok (.iload_n 1, 1) := by decide +kernel
theorem dX8_setRow_7 : decode cX8_setRow 7 = .ok (.imul, 1) := by decide +kernel
theorem dX8_setRow_8 : decode cX8_setRow 8 = .ok (.iload_n 2, 1) := by decide +kernel
theorem dX8_setRow_9 : decode cX8_setRow 9 = .ok (.iadd, 1) := by decide +kernel
theorem dX8_setRow_10 : decode cX8_setRow 10 = .ok (.iload_n 3, 1) := by decide +kernel
theorem dX8_setRow_11 : decode cX8_setRow 11 = .ok (.iastore, 1) := by decide +kernel
theorem dX8_setRow_12 : decode cX8_setRow 12 = .ok (.return_, 1) := by decide +kernel
theorem dX8_row_0 : decode cX8_row 0 = .ok (.iload_n 1, 1) := by decide +kernel
theorem dX8_row_1 : decode cX8_row 1 = .ok (.invokestatic 82, 3) := by decide +kernel
theorem dX8_row_4 : decode cX8_row 4 = .ok (.ifCond .eq 9, 3) := by decide +kernel
theorem dX8_row_7 : decode cX8_row 7 = .ok (.iload_n 2, 1) := by decide +kernel
theorem dX8_row_8 : decode cX8_row 8 = .ok (.bipush 40, 2) := by decide +kernel
theorem dX8_row_10 : decode cX8_row 10 = .ok (.if_icmp .le 5, 3) := by decide +kernel
theorem dX8_row_13 : decode cX8_row 13 = .ok (.iconst (-1), 1) := by decide +kernel
theorem dX8_row_14 : decode cX8_row 14 = .ok (.ireturn, 1) := by decide +kernel
theorem dX8_row_15 : decode cX8_row 15 = .ok (.iload_n 2, 1) := by decide +kernel
theorem dX8_row_16 : decode cX8_row 16 = .ok (.ifCond .ge 9, 3) := by decide +kernel
theorem dX8_row_19 : decode cX8_row 19 = .ok (.aload_n 0, 1) := by decide +kernel
theorem dX8_row_20 : decode cX8_row 20 = .ok (.iconst 5, 1) := by decide +kernel
theorem dX8_row_21 : decode cX8_row 21 = .ok (.invokevirtual 86, 3) := by decide +kernel
theorem dX8_row_24 : decode cX8_row 24 = .ok (.ireturn, 1) := by decide +kernel
theorem dX8_row_25 : decode cX8_row 25 = .ok (.aload_n 0, 1) := by decide +kernel
theorem dX8_row_26 : decode cX8_row 26 = .ok (.getfield 17, 3) := by decide +kernel
theorem dX8_row_29 : decode cX8_row 29 = .ok (.iload_n 1, 1) := by decide +kernel
theorem dX8_row_30 : decode cX8_row 30 = .ok (.iload_n 2, 1) := by decide +kernel
theorem dX8_row_31 : decode cX8_row 31 = .ok (.iastore, 1) := by decide +kernel
theorem dX8_row_32 : decode cX8_row 32 = .ok (.iconst 0, 1) := by decide +kernel
theorem dX8_row_33 : decode cX8_row 33 = .ok (.istore_n 3, 1) := by decide +kernel
theorem dX8_row_34 : decode cX8_row 34 = .ok (.iload_n 3, 1) := by decide +kernel
theorem dX8_row_35 : decode cX8_row 35 = .ok (.bipush 40, 2) := by decide +kernel
theorem dX8_row_37 : decode cX8_row 37 = .ok (.if_icmp .ge 16, 3) := by decide +kernel
theorem dX8_row_40 : decode cX8_row 40 = .ok (.aload_n 0, 1) := by decide +kernel
theorem dX8_row_41 : decode cX8_row 41 = .ok (.iload_n 1, 1) := by decide +kernel
theorem dX8_row_42 : decode cX8_row 42 = .ok (.iload_n 3, 1) := by decide +kernel
theorem dX8_row_43 : decode cX8_row 43 = .ok (.iconst 0, 1) := by decide +kernel
theorem dX8_row_44 : decode cX8_row 44 = .ok (.invokevirtual 93, 3) := by decide +kernel
theorem dX8_row_47 : decode cX8_row 47 = .ok (.iinc 3 1, 3) := by decide +kernel
theorem dX8_row_50 : decode cX8_row 50 = .ok (.goto (-16), 3) := by decide +kernel
theorem dX8_row_53 : decode cX8_row 53 = .ok (.iload_n 2, 1) := by decide +kernel
theorem dX8_row_54 : decode cX8_row 54 = .ok (.ireturn, 1) := by decide +kernel
theorem dX8_at_0 : decode cX8_at 0 = .ok (.aload_n 0, 1) := by decide +kernel
theorem dX8_at_1 : decode cX8_at 1 = .ok (.iload_n 1, 1) := by decide +kernel
theorem dX8_at_2 : decode cX8_at 2 = .ok (.invokevirtual 97, 3) := by decide +kernel
theorem dX8_at_5 : decode cX8_at 5 = .ok (.istore_n 3, 1) := by decide +kernel
theorem dX8_at_6 : decode cX8_at 6 = .ok (.iload_n 3, 1) := by decide +kernel
theorem dX8_at_7 : decode cX8_at 7 = .ok (.ifCond .ge 5, 3) := by decide +kernel
theorem dX8_at_10 : decode cX8_at 10 = .ok (.iload_n 3, 1) := by decide +kernel
theorem dX8_at_11 : decode cX8_at 11 = .ok (.ireturn, 1) := by decide +kernel
theorem dX8_at_12 : decode cX8_at 12 = .ok (.iload_n 2, 1) := by decide +kernel
theorem dX8_at_13 : decode cX8_at 13 = .ok (.iconst 0, 1) := by decide +kernel
theorem dX8_at_14 : decode cX8_at 14 = .ok (.aload_n 0, 1) := by decide +kernel
theorem dX8_at_15 : decode cX8_at 15 = .ok (.getfield 17, 3) := by decide +kernel
theorem dX8_at_18 : decode cX8_at 18 = .ok (.iload_n 1, 1) := by decide +kernel
theorem dX8_at_19 : decode cX8_at 19 = .ok (.iaload, 1) := by decide +kernel
theorem dX8_at_20 : decode cX8_at 20 = .ok (.iconst 1, 1) := by decide +kernel
theorem dX8_at_21 : decode cX8_at 21 = .ok (.isub, 1) := by decide +kernel
theorem dX8_at_22 : decode cX8_at 22 = .ok (.invokestatic 78, 3) := by decide +kernel
theorem dX8_at_25 : decode cX8_at 25 = .ok (.ifCond .eq 17, 3) := by decide +kernel
theorem dX8_at_28 : decode cX8_at 28 = .ok (.aload_n 0, 1) := by decide +kernel
theorem dX8_at_29 : decode cX8_at 29 = .ok (.aload_n 0, 1) := by decide +kernel
theorem dX8_at_30 : decode cX8_at 30 = .ok (.iload_n 1, 1) := by decide +kernel
theorem dX8_at_31 : decode cX8_at 31 = .ok (.iload_n 2, 1) := by decide +kernel
theorem dX8_at_32 : decode cX8_at 32 = .ok (.invokevirtual 100, 3) := by decide +kernel
theorem dX8_at_35 : decode cX8_at 35 = .ok (.iconst 1, 1) := by decide +kernel
theorem dX8_at_36 : decode cX8_at 36 = .ok (.invokevirtual 104, 3) := by decide +kernel
theorem dX8_at_39 : decode cX8_at 39 = .ok (.goto 8, 3) := by decide +kernel
theorem dX8_at_42 : decode cX8_at 42 = .ok (.aload_n 0, 1) := by decide +kernel
theorem dX8_at_43 : decode cX8_at 43 = .ok (.iconst 2, 1) := by decide +kernel
theorem dX8_at_44 : decode cX8_at 44 = .ok (.invokevirtual 86, 3) := by decide +kernel
theorem dX8_at_47 : decode cX8_at 47 = .ok (.ireturn, 1) := by decide +kernel
theorem dX8_lay_0 : decode cX8_lay 0 = .ok (.aload_n 0, 1) := by decide +kernel
theorem dX8_lay_1 : decode cX8_lay 1 = .ok (.iload_n 1, 1) := by decide +kernel
theorem dX8_lay_2 : decode cX8_lay 2 = .ok (.iload_n 2, 1) := by decide +kernel
theorem dX8_lay_3 : decode cX8_lay 3 = .ok (.invokevirtual 107, 3) := by decide +kernel
theorem dX8_lay_6 : decode cX8_lay 6 = .ok (.istore 4, 2) := by decide +kernel
theorem dX8_lay_8 : decode cX8_lay 8 = .ok (.iload 4, 2) := by decide +kernel
theorem dX8_lay_10 : decode cX8_lay 10 = .ok (.ifCond .ge 6, 3) := by decide +kernel
theorem dX8_lay_13 : decode cX8_lay 13 = .ok (.iload 4, 2) := by decide +kernel
theorem dX8_lay_15 : decode cX8_lay 15 = .ok (.ireturn, 1) := by decide +kernel
theorem dX8_lay_16 : decode cX8_lay 16 = .ok (.aload_n 0, 1) := by decide +kernel
theorem dX8_lay_17 : decode cX8_lay 17 = .ok (.iload_n 1, 1) := by decide +kernel
theorem dX8_lay_18 : decode cX8_lay 18 = .ok (.iload_n 2, 1) := by decide +kernel
theorem dX8_lay_19 : decode cX8_lay 19 = .ok (.iload_n 3, 1) := by decide +kernel
theorem dX8_lay_20 : decode cX8_lay 20 = .ok (.invokevirtual 93, 3) := by decide +kernel
theorem dX8_lay_23 : decode cX8_lay 23 = .ok (.iconst 1, 1) := by decide +kernel
theorem dX8_lay_24 : decode cX8_lay 24 = .ok (.ireturn, 1) := by decide +kernel
theorem dX8_tear_0 : decode cX8_tear 0 = .ok (.aload_n 0, 1) := by decide +kernel
theorem dX8_tear_1 : decode cX8_tear 1 = .ok (.iload_n 1, 1) := by decide +kernel
theorem dX8_tear_2 : decode cX8_tear 2 = .ok (.invokevirtual 97, 3) := by decide +kernel
theorem dX8_tear_5 : decode cX8_tear 5 = .ok (.istore_n 2, 1) := by decide +kernel
theorem dX8_tear_6 : decode cX8_tear 6 = .ok (.iload_n 2, 1) := by decide +kernel
theorem dX8_tear_7 : decode cX8_tear 7 = .ok (.ifCond .ge 5, 3) := by decide +kernel
theorem dX8_tear_10 : decode cX8_tear 10 = .ok (.iload_n 2, 1) := by decide +kernel
theorem dX8_tear_11 : decode cX8_tear 11 = .ok (.ireturn, 1) := by decide +kernel
theorem dX8_tear_12 : decode cX8_tear 12 = .ok (.aload_n 0, 1) := by decide +kernel
theorem dX8_tear_13 : decode cX8_tear 13 = .ok (.getfield 17, 3) := by decide +kernel
theorem dX8_tear_16 : decode cX8_tear 16 = .ok (.iload_n 1, 1) := by decide +kernel
theorem dX8_tear_17 : decode cX8_tear 17 = .ok (.bipush (-9), 2) := by decide +kernel
theorem dX8_tear_19 : decode cX8_tear 19 = .ok (.iastore, 1) := by decide +kernel
theorem dX8_tear_20 : decode cX8_tear 20 = .ok (.iconst 1, 1) := by decide +kernel
theorem dX8_tear_21 : decode cX8_tear 21 = .ok (.ireturn, 1) := by decide +kernel
theorem dX8_copy_0 : decode cX8_copy 0 = .ok (.iload_n 1, 1) := by decide +kernel
theorem dX8_copy_1 : decode cX8_copy 1 = .ok (.invokestatic 82, 3) := by decide +kernel
theorem dX8_copy_4 : decode cX8_copy 4 = .ok (.ifCond .eq 10, 3) := by decide +kernel
theorem dX8_copy_7 : decode cX8_copy 7 = .ok (.iload_n 3, 1) := by decide +kernel
theorem dX8_copy_8 : decode cX8_copy 8 = .ok (.invokestatic 82, 3) := by decide +kernel
theorem dX8_copy_11 : decode cX8_copy 11 = .ok (.ifCond .ne 5, 3) := by decide +kernel
theorem dX8_copy_14 : decode cX8_copy 14 = .ok (.iconst (-1), 1) := by decide +kernel
theorem dX8_copy_15 : decode cX8_copy 15 = .ok (.ireturn, 1) := by decide +kernel
theorem dX8_copy_16 : decode cX8_copy 16 = .ok (.iload 5, 2) := by decide +kernel
theorem dX8_copy_18 : decode cX8_copy 18 = .ok (.ifCond .ge 9, 3) := by decide +kernel
theorem dX8_copy_21 : decode cX8_copy 21 = .ok (.aload_n 0, 1) := by decide +kernel
theorem dX8_copy_22 : decode cX8_copy 22 = .ok (.iconst 5, 1) := by decide +kernel
theorem dX8_copy_23 : decode cX8_copy 23 = .ok (.invokevirtual 86, 3) := by decide +kernel
theorem dX8_copy_26 : decode cX8_copy 26 = .ok (.ireturn, 1) := by decide +kernel
theorem dX8_copy_27 : decode cX8_copy 27 = .ok (.aload_n 0, 1) := by decide +kernel
theorem dX8_copy_28 : decode cX8_copy 28 = .ok (.getfield 17, 3) := by decide +kernel
theorem dX8_copy_31 : decode cX8_copy 31 = .ok (.iload_n 1, 1) := by decide +kernel
theorem dX8_copy_32 : decode cX8_copy 32 = .ok (.iaload, 1) := by decide +kernel
theorem dX8_copy_33 : decode cX8_copy 33 = .ok (.ifCond .lt 12, 3) := by decide +kernel
theorem dX8_copy_36 : decode cX8_copy 36 = .ok (.aload_n 0, 1) := by decide +kernel
theorem dX8_copy_37 : decode cX8_copy 37 = .ok (.getfield 17, 3) := by decide +kernel
theorem dX8_copy_40 : decode cX8_copy 40 = .ok (.iload_n 3, 1) := by decide +kernel
theorem dX8_copy_41 : decode cX8_copy 41 = .ok (.iaload, 1) := by decide +kernel
theorem dX8_copy_42 : decode cX8_copy 42 = .ok (.ifCond .ge 9, 3) := by decide +kernel
theorem dX8_copy_45 : decode cX8_copy 45 = .ok (.aload_n 0, 1) := by decide +kernel
theorem dX8_copy_46 : decode cX8_copy 46 = .ok (.iconst 1, 1) := by decide +kernel
theorem dX8_copy_47 : decode cX8_copy 47 = .ok (.invokevirtual 86, 3) := by decide +kernel
theorem dX8_copy_50 : decode cX8_copy 50 = .ok (.ireturn, 1) := by decide +kernel
theorem dX8_copy_51 : decode cX8_copy 51 = .ok (.iload_n 2, 1) := by decide +kernel
theorem dX8_copy_52 : decode cX8_copy 52 = .ok (.ifCond .lt 43, 3) := by decide +kernel
theorem dX8_copy_55 : decode cX8_copy 55 = .ok (.iload 4, 2) := by decide +kernel
theorem dX8_copy_57 : decode cX8_copy 57 = .ok (.ifCond .lt 38, 3) := by decide +kernel
theorem dX8_copy_60 : decode cX8_copy 60 = .ok (.iload_n 2, 1) := by decide +kernel
theorem dX8_copy_61 : decode cX8_copy 61 = .ok (.i2l, 1) := by decide +kernel
theorem dX8_copy_62 : decode cX8_copy 62 = .ok (.iload 5, 2) := by decide +kernel
theorem dX8_copy_64 : decode cX8_copy 64 = .ok (.i2l, 1) := by decide +kernel
theorem dX8_copy_65 : decode cX8_copy 65 = .ok (.ladd, 1) := by decide +kernel
theorem dX8_copy_66 : decode cX8_copy 66 = .ok (.aload_n 0, 1) := by decide +kernel
theorem dX8_copy_67 : decode cX8_copy 67 = .ok (.getfield 17, 3) := by decide +kernel
theorem dX8_copy_70 : decode cX8_copy 70 = .ok (.iload_n 1, 1) := by decide +kernel
theorem dX8_copy_71 : decode cX8_copy 71 = .ok (.iaload, 1) := by decide +kernel
theorem dX8_copy_72 : decode cX8_copy 72 = .ok (.i2l, 1) := by decide +kernel
theorem dX8_copy_73 : decode cX8_copy 73 = .ok (.lcmp, 1) := by decide +kernel
theorem dX8_copy_74 : decode cX8_copy 74 = .ok (.ifCond .gt 21, 3) := by decide +kernel
theorem dX8_copy_77 : decode cX8_copy 77 = .ok (.iload 4, 2) := by decide +kernel
theorem dX8_copy_79 : decode cX8_copy 79 = .ok (.i2l, 1) := by decide +kernel
theorem dX8_copy_80 : decode cX8_copy 80 = .ok (.iload 5, 2) := by decide +kernel
theorem dX8_copy_82 : decode cX8_copy 82 = .ok (.i2l, 1) := by decide +kernel
theorem dX8_copy_83 : decode cX8_copy 83 = .ok (.ladd, 1) := by decide +kernel
theorem dX8_copy_84 : decode cX8_copy 84 = .ok (.aload_n 0, 1) := by decide +kernel
theorem dX8_copy_85 : decode cX8_copy 85 = .ok (.getfield 17, 3) := by decide +kernel
theorem dX8_copy_88 : decode cX8_copy 88 = .ok (.iload_n 3, 1) := by decide +kernel
theorem dX8_copy_89 : decode cX8_copy 89 = .ok (.iaload, 1) := by decide +kernel
theorem dX8_copy_90 : decode cX8_copy 90 = .ok (.i2l, 1) := by decide +kernel
theorem dX8_copy_91 : decode cX8_copy 91 = .ok (.lcmp, 1) := by decide +kernel
theorem dX8_copy_92 : decode cX8_copy 92 = .ok (.ifCond .le 9, 3) := by decide +kernel
theorem dX8_copy_95 : decode cX8_copy 95 = .ok (.aload_n 0, 1) := by decide +kernel
theorem dX8_copy_96 : decode cX8_copy 96 = .ok (.iconst 2, 1) := by decide +kernel
theorem dX8_copy_97 : decode cX8_copy 97 = .ok (.invokevirtual 86, 3) := by decide +kernel
theorem dX8_copy_100 : decode cX8_copy 100 = .ok (.ireturn, 1) := by decide +kernel
theorem dX8_copy_101 : decode cX8_copy 101 = .ok (.iconst 0, 1) := by decide +kernel
theorem dX8_copy_102 : decode cX8_copy 102 = .ok (.istore 6, 2) := by decide +kernel
theorem dX8_copy_104 : decode cX8_copy 104 = .ok (.iload 6, 2) := by decide +kernel
theorem dX8_copy_106 : decode cX8_copy 106 = .ok (.iload 5, 2) := by decide +kernel
theorem dX8_copy_108 : decode cX8_copy 108 = .ok (.if_icmp .ge 25, 3) := by decide +kernel
theorem dX8_copy_111 : decode cX8_copy 111 = .ok (.aload_n 0, 1) := by decide +kernel
theorem dX8_copy_112 : decode cX8_copy 112 = .ok (.getfield 23, 3) := by decide +kernel
theorem dX8_copy_115 : decode cX8_copy 115 = .ok (.iload 6, 2) := by decide +kernel
theorem dX8_copy_117 : decode cX8_copy 117 = .ok (.aload_n 0, 1) := by decide +kernel
theorem dX8_copy_118 : decode cX8_copy 118 = .ok (.iload_n 1, 1) := by decide +kernel
theorem dX8_copy_119 : decode cX8_copy 119 = .ok (.iload_n 2, 1) := by decide +kernel
theorem dX8_copy_120 : decode cX8_copy 120 = .ok (.iload 6, 2) := by decide +kernel
theorem dX8_copy_122 : decode cX8_copy 122 = .ok (.iadd, 1) := by decide +kernel
theorem dX8_copy_123 : decode cX8_copy 123 = .ok (.invokevirtual 100, 3) := by decide +kernel
theorem dX8_copy_126 : decode cX8_copy 126 = .ok (.iastore, 1) := by decide +kernel
theorem dX8_copy_127 : decode cX8_copy 127 = .ok (.iinc 6 1, 3) := by decide +kernel
theorem dX8_copy_130 : decode cX8_copy 130 = .ok (.goto (-26), 3) := by decide +kernel
theorem dX8_copy_133 : decode cX8_copy 133 = .ok (.iconst 0, 1) := by decide +kernel
theorem dX8_copy_134 : decode cX8_copy 134 = .ok (.istore 6, 2) := by decide +kernel
theorem dX8_copy_136 : decode cX8_copy 136 = .ok (.iload 6, 2) := by decide +kernel
theorem dX8_copy_138 : decode cX8_copy 138 = .ok (.iload 5, 2) := by decide +kernel
theorem dX8_copy_140 : decode cX8_copy 140 = .ok (.if_icmp .ge 26, 3) := by decide +kernel
theorem dX8_copy_143 : decode cX8_copy 143 = .ok (.aload_n 0, 1) := by decide +kernel
theorem dX8_copy_144 : decode cX8_copy 144 = .ok (.iload_n 3, 1) := by decide +kernel
theorem dX8_copy_145 : decode cX8_copy 145 = .ok (.iload 4, 2) := by decide +kernel
theorem dX8_copy_147 : decode cX8_copy 147 = .ok (.iload 6, 2) := by decide +kernel
theorem dX8_copy_149 : decode cX8_copy 149 = .ok (.iadd, 1) := by decide +kernel
theorem dX8_copy_150 : decode cX8_copy 150 = .ok (.aload_n 0, 1) := by decide +kernel
theorem dX8_copy_151 : decode cX8_copy 151 = .ok (.getfield 23, 3) := by decide +kernel
theorem dX8_copy_154 : decode cX8_copy 154 = .ok (.iload 6, 2) := by decide +kernel
theorem dX8_copy_156 : decode cX8_copy 156 = .ok (.iaload, 1) := by decide +kernel
theorem dX8_copy_157 : decode cX8_copy 157 = .ok (.invokevirtual 93, 3) := by decide +kernel
theorem dX8_copy_160 : decode cX8_copy 160 = .ok (.iinc 6 1, 3) := by decide +kernel
theorem dX8_copy_163 : decode cX8_copy 163 = .ok (.goto (-27), 3) := by decide +kernel
theorem dX8_copy_166 : decode cX8_copy 166 = .ok (.iconst 1, 1) := by decide +kernel
theorem dX8_copy_167 : decode cX8_copy 167 = .ok (.ireturn, 1) := by decide +kernel
theorem dX8_mean_0 : decode cX8_mean 0 = .ok (.aload_n 0, 1) := by decide +kernel
theorem dX8_mean_1 : decode cX8_mean 1 = .ok (.iload_n 1, 1) := by decide +kernel
theorem dX8_mean_2 : decode cX8_mean 2 = .ok (.invokevirtual 97, 3) := by decide +kernel
theorem dX8_mean_5 : decode cX8_mean 5 = .ok (.istore_n 2, 1) := by decide +kernel
theorem dX8_mean_6 : decode cX8_mean 6 = .ok (.iload_n 2, 1) := by decide +kernel
theorem dX8_mean_7 : decode cX8_mean 7 = .ok (.ifCond .ge 5, 3) := by decide +kernel
theorem dX8_mean_10 : decode cX8_mean 10 = .ok (.iload_n 2, 1) := by decide +kernel
theorem dX8_mean_11 : decode cX8_mean 11 = .ok (.ireturn, 1) := by decide +kernel
theorem dX8_mean_12 : decode cX8_mean 12 = .ok (.lconst 0, 1) := by decide +kernel
theorem dX8_mean_13 : decode cX8_mean 13 = .ok (.lstore_n 3, 1) := by decide +kernel
theorem dX8_mean_14 : decode cX8_mean 14 = .ok (.iconst 0, 1) := by decide +kernel
theorem dX8_mean_15 : decode cX8_mean 15 = .ok (.istore 5, 2) := by decide +kernel
theorem dX8_mean_17 : decode cX8_mean 17 = .ok (.iload 5, 2) := by decide +kernel
theorem dX8_mean_19 : decode cX8_mean 19 = .ok (.aload_n 0, 1) := by decide +kernel
theorem dX8_mean_20 : decode cX8_mean 20 = .ok (.getfield 17, 3) := by decide +kernel
theorem dX8_mean_23 : decode cX8_mean 23 = .ok (.iload_n 1, 1) := by decide +kernel
theorem dX8_mean_24 : decode cX8_mean 24 = .ok (.iaload, 1) := by decide +kernel
theorem dX8_mean_25 : decode cX8_mean 25 = .ok (.if_icmp .ge 20, 3) := by decide +kernel
theorem dX8_mean_28 : decode cX8_mean 28 = .ok (.lload_n 3, 1) := by decide +kernel
theorem dX8_mean_29 : decode cX8_mean 29 = .ok (.aload_n 0, 1) := by decide +kernel
theorem dX8_mean_30 : decode cX8_mean 30 = .ok (.iload_n 1, 1) := by decide +kernel
theorem dX8_mean_31 : decode cX8_mean 31 = .ok (.iload 5, 2) := by decide +kernel
theorem dX8_mean_33 : decode cX8_mean 33 = .ok (.invokevirtual 100, 3) := by decide +kernel
theorem dX8_mean_36 : decode cX8_mean 36 = .ok (.i2l, 1) := by decide +kernel
theorem dX8_mean_37 : decode cX8_mean 37 = .ok (.ladd, 1) := by decide +kernel
theorem dX8_mean_38 : decode cX8_mean 38 = .ok (.lstore_n 3, 1) := by decide +kernel
theorem dX8_mean_39 : decode cX8_mean 39 = .ok (.iinc 5 1, 3) := by decide +kernel
theorem dX8_mean_42 : decode cX8_mean 42 = .ok (.goto (-25), 3) := by decide +kernel
theorem dX8_mean_45 : decode cX8_mean 45 = .ok (.aload_n 0, 1) := by decide +kernel
theorem dX8_mean_46 : decode cX8_mean 46 = .ok (.getfield 17, 3) := by decide +kernel
theorem dX8_mean_49 : decode cX8_mean 49 = .ok (.iload_n 1, 1) := by decide +kernel
theorem dX8_mean_50 : decode cX8_mean 50 = .ok (.iaload, 1) := by decide +kernel
theorem dX8_mean_51 : decode cX8_mean 51 = .ok (.ifCond .ne 11, 3) := by decide +kernel
theorem dX8_mean_54 : decode cX8_mean 54 = .ok (.aload_n 0, 1) := by decide +kernel
theorem dX8_mean_55 : decode cX8_mean 55 = .ok (.iconst 4, 1) := by decide +kernel
theorem dX8_mean_56 : decode cX8_mean 56 = .ok (.invokevirtual 86, 3) := by decide +kernel
theorem dX8_mean_59 : decode cX8_mean 59 = .ok (.goto 18, 3) := by decide +kernel
theorem dX8_mean_62 : decode cX8_mean 62 = .ok (.aload_n 0, 1) := by decide +kernel
theorem dX8_mean_63 : decode cX8_mean 63 = .ok (.lload_n 3, 1) := by decide +kernel
theorem dX8_mean_64 : decode cX8_mean 64 = .ok (.aload_n 0, 1) := by decide +kernel
theorem dX8_mean_65 : decode cX8_mean 65 = .ok (.getfield 17, 3) := by decide +kernel
theorem dX8_mean_68 : decode cX8_mean 68 = .ok (.iload_n 1, 1) := by decide +kernel
theorem dX8_mean_69 : decode cX8_mean 69 = .ok (.iaload, 1) := by decide +kernel
theorem dX8_mean_70 : decode cX8_mean 70 = .ok (.i2l, 1) := by decide +kernel
theorem dX8_mean_71 : decode cX8_mean 71 = .ok (.ldiv, 1) := by decide +kernel
theorem dX8_mean_72 : decode cX8_mean 72 = .ok (.l2i, 1) := by decide +kernel
theorem dX8_mean_73 : decode cX8_mean 73 = .ok (.iconst 1, 1) := by decide +kernel
theorem dX8_mean_74 : decode cX8_mean 74 = .ok (.invokevirtual 104, 3) := by decide +kernel
theorem dX8_mean_77 : decode cX8_mean 77 = .ok (.ireturn, 1) := by decide +kernel
theorem dX8_text_0 : decode cX8_text 0 = .ok (.iload_n 1, 1) := by decide +kernel
theorem dX8_text_1 : decode cX8_text 1 = .ok (.invokestatic 90, 3) := by decide +kernel
theorem dX8_text_4 : decode cX8_text 4 = .ok (.ifCond .eq 9, 3) := by decide +kernel
theorem dX8_text_7 : decode cX8_text 7 = .ok (.iload_n 2, 1) := by decide +kernel
theorem dX8_text_8 : decode cX8_text 8 = .ok (.bipush 80, 2) := by decide +kernel
theorem dX8_text_10 : decode cX8_text 10 = .ok (.if_icmp .le 5, 3) := by decide +kernel
theorem dX8_text_13 : decode cX8_text 13 = .ok (.iconst (-1), 1) := by decide +kernel
theorem dX8_text_14 : decode cX8_text 14 = .ok (.ireturn, 1) := by decide +kernel
theorem dX8_text_15 : decode cX8_text 15 = .ok (.iload_n 2, 1) := by decide +kernel
theorem dX8_text_16 : decode cX8_text 16 = .ok (.ifCond .ge 9, 3) := by decide +kernel
theorem dX8_text_19 : decode cX8_text 19 = .ok (.aload_n 0, 1) := by decide +kernel
theorem dX8_text_20 : decode cX8_text 20 = .ok (.iconst 5, 1) := by decide +kernel
theorem dX8_text_21 : decode cX8_text 21 = .ok (.invokevirtual 86, 3) := by decide +kernel
theorem dX8_text_24 : decode cX8_text 24 = .ok (.ireturn, 1) := by decide +kernel
theorem dX8_text_25 : decode cX8_text 25 = .ok (.aload_n 0, 1) := by decide +kernel
theorem dX8_text_26 : decode cX8_text 26 = .ok (.getfield 26, 3) := by decide +kernel
theorem dX8_text_29 : decode cX8_text 29 = .ok (.iload_n 1, 1) := by decide +kernel
theorem dX8_text_30 : decode cX8_text 30 = .ok (.iload_n 2, 1) := by decide +kernel
theorem dX8_text_31 : decode cX8_text 31 = .ok (.iastore, 1) := by decide +kernel
theorem dX8_text_32 : decode cX8_text 32 = .ok (.iconst 0, 1) := by decide +kernel
theorem dX8_text_33 : decode cX8_text 33 = .ok (.istore_n 3, 1) := by decide +kernel
theorem dX8_text_34 : decode cX8_text 34 = .ok (.iload_n 3, 1) := by decide +kernel
theorem dX8_text_35 : decode cX8_text 35 = .ok (.bipush 80, 2) := by decide +kernel
theorem dX8_text_37 : decode cX8_text 37 = .ok (.if_icmp .ge 22, 3) := by decide +kernel
theorem dX8_text_40 : decode cX8_text 40 = .ok (.aload_n 0, 1) := by decide +kernel
theorem dX8_text_41 : decode cX8_text 41 = .ok (.getfield 29, 3) := by decide +kernel
theorem dX8_text_44 : decode cX8_text 44 = .ok (.bipush 80, 2) := by decide +kernel
theorem dX8_text_46 : decode cX8_text 46 = .ok (.iload_n 1, 1) := by decide +kernel
theorem dX8_text_47 : decode cX8_text 47 = .ok (.imul, 1) := by decide +kernel
theorem dX8_text_48 : decode cX8_text 48 = .ok (.iload_n 3, 1) := by decide +kernel
theorem dX8_text_49 : decode cX8_text 49 = .ok (.iadd, 1) := by decide +kernel
theorem dX8_text_50 : decode cX8_text 50 = .ok (.bipush 32, 2) := by decide +kernel
theorem dX8_text_52 : decode cX8_text 52 = .ok (.iastore, 1) := by decide +kernel
theorem dX8_text_53 : decode cX8_text 53 = .ok (.iinc 3 1, 3) := by decide +kernel
theorem dX8_text_56 : decode cX8_text 56 = .ok (.goto (-22), 3) := by decide +kernel
theorem dX8_text_59 : decode cX8_text 59 = .ok (.iload_n 2, 1) := by decide +kernel
theorem dX8_text_60 : decode cX8_text 60 = .ok (.ireturn, 1) := by decide +kernel
theorem dX8_put_0 : decode cX8_put 0 = .ok (.aload_n 0, 1) := by decide +kernel
theorem dX8_put_1 : decode cX8_put 1 = .ok (.iload_n 1, 1) := by decide +kernel
theorem dX8_put_2 : decode cX8_put 2 = .ok (.invokevirtual 110, 3) := by decide +kernel
theorem dX8_put_5 : decode cX8_put 5 = .ok (.istore 4, 2) := by decide +kernel
theorem dX8_put_7 : decode cX8_put 7 = .ok (.iload 4, 2) := by decide +kernel
theorem dX8_put_9 : decode cX8_put 9 = .ok (.ifCond .ge 6, 3) := by decide +kernel
theorem dX8_put_12 : decode cX8_put 12 = .ok (.iload 4, 2) := by decide +kernel
theorem dX8_put_14 : decode cX8_put 14 = .ok (.ireturn, 1) := by decide +kernel
theorem dX8_put_15 : decode cX8_put 15 = .ok (.iload_n 2, 1) := by decide +kernel
theorem dX8_put_16 : decode cX8_put 16 = .ok (.iconst 0, 1) := by decide +kernel
theorem dX8_put_17 : decode cX8_put 17 = .ok (.aload_n 0, 1) := by decide +kernel
theorem dX8_put_18 : decode cX8_put 18 = .ok (.getfield 26, 3) := by decide +kernel
theorem dX8_put_21 : decode cX8_put 21 = .ok (.iload_n 1, 1) := by decide +kernel
theorem dX8_put_22 : decode cX8_put 22 = .ok (.iaload, 1) := by decide +kernel
theorem dX8_put_23 : decode cX8_put 23 = .ok (.iconst 1, 1) := by decide +kernel
theorem dX8_put_24 : decode cX8_put 24 = .ok (.isub, 1) := by decide +kernel
theorem dX8_put_25 : decode cX8_put 25 = .ok (.invokestatic 78, 3) := by decide +kernel
theorem dX8_put_28 : decode cX8_put 28 = .ok (.ifCond .ne 9, 3) := by decide +kernel
theorem dX8_put_31 : decode cX8_put 31 = .ok (.aload_n 0, 1) := by decide +kernel
theorem dX8_put_32 : decode cX8_put 32 = .ok (.iconst 2, 1) := by decide +kernel
theorem dX8_put_33 : decode cX8_put 33 = .ok (.invokevirtual 86, 3) := by decide +kernel
theorem dX8_put_36 : decode cX8_put 36 = .ok (.ireturn, 1) := by decide +kernel
theorem dX8_put_37 : decode cX8_put 37 = .ok (.aload_n 0, 1) := by decide +kernel
theorem dX8_put_38 : decode cX8_put 38 = .ok (.getfield 29, 3) := by decide +kernel
theorem dX8_put_41 : decode cX8_put 41 = .ok (.bipush 80, 2) := by decide +kernel
theorem dX8_put_43 : decode cX8_put 43 = .ok (.iload_n 1, 1) := by decide +kernel
theorem dX8_put_44 : decode cX8_put 44 = .ok (.imul, 1) := by decide +kernel
theorem dX8_put_45 : decode cX8_put 45 = .ok (.iload_n 2, 1) := by decide +kernel
theorem dX8_put_46 : decode cX8_put 46 = .ok (.iadd, 1) := by decide +kernel
theorem dX8_put_47 : decode cX8_put 47 = .ok (.iaload, 1) := by decide +kernel
theorem dX8_put_48 : decode cX8_put 48 = .ok (.istore 5, 2) := by decide +kernel
theorem dX8_put_50 : decode cX8_put 50 = .ok (.aload_n 0, 1) := by decide +kernel
theorem dX8_put_51 : decode cX8_put 51 = .ok (.getfield 29, 3) := by decide +kernel
theorem dX8_put_54 : decode cX8_put 54 = .ok (.bipush 80, 2) := by decide +kernel
theorem dX8_put_56 : decode cX8_put 56 = .ok (.iload_n 1, 1) := by decide +kernel
theorem dX8_put_57 : decode cX8_put 57 = .ok (.imul, 1) := by decide +kernel
theorem dX8_put_58 : decode cX8_put 58 = .ok (.iload_n 2, 1) := by decide +kernel
theorem dX8_put_59 : decode cX8_put 59 = .ok (.iadd, 1) := by decide +kernel
theorem dX8_put_60 : decode cX8_put 60 = .ok (.iload_n 3, 1) := by decide +kernel
theorem dX8_put_61 : decode cX8_put 61 = .ok (.i2b, 1) := by decide +kernel
theorem dX8_put_62 : decode cX8_put 62 = .ok (.iastore, 1) := by decide +kernel
theorem dX8_put_63 : decode cX8_put 63 = .ok (.iload 5, 2) := by decide +kernel
theorem dX8_put_65 : decode cX8_put 65 = .ok (.sipush 1000, 3) := by decide +kernel
theorem dX8_put_68 : decode cX8_put 68 = .ok (.iadd, 1) := by decide +kernel
theorem dX8_put_69 : decode cX8_put 69 = .ok (.ireturn, 1) := by decide +kernel
theorem dX8_here_0 : decode cX8_here 0 = .ok (.aload_n 0, 1) := by decide +kernel
theorem dX8_here_1 : decode cX8_here 1 = .ok (.getfield 113, 3) := by decide +kernel
theorem dX8_here_4 : decode cX8_here 4 = .ok (.aload_n 0, 1) := by decide +kernel
theorem dX8_here_5 : decode cX8_here 5 = .ok (.getfield 26, 3) := by decide +kernel
theorem dX8_here_8 : decode cX8_here 8 = .ok (.iload_n 1, 1) := by decide +kernel
theorem dX8_here_9 : decode cX8_here 9 = .ok (.iaload, 1) := by decide +kernel
theorem dX8_here_10 : decode cX8_here 10 = .ok (.if_icmp .ge 20, 3) := by decide +kernel
theorem dX8_here_13 : decode cX8_here 13 = .ok (.aload_n 0, 1) := by decide +kernel
theorem dX8_here_14 : decode cX8_here 14 = .ok (.getfield 29, 3) := by decide +kernel
theorem dX8_here_17 : decode cX8_here 17 = .ok (.bipush 80, 2) := by decide +kernel
theorem dX8_here_19 : decode cX8_here 19 = .ok (.iload_n 1, 1) := by decide +kernel
theorem dX8_here_20 : decode cX8_here 20 = .ok (.imul, 1) := by decide +kernel
theorem dX8_here_21 : decode cX8_here 21 = .ok (.aload_n 0, 1) := by decide +kernel
theorem dX8_here_22 : decode cX8_here 22 = .ok (.getfield 113, 3) := by decide +kernel
theorem dX8_here_25 : decode cX8_here 25 = .ok (.iadd, 1) := by decide +kernel
theorem dX8_here_26 : decode cX8_here 26 = .ok (.iaload, 1) := by decide +kernel
theorem dX8_here_27 : decode cX8_here 27 = .ok (.goto 5, 3) := by decide +kernel
theorem dX8_here_30 : decode cX8_here 30 = .ok (.bipush (-9), 2) := by decide +kernel
theorem dX8_here_32 : decode cX8_here 32 = .ok (.ireturn, 1) := by decide +kernel
theorem dX8_kindOf_0 : decode cX8_kindOf 0 = .ok (.iload_n 0, 1) := by decide +kernel
theorem dX8_kindOf_1 : decode cX8_kindOf 1 = .ok (.bipush 112, 2) := by decide +kernel
theorem dX8_kindOf_3 : decode cX8_kindOf 3 = .ok (.if_icmp .ne 7, 3) := by decide +kernel
theorem dX8_kindOf_6 : decode cX8_kindOf 6 = .ok (.iconst 0, 1) := by decide +kernel
theorem dX8_kindOf_7 : decode cX8_kindOf 7 = .ok (.goto 55, 3) := by decide +kernel
theorem dX8_kindOf_10 : decode cX8_kindOf 10 = .ok (.iload_n 0, 1) := by decide +kernel
