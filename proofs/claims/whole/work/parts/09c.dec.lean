theorem dX8_kindOf_11 : decode cX8_kindOf 11 = .ok (.bipush 101, 2) := by decide +kernel
theorem dX8_kindOf_13 : decode cX8_kindOf 13 = .ok (.if_icmp .ne 7, 3) := by decide +kernel
theorem dX8_kindOf_16 : decode cX8_kindOf 16 = .ok (.iconst 1, 1) := by decide +kernel
theorem dX8_kindOf_17 : decode cX8_kindOf 17 = .ok (.goto 45, 3) := by decide +kernel
theorem dX8_kindOf_20 : decode cX8_kindOf 20 = .ok (.iload_n 0, 1) := by decide +kernel
theorem dX8_kindOf_21 : decode cX8_kindOf 21 = .ok (.bipush 111, 2) := by decide +kernel
theorem dX8_kindOf_23 : decode cX8_kindOf 23 = .ok (.if_icmp .ne 7, 3) := by decide +kernel
theorem dX8_kindOf_26 : decode cX8_kindOf 26 = .ok (.iconst 2, 1) := by decide +kernel
theorem dX8_kindOf_27 : decode cX8_kindOf 27 = .ok (.goto 35, 3) := by decide +kernel
theorem dX8_kindOf_30 : decode cX8_kindOf 30 = .ok (.iload_n 0, 1) := by decide +kernel
theorem dX8_kindOf_31 : decode cX8_kindOf 31 = .ok (.bipush 100, 2) := by decide +kernel
theorem dX8_kindOf_33 : decode cX8_kindOf 33 = .ok (.if_icmp .ne 7, 3) := by decide +kernel
theorem dX8_kindOf_36 : decode cX8_kindOf 36 = .ok (.iconst 3, 1) := by decide +kernel
theorem dX8_kindOf_37 : decode cX8_kindOf 37 = .ok (.goto 25, 3) := by decide +kernel
theorem dX8_kindOf_40 : decode cX8_kindOf 40 = .ok (.iload_n 0, 1) := by decide +kernel
theorem dX8_kindOf_41 : decode cX8_kindOf 41 = .ok (.bipush 115, 2) := by decide +kernel
theorem dX8_kindOf_43 : decode cX8_kindOf 43 = .ok (.if_icmp .ne 7, 3) := by decide +kernel
theorem dX8_kindOf_46 : decode cX8_kindOf 46 = .ok (.iconst 4, 1) := by decide +kernel
theorem dX8_kindOf_47 : decode cX8_kindOf 47 = .ok (.goto 15, 3) := by decide +kernel
theorem dX8_kindOf_50 : decode cX8_kindOf 50 = .ok (.iload_n 0, 1) := by decide +kernel
theorem dX8_kindOf_51 : decode cX8_kindOf 51 = .ok (.bipush 105, 2) := by decide +kernel
theorem dX8_kindOf_53 : decode cX8_kindOf 53 = .ok (.if_icmp .ne 7, 3) := by decide +kernel
theorem dX8_kindOf_56 : decode cX8_kindOf 56 = .ok (.iconst 5, 1) := by decide +kernel
theorem dX8_kindOf_57 : decode cX8_kindOf 57 = .ok (.goto 5, 3) := by decide +kernel
theorem dX8_kindOf_60 : decode cX8_kindOf 60 = .ok (.bipush (-9), 2) := by decide +kernel
theorem dX8_kindOf_62 : decode cX8_kindOf 62 = .ok (.ireturn, 1) := by decide +kernel
theorem dX8_figure_0 : decode cX8_figure 0 = .ok (.aload_n 0, 1) := by decide +kernel
theorem dX8_figure_1 : decode cX8_figure 1 = .ok (.iload_n 1, 1) := by decide +kernel
theorem dX8_figure_2 : decode cX8_figure 2 = .ok (.invokevirtual 116, 3) := by decide +kernel
theorem dX8_figure_5 : decode cX8_figure 5 = .ok (.bipush 48, 2) := by decide +kernel
theorem dX8_figure_7 : decode cX8_figure 7 = .ok (.isub, 1) := by decide +kernel
theorem dX8_figure_8 : decode cX8_figure 8 = .ok (.istore 4, 2) := by decide +kernel
theorem dX8_figure_10 : decode cX8_figure 10 = .ok (.iload 4, 2) := by decide +kernel
theorem dX8_figure_12 : decode cX8_figure 12 = .ok (.iload_n 2, 1) := by decide +kernel
theorem dX8_figure_13 : decode cX8_figure 13 = .ok (.iload_n 3, 1) := by decide +kernel
theorem dX8_figure_14 : decode cX8_figure 14 = .ok (.invokestatic 78, 3) := by decide +kernel
theorem dX8_figure_17 : decode cX8_figure 17 = .ok (.ifCond .ne 6, 3) := by decide +kernel
theorem dX8_figure_20 : decode cX8_figure 20 = .ok (.bipush (-9), 2) := by decide +kernel
theorem dX8_figure_22 : decode cX8_figure 22 = .ok (.ireturn, 1) := by decide +kernel
theorem dX8_figure_23 : decode cX8_figure 23 = .ok (.aload_n 0, 1) := by decide +kernel
theorem dX8_figure_24 : decode cX8_figure 24 = .ok (.dup, 1) := by decide +kernel
theorem dX8_figure_25 : decode cX8_figure 25 = .ok (.getfield 113, 3) := by decide +kernel
theorem dX8_figure_28 : decode cX8_figure 28 = .ok (.iconst 1, 1) := by decide +kernel
theorem dX8_figure_29 : decode cX8_figure 29 = .ok (.iadd, 1) := by decide +kernel
theorem dX8_figure_30 : decode cX8_figure 30 = .ok (.putfield 113, 3) := by decide +kernel
theorem dX8_figure_33 : decode cX8_figure 33 = .ok (.iload 4, 2) := by decide +kernel
theorem dX8_figure_35 : decode cX8_figure 35 = .ok (.ireturn, 1) := by decide +kernel
theorem dX8_doesPoint_0 : decode cX8_doesPoint 0 = .ok (.iload_n 0, 1) := by decide +kernel
theorem dX8_doesPoint_1 : decode cX8_doesPoint 1 = .ok (.iconst 2, 1) := by decide +kernel
theorem dX8_doesPoint_2 : decode cX8_doesPoint 2 = .ok (.if_icmp .eq 8, 3) := by decide +kernel
theorem dX8_doesPoint_5 : decode cX8_doesPoint 5 = .ok (.iload_n 0, 1) := by decide +kernel
theorem dX8_doesPoint_6 : decode cX8_doesPoint 6 = .ok (.iconst 5, 1) := by decide +kernel
theorem dX8_doesPoint_7 : decode cX8_doesPoint 7 = .ok (.if_icmp .ne 7, 3) := by decide +kernel
theorem dX8_doesPoint_10 : decode cX8_doesPoint 10 = .ok (.iconst 1, 1) := by decide +kernel
theorem dX8_doesPoint_11 : decode cX8_doesPoint 11 = .ok (.goto 4, 3) := by decide +kernel
theorem dX8_doesPoint_14 : decode cX8_doesPoint 14 = .ok (.iconst 0, 1) := by decide +kernel
theorem dX8_doesPoint_15 : decode cX8_doesPoint 15 = .ok (.ireturn, 1) := by decide +kernel
theorem dX8_readsWords_0 : decode cX8_readsWords 0 = .ok (.iconst 0, 1) := by decide +kernel
theorem dX8_readsWords_1 : decode cX8_readsWords 1 = .ok (.istore_n 2, 1) := by decide +kernel
theorem dX8_readsWords_2 : decode cX8_readsWords 2 = .ok (.aload_n 0, 1) := by decide +kernel
theorem dX8_readsWords_3 : decode cX8_readsWords 3 = .ok (.iload_n 1, 1) := by decide +kernel
theorem dX8_readsWords_4 : decode cX8_readsWords 4 = .ok (.invokevirtual 116, 3) := by decide +kernel
theorem dX8_readsWords_7 : decode cX8_readsWords 7 = .ok (.bipush 48, 2) := by decide +kernel
theorem dX8_readsWords_9 : decode cX8_readsWords 9 = .ok (.bipush 57, 2) := by decide +kernel
theorem dX8_readsWords_11 : decode cX8_readsWords 11 = .ok (.invokestatic 78, 3) := by decide +kernel
theorem dX8_readsWords_14 : decode cX8_readsWords 14 = .ok (.ifCond .eq 46, 3) := by decide +kernel
theorem dX8_readsWords_17 : decode cX8_readsWords 17 = .ok (.aload_n 0, 1) := by decide +kernel
theorem dX8_readsWords_18 : decode cX8_readsWords 18 = .ok (.iload_n 1, 1) := by decide +kernel
theorem dX8_readsWords_19 : decode cX8_readsWords 19 = .ok (.invokevirtual 116, 3) := by decide +kernel
theorem dX8_readsWords_22 : decode cX8_readsWords 22 = .ok (.bipush 48, 2) := by decide +kernel
theorem dX8_readsWords_24 : decode cX8_readsWords 24 = .ok (.isub, 1) := by decide +kernel
theorem dX8_readsWords_25 : decode cX8_readsWords 25 = .ok (.istore_n 3, 1) := by decide +kernel
theorem dX8_readsWords_26 : decode cX8_readsWords 26 = .ok (.iload_n 3, 1) := by decide +kernel
theorem dX8_readsWords_27 : decode cX8_readsWords 27 = .ok (.bipush 6, 2) := by decide +kernel
theorem dX8_readsWords_29 : decode cX8_readsWords 29 = .ok (.if_icmp .gt 9, 3) := by decide +kernel
theorem dX8_readsWords_32 : decode cX8_readsWords 32 = .ok (.iload_n 2, 1) := by decide +kernel
theorem dX8_readsWords_33 : decode cX8_readsWords 33 = .ok (.iload_n 3, 1) := by decide +kernel
theorem dX8_readsWords_34 : decode cX8_readsWords 34 = .ok (.ishr, 1) := by decide +kernel
theorem dX8_readsWords_35 : decode cX8_readsWords 35 = .ok (.ifCond .eq 6, 3) := by decide +kernel
theorem dX8_readsWords_38 : decode cX8_readsWords 38 = .ok (.bipush (-9), 2) := by decide +kernel
theorem dX8_readsWords_40 : decode cX8_readsWords 40 = .ok (.ireturn, 1) := by decide +kernel
theorem dX8_readsWords_41 : decode cX8_readsWords 41 = .ok (.iload_n 2, 1) := by decide +kernel
theorem dX8_readsWords_42 : decode cX8_readsWords 42 = .ok (.iconst 1, 1) := by decide +kernel
theorem dX8_readsWords_43 : decode cX8_readsWords 43 = .ok (.iload_n 3, 1) := by decide +kernel
theorem dX8_readsWords_44 : decode cX8_readsWords 44 = .ok (.ishl, 1) := by decide +kernel
theorem dX8_readsWords_45 : decode cX8_readsWords 45 = .ok (.ior, 1) := by decide +kernel
theorem dX8_readsWords_46 : decode cX8_readsWords 46 = .ok (.istore_n 2, 1) := by decide +kernel
theorem dX8_readsWords_47 : decode cX8_readsWords 47 = .ok (.aload_n 0, 1) := by decide +kernel
theorem dX8_readsWords_48 : decode cX8_readsWords 48 = .ok (.dup, 1) := by decide +kernel
theorem dX8_readsWords_49 : decode cX8_readsWords 49 = .ok (.getfield 113, 3) := by decide +kernel
theorem dX8_readsWords_52 : decode cX8_readsWords 52 = .ok (.iconst 1, 1) := by decide +kernel
theorem dX8_readsWords_53 : decode cX8_readsWords 53 = .ok (.iadd, 1) := by decide +kernel
theorem dX8_readsWords_54 : decode cX8_readsWords 54 = .ok (.putfield 113, 3) := by decide +kernel
theorem dX8_readsWords_57 : decode cX8_readsWords 57 = .ok (.goto (-55), 3) := by decide +kernel
theorem dX8_readsWords_60 : decode cX8_readsWords 60 = .ok (.iload_n 2, 1) := by decide +kernel
theorem dX8_readsWords_61 : decode cX8_readsWords 61 = .ok (.ireturn, 1) := by decide +kernel
theorem dX8_readsPage_0 : decode cX8_readsPage 0 = .ok (.aload_n 0, 1) := by decide +kernel
theorem dX8_readsPage_1 : decode cX8_readsPage 1 = .ok (.iload_n 1, 1) := by decide +kernel
theorem dX8_readsPage_2 : decode cX8_readsPage 2 = .ok (.invokevirtual 116, 3) := by decide +kernel
theorem dX8_readsPage_5 : decode cX8_readsPage 5 = .ok (.invokestatic 119, 3) := by decide +kernel
theorem dX8_readsPage_8 : decode cX8_readsPage 8 = .ok (.istore_n 2, 1) := by decide +kernel
theorem dX8_readsPage_9 : decode cX8_readsPage 9 = .ok (.iload_n 2, 1) := by decide +kernel
theorem dX8_readsPage_10 : decode cX8_readsPage 10 = .ok (.bipush (-9), 2) := by decide +kernel
theorem dX8_readsPage_12 : decode cX8_readsPage 12 = .ok (.if_icmp .eq 12, 3) := by decide +kernel
theorem dX8_readsPage_15 : decode cX8_readsPage 15 = .ok (.aload_n 0, 1) := by decide +kernel
theorem dX8_readsPage_16 : decode cX8_readsPage 16 = .ok (.getfield 122, 3) := by decide +kernel
theorem dX8_readsPage_19 : decode cX8_readsPage 19 = .ok (.bipush 6, 2) := by decide +kernel
theorem dX8_readsPage_21 : decode cX8_readsPage 21 = .ok (.if_icmp .ne 5, 3) := by decide +kernel
theorem dX8_readsPage_24 : decode cX8_readsPage 24 = .ok (.iconst 0, 1) := by decide +kernel
theorem dX8_readsPage_25 : decode cX8_readsPage 25 = .ok (.ireturn, 1) := by decide +kernel
theorem dX8_readsPage_26 : decode cX8_readsPage 26 = .ok (.aload_n 0, 1) := by decide +kernel
theorem dX8_readsPage_27 : decode cX8_readsPage 27 = .ok (.dup, 1) := by decide +kernel
theorem dX8_readsPage_28 : decode cX8_readsPage 28 = .ok (.getfield 113, 3) := by decide +kernel
theorem dX8_readsPage_31 : decode cX8_readsPage 31 = .ok (.iconst 1, 1) := by decide +kernel
theorem dX8_readsPage_32 : decode cX8_readsPage 32 = .ok (.iadd, 1) := by decide +kernel
theorem dX8_readsPage_33 : decode cX8_readsPage 33 = .ok (.putfield 113, 3) := by decide +kernel
theorem dX8_readsPage_36 : decode cX8_readsPage 36 = .ok (.iconst 5, 1) := by decide +kernel
theorem dX8_readsPage_37 : decode cX8_readsPage 37 = .ok (.aload_n 0, 1) := by decide +kernel
theorem dX8_readsPage_38 : decode cX8_readsPage 38 = .ok (.getfield 122, 3) := by decide +kernel
theorem dX8_readsPage_41 : decode cX8_readsPage 41 = .ok (.imul, 1) := by decide +kernel
theorem dX8_readsPage_42 : decode cX8_readsPage 42 = .ok (.istore_n 3, 1) := by decide +kernel
theorem dX8_readsPage_43 : decode cX8_readsPage 43 = .ok (.iload_n 2, 1) := by decide +kernel
theorem dX8_readsPage_44 : decode cX8_readsPage 44 = .ok (.invokestatic 125, 3) := by decide +kernel
theorem dX8_readsPage_47 : decode cX8_readsPage 47 = .ok (.ifCond .eq 13, 3) := by decide +kernel
theorem dX8_readsPage_50 : decode cX8_readsPage 50 = .ok (.aload_n 0, 1) := by decide +kernel
theorem dX8_readsPage_51 : decode cX8_readsPage 51 = .ok (.iload_n 1, 1) := by decide +kernel
theorem dX8_readsPage_52 : decode cX8_readsPage 52 = .ok (.iconst 0, 1) := by decide +kernel
theorem dX8_readsPage_53 : decode cX8_readsPage 53 = .ok (.iconst 5, 1) := by decide +kernel
theorem dX8_readsPage_54 : decode cX8_readsPage 54 = .ok (.invokevirtual 128, 3) := by decide +kernel
theorem dX8_readsPage_57 : decode cX8_readsPage 57 = .ok (.goto 4, 3) := by decide +kernel
theorem dX8_readsPage_60 : decode cX8_readsPage 60 = .ok (.iconst 0, 1) := by decide +kernel
theorem dX8_readsPage_61 : decode cX8_readsPage 61 = .ok (.istore 4, 2) := by decide +kernel
theorem dX8_readsPage_63 : decode cX8_readsPage 63 = .ok (.iload 4, 2) := by decide +kernel
theorem dX8_readsPage_65 : decode cX8_readsPage 65 = .ok (.bipush (-9), 2) := by decide +kernel
theorem dX8_readsPage_67 : decode cX8_readsPage 67 = .ok (.if_icmp .ne 8, 3) := by decide +kernel
theorem dX8_readsPage_70 : decode cX8_readsPage 70 = .ok (.bipush (-9), 2) := by decide +kernel
theorem dX8_readsPage_72 : decode cX8_readsPage 72 = .ok (.goto 26, 3) := by decide +kernel
theorem dX8_readsPage_75 : decode cX8_readsPage 75 = .ok (.iload_n 2, 1) := by decide +kernel
theorem dX8_readsPage_76 : decode cX8_readsPage 76 = .ok (.iconst 3, 1) := by decide +kernel
theorem dX8_readsPage_77 : decode cX8_readsPage 77 = .ok (.if_icmp .ne 14, 3) := by decide +kernel
theorem dX8_readsPage_80 : decode cX8_readsPage 80 = .ok (.aload_n 0, 1) := by decide +kernel
theorem dX8_readsPage_81 : decode cX8_readsPage 81 = .ok (.iload_n 1, 1) := by decide +kernel
theorem dX8_readsPage_82 : decode cX8_readsPage 82 = .ok (.iconst 5, 1) := by decide +kernel
theorem dX8_readsPage_83 : decode cX8_readsPage 83 = .ok (.bipush 6, 2) := by decide +kernel
theorem dX8_readsPage_85 : decode cX8_readsPage 85 = .ok (.invokevirtual 128, 3) := by decide +kernel
theorem dX8_readsPage_88 : decode cX8_readsPage 88 = .ok (.goto 10, 3) := by decide +kernel
theorem dX8_readsPage_91 : decode cX8_readsPage 91 = .ok (.aload_n 0, 1) := by decide +kernel
theorem dX8_readsPage_92 : decode cX8_readsPage 92 = .ok (.iload_n 1, 1) := by decide +kernel
theorem dX8_readsPage_93 : decode cX8_readsPage 93 = .ok (.iconst 0, 1) := by decide +kernel
theorem dX8_readsPage_94 : decode cX8_readsPage 94 = .ok (.iconst 1, 1) := by decide +kernel
theorem dX8_readsPage_95 : decode cX8_readsPage 95 = .ok (.invokevirtual 128, 3) := by decide +kernel
theorem dX8_readsPage_98 : decode cX8_readsPage 98 = .ok (.istore 5, 2) := by decide +kernel
theorem dX8_readsPage_100 : decode cX8_readsPage 100 = .ok (.iload 5, 2) := by decide +kernel
theorem dX8_readsPage_102 : decode cX8_readsPage 102 = .ok (.bipush (-9), 2) := by decide +kernel
theorem dX8_readsPage_104 : decode cX8_readsPage 104 = .ok (.if_icmp .ne 8, 3) := by decide +kernel
theorem dX8_readsPage_107 : decode cX8_readsPage 107 = .ok (.bipush (-9), 2) := by decide +kernel
theorem dX8_readsPage_109 : decode cX8_readsPage 109 = .ok (.goto 23, 3) := by decide +kernel
theorem dX8_readsPage_112 : decode cX8_readsPage 112 = .ok (.iload_n 2, 1) := by decide +kernel
theorem dX8_readsPage_113 : decode cX8_readsPage 113 = .ok (.iconst 3, 1) := by decide +kernel
theorem dX8_readsPage_114 : decode cX8_readsPage 114 = .ok (.if_icmp .ne 13, 3) := by decide +kernel
theorem dX8_readsPage_117 : decode cX8_readsPage 117 = .ok (.aload_n 0, 1) := by decide +kernel
theorem dX8_readsPage_118 : decode cX8_readsPage 118 = .ok (.iload_n 1, 1) := by decide +kernel
theorem dX8_readsPage_119 : decode cX8_readsPage 119 = .ok (.iconst 0, 1) := by decide +kernel
theorem dX8_readsPage_120 : decode cX8_readsPage 120 = .ok (.iconst 4, 1) := by decide +kernel
theorem dX8_readsPage_121 : decode cX8_readsPage 121 = .ok (.invokevirtual 128, 3) := by decide +kernel
theorem dX8_readsPage_124 : decode cX8_readsPage 124 = .ok (.goto 8, 3) := by decide +kernel
theorem dX8_readsPage_127 : decode cX8_readsPage 127 = .ok (.aload_n 0, 1) := by decide +kernel
theorem dX8_readsPage_128 : decode cX8_readsPage 128 = .ok (.iload_n 1, 1) := by decide +kernel
theorem dX8_readsPage_129 : decode cX8_readsPage 129 = .ok (.invokevirtual 132, 3) := by decide +kernel
theorem dX8_readsPage_132 : decode cX8_readsPage 132 = .ok (.istore 6, 2) := by decide +kernel
theorem dX8_readsPage_134 : decode cX8_readsPage 134 = .ok (.iload 6, 2) := by decide +kernel
theorem dX8_readsPage_136 : decode cX8_readsPage 136 = .ok (.bipush (-9), 2) := by decide +kernel
theorem dX8_readsPage_138 : decode cX8_readsPage 138 = .ok (.if_icmp .ne 5, 3) := by decide +kernel
theorem dX8_readsPage_141 : decode cX8_readsPage 141 = .ok (.iconst 0, 1) := by decide +kernel
theorem dX8_readsPage_142 : decode cX8_readsPage 142 = .ok (.ireturn, 1) := by decide +kernel
theorem dX8_readsPage_143 : decode cX8_readsPage 143 = .ok (.aload_n 0, 1) := by decide +kernel
theorem dX8_readsPage_144 : decode cX8_readsPage 144 = .ok (.getfield 50, 3) := by decide +kernel
theorem dX8_readsPage_147 : decode cX8_readsPage 147 = .ok (.iload_n 3, 1) := by decide +kernel
theorem dX8_readsPage_148 : decode cX8_readsPage 148 = .ok (.iload_n 2, 1) := by decide +kernel
theorem dX8_readsPage_149 : decode cX8_readsPage 149 = .ok (.iastore, 1) := by decide +kernel
theorem dX8_readsPage_150 : decode cX8_readsPage 150 = .ok (.aload_n 0, 1) := by decide +kernel
theorem dX8_readsPage_151 : decode cX8_readsPage 151 = .ok (.getfield 50, 3) := by decide +kernel
theorem dX8_readsPage_154 : decode cX8_readsPage 154 = .ok (.iload_n 3, 1) := by decide +kernel
theorem dX8_readsPage_155 : decode cX8_readsPage 155 = .ok (.iconst 1, 1) := by decide +kernel
theorem dX8_readsPage_156 : decode cX8_readsPage 156 = .ok (.iadd, 1) := by decide +kernel
theorem dX8_readsPage_157 : decode cX8_readsPage 157 = .ok (.iload_n 2, 1) := by decide +kernel
theorem dX8_readsPage_158 : decode cX8_readsPage 158 = .ok (.iconst 3, 1) := by decide +kernel
theorem dX8_readsPage_159 : decode cX8_readsPage 159 = .ok (.if_icmp .ne 7, 3) := by decide +kernel
theorem dX8_readsPage_162 : decode cX8_readsPage 162 = .ok (.iconst 0, 1) := by decide +kernel
theorem dX8_readsPage_163 : decode cX8_readsPage 163 = .ok (.goto 5, 3) := by decide +kernel
theorem dX8_readsPage_166 : decode cX8_readsPage 166 = .ok (.iload 5, 2) := by decide +kernel
theorem dX8_readsPage_168 : decode cX8_readsPage 168 = .ok (.iastore, 1) := by decide +kernel
theorem dX8_readsPage_169 : decode cX8_readsPage 169 = .ok (.aload_n 0, 1) := by decide +kernel
theorem dX8_readsPage_170 : decode cX8_readsPage 170 = .ok (.getfield 50, 3) := by decide +kernel
theorem dX8_readsPage_173 : decode cX8_readsPage 173 = .ok (.iload_n 3, 1) := by decide +kernel
theorem dX8_readsPage_174 : decode cX8_readsPage 174 = .ok (.iconst 2, 1) := by decide +kernel
theorem dX8_readsPage_175 : decode cX8_readsPage 175 = .ok (.iadd, 1) := by decide +kernel
theorem dX8_readsPage_176 : decode cX8_readsPage 176 = .ok (.iload_n 2, 1) := by decide +kernel
theorem dX8_readsPage_177 : decode cX8_readsPage 177 = .ok (.iconst 3, 1) := by decide +kernel
theorem dX8_readsPage_178 : decode cX8_readsPage 178 = .ok (.if_icmp .ne 10, 3) := by decide +kernel
theorem dX8_readsPage_181 : decode cX8_readsPage 181 = .ok (.iconst 1, 1) := by decide +kernel
theorem dX8_readsPage_182 : decode cX8_readsPage 182 = .ok (.iload 5, 2) := by decide +kernel
theorem dX8_readsPage_184 : decode cX8_readsPage 184 = .ok (.ishl, 1) := by decide +kernel
theorem dX8_readsPage_185 : decode cX8_readsPage 185 = .ok (.goto 5, 3) := by decide +kernel
theorem dX8_readsPage_188 : decode cX8_readsPage 188 = .ok (.iload 6, 2) := by decide +kernel
theorem dX8_readsPage_190 : decode cX8_readsPage 190 = .ok (.iastore, 1) := by decide +kernel
theorem dX8_readsPage_191 : decode cX8_readsPage 191 = .ok (.aload_n 0, 1) := by decide +kernel
theorem dX8_readsPage_192 : decode cX8_readsPage 192 = .ok (.getfield 50, 3) := by decide +kernel
theorem dX8_readsPage_195 : decode cX8_readsPage 195 = .ok (.iload_n 3, 1) := by decide +kernel
theorem dX8_readsPage_196 : decode cX8_readsPage 196 = .ok (.iconst 3, 1) := by decide +kernel
theorem dX8_readsPage_197 : decode cX8_readsPage 197 = .ok (.iadd, 1) := by decide +kernel
theorem dX8_readsPage_198 : decode cX8_readsPage 198 = .ok (.iload_n 2, 1) := by decide +kernel
theorem dX8_readsPage_199 : decode cX8_readsPage 199 = .ok (.invokestatic 125, 3) := by decide +kernel
theorem dX8_readsPage_202 : decode cX8_readsPage 202 = .ok (.ifCond .eq 8, 3) := by decide +kernel
theorem dX8_readsPage_205 : decode cX8_readsPage 205 = .ok (.iload 4, 2) := by decide +kernel
theorem dX8_readsPage_207 : decode cX8_readsPage 207 = .ok (.goto 5, 3) := by decide +kernel
theorem dX8_readsPage_210 : decode cX8_readsPage 210 = .ok (.bipush (-9), 2) := by decide +kernel
theorem dX8_readsPage_212 : decode cX8_readsPage 212 = .ok (.iastore, 1) := by decide +kernel
theorem dX8_readsPage_213 : decode cX8_readsPage 213 = .ok (.aload_n 0, 1) := by decide +kernel
theorem dX8_readsPage_214 : decode cX8_readsPage 214 = .ok (.getfield 50, 3) := by decide +kernel
theorem dX8_readsPage_217 : decode cX8_readsPage 217 = .ok (.iload_n 3, 1) := by decide +kernel
theorem dX8_readsPage_218 : decode cX8_readsPage 218 = .ok (.iconst 4, 1) := by decide +kernel
theorem dX8_readsPage_219 : decode cX8_readsPage 219 = .ok (.iadd, 1) := by decide +kernel
theorem dX8_readsPage_220 : decode cX8_readsPage 220 = .ok (.iload_n 2, 1) := by decide +kernel
theorem dX8_readsPage_221 : decode cX8_readsPage 221 = .ok (.iconst 3, 1) := by decide +kernel
theorem dX8_readsPage_222 : decode cX8_readsPage 222 = .ok (.if_icmp .ne 8, 3) := by decide +kernel
theorem dX8_readsPage_225 : decode cX8_readsPage 225 = .ok (.iload 6, 2) := by decide +kernel
theorem dX8_readsPage_227 : decode cX8_readsPage 227 = .ok (.goto 5, 3) := by decide +kernel
theorem dX8_readsPage_230 : decode cX8_readsPage 230 = .ok (.bipush (-9), 2) := by decide +kernel
theorem dX8_readsPage_232 : decode cX8_readsPage 232 = .ok (.iastore, 1) := by decide +kernel
theorem dX8_readsPage_233 : decode cX8_readsPage 233 = .ok (.aload_n 0, 1) := by decide +kernel
theorem dX8_readsPage_234 : decode cX8_readsPage 234 = .ok (.dup, 1) := by decide +kernel
theorem dX8_readsPage_235 : decode cX8_readsPage 235 = .ok (.getfield 122, 3) := by decide +kernel
theorem dX8_readsPage_238 : decode cX8_readsPage 238 = .ok (.iconst 1, 1) := by decide +kernel
theorem dX8_readsPage_239 : decode cX8_readsPage 239 = .ok (.iadd, 1) := by decide +kernel
theorem dX8_readsPage_240 : decode cX8_readsPage 240 = .ok (.putfield 122, 3) := by decide +kernel
theorem dX8_readsPage_243 : decode cX8_readsPage 243 = .ok (.iconst 1, 1) := by decide +kernel
theorem dX8_readsPage_244 : decode cX8_readsPage 244 = .ok (.ireturn, 1) := by decide +kernel
theorem dX8_goesOn_0 : decode cX8_goesOn 0 = .ok (.aload_n 0, 1) := by decide +kernel
theorem dX8_goesOn_1 : decode cX8_goesOn 1 = .ok (.iconst 0, 1) := by decide +kernel
theorem dX8_goesOn_2 : decode cX8_goesOn 2 = .ok (.putfield 113, 3) := by decide +kernel
theorem dX8_goesOn_5 : decode cX8_goesOn 5 = .ok (.aload_n 0, 1) := by decide +kernel
theorem dX8_goesOn_6 : decode cX8_goesOn 6 = .ok (.iconst 0, 1) := by decide +kernel
theorem dX8_goesOn_7 : decode cX8_goesOn 7 = .ok (.putfield 122, 3) := by decide +kernel
theorem dX8_goesOn_10 : decode cX8_goesOn 10 = .ok (.aload_n 0, 1) := by decide +kernel
theorem dX8_goesOn_11 : decode cX8_goesOn 11 = .ok (.getfield 113, 3) := by decide +kernel
theorem dX8_goesOn_14 : decode cX8_goesOn 14 = .ok (.aload_n 0, 1) := by decide +kernel
theorem dX8_goesOn_15 : decode cX8_goesOn 15 = .ok (.getfield 26, 3) := by decide +kernel
theorem dX8_goesOn_18 : decode cX8_goesOn 18 = .ok (.iload_n 1, 1) := by decide +kernel
theorem dX8_goesOn_19 : decode cX8_goesOn 19 = .ok (.iaload, 1) := by decide +kernel
theorem dX8_goesOn_20 : decode cX8_goesOn 20 = .ok (.if_icmp .ge 39, 3) := by decide +kernel
theorem dX8_goesOn_23 : decode cX8_goesOn 23 = .ok (.aload_n 0, 1) := by decide +kernel
theorem dX8_goesOn_24 : decode cX8_goesOn 24 = .ok (.iload_n 1, 1) := by decide +kernel
theorem dX8_goesOn_25 : decode cX8_goesOn 25 = .ok (.invokevirtual 116, 3) := by decide +kernel
theorem dX8_goesOn_28 : decode cX8_goesOn 28 = .ok (.bipush 32, 2) := by decide +kernel
theorem dX8_goesOn_30 : decode cX8_goesOn 30 = .ok (.if_icmp .ne 16, 3) := by decide +kernel
theorem dX8_goesOn_33 : decode cX8_goesOn 33 = .ok (.aload_n 0, 1) := by decide +kernel
theorem dX8_goesOn_34 : decode cX8_goesOn 34 = .ok (.dup, 1) := by decide +kernel
theorem dX8_goesOn_35 : decode cX8_goesOn 35 = .ok (.getfield 113, 3) := by decide +kernel
theorem dX8_goesOn_38 : decode cX8_goesOn 38 = .ok (.iconst 1, 1) := by decide +kernel
theorem dX8_goesOn_39 : decode cX8_goesOn 39 = .ok (.iadd, 1) := by decide +kernel
theorem dX8_goesOn_40 : decode cX8_goesOn 40 = .ok (.putfield 113, 3) := by decide +kernel
theorem dX8_goesOn_43 : decode cX8_goesOn 43 = .ok (.goto (-33), 3) := by decide +kernel
theorem dX8_goesOn_46 : decode cX8_goesOn 46 = .ok (.aload_n 0, 1) := by decide +kernel
theorem dX8_goesOn_47 : decode cX8_goesOn 47 = .ok (.iload_n 1, 1) := by decide +kernel
theorem dX8_goesOn_48 : decode cX8_goesOn 48 = .ok (.invokevirtual 135, 3) := by decide +kernel
theorem dX8_goesOn_51 : decode cX8_goesOn 51 = .ok (.ifCond .ne (-41), 3) := by decide +kernel
theorem dX8_goesOn_54 : decode cX8_goesOn 54 = .ok (.aload_n 0, 1) := by decide +kernel
theorem dX8_goesOn_55 : decode cX8_goesOn 55 = .ok (.getfield 113, 3) := by decide +kernel
theorem dX8_goesOn_58 : decode cX8_goesOn 58 = .ok (.ireturn, 1) := by decide +kernel
theorem dX8_goesOn_59 : decode cX8_goesOn 59 = .ok (.bipush (-9), 2) := by decide +kernel
theorem dX8_goesOn_61 : decode cX8_goesOn 61 = .ok (.ireturn, 1) := by decide +kernel
theorem dX8_fault_0 : decode cX8_fault 0 = .ok (.aload_n 0, 1) := by decide +kernel
theorem dX8_fault_1 : decode cX8_fault 1 = .ok (.iload_n 1, 1) := by decide +kernel
theorem dX8_fault_2 : decode cX8_fault 2 = .ok (.invokevirtual 110, 3) := by decide +kernel
theorem dX8_fault_5 : decode cX8_fault 5 = .ok (.istore_n 2, 1) := by decide +kernel
theorem dX8_fault_6 : decode cX8_fault 6 = .ok (.iload_n 2, 1) := by decide +kernel
theorem dX8_fault_7 : decode cX8_fault 7 = .ok (.ifCond .ge 7, 3) := by decide +kernel
theorem dX8_fault_10 : decode cX8_fault 10 = .ok (.iload_n 2, 1) := by decide +kernel
theorem dX8_fault_11 : decode cX8_fault 11 = .ok (.goto 8, 3) := by decide +kernel
theorem dX8_fault_14 : decode cX8_fault 14 = .ok (.aload_n 0, 1) := by decide +kernel
theorem dX8_fault_15 : decode cX8_fault 15 = .ok (.iload_n 1, 1) := by decide +kernel
theorem dX8_fault_16 : decode cX8_fault 16 = .ok (.invokevirtual 138, 3) := by decide +kernel
theorem dX8_fault_19 : decode cX8_fault 19 = .ok (.ireturn, 1) := by decide +kernel
theorem dX8_book_0 : decode cX8_book 0 = .ok (.aload_n 0, 1) := by decide +kernel
theorem dX8_book_1 : decode cX8_book 1 = .ok (.iload_n 1, 1) := by decide +kernel
theorem dX8_book_2 : decode cX8_book 2 = .ok (.invokevirtual 110, 3) := by decide +kernel
theorem dX8_book_5 : decode cX8_book 5 = .ok (.istore_n 2, 1) := by decide +kernel
theorem dX8_book_6 : decode cX8_book 6 = .ok (.iload_n 2, 1) := by decide +kernel
theorem dX8_book_7 : decode cX8_book 7 = .ok (.ifCond .ge 5, 3) := by decide +kernel
theorem dX8_book_10 : decode cX8_book 10 = .ok (.iload_n 2, 1) := by decide +kernel
theorem dX8_book_11 : decode cX8_book 11 = .ok (.ireturn, 1) := by decide +kernel
theorem dX8_book_12 : decode cX8_book 12 = .ok (.aload_n 0, 1) := by decide +kernel
theorem dX8_book_13 : decode cX8_book 13 = .ok (.iload_n 1, 1) := by decide +kernel
theorem dX8_book_14 : decode cX8_book 14 = .ok (.invokevirtual 138, 3) := by decide +kernel
theorem dX8_book_17 : decode cX8_book 17 = .ok (.bipush (-9), 2) := by decide +kernel
theorem dX8_book_19 : decode cX8_book 19 = .ok (.if_icmp .eq 6, 3) := by decide +kernel
theorem dX8_book_22 : decode cX8_book 22 = .ok (.bipush (-4), 2) := by decide +kernel
theorem dX8_book_24 : decode cX8_book 24 = .ok (.ireturn, 1) := by decide +kernel
theorem dX8_book_25 : decode cX8_book 25 = .ok (.aload_n 0, 1) := by decide +kernel
theorem dX8_book_26 : decode cX8_book 26 = .ok (.aload_n 0, 1) := by decide +kernel
theorem dX8_book_27 : decode cX8_book 27 = .ok (.getfield 122, 3) := by decide +kernel
theorem dX8_book_30 : decode cX8_book 30 = .ok (.putfield 141, 3) := by decide +kernel
theorem dX8_book_33 : decode cX8_book 33 = .ok (.iconst 0, 1) := by decide +kernel
theorem dX8_book_34 : decode cX8_book 34 = .ok (.istore_n 3, 1) := by decide +kernel
theorem dX8_book_35 : decode cX8_book 35 = .ok (.iload_n 3, 1) := by decide +kernel
theorem dX8_book_36 : decode cX8_book 36 = .ok (.aload_n 0, 1) := by decide +kernel
theorem dX8_book_37 : decode cX8_book 37 = .ok (.getfield 141, 3) := by decide +kernel
theorem dX8_book_40 : decode cX8_book 40 = .ok (.if_icmp .ge 101, 3) := by decide +kernel
theorem dX8_book_43 : decode cX8_book 43 = .ok (.aload_n 0, 1) := by decide +kernel
theorem dX8_book_44 : decode cX8_book 44 = .ok (.getfield 32, 3) := by decide +kernel
theorem dX8_book_47 : decode cX8_book 47 = .ok (.iload_n 3, 1) := by decide +kernel
theorem dX8_book_48 : decode cX8_book 48 = .ok (.aload_n 0, 1) := by decide +kernel
theorem dX8_book_49 : decode cX8_book 49 = .ok (.getfield 50, 3) := by decide +kernel
theorem dX8_book_52 : decode cX8_book 52 = .ok (.iconst 5, 1) := by decide +kernel
theorem dX8_book_53 : decode cX8_book 53 = .ok (.iload_n 3, 1) := by decide +kernel
theorem dX8_book_54 : decode cX8_book 54 = .ok (.imul, 1) := by decide +kernel
theorem dX8_book_55 : decode cX8_book 55 = .ok (.iaload, 1) := by decide +kernel
theorem dX8_book_56 : decode cX8_book 56 = .ok (.iastore, 1) := by decide +kernel
theorem dX8_book_57 : decode cX8_book 57 = .ok (.aload_n 0, 1) := by decide +kernel
theorem dX8_book_58 : decode cX8_book 58 = .ok (.getfield 35, 3) := by decide +kernel
theorem dX8_book_61 : decode cX8_book 61 = .ok (.iload_n 3, 1) := by decide +kernel
theorem dX8_book_62 : decode cX8_book 62 = .ok (.aload_n 0, 1) := by decide +kernel
theorem dX8_book_63 : decode cX8_book 63 = .ok (.getfield 50, 3) := by decide +kernel
theorem dX8_book_66 : decode cX8_book 66 = .ok (.iconst 5, 1) := by decide +kernel
theorem dX8_book_67 : decode cX8_book 67 = .ok (.iload_n 3, 1) := by decide +kernel
theorem dX8_book_68 : decode cX8_book 68 = .ok (.imul, 1) := by decide +kernel
theorem dX8_book_69 : decode cX8_book 69 = .ok (.iconst 1, 1) := by decide +kernel
theorem dX8_book_70 : decode cX8_book 70 = .ok (.iadd, 1) := by decide +kernel
theorem dX8_book_71 : decode cX8_book 71 = .ok (.iaload, 1) := by decide +kernel
theorem dX8_book_72 : decode cX8_book 72 = .ok (.iastore, 1) := by decide +kernel
theorem dX8_book_73 : decode cX8_book 73 = .ok (.aload_n 0, 1) := by decide +kernel
theorem dX8_book_74 : decode cX8_book 74 = .ok (.getfield 38, 3) := by decide +kernel
theorem dX8_book_77 : decode cX8_book 77 = .ok (.iload_n 3, 1) := by decide +kernel
theorem dX8_book_78 : decode cX8_book 78 = .ok (.aload_n 0, 1) := by decide +kernel
theorem dX8_book_79 : decode cX8_book 79 = .ok (.getfield 50, 3) := by decide +kernel
theorem dX8_book_82 : decode cX8_book 82 = .ok (.iconst 5, 1) := by decide +kernel
theorem dX8_book_83 : decode cX8_book 83 = .ok (.iload_n 3, 1) := by decide +kernel
theorem dX8_book_84 : decode cX8_book 84 = .ok (.imul, 1) := by decide +kernel
theorem dX8_book_85 : decode cX8_book 85 = .ok (.iconst 2, 1) := by decide +kernel
theorem dX8_book_86 : decode cX8_book 86 = .ok (.iadd, 1) := by decide +kernel
theorem dX8_book_87 : decode cX8_book 87 = .ok (.iaload, 1) := by decide +kernel
theorem dX8_book_88 : decode cX8_book 88 = .ok (.iastore, 1) := by decide +kernel
theorem dX8_book_89 : decode cX8_book 89 = .ok (.aload_n 0, 1) := by decide +kernel
theorem dX8_book_90 : decode cX8_book 90 = .ok (.getfield 41, 3) := by decide +kernel
theorem dX8_book_93 : decode cX8_book 93 = .ok (.iload_n 3, 1) := by decide +kernel
theorem dX8_book_94 : decode cX8_book 94 = .ok (.aload_n 0, 1) := by decide +kernel
theorem dX8_book_95 : decode cX8_book 95 = .ok (.getfield 50, 3) := by decide +kernel
theorem dX8_book_98 : decode cX8_book 98 = .ok (.iconst 5, 1) := by decide +kernel
theorem dX8_book_99 : decode cX8_book 99 = .ok (.iload_n 3, 1) := by decide +kernel
theorem dX8_book_100 : decode cX8_book 100 = .ok (.imul, 1) := by decide +kernel
theorem dX8_book_101 : decode cX8_book 101 = .ok (.iconst 3, 1) := by decide +kernel
theorem dX8_book_102 : decode cX8_book 102 = .ok (.iadd, 1) := by decide +kernel
theorem dX8_book_103 : decode cX8_book 103 = .ok (.iaload, 1) := by decide +kernel
theorem dX8_book_104 : decode cX8_book 104 = .ok (.iastore, 1) := by decide +kernel
theorem dX8_book_105 : decode cX8_book 105 = .ok (.aload_n 0, 1) := by decide +kernel
theorem dX8_book_106 : decode cX8_book 106 = .ok (.getfield 44, 3) := by decide +kernel
theorem dX8_book_109 : decode cX8_book 109 = .ok (.iload_n 3, 1) := by decide +kernel
theorem dX8_book_110 : decode cX8_book 110 = .ok (.aload_n 0, 1) := by decide +kernel
theorem dX8_book_111 : decode cX8_book 111 = .ok (.getfield 50, 3) := by decide +kernel
theorem dX8_book_114 : decode cX8_book 114 = .ok (.iconst 5, 1) := by decide +kernel
theorem dX8_book_115 : decode cX8_book 115 = .ok (.iload_n 3, 1) := by decide +kernel
theorem dX8_book_116 : decode cX8_book 116 = .ok (.imul, 1) := by decide +kernel
theorem dX8_book_117 : decode cX8_book 117 = .ok (.iconst 4, 1) := by decide +kernel
theorem dX8_book_118 : decode cX8_book 118 = .ok (.iadd, 1) := by decide +kernel
theorem dX8_book_119 : decode cX8_book 119 = .ok (.iaload, 1) := by decide +kernel
theorem dX8_book_120 : decode cX8_book 120 = .ok (.iastore, 1) := by decide +kernel
theorem dX8_book_121 : decode cX8_book 121 = .ok (.aload_n 0, 1) := by decide +kernel
theorem dX8_book_122 : decode cX8_book 122 = .ok (.getfield 47, 3) := by decide +kernel
theorem dX8_book_125 : decode cX8_book 125 = .ok (.iload_n 3, 1) := by decide +kernel
theorem dX8_book_126 : decode cX8_book 126 = .ok (.aload_n 0, 1) := by decide +kernel
theorem dX8_book_127 : decode cX8_book 127 = .ok (.getfield 141, 3) := by decide +kernel
theorem dX8_book_130 : decode cX8_book 130 = .ok (.iconst 1, 1) := by decide +kernel
theorem dX8_book_131 : decode cX8_book 131 = .ok (.isub, 1) := by decide +kernel
theorem dX8_book_132 : decode cX8_book 132 = .ok (.iload_n 3, 1) := by decide +kernel
theorem dX8_book_133 : decode cX8_book 133 = .ok (.isub, 1) := by decide +kernel
theorem dX8_book_134 : decode cX8_book 134 = .ok (.iastore, 1) := by decide +kernel
theorem dX8_book_135 : decode cX8_book 135 = .ok (.iinc 3 1, 3) := by decide +kernel
theorem dX8_book_138 : decode cX8_book 138 = .ok (.goto (-103), 3) := by decide +kernel
theorem dX8_book_141 : decode cX8_book 141 = .ok (.iconst 0, 1) := by decide +kernel
theorem dX8_book_142 : decode cX8_book 142 = .ok (.istore_n 3, 1) := by decide +kernel
theorem dX8_book_143 : decode cX8_book 143 = .ok (.iload_n 3, 1) := by decide +kernel
theorem dX8_book_144 : decode cX8_book 144 = .ok (.iconst 3, 1) := by decide +kernel
theorem dX8_book_145 : decode cX8_book 145 = .ok (.if_icmp .ge 20, 3) := by decide +kernel
theorem dX8_book_148 : decode cX8_book 148 = .ok (.aload_n 0, 1) := by decide +kernel
theorem dX8_book_149 : decode cX8_book 149 = .ok (.getfield 57, 3) := by decide +kernel
theorem dX8_book_152 : decode cX8_book 152 = .ok (.bipush 38, 2) := by decide +kernel
theorem dX8_book_154 : decode cX8_book 154 = .ok (.iload_n 3, 1) := by decide +kernel
theorem dX8_book_155 : decode cX8_book 155 = .ok (.imul, 1) := by decide +kernel
theorem dX8_book_156 : decode cX8_book 156 = .ok (.bipush (-9), 2) := by decide +kernel
theorem dX8_book_158 : decode cX8_book 158 = .ok (.iastore, 1) := by decide +kernel
theorem dX8_book_159 : decode cX8_book 159 = .ok (.iinc 3 1, 3) := by decide +kernel
theorem dX8_book_162 : decode cX8_book 162 = .ok (.goto (-19), 3) := by decide +kernel
theorem dX8_book_165 : decode cX8_book 165 = .ok (.aload_n 0, 1) := by decide +kernel
theorem dX8_book_166 : decode cX8_book 166 = .ok (.getfield 141, 3) := by decide +kernel
theorem dX8_book_169 : decode cX8_book 169 = .ok (.ireturn, 1) := by decide +kernel
theorem dX8_isPage_0 : decode cX8_isPage 0 = .ok (.iload_n 1, 1) := by decide +kernel
theorem dX8_isPage_1 : decode cX8_isPage 1 = .ok (.iconst 0, 1) := by decide +kernel
theorem dX8_isPage_2 : decode cX8_isPage 2 = .ok (.aload_n 0, 1) := by decide +kernel
theorem dX8_isPage_3 : decode cX8_isPage 3 = .ok (.getfield 141, 3) := by decide +kernel
theorem dX8_isPage_6 : decode cX8_isPage 6 = .ok (.iconst 1, 1) := by decide +kernel
theorem dX8_isPage_7 : decode cX8_isPage 7 = .ok (.isub, 1) := by decide +kernel
theorem dX8_isPage_8 : decode cX8_isPage 8 = .ok (.invokestatic 78, 3) := by decide +kernel
theorem dX8_isPage_11 : decode cX8_isPage 11 = .ok (.ireturn, 1) := by decide +kernel
theorem dX8_isDay_0 : decode cX8_isDay 0 = .ok (.iload_n 0, 1) := by decide +kernel
theorem dX8_isDay_1 : decode cX8_isDay 1 = .ok (.iconst 0, 1) := by decide +kernel
theorem dX8_isDay_2 : decode cX8_isDay 2 = .ok (.bipush 20, 2) := by decide +kernel
theorem dX8_isDay_4 : decode cX8_isDay 4 = .ok (.invokestatic 78, 3) := by decide +kernel
theorem dX8_isDay_7 : decode cX8_isDay 7 = .ok (.ireturn, 1) := by decide +kernel
theorem dX8_isCase_0 : decode cX8_isCase 0 = .ok (.iload_n 0, 1) := by decide +kernel
theorem dX8_isCase_1 : decode cX8_isCase 1 = .ok (.iconst 0, 1) := by decide +kernel
theorem dX8_isCase_2 : decode cX8_isCase 2 = .ok (.bipush 31, 2) := by decide +kernel
theorem dX8_isCase_4 : decode cX8_isCase 4 = .ok (.invokestatic 78, 3) := by decide +kernel
theorem dX8_isCase_7 : decode cX8_isCase 7 = .ok (.ireturn, 1) := by decide +kernel
theorem dX8_isA_0 : decode cX8_isA 0 = .ok (.aload_n 0, 1) := by decide +kernel
theorem dX8_isA_1 : decode cX8_isA 1 = .ok (.getfield 32, 3) := by decide +kernel
theorem dX8_isA_4 : decode cX8_isA 4 = .ok (.iload_n 1, 1) := by decide +kernel
theorem dX8_isA_5 : decode cX8_isA 5 = .ok (.iaload, 1) := by decide +kernel
theorem dX8_isA_6 : decode cX8_isA 6 = .ok (.iload_n 2, 1) := by decide +kernel
theorem dX8_isA_7 : decode cX8_isA 7 = .ok (.if_icmp .eq 33, 3) := by decide +kernel
theorem dX8_isA_10 : decode cX8_isA 10 = .ok (.iload_n 2, 1) := by decide +kernel
theorem dX8_isA_11 : decode cX8_isA 11 = .ok (.iconst 1, 1) := by decide +kernel
theorem dX8_isA_12 : decode cX8_isA 12 = .ok (.if_icmp .ne 13, 3) := by decide +kernel
theorem dX8_isA_15 : decode cX8_isA 15 = .ok (.aload_n 0, 1) := by decide +kernel
theorem dX8_isA_16 : decode cX8_isA 16 = .ok (.getfield 32, 3) := by decide +kernel
theorem dX8_isA_19 : decode cX8_isA 19 = .ok (.iload_n 1, 1) := by decide +kernel
theorem dX8_isA_20 : decode cX8_isA 20 = .ok (.iaload, 1) := by decide +kernel
theorem dX8_isA_21 : decode cX8_isA 21 = .ok (.iconst 4, 1) := by decide +kernel
theorem dX8_isA_22 : decode cX8_isA 22 = .ok (.if_icmp .eq 18, 3) := by decide +kernel
theorem dX8_isA_25 : decode cX8_isA 25 = .ok (.iload_n 2, 1) := by decide +kernel
theorem dX8_isA_26 : decode cX8_isA 26 = .ok (.iconst 2, 1) := by decide +kernel
theorem dX8_isA_27 : decode cX8_isA 27 = .ok (.if_icmp .ne 17, 3) := by decide +kernel
theorem dX8_isA_30 : decode cX8_isA 30 = .ok (.aload_n 0, 1) := by decide +kernel
theorem dX8_isA_31 : decode cX8_isA 31 = .ok (.getfield 32, 3) := by decide +kernel
theorem dX8_isA_34 : decode cX8_isA 34 = .ok (.iload_n 1, 1) := by decide +kernel
theorem dX8_isA_35 : decode cX8_isA 35 = .ok (.iaload, 1) := by decide +kernel
theorem dX8_isA_36 : decode cX8_isA 36 = .ok (.iconst 5, 1) := by decide +kernel
theorem dX8_isA_37 : decode cX8_isA 37 = .ok (.if_icmp .ne 7, 3) := by decide +kernel
theorem dX8_isA_40 : decode cX8_isA 40 = .ok (.iconst 1, 1) := by decide +kernel
theorem dX8_isA_41 : decode cX8_isA 41 = .ok (.goto 4, 3) := by decide +kernel
theorem dX8_isA_44 : decode cX8_isA 44 = .ok (.iconst 0, 1) := by decide +kernel
theorem dX8_isA_45 : decode cX8_isA 45 = .ok (.ireturn, 1) := by decide +kernel
theorem dX8_pageOf_0 : decode cX8_pageOf 0 = .ok (.iload_n 2, 1) := by decide +kernel
theorem dX8_pageOf_1 : decode cX8_pageOf 1 = .ok (.ifCond .ne 12, 3) := by decide +kernel
theorem dX8_pageOf_4 : decode cX8_pageOf 4 = .ok (.aload_n 0, 1) := by decide +kernel
theorem dX8_pageOf_5 : decode cX8_pageOf 5 = .ok (.getfield 32, 3) := by decide +kernel
theorem dX8_pageOf_8 : decode cX8_pageOf 8 = .ok (.iload_n 1, 1) := by decide +kernel
theorem dX8_pageOf_9 : decode cX8_pageOf 9 = .ok (.iaload, 1) := by decide +kernel
theorem dX8_pageOf_10 : decode cX8_pageOf 10 = .ok (.goto 65, 3) := by decide +kernel
theorem dX8_pageOf_13 : decode cX8_pageOf 13 = .ok (.iload_n 2, 1) := by decide +kernel
theorem dX8_pageOf_14 : decode cX8_pageOf 14 = .ok (.iconst 1, 1) := by decide +kernel
theorem dX8_pageOf_15 : decode cX8_pageOf 15 = .ok (.if_icmp .ne 12, 3) := by decide +kernel
theorem dX8_pageOf_18 : decode cX8_pageOf 18 = .ok (.aload_n 0, 1) := by decide +kernel
theorem dX8_pageOf_19 : decode cX8_pageOf 19 = .ok (.getfield 35, 3) := by decide +kernel
theorem dX8_pageOf_22 : decode cX8_pageOf 22 = .ok (.iload_n 1, 1) := by decide +kernel
theorem dX8_pageOf_23 : decode cX8_pageOf 23 = .ok (.iaload, 1) := by decide +kernel
theorem dX8_pageOf_24 : decode cX8_pageOf 24 = .ok (.goto 51, 3) := by decide +kernel
theorem dX8_pageOf_27 : decode cX8_pageOf 27 = .ok (.iload_n 2, 1) := by decide +kernel
theorem dX8_pageOf_28 : decode cX8_pageOf 28 = .ok (.iconst 2, 1) := by decide +kernel
theorem dX8_pageOf_29 : decode cX8_pageOf 29 = .ok (.if_icmp .ne 12, 3) := by decide +kernel
theorem dX8_pageOf_32 : decode cX8_pageOf 32 = .ok (.aload_n 0, 1) := by decide +kernel
theorem dX8_pageOf_33 : decode cX8_pageOf 33 = .ok (.getfield 38, 3) := by decide +kernel
theorem dX8_pageOf_36 : decode cX8_pageOf 36 = .ok (.iload_n 1, 1) := by decide +kernel
theorem dX8_pageOf_37 : decode cX8_pageOf 37 = .ok (.iaload, 1) := by decide +kernel
theorem dX8_pageOf_38 : decode cX8_pageOf 38 = .ok (.goto 37, 3) := by decide +kernel
theorem dX8_pageOf_41 : decode cX8_pageOf 41 = .ok (.iload_n 2, 1) := by decide +kernel
theorem dX8_pageOf_42 : decode cX8_pageOf 42 = .ok (.iconst 3, 1) := by decide +kernel
theorem dX8_pageOf_43 : decode cX8_pageOf 43 = .ok (.if_icmp .ne 12, 3) := by decide +kernel
theorem dX8_pageOf_46 : decode cX8_pageOf 46 = .ok (.aload_n 0, 1) := by decide +kernel
theorem dX8_pageOf_47 : decode cX8_pageOf 47 = .ok (.getfield 41, 3) := by decide +kernel
theorem dX8_pageOf_50 : decode cX8_pageOf 50 = .ok (.iload_n 1, 1) := by decide +kernel
theorem dX8_pageOf_51 : decode cX8_pageOf 51 = .ok (.iaload, 1) := by decide +kernel
theorem dX8_pageOf_52 : decode cX8_pageOf 52 = .ok (.goto 23, 3) := by decide +kernel
theorem dX8_pageOf_55 : decode cX8_pageOf 55 = .ok (.iload_n 2, 1) := by decide +kernel
theorem dX8_pageOf_56 : decode cX8_pageOf 56 = .ok (.iconst 4, 1) := by decide +kernel
theorem dX8_pageOf_57 : decode cX8_pageOf 57 = .ok (.if_icmp .ne 12, 3) := by decide +kernel
theorem dX8_pageOf_60 : decode cX8_pageOf 60 = .ok (.aload_n 0, 1) := by decide +kernel
theorem dX8_pageOf_61 : decode cX8_pageOf 61 = .ok (.getfield 44, 3) := by decide +kernel
theorem dX8_pageOf_64 : decode cX8_pageOf 64 = .ok (.iload_n 1, 1) := by decide +kernel
theorem dX8_pageOf_65 : decode cX8_pageOf 65 = .ok (.iaload, 1) := by decide +kernel
theorem dX8_pageOf_66 : decode cX8_pageOf 66 = .ok (.goto 9, 3) := by decide +kernel
theorem dX8_pageOf_69 : decode cX8_pageOf 69 = .ok (.aload_n 0, 1) := by decide +kernel
theorem dX8_pageOf_70 : decode cX8_pageOf 70 = .ok (.getfield 47, 3) := by decide +kernel
theorem dX8_pageOf_73 : decode cX8_pageOf 73 = .ok (.iload_n 1, 1) := by decide +kernel
theorem dX8_pageOf_74 : decode cX8_pageOf 74 = .ok (.iaload, 1) := by decide +kernel
theorem dX8_pageOf_75 : decode cX8_pageOf 75 = .ok (.ireturn, 1) := by decide +kernel
theorem dX8_page_0 : decode cX8_page 0 = .ok (.aload_n 0, 1) := by decide +kernel
theorem dX8_page_1 : decode cX8_page 1 = .ok (.iload_n 1, 1) := by decide +kernel
theorem dX8_page_2 : decode cX8_page 2 = .ok (.invokevirtual 144, 3) := by decide +kernel
theorem dX8_page_5 : decode cX8_page 5 = .ok (.ifCond .eq 26, 3) := by decide +kernel
theorem dX8_page_8 : decode cX8_page 8 = .ok (.iload_n 2, 1) := by decide +kernel
theorem dX8_page_9 : decode cX8_page 9 = .ok (.iconst 0, 1) := by decide +kernel
theorem dX8_page_10 : decode cX8_page 10 = .ok (.iconst 5, 1) := by decide +kernel
theorem dX8_page_11 : decode cX8_page 11 = .ok (.invokestatic 78, 3) := by decide +kernel
theorem dX8_page_14 : decode cX8_page 14 = .ok (.ifCond .eq 17, 3) := by decide +kernel
theorem dX8_page_17 : decode cX8_page 17 = .ok (.aload_n 0, 1) := by decide +kernel
theorem dX8_page_18 : decode cX8_page 18 = .ok (.aload_n 0, 1) := by decide +kernel
theorem dX8_page_19 : decode cX8_page 19 = .ok (.iload_n 1, 1) := by decide +kernel
theorem dX8_page_20 : decode cX8_page 20 = .ok (.iload_n 2, 1) := by decide +kernel
theorem dX8_page_21 : decode cX8_page 21 = .ok (.invokevirtual 147, 3) := by decide +kernel
theorem dX8_page_24 : decode cX8_page 24 = .ok (.iconst 1, 1) := by decide +kernel
theorem dX8_page_25 : decode cX8_page 25 = .ok (.invokevirtual 104, 3) := by decide +kernel
theorem dX8_page_28 : decode cX8_page 28 = .ok (.goto 4, 3) := by decide +kernel
theorem dX8_page_31 : decode cX8_page 31 = .ok (.iconst (-1), 1) := by decide +kernel
theorem dX8_page_32 : decode cX8_page 32 = .ok (.ireturn, 1) := by decide +kernel
theorem dX8_doesBind_0 : decode cX8_doesBind 0 = .ok (.iload_n 1, 1) := by decide +kernel
theorem dX8_doesBind_1 : decode cX8_doesBind 1 = .ok (.istore_n 3, 1) := by decide +kernel
theorem dX8_doesBind_2 : decode cX8_doesBind 2 = .ok (.iconst 0, 1) := by decide +kernel
theorem dX8_doesBind_3 : decode cX8_doesBind 3 = .ok (.istore 4, 2) := by decide +kernel
theorem dX8_doesBind_5 : decode cX8_doesBind 5 = .ok (.iload 4, 2) := by decide +kernel
theorem dX8_doesBind_7 : decode cX8_doesBind 7 = .ok (.aload_n 0, 1) := by decide +kernel
theorem dX8_doesBind_8 : decode cX8_doesBind 8 = .ok (.getfield 141, 3) := by decide +kernel
theorem dX8_doesBind_11 : decode cX8_doesBind 11 = .ok (.if_icmp .gt 90, 3) := by decide +kernel
theorem dX8_doesBind_14 : decode cX8_doesBind 14 = .ok (.aload_n 0, 1) := by decide +kernel
theorem dX8_doesBind_15 : decode cX8_doesBind 15 = .ok (.iload_n 3, 1) := by decide +kernel
theorem dX8_doesBind_16 : decode cX8_doesBind 16 = .ok (.invokevirtual 144, 3) := by decide +kernel
theorem dX8_doesBind_19 : decode cX8_doesBind 19 = .ok (.ifCond .eq 53, 3) := by decide +kernel
theorem dX8_doesBind_22 : decode cX8_doesBind 22 = .ok (.iload_n 3, 1) := by decide +kernel
theorem dX8_doesBind_23 : decode cX8_doesBind 23 = .ok (.aload_n 0, 1) := by decide +kernel
theorem dX8_doesBind_24 : decode cX8_doesBind 24 = .ok (.getfield 53, 3) := by decide +kernel
theorem dX8_doesBind_27 : decode cX8_doesBind 27 = .ok (.if_icmp .eq 45, 3) := by decide +kernel
theorem dX8_doesBind_30 : decode cX8_doesBind 30 = .ok (.aload_n 0, 1) := by decide +kernel
theorem dX8_doesBind_31 : decode cX8_doesBind 31 = .ok (.getfield 32, 3) := by decide +kernel
theorem dX8_doesBind_34 : decode cX8_doesBind 34 = .ok (.iload_n 3, 1) := by decide +kernel
theorem dX8_doesBind_35 : decode cX8_doesBind 35 = .ok (.iaload, 1) := by decide +kernel
theorem dX8_doesBind_36 : decode cX8_doesBind 36 = .ok (.iconst 5, 1) := by decide +kernel
theorem dX8_doesBind_37 : decode cX8_doesBind 37 = .ok (.if_icmp .eq 13, 3) := by decide +kernel
theorem dX8_doesBind_40 : decode cX8_doesBind 40 = .ok (.iload_n 2, 1) := by decide +kernel
theorem dX8_doesBind_41 : decode cX8_doesBind 41 = .ok (.aload_n 0, 1) := by decide +kernel
theorem dX8_doesBind_42 : decode cX8_doesBind 42 = .ok (.getfield 47, 3) := by decide +kernel
theorem dX8_doesBind_45 : decode cX8_doesBind 45 = .ok (.iload_n 3, 1) := by decide +kernel
theorem dX8_doesBind_46 : decode cX8_doesBind 46 = .ok (.iaload, 1) := by decide +kernel
theorem dX8_doesBind_47 : decode cX8_doesBind 47 = .ok (.if_icmp .lt 25, 3) := by decide +kernel
theorem dX8_doesBind_50 : decode cX8_doesBind 50 = .ok (.aload_n 0, 1) := by decide +kernel
theorem dX8_doesBind_51 : decode cX8_doesBind 51 = .ok (.getfield 32, 3) := by decide +kernel
theorem dX8_doesBind_54 : decode cX8_doesBind 54 = .ok (.iload_n 3, 1) := by decide +kernel
theorem dX8_doesBind_55 : decode cX8_doesBind 55 = .ok (.iaload, 1) := by decide +kernel
theorem dX8_doesBind_56 : decode cX8_doesBind 56 = .ok (.iconst 4, 1) := by decide +kernel
theorem dX8_doesBind_57 : decode cX8_doesBind 57 = .ok (.if_icmp .ne 17, 3) := by decide +kernel
theorem dX8_doesBind_60 : decode cX8_doesBind 60 = .ok (.iload_n 2, 1) := by decide +kernel
theorem dX8_doesBind_61 : decode cX8_doesBind 61 = .ok (.aload_n 0, 1) := by decide +kernel
theorem dX8_doesBind_62 : decode cX8_doesBind 62 = .ok (.getfield 47, 3) := by decide +kernel
theorem dX8_doesBind_65 : decode cX8_doesBind 65 = .ok (.iload_n 3, 1) := by decide +kernel
theorem dX8_doesBind_66 : decode cX8_doesBind 66 = .ok (.iaload, 1) := by decide +kernel
theorem dX8_doesBind_67 : decode cX8_doesBind 67 = .ok (.iconst 2, 1) := by decide +kernel
theorem dX8_doesBind_68 : decode cX8_doesBind 68 = .ok (.iadd, 1) := by decide +kernel
theorem dX8_doesBind_69 : decode cX8_doesBind 69 = .ok (.if_icmp .le 5, 3) := by decide +kernel
theorem dX8_doesBind_72 : decode cX8_doesBind 72 = .ok (.iconst 0, 1) := by decide +kernel
theorem dX8_doesBind_73 : decode cX8_doesBind 73 = .ok (.ireturn, 1) := by decide +kernel
theorem dX8_doesBind_74 : decode cX8_doesBind 74 = .ok (.aload_n 0, 1) := by decide +kernel
theorem dX8_doesBind_75 : decode cX8_doesBind 75 = .ok (.getfield 32, 3) := by decide +kernel
theorem dX8_doesBind_78 : decode cX8_doesBind 78 = .ok (.iload_n 3, 1) := by decide +kernel
theorem dX8_doesBind_79 : decode cX8_doesBind 79 = .ok (.iaload, 1) := by decide +kernel
theorem dX8_doesBind_80 : decode cX8_doesBind 80 = .ok (.invokestatic 125, 3) := by decide +kernel
theorem dX8_doesBind_83 : decode cX8_doesBind 83 = .ok (.ifCond .ne 5, 3) := by decide +kernel
theorem dX8_doesBind_86 : decode cX8_doesBind 86 = .ok (.iconst 1, 1) := by decide +kernel
theorem dX8_doesBind_87 : decode cX8_doesBind 87 = .ok (.ireturn, 1) := by decide +kernel
theorem dX8_doesBind_88 : decode cX8_doesBind 88 = .ok (.aload_n 0, 1) := by decide +kernel
theorem dX8_doesBind_89 : decode cX8_doesBind 89 = .ok (.getfield 41, 3) := by decide +kernel
theorem dX8_doesBind_92 : decode cX8_doesBind 92 = .ok (.iload_n 3, 1) := by decide +kernel
theorem dX8_doesBind_93 : decode cX8_doesBind 93 = .ok (.iaload, 1) := by decide +kernel
theorem dX8_doesBind_94 : decode cX8_doesBind 94 = .ok (.istore_n 3, 1) := by decide +kernel
theorem dX8_doesBind_95 : decode cX8_doesBind 95 = .ok (.iinc 4 1, 3) := by decide +kernel
theorem dX8_doesBind_98 : decode cX8_doesBind 98 = .ok (.goto (-93), 3) := by decide +kernel
theorem dX8_doesBind_101 : decode cX8_doesBind 101 = .ok (.iconst 0, 1) := by decide +kernel
theorem dX8_doesBind_102 : decode cX8_doesBind 102 = .ok (.ireturn, 1) := by decide +kernel
theorem dX8_bindSet_0 : decode cX8_bindSet 0 = .ok (.iconst 0, 1) := by decide +kernel
theorem dX8_bindSet_1 : decode cX8_bindSet 1 = .ok (.istore_n 2, 1) := by decide +kernel
theorem dX8_bindSet_2 : decode cX8_bindSet 2 = .ok (.iconst 0, 1) := by decide +kernel
theorem dX8_bindSet_3 : decode cX8_bindSet 3 = .ok (.istore_n 3, 1) := by decide +kernel
theorem dX8_bindSet_4 : decode cX8_bindSet 4 = .ok (.iload_n 3, 1) := by decide +kernel
theorem dX8_bindSet_5 : decode cX8_bindSet 5 = .ok (.aload_n 0, 1) := by decide +kernel
theorem dX8_bindSet_6 : decode cX8_bindSet 6 = .ok (.getfield 141, 3) := by decide +kernel
theorem dX8_bindSet_9 : decode cX8_bindSet 9 = .ok (.if_icmp .ge 28, 3) := by decide +kernel
theorem dX8_bindSet_12 : decode cX8_bindSet 12 = .ok (.iload_n 2, 1) := by decide +kernel
theorem dX8_bindSet_13 : decode cX8_bindSet 13 = .ok (.aload_n 0, 1) := by decide +kernel
theorem dX8_bindSet_14 : decode cX8_bindSet 14 = .ok (.iload_n 3, 1) := by decide +kernel
theorem dX8_bindSet_15 : decode cX8_bindSet 15 = .ok (.iload_n 1, 1) := by decide +kernel
theorem dX8_bindSet_16 : decode cX8_bindSet 16 = .ok (.invokevirtual 150, 3) := by decide +kernel
theorem dX8_bindSet_19 : decode cX8_bindSet 19 = .ok (.ifCond .eq 9, 3) := by decide +kernel
theorem dX8_bindSet_22 : decode cX8_bindSet 22 = .ok (.iconst 1, 1) := by decide +kernel
theorem dX8_bindSet_23 : decode cX8_bindSet 23 = .ok (.iload_n 3, 1) := by decide +kernel
theorem dX8_bindSet_24 : decode cX8_bindSet 24 = .ok (.ishl, 1) := by decide +kernel
theorem dX8_bindSet_25 : decode cX8_bindSet 25 = .ok (.goto 4, 3) := by decide +kernel
theorem dX8_bindSet_28 : decode cX8_bindSet 28 = .ok (.iconst 0, 1) := by decide +kernel
theorem dX8_bindSet_29 : decode cX8_bindSet 29 = .ok (.ior, 1) := by decide +kernel
theorem dX8_bindSet_30 : decode cX8_bindSet 30 = .ok (.istore_n 2, 1) := by decide +kernel
theorem dX8_bindSet_31 : decode cX8_bindSet 31 = .ok (.iinc 3 1, 3) := by decide +kernel
theorem dX8_bindSet_34 : decode cX8_bindSet 34 = .ok (.goto (-30), 3) := by decide +kernel
theorem dX8_bindSet_37 : decode cX8_bindSet 37 = .ok (.iload_n 2, 1) := by decide +kernel
theorem dX8_bindSet_38 : decode cX8_bindSet 38 = .ok (.ireturn, 1) := by decide +kernel
theorem dX8_binds_0 : decode cX8_binds 0 = .ok (.iload_n 1, 1) := by decide +kernel
theorem dX8_binds_1 : decode cX8_binds 1 = .ok (.invokestatic 154, 3) := by decide +kernel
theorem dX8_binds_4 : decode cX8_binds 4 = .ok (.ifCond .eq 11, 3) := by decide +kernel
theorem dX8_binds_7 : decode cX8_binds 7 = .ok (.aload_n 0, 1) := by decide +kernel
theorem dX8_binds_8 : decode cX8_binds 8 = .ok (.iload_n 1, 1) := by decide +kernel
theorem dX8_binds_9 : decode cX8_binds 9 = .ok (.invokevirtual 157, 3) := by decide +kernel
theorem dX8_binds_12 : decode cX8_binds 12 = .ok (.goto 4, 3) := by decide +kernel
theorem dX8_binds_15 : decode cX8_binds 15 = .ok (.iconst (-1), 1) := by decide +kernel
theorem dX8_binds_16 : decode cX8_binds 16 = .ok (.ireturn, 1) := by decide +kernel
theorem dX8_weightOf_0 : decode cX8_weightOf 0 = .ok (.aload_n 0, 1) := by decide +kernel
theorem dX8_weightOf_1 : decode cX8_weightOf 1 = .ok (.getfield 38, 3) := by decide +kernel
theorem dX8_weightOf_4 : decode cX8_weightOf 4 = .ok (.iload_n 1, 1) := by decide +kernel
theorem dX8_weightOf_5 : decode cX8_weightOf 5 = .ok (.iaload, 1) := by decide +kernel
theorem dX8_weightOf_6 : decode cX8_weightOf 6 = .ok (.invokestatic 160, 3) := by decide +kernel
theorem dX8_weightOf_9 : decode cX8_weightOf 9 = .ok (.aload_n 0, 1) := by decide +kernel
theorem dX8_weightOf_10 : decode cX8_weightOf 10 = .ok (.iload_n 1, 1) := by decide +kernel
theorem dX8_weightOf_11 : decode cX8_weightOf 11 = .ok (.iconst 1, 1) := by decide +kernel
theorem dX8_weightOf_12 : decode cX8_weightOf 12 = .ok (.invokevirtual 163, 3) := by decide +kernel
theorem dX8_weightOf_15 : decode cX8_weightOf 15 = .ok (.ifCond .eq 8, 3) := by decide +kernel
theorem dX8_weightOf_18 : decode cX8_weightOf 18 = .ok (.bipush 10, 2) := by decide +kernel
theorem dX8_weightOf_20 : decode cX8_weightOf 20 = .ok (.goto 4, 3) := by decide +kernel
theorem dX8_weightOf_23 : decode cX8_weightOf 23 = .ok (.iconst 0, 1) := by decide +kernel
theorem dX8_weightOf_24 : decode cX8_weightOf 24 = .ok (.iadd, 1) := by decide +kernel
theorem dX8_weightOf_25 : decode cX8_weightOf 25 = .ok (.ireturn, 1) := by decide +kernel
theorem dX8_mark_0 : decode cX8_mark 0 = .ok (.aload_n 0, 1) := by decide +kernel
theorem dX8_mark_1 : decode cX8_mark 1 = .ok (.iload_n 1, 1) := by decide +kernel
theorem dX8_mark_2 : decode cX8_mark 2 = .ok (.invokevirtual 144, 3) := by decide +kernel
theorem dX8_mark_5 : decode cX8_mark 5 = .ok (.ifCond .eq 12, 3) := by decide +kernel
theorem dX8_mark_8 : decode cX8_mark 8 = .ok (.iload_n 2, 1) := by decide +kernel
theorem dX8_mark_9 : decode cX8_mark 9 = .ok (.iconst 1, 1) := by decide +kernel
theorem dX8_mark_10 : decode cX8_mark 10 = .ok (.iconst 5, 1) := by decide +kernel
theorem dX8_mark_11 : decode cX8_mark 11 = .ok (.invokestatic 78, 3) := by decide +kernel
theorem dX8_mark_14 : decode cX8_mark 14 = .ok (.ifCond .ne 5, 3) := by decide +kernel
theorem dX8_mark_17 : decode cX8_mark 17 = .ok (.iconst (-1), 1) := by decide +kernel
theorem dX8_mark_18 : decode cX8_mark 18 = .ok (.ireturn, 1) := by decide +kernel
theorem dX8_mark_19 : decode cX8_mark 19 = .ok (.aload_n 0, 1) := by decide +kernel
theorem dX8_mark_20 : decode cX8_mark 20 = .ok (.iload_n 1, 1) := by decide +kernel
theorem dX8_mark_21 : decode cX8_mark 21 = .ok (.iload_n 2, 1) := by decide +kernel
theorem dX8_mark_22 : decode cX8_mark 22 = .ok (.invokevirtual 163, 3) := by decide +kernel
theorem dX8_mark_25 : decode cX8_mark 25 = .ok (.ifCond .ne 9, 3) := by decide +kernel
theorem dX8_mark_28 : decode cX8_mark 28 = .ok (.aload_n 0, 1) := by decide +kernel
theorem dX8_mark_29 : decode cX8_mark 29 = .ok (.iconst 3, 1) := by decide +kernel
theorem dX8_mark_30 : decode cX8_mark 30 = .ok (.invokevirtual 86, 3) := by decide +kernel
theorem dX8_mark_33 : decode cX8_mark 33 = .ok (.ireturn, 1) := by decide +kernel
theorem dX8_mark_34 : decode cX8_mark 34 = .ok (.iconst 0, 1) := by decide +kernel
theorem dX8_mark_35 : decode cX8_mark 35 = .ok (.istore_n 3, 1) := by decide +kernel
theorem dX8_mark_36 : decode cX8_mark 36 = .ok (.bipush (-9), 2) := by decide +kernel
theorem dX8_mark_38 : decode cX8_mark 38 = .ok (.istore 4, 2) := by decide +kernel
theorem dX8_mark_40 : decode cX8_mark 40 = .ok (.iconst 0, 1) := by decide +kernel
theorem dX8_mark_41 : decode cX8_mark 41 = .ok (.istore 5, 2) := by decide +kernel
theorem dX8_mark_43 : decode cX8_mark 43 = .ok (.iload 5, 2) := by decide +kernel
theorem dX8_mark_45 : decode cX8_mark 45 = .ok (.aload_n 0, 1) := by decide +kernel
theorem dX8_mark_46 : decode cX8_mark 46 = .ok (.getfield 141, 3) := by decide +kernel
theorem dX8_mark_49 : decode cX8_mark 49 = .ok (.if_icmp .ge 45, 3) := by decide +kernel
theorem dX8_mark_52 : decode cX8_mark 52 = .ok (.iload_n 3, 1) := by decide +kernel
theorem dX8_mark_53 : decode cX8_mark 53 = .ok (.aload_n 0, 1) := by decide +kernel
theorem dX8_mark_54 : decode cX8_mark 54 = .ok (.getfield 32, 3) := by decide +kernel
theorem dX8_mark_57 : decode cX8_mark 57 = .ok (.iload 5, 2) := by decide +kernel
theorem dX8_mark_59 : decode cX8_mark 59 = .ok (.iaload, 1) := by decide +kernel
theorem dX8_mark_60 : decode cX8_mark 60 = .ok (.iconst 3, 1) := by decide +kernel
theorem dX8_mark_61 : decode cX8_mark 61 = .ok (.if_icmp .eq 24, 3) := by decide +kernel
theorem dX8_mark_64 : decode cX8_mark 64 = .ok (.aload_n 0, 1) := by decide +kernel
theorem dX8_mark_65 : decode cX8_mark 65 = .ok (.getfield 38, 3) := by decide +kernel
theorem dX8_mark_68 : decode cX8_mark 68 = .ok (.iload 5, 2) := by decide +kernel
theorem dX8_mark_70 : decode cX8_mark 70 = .ok (.iaload, 1) := by decide +kernel
theorem dX8_mark_71 : decode cX8_mark 71 = .ok (.aload_n 0, 1) := by decide +kernel
theorem dX8_mark_72 : decode cX8_mark 72 = .ok (.getfield 38, 3) := by decide +kernel
theorem dX8_mark_75 : decode cX8_mark 75 = .ok (.iload_n 1, 1) := by decide +kernel
theorem dX8_mark_76 : decode cX8_mark 76 = .ok (.iaload, 1) := by decide +kernel
theorem dX8_mark_77 : decode cX8_mark 77 = .ok (.iand, 1) := by decide +kernel
theorem dX8_mark_78 : decode cX8_mark 78 = .ok (.ifCond .eq 7, 3) := by decide +kernel
theorem dX8_mark_81 : decode cX8_mark 81 = .ok (.iconst 1, 1) := by decide +kernel
theorem dX8_mark_82 : decode cX8_mark 82 = .ok (.goto 4, 3) := by decide +kernel
theorem dX8_mark_85 : decode cX8_mark 85 = .ok (.iconst 0, 1) := by decide +kernel
theorem dX8_mark_86 : decode cX8_mark 86 = .ok (.iadd, 1) := by decide +kernel
theorem dX8_mark_87 : decode cX8_mark 87 = .ok (.istore_n 3, 1) := by decide +kernel
theorem dX8_mark_88 : decode cX8_mark 88 = .ok (.iinc 5 1, 3) := by decide +kernel
theorem dX8_mark_91 : decode cX8_mark 91 = .ok (.goto (-48), 3) := by decide +kernel
theorem dX8_mark_94 : decode cX8_mark 94 = .ok (.bipush 20, 2) := by decide +kernel
theorem dX8_mark_96 : decode cX8_mark 96 = .ok (.istore 5, 2) := by decide +kernel
theorem dX8_mark_98 : decode cX8_mark 98 = .ok (.iload 5, 2) := by decide +kernel
theorem dX8_mark_100 : decode cX8_mark 100 = .ok (.ifCond .lt 28, 3) := by decide +kernel
theorem dX8_mark_103 : decode cX8_mark 103 = .ok (.aload_n 0, 1) := by decide +kernel
theorem dX8_mark_104 : decode cX8_mark 104 = .ok (.iload_n 1, 1) := by decide +kernel
theorem dX8_mark_105 : decode cX8_mark 105 = .ok (.iload 5, 2) := by decide +kernel
theorem dX8_mark_107 : decode cX8_mark 107 = .ok (.invokevirtual 150, 3) := by decide +kernel
theorem dX8_mark_110 : decode cX8_mark 110 = .ok (.ifCond .eq 8, 3) := by decide +kernel
theorem dX8_mark_113 : decode cX8_mark 113 = .ok (.iload 5, 2) := by decide +kernel
theorem dX8_mark_115 : decode cX8_mark 115 = .ok (.goto 5, 3) := by decide +kernel
theorem dX8_mark_118 : decode cX8_mark 118 = .ok (.iload 4, 2) := by decide +kernel
theorem dX8_mark_120 : decode cX8_mark 120 = .ok (.istore 4, 2) := by decide +kernel
theorem dX8_mark_122 : decode cX8_mark 122 = .ok (.iinc 5 (-1), 3) := by decide +kernel
theorem dX8_mark_125 : decode cX8_mark 125 = .ok (.goto (-27), 3) := by decide +kernel
theorem dX8_mark_128 : decode cX8_mark 128 = .ok (.iload_n 2, 1) := by decide +kernel
theorem dX8_mark_129 : decode cX8_mark 129 = .ok (.tableswitch 64 1 4 #[31, 37, 53, 55], 31) := by decide +kernel
theorem dX8_mark_160 : decode cX8_mark 160 = .ok (.aload_n 0, 1) := by decide +kernel
theorem dX8_mark_161 : decode cX8_mark 161 = .ok (.iload_n 1, 1) := by decide +kernel
theorem dX8_mark_162 : decode cX8_mark 162 = .ok (.invokevirtual 166, 3) := by decide +kernel
theorem dX8_mark_165 : decode cX8_mark 165 = .ok (.ireturn, 1) := by decide +kernel
theorem dX8_mark_166 : decode cX8_mark 166 = .ok (.aload_n 0, 1) := by decide +kernel
theorem dX8_mark_167 : decode cX8_mark 167 = .ok (.iload_n 1, 1) := by decide +kernel
theorem dX8_mark_168 : decode cX8_mark 168 = .ok (.bipush 20, 2) := by decide +kernel
theorem dX8_mark_170 : decode cX8_mark 170 = .ok (.invokevirtual 150, 3) := by decide +kernel
theorem dX8_mark_173 : decode cX8_mark 173 = .ok (.ifCond .eq 7, 3) := by decide +kernel
theorem dX8_mark_176 : decode cX8_mark 176 = .ok (.iconst 1, 1) := by decide +kernel
theorem dX8_mark_177 : decode cX8_mark 177 = .ok (.goto 4, 3) := by decide +kernel
theorem dX8_mark_180 : decode cX8_mark 180 = .ok (.iconst 0, 1) := by decide +kernel
theorem dX8_mark_181 : decode cX8_mark 181 = .ok (.ireturn, 1) := by decide +kernel
theorem dX8_mark_182 : decode cX8_mark 182 = .ok (.iload_n 3, 1) := by decide +kernel
theorem dX8_mark_183 : decode cX8_mark 183 = .ok (.ireturn, 1) := by decide +kernel
theorem dX8_mark_184 : decode cX8_mark 184 = .ok (.aload_n 0, 1) := by decide +kernel
theorem dX8_mark_185 : decode cX8_mark 185 = .ok (.getfield 47, 3) := by decide +kernel
theorem dX8_mark_188 : decode cX8_mark 188 = .ok (.iload_n 1, 1) := by decide +kernel
theorem dX8_mark_189 : decode cX8_mark 189 = .ok (.iaload, 1) := by decide +kernel
theorem dX8_mark_190 : decode cX8_mark 190 = .ok (.iconst 2, 1) := by decide +kernel
theorem dX8_mark_191 : decode cX8_mark 191 = .ok (.iadd, 1) := by decide +kernel
theorem dX8_mark_192 : decode cX8_mark 192 = .ok (.ireturn, 1) := by decide +kernel
theorem dX8_mark_193 : decode cX8_mark 193 = .ok (.iload 4, 2) := by decide +kernel
theorem dX8_mark_195 : decode cX8_mark 195 = .ok (.ireturn, 1) := by decide +kernel
theorem dX8_reverse_0 : decode cX8_reverse 0 = .ok (.aload_n 0, 1) := by decide +kernel
theorem dX8_reverse_1 : decode cX8_reverse 1 = .ok (.iload_n 1, 1) := by decide +kernel
theorem dX8_reverse_2 : decode cX8_reverse 2 = .ok (.invokevirtual 144, 3) := by decide +kernel
theorem dX8_reverse_5 : decode cX8_reverse 5 = .ok (.ifCond .eq 12, 3) := by decide +kernel
theorem dX8_reverse_8 : decode cX8_reverse 8 = .ok (.iload_n 2, 1) := by decide +kernel
theorem dX8_reverse_9 : decode cX8_reverse 9 = .ok (.iconst 0, 1) := by decide +kernel
theorem dX8_reverse_10 : decode cX8_reverse 10 = .ok (.iconst 1, 1) := by decide +kernel
theorem dX8_reverse_11 : decode cX8_reverse 11 = .ok (.invokestatic 78, 3) := by decide +kernel
theorem dX8_reverse_14 : decode cX8_reverse 14 = .ok (.ifCond .ne 5, 3) := by decide +kernel
theorem dX8_reverse_17 : decode cX8_reverse 17 = .ok (.iconst (-1), 1) := by decide +kernel
theorem dX8_reverse_18 : decode cX8_reverse 18 = .ok (.ireturn, 1) := by decide +kernel
theorem dX8_reverse_19 : decode cX8_reverse 19 = .ok (.aload_n 0, 1) := by decide +kernel
theorem dX8_reverse_20 : decode cX8_reverse 20 = .ok (.getfield 32, 3) := by decide +kernel
theorem dX8_reverse_23 : decode cX8_reverse 23 = .ok (.iload_n 1, 1) := by decide +kernel
theorem dX8_reverse_24 : decode cX8_reverse 24 = .ok (.iaload, 1) := by decide +kernel
theorem dX8_reverse_25 : decode cX8_reverse 25 = .ok (.iconst 3, 1) := by decide +kernel
theorem dX8_reverse_26 : decode cX8_reverse 26 = .ok (.if_icmp .ne 9, 3) := by decide +kernel
theorem dX8_reverse_29 : decode cX8_reverse 29 = .ok (.aload_n 0, 1) := by decide +kernel
theorem dX8_reverse_30 : decode cX8_reverse 30 = .ok (.iconst 3, 1) := by decide +kernel
theorem dX8_reverse_31 : decode cX8_reverse 31 = .ok (.invokevirtual 86, 3) := by decide +kernel
theorem dX8_reverse_34 : decode cX8_reverse 34 = .ok (.ireturn, 1) := by decide +kernel
theorem dX8_reverse_35 : decode cX8_reverse 35 = .ok (.aload_n 0, 1) := by decide +kernel
theorem dX8_reverse_36 : decode cX8_reverse 36 = .ok (.getfield 35, 3) := by decide +kernel
theorem dX8_reverse_39 : decode cX8_reverse 39 = .ok (.iload_n 1, 1) := by decide +kernel
theorem dX8_reverse_40 : decode cX8_reverse 40 = .ok (.iaload, 1) := by decide +kernel
theorem dX8_reverse_41 : decode cX8_reverse 41 = .ok (.istore_n 3, 1) := by decide +kernel
theorem dX8_reverse_42 : decode cX8_reverse 42 = .ok (.aload_n 0, 1) := by decide +kernel
theorem dX8_reverse_43 : decode cX8_reverse 43 = .ok (.getfield 35, 3) := by decide +kernel
theorem dX8_reverse_46 : decode cX8_reverse 46 = .ok (.iload_n 1, 1) := by decide +kernel
theorem dX8_reverse_47 : decode cX8_reverse 47 = .ok (.iload_n 2, 1) := by decide +kernel
theorem dX8_reverse_48 : decode cX8_reverse 48 = .ok (.iastore, 1) := by decide +kernel
theorem dX8_reverse_49 : decode cX8_reverse 49 = .ok (.iload_n 3, 1) := by decide +kernel
theorem dX8_reverse_50 : decode cX8_reverse 50 = .ok (.ireturn, 1) := by decide +kernel
theorem dX8_swap_0 : decode cX8_swap 0 = .ok (.aload_n 0, 1) := by decide +kernel
theorem dX8_swap_1 : decode cX8_swap 1 = .ok (.iload_n 1, 1) := by decide +kernel
theorem dX8_swap_2 : decode cX8_swap 2 = .ok (.invokevirtual 144, 3) := by decide +kernel
theorem dX8_swap_5 : decode cX8_swap 5 = .ok (.ifCond .eq 11, 3) := by decide +kernel
theorem dX8_swap_8 : decode cX8_swap 8 = .ok (.aload_n 0, 1) := by decide +kernel
theorem dX8_swap_9 : decode cX8_swap 9 = .ok (.iload_n 2, 1) := by decide +kernel
theorem dX8_swap_10 : decode cX8_swap 10 = .ok (.invokevirtual 144, 3) := by decide +kernel
theorem dX8_swap_13 : decode cX8_swap 13 = .ok (.ifCond .ne 5, 3) := by decide +kernel
theorem dX8_swap_16 : decode cX8_swap 16 = .ok (.iconst (-1), 1) := by decide +kernel
theorem dX8_swap_17 : decode cX8_swap 17 = .ok (.ireturn, 1) := by decide +kernel
theorem dX8_swap_18 : decode cX8_swap 18 = .ok (.aload_n 0, 1) := by decide +kernel
theorem dX8_swap_19 : decode cX8_swap 19 = .ok (.getfield 47, 3) := by decide +kernel
theorem dX8_swap_22 : decode cX8_swap 22 = .ok (.iload_n 1, 1) := by decide +kernel
theorem dX8_swap_23 : decode cX8_swap 23 = .ok (.iaload, 1) := by decide +kernel
theorem dX8_swap_24 : decode cX8_swap 24 = .ok (.istore_n 3, 1) := by decide +kernel
theorem dX8_swap_25 : decode cX8_swap 25 = .ok (.aload_n 0, 1) := by decide +kernel
theorem dX8_swap_26 : decode cX8_swap 26 = .ok (.getfield 47, 3) := by decide +kernel
theorem dX8_swap_29 : decode cX8_swap 29 = .ok (.iload_n 1, 1) := by decide +kernel
theorem dX8_swap_30 : decode cX8_swap 30 = .ok (.aload_n 0, 1) := by decide +kernel
theorem dX8_swap_31 : decode cX8_swap 31 = .ok (.getfield 47, 3) := by decide +kernel
theorem dX8_swap_34 : decode cX8_swap 34 = .ok (.iload_n 2, 1) := by decide +kernel
theorem dX8_swap_35 : decode cX8_swap 35 = .ok (.iaload, 1) := by decide +kernel
theorem dX8_swap_36 : decode cX8_swap 36 = .ok (.iastore, 1) := by decide +kernel
theorem dX8_swap_37 : decode cX8_swap 37 = .ok (.aload_n 0, 1) := by decide +kernel
theorem dX8_swap_38 : decode cX8_swap 38 = .ok (.getfield 47, 3) := by decide +kernel
theorem dX8_swap_41 : decode cX8_swap 41 = .ok (.iload_n 2, 1) := by decide +kernel
theorem dX8_swap_42 : decode cX8_swap 42 = .ok (.iload_n 3, 1) := by decide +kernel
theorem dX8_swap_43 : decode cX8_swap 43 = .ok (.iastore, 1) := by decide +kernel
theorem dX8_swap_44 : decode cX8_swap 44 = .ok (.aload_n 0, 1) := by decide +kernel
theorem dX8_swap_45 : decode cX8_swap 45 = .ok (.getfield 47, 3) := by decide +kernel
theorem dX8_swap_48 : decode cX8_swap 48 = .ok (.iload_n 1, 1) := by decide +kernel
theorem dX8_swap_49 : decode cX8_swap 49 = .ok (.iaload, 1) := by decide +kernel
theorem dX8_swap_50 : decode cX8_swap 50 = .ok (.ireturn, 1) := by decide +kernel
theorem dX8_read_0 : decode cX8_read 0 = .ok (.iload_n 1, 1) := by decide +kernel
theorem dX8_read_1 : decode cX8_read 1 = .ok (.invokestatic 82, 3) := by decide +kernel
theorem dX8_read_4 : decode cX8_read 4 = .ok (.ifCond .ne 5, 3) := by decide +kernel
theorem dX8_read_7 : decode cX8_read 7 = .ok (.iconst (-1), 1) := by decide +kernel
theorem dX8_read_8 : decode cX8_read 8 = .ok (.ireturn, 1) := by decide +kernel
theorem dX8_read_9 : decode cX8_read 9 = .ok (.aload_n 0, 1) := by decide +kernel
theorem dX8_read_10 : decode cX8_read 10 = .ok (.getfield 141, 3) := by decide +kernel
theorem dX8_read_13 : decode cX8_read 13 = .ok (.ifCond .ne 6, 3) := by decide +kernel
theorem dX8_read_16 : decode cX8_read 16 = .ok (.bipush (-4), 2) := by decide +kernel
theorem dX8_read_18 : decode cX8_read 18 = .ok (.ireturn, 1) := by decide +kernel
theorem dX8_read_19 : decode cX8_read 19 = .ok (.aload_n 0, 1) := by decide +kernel
theorem dX8_read_20 : decode cX8_read 20 = .ok (.iload_n 1, 1) := by decide +kernel
theorem dX8_read_21 : decode cX8_read 21 = .ok (.invokevirtual 97, 3) := by decide +kernel
theorem dX8_read_24 : decode cX8_read 24 = .ok (.istore_n 2, 1) := by decide +kernel
theorem dX8_read_25 : decode cX8_read 25 = .ok (.iload_n 2, 1) := by decide +kernel
theorem dX8_read_26 : decode cX8_read 26 = .ok (.ifCond .ge 5, 3) := by decide +kernel
theorem dX8_read_29 : decode cX8_read 29 = .ok (.iload_n 2, 1) := by decide +kernel
theorem dX8_read_30 : decode cX8_read 30 = .ok (.ireturn, 1) := by decide +kernel
theorem dX8_read_31 : decode cX8_read 31 = .ok (.aload_n 0, 1) := by decide +kernel
theorem dX8_read_32 : decode cX8_read 32 = .ok (.getfield 17, 3) := by decide +kernel
theorem dX8_read_35 : decode cX8_read 35 = .ok (.iload_n 1, 1) := by decide +kernel
theorem dX8_read_36 : decode cX8_read 36 = .ok (.iaload, 1) := by decide +kernel
theorem dX8_read_37 : decode cX8_read 37 = .ok (.aload_n 0, 1) := by decide +kernel
theorem dX8_read_38 : decode cX8_read 38 = .ok (.getfield 141, 3) := by decide +kernel
theorem dX8_read_41 : decode cX8_read 41 = .ok (.if_icmp .eq 9, 3) := by decide +kernel
theorem dX8_read_44 : decode cX8_read 44 = .ok (.aload_n 0, 1) := by decide +kernel
theorem dX8_read_45 : decode cX8_read 45 = .ok (.iconst 5, 1) := by decide +kernel
theorem dX8_read_46 : decode cX8_read 46 = .ok (.invokevirtual 86, 3) := by decide +kernel
theorem dX8_read_49 : decode cX8_read 49 = .ok (.ireturn, 1) := by decide +kernel
theorem dX8_read_50 : decode cX8_read 50 = .ok (.iconst 0, 1) := by decide +kernel
theorem dX8_read_51 : decode cX8_read 51 = .ok (.istore_n 3, 1) := by decide +kernel
theorem dX8_read_52 : decode cX8_read 52 = .ok (.iconst 0, 1) := by decide +kernel
theorem dX8_read_53 : decode cX8_read 53 = .ok (.istore 4, 2) := by decide +kernel
theorem dX8_read_55 : decode cX8_read 55 = .ok (.iload 4, 2) := by decide +kernel
theorem dX8_read_57 : decode cX8_read 57 = .ok (.aload_n 0, 1) := by decide +kernel
theorem dX8_read_58 : decode cX8_read 58 = .ok (.getfield 141, 3) := by decide +kernel
theorem dX8_read_61 : decode cX8_read 61 = .ok (.if_icmp .ge 39, 3) := by decide +kernel
theorem dX8_read_64 : decode cX8_read 64 = .ok (.iload_n 3, 1) := by decide +kernel
theorem dX8_read_65 : decode cX8_read 65 = .ok (.aload_n 0, 1) := by decide +kernel
theorem dX8_read_66 : decode cX8_read 66 = .ok (.aload_n 0, 1) := by decide +kernel
theorem dX8_read_67 : decode cX8_read 67 = .ok (.iload_n 1, 1) := by decide +kernel
theorem dX8_read_68 : decode cX8_read 68 = .ok (.iload 4, 2) := by decide +kernel
theorem dX8_read_70 : decode cX8_read 70 = .ok (.invokevirtual 100, 3) := by decide +kernel
theorem dX8_read_73 : decode cX8_read 73 = .ok (.invokevirtual 144, 3) := by decide +kernel
theorem dX8_read_76 : decode cX8_read 76 = .ok (.ifCond .eq 15, 3) := by decide +kernel
theorem dX8_read_79 : decode cX8_read 79 = .ok (.iconst 1, 1) := by decide +kernel
theorem dX8_read_80 : decode cX8_read 80 = .ok (.aload_n 0, 1) := by decide +kernel
theorem dX8_read_81 : decode cX8_read 81 = .ok (.iload_n 1, 1) := by decide +kernel
theorem dX8_read_82 : decode cX8_read 82 = .ok (.iload 4, 2) := by decide +kernel
theorem dX8_read_84 : decode cX8_read 84 = .ok (.invokevirtual 100, 3) := by decide +kernel
theorem dX8_read_87 : decode cX8_read 87 = .ok (.ishl, 1) := by decide +kernel
theorem dX8_read_88 : decode cX8_read 88 = .ok (.goto 4, 3) := by decide +kernel
theorem dX8_read_91 : decode cX8_read 91 = .ok (.iconst 0, 1) := by decide +kernel
theorem dX8_read_92 : decode cX8_read 92 = .ok (.ior, 1) := by decide +kernel
theorem dX8_read_93 : decode cX8_read 93 = .ok (.istore_n 3, 1) := by decide +kernel
theorem dX8_read_94 : decode cX8_read 94 = .ok (.iinc 4 1, 3) := by decide +kernel
theorem dX8_read_97 : decode cX8_read 97 = .ok (.goto (-42), 3) := by decide +kernel
theorem dX8_read_100 : decode cX8_read 100 = .ok (.iload_n 3, 1) := by decide +kernel
theorem dX8_read_101 : decode cX8_read 101 = .ok (.iconst 1, 1) := by decide +kernel
theorem dX8_read_102 : decode cX8_read 102 = .ok (.aload_n 0, 1) := by decide +kernel
theorem dX8_read_103 : decode cX8_read 103 = .ok (.getfield 141, 3) := by decide +kernel
theorem dX8_read_106 : decode cX8_read 106 = .ok (.ishl, 1) := by decide +kernel
theorem dX8_read_107 : decode cX8_read 107 = .ok (.iconst 1, 1) := by decide +kernel
theorem dX8_read_108 : decode cX8_read 108 = .ok (.isub, 1) := by decide +kernel
theorem dX8_read_109 : decode cX8_read 109 = .ok (.if_icmp .eq 9, 3) := by decide +kernel
theorem dX8_read_112 : decode cX8_read 112 = .ok (.aload_n 0, 1) := by decide +kernel
theorem dX8_read_113 : decode cX8_read 113 = .ok (.iconst 3, 1) := by decide +kernel
theorem dX8_read_114 : decode cX8_read 114 = .ok (.invokevirtual 86, 3) := by decide +kernel
theorem dX8_read_117 : decode cX8_read 117 = .ok (.ireturn, 1) := by decide +kernel
theorem dX8_read_118 : decode cX8_read 118 = .ok (.iconst 0, 1) := by decide +kernel
theorem dX8_read_119 : decode cX8_read 119 = .ok (.istore 4, 2) := by decide +kernel
theorem dX8_read_121 : decode cX8_read 121 = .ok (.iload 4, 2) := by decide +kernel
theorem dX8_read_123 : decode cX8_read 123 = .ok (.aload_n 0, 1) := by decide +kernel
theorem dX8_read_124 : decode cX8_read 124 = .ok (.getfield 141, 3) := by decide +kernel
theorem dX8_read_127 : decode cX8_read 127 = .ok (.if_icmp .ge 23, 3) := by decide +kernel
theorem dX8_read_130 : decode cX8_read 130 = .ok (.aload_n 0, 1) := by decide +kernel
theorem dX8_read_131 : decode cX8_read 131 = .ok (.getfield 47, 3) := by decide +kernel
theorem dX8_read_134 : decode cX8_read 134 = .ok (.aload_n 0, 1) := by decide +kernel
theorem dX8_read_135 : decode cX8_read 135 = .ok (.iload_n 1, 1) := by decide +kernel
theorem dX8_read_136 : decode cX8_read 136 = .ok (.iload 4, 2) := by decide +kernel
theorem dX8_read_138 : decode cX8_read 138 = .ok (.invokevirtual 100, 3) := by decide +kernel
theorem dX8_read_141 : decode cX8_read 141 = .ok (.iload 4, 2) := by decide +kernel
theorem dX8_read_143 : decode cX8_read 143 = .ok (.iastore, 1) := by decide +kernel
theorem dX8_read_144 : decode cX8_read 144 = .ok (.iinc 4 1, 3) := by decide +kernel
theorem dX8_read_147 : decode cX8_read 147 = .ok (.goto (-26), 3) := by decide +kernel
theorem dX8_read_150 : decode cX8_read 150 = .ok (.iconst 1, 1) := by decide +kernel
theorem dX8_read_151 : decode cX8_read 151 = .ok (.ireturn, 1) := by decide +kernel
theorem dX8_add_0 : decode cX8_add 0 = .ok (.iload_n 1, 1) := by decide +kernel
theorem dX8_add_1 : decode cX8_add 1 = .ok (.iconst 0, 1) := by decide +kernel
theorem dX8_add_2 : decode cX8_add 2 = .ok (.iconst 1, 1) := by decide +kernel
theorem dX8_add_3 : decode cX8_add 3 = .ok (.invokestatic 78, 3) := by decide +kernel
theorem dX8_add_6 : decode cX8_add 6 = .ok (.ifCond .eq 13, 3) := by decide +kernel
theorem dX8_add_9 : decode cX8_add 9 = .ok (.iload_n 2, 1) := by decide +kernel
theorem dX8_add_10 : decode cX8_add 10 = .ok (.iconst 0, 1) := by decide +kernel
theorem dX8_add_11 : decode cX8_add 11 = .ok (.bipush 127, 2) := by decide +kernel
theorem dX8_add_13 : decode cX8_add 13 = .ok (.invokestatic 78, 3) := by decide +kernel
theorem dX8_add_16 : decode cX8_add 16 = .ok (.ifCond .ne 5, 3) := by decide +kernel
theorem dX8_add_19 : decode cX8_add 19 = .ok (.iconst (-1), 1) := by decide +kernel
theorem dX8_add_20 : decode cX8_add 20 = .ok (.ireturn, 1) := by decide +kernel
theorem dX8_add_21 : decode cX8_add 21 = .ok (.aload_n 0, 1) := by decide +kernel
theorem dX8_add_22 : decode cX8_add 22 = .ok (.getfield 141, 3) := by decide +kernel
theorem dX8_add_25 : decode cX8_add 25 = .ok (.bipush 6, 2) := by decide +kernel
theorem dX8_add_27 : decode cX8_add 27 = .ok (.if_icmp .ne 6, 3) := by decide +kernel
theorem dX8_add_30 : decode cX8_add 30 = .ok (.bipush (-2), 2) := by decide +kernel
theorem dX8_add_32 : decode cX8_add 32 = .ok (.ireturn, 1) := by decide +kernel
theorem dX8_add_33 : decode cX8_add 33 = .ok (.aload_n 0, 1) := by decide +kernel
theorem dX8_add_34 : decode cX8_add 34 = .ok (.getfield 32, 3) := by decide +kernel
theorem dX8_add_37 : decode cX8_add 37 = .ok (.aload_n 0, 1) := by decide +kernel
theorem dX8_add_38 : decode cX8_add 38 = .ok (.getfield 141, 3) := by decide +kernel
theorem dX8_add_41 : decode cX8_add 41 = .ok (.iconst 0, 1) := by decide +kernel
theorem dX8_add_42 : decode cX8_add 42 = .ok (.iastore, 1) := by decide +kernel
theorem dX8_add_43 : decode cX8_add 43 = .ok (.aload_n 0, 1) := by decide +kernel
theorem dX8_add_44 : decode cX8_add 44 = .ok (.getfield 35, 3) := by decide +kernel
theorem dX8_add_47 : decode cX8_add 47 = .ok (.aload_n 0, 1) := by decide +kernel
theorem dX8_add_48 : decode cX8_add 48 = .ok (.getfield 141, 3) := by decide +kernel
theorem dX8_add_51 : decode cX8_add 51 = .ok (.iload_n 1, 1) := by decide +kernel
theorem dX8_add_52 : decode cX8_add 52 = .ok (.iastore, 1) := by decide +kernel
theorem dX8_add_53 : decode cX8_add 53 = .ok (.aload_n 0, 1) := by decide +kernel
theorem dX8_add_54 : decode cX8_add 54 = .ok (.getfield 38, 3) := by decide +kernel
theorem dX8_add_57 : decode cX8_add 57 = .ok (.aload_n 0, 1) := by decide +kernel
theorem dX8_add_58 : decode cX8_add 58 = .ok (.getfield 141, 3) := by decide +kernel
theorem dX8_add_61 : decode cX8_add 61 = .ok (.iload_n 2, 1) := by decide +kernel
theorem dX8_add_62 : decode cX8_add 62 = .ok (.iastore, 1) := by decide +kernel
theorem dX8_add_63 : decode cX8_add 63 = .ok (.aload_n 0, 1) := by decide +kernel
theorem dX8_add_64 : decode cX8_add 64 = .ok (.getfield 41, 3) := by decide +kernel
theorem dX8_add_67 : decode cX8_add 67 = .ok (.aload_n 0, 1) := by decide +kernel
theorem dX8_add_68 : decode cX8_add 68 = .ok (.getfield 141, 3) := by decide +kernel
theorem dX8_add_71 : decode cX8_add 71 = .ok (.bipush (-9), 2) := by decide +kernel
theorem dX8_add_73 : decode cX8_add 73 = .ok (.iastore, 1) := by decide +kernel
theorem dX8_add_74 : decode cX8_add 74 = .ok (.aload_n 0, 1) := by decide +kernel
theorem dX8_add_75 : decode cX8_add 75 = .ok (.getfield 44, 3) := by decide +kernel
theorem dX8_add_78 : decode cX8_add 78 = .ok (.aload_n 0, 1) := by decide +kernel
theorem dX8_add_79 : decode cX8_add 79 = .ok (.getfield 141, 3) := by decide +kernel
theorem dX8_add_82 : decode cX8_add 82 = .ok (.bipush (-9), 2) := by decide +kernel
theorem dX8_add_84 : decode cX8_add 84 = .ok (.iastore, 1) := by decide +kernel
theorem dX8_add_85 : decode cX8_add 85 = .ok (.aload_n 0, 1) := by decide +kernel
theorem dX8_add_86 : decode cX8_add 86 = .ok (.getfield 47, 3) := by decide +kernel
theorem dX8_add_89 : decode cX8_add 89 = .ok (.aload_n 0, 1) := by decide +kernel
theorem dX8_add_90 : decode cX8_add 90 = .ok (.getfield 141, 3) := by decide +kernel
theorem dX8_add_93 : decode cX8_add 93 = .ok (.aload_n 0, 1) := by decide +kernel
theorem dX8_add_94 : decode cX8_add 94 = .ok (.getfield 141, 3) := by decide +kernel
theorem dX8_add_97 : decode cX8_add 97 = .ok (.iastore, 1) := by decide +kernel
theorem dX8_add_98 : decode cX8_add 98 = .ok (.aload_n 0, 1) := by decide +kernel
theorem dX8_add_99 : decode cX8_add 99 = .ok (.dup, 1) := by decide +kernel
theorem dX8_add_100 : decode cX8_add 100 = .ok (.getfield 141, 3) := by decide +kernel
theorem dX8_add_103 : decode cX8_add 103 = .ok (.iconst 1, 1) := by decide +kernel
theorem dX8_add_104 : decode cX8_add 104 = .ok (.iadd, 1) := by decide +kernel
theorem dX8_add_105 : decode cX8_add 105 = .ok (.putfield 141, 3) := by decide +kernel
theorem dX8_add_108 : decode cX8_add 108 = .ok (.aload_n 0, 1) := by decide +kernel
theorem dX8_add_109 : decode cX8_add 109 = .ok (.getfield 141, 3) := by decide +kernel
theorem dX8_add_112 : decode cX8_add 112 = .ok (.iconst 1, 1) := by decide +kernel
theorem dX8_add_113 : decode cX8_add 113 = .ok (.isub, 1) := by decide +kernel
theorem dX8_add_114 : decode cX8_add 114 = .ok (.ireturn, 1) := by decide +kernel
theorem dX8_rip_0 : decode cX8_rip 0 = .ok (.aload_n 0, 1) := by decide +kernel
theorem dX8_rip_1 : decode cX8_rip 1 = .ok (.getfield 141, 3) := by decide +kernel
theorem dX8_rip_4 : decode cX8_rip 4 = .ok (.ifCond .ne 6, 3) := by decide +kernel
theorem dX8_rip_7 : decode cX8_rip 7 = .ok (.bipush (-4), 2) := by decide +kernel
theorem dX8_rip_9 : decode cX8_rip 9 = .ok (.ireturn, 1) := by decide +kernel
theorem dX8_rip_10 : decode cX8_rip 10 = .ok (.aload_n 0, 1) := by decide +kernel
theorem dX8_rip_11 : decode cX8_rip 11 = .ok (.dup, 1) := by decide +kernel
theorem dX8_rip_12 : decode cX8_rip 12 = .ok (.getfield 141, 3) := by decide +kernel
theorem dX8_rip_15 : decode cX8_rip 15 = .ok (.iconst 1, 1) := by decide +kernel
theorem dX8_rip_16 : decode cX8_rip 16 = .ok (.isub, 1) := by decide +kernel
theorem dX8_rip_17 : decode cX8_rip 17 = .ok (.putfield 141, 3) := by decide +kernel
theorem dX8_rip_20 : decode cX8_rip 20 = .ok (.iconst 0, 1) := by decide +kernel
theorem dX8_rip_21 : decode cX8_rip 21 = .ok (.istore_n 1, 1) := by decide +kernel
theorem dX8_rip_22 : decode cX8_rip 22 = .ok (.iload_n 1, 1) := by decide +kernel
theorem dX8_rip_23 : decode cX8_rip 23 = .ok (.aload_n 0, 1) := by decide +kernel
theorem dX8_rip_24 : decode cX8_rip 24 = .ok (.getfield 141, 3) := by decide +kernel
theorem dX8_rip_27 : decode cX8_rip 27 = .ok (.if_icmp .ge 41, 3) := by decide +kernel
theorem dX8_rip_30 : decode cX8_rip 30 = .ok (.aload_n 0, 1) := by decide +kernel
theorem dX8_rip_31 : decode cX8_rip 31 = .ok (.getfield 47, 3) := by decide +kernel
theorem dX8_rip_34 : decode cX8_rip 34 = .ok (.iload_n 1, 1) := by decide +kernel
theorem dX8_rip_35 : decode cX8_rip 35 = .ok (.dup2, 1) := by decide +kernel
theorem dX8_rip_36 : decode cX8_rip 36 = .ok (.iaload, 1) := by decide +kernel
theorem dX8_rip_37 : decode cX8_rip 37 = .ok (.aload_n 0, 1) := by decide +kernel
theorem dX8_rip_38 : decode cX8_rip 38 = .ok (.getfield 47, 3) := by decide +kernel
theorem dX8_rip_41 : decode cX8_rip 41 = .ok (.iload_n 1, 1) := by decide +kernel
theorem dX8_rip_42 : decode cX8_rip 42 = .ok (.iaload, 1) := by decide +kernel
theorem dX8_rip_43 : decode cX8_rip 43 = .ok (.aload_n 0, 1) := by decide +kernel
theorem dX8_rip_44 : decode cX8_rip 44 = .ok (.getfield 47, 3) := by decide +kernel
theorem dX8_rip_47 : decode cX8_rip 47 = .ok (.aload_n 0, 1) := by decide +kernel
theorem dX8_rip_48 : decode cX8_rip 48 = .ok (.getfield 141, 3) := by decide +kernel
theorem dX8_rip_51 : decode cX8_rip 51 = .ok (.iaload, 1) := by decide +kernel
theorem dX8_rip_52 : decode cX8_rip 52 = .ok (.if_icmp .le 7, 3) := by decide +kernel
theorem dX8_rip_55 : decode cX8_rip 55 = .ok (.iconst 1, 1) := by decide +kernel
theorem dX8_rip_56 : decode cX8_rip 56 = .ok (.goto 4, 3) := by decide +kernel
theorem dX8_rip_59 : decode cX8_rip 59 = .ok (.iconst 0, 1) := by decide +kernel
theorem dX8_rip_60 : decode cX8_rip 60 = .ok (.isub, 1) := by decide +kernel
theorem dX8_rip_61 : decode cX8_rip 61 = .ok (.iastore, 1) := by decide +kernel
theorem dX8_rip_62 : decode cX8_rip 62 = .ok (.iinc 1 1, 3) := by decide +kernel
theorem dX8_rip_65 : decode cX8_rip 65 = .ok (.goto (-43), 3) := by decide +kernel
theorem dX8_rip_68 : decode cX8_rip 68 = .ok (.aload_n 0, 1) := by decide +kernel
theorem dX8_rip_69 : decode cX8_rip 69 = .ok (.getfield 141, 3) := by decide +kernel
theorem dX8_rip_72 : decode cX8_rip 72 = .ok (.ireturn, 1) := by decide +kernel
theorem dX8_keep_0 : decode cX8_keep 0 = .ok (.iload_n 1, 1) := by decide +kernel
theorem dX8_keep_1 : decode cX8_keep 1 = .ok (.iconst 0, 1) := by decide +kernel
theorem dX8_keep_2 : decode cX8_keep 2 = .ok (.iconst 2, 1) := by decide +kernel
theorem dX8_keep_3 : decode cX8_keep 3 = .ok (.invokestatic 78, 3) := by decide +kernel
theorem dX8_keep_6 : decode cX8_keep 6 = .ok (.ifCond .ne 5, 3) := by decide +kernel
theorem dX8_keep_9 : decode cX8_keep 9 = .ok (.iconst (-1), 1) := by decide +kernel
theorem dX8_keep_10 : decode cX8_keep 10 = .ok (.ireturn, 1) := by decide +kernel
theorem dX8_keep_11 : decode cX8_keep 11 = .ok (.aload_n 0, 1) := by decide +kernel
theorem dX8_keep_12 : decode cX8_keep 12 = .ok (.getfield 141, 3) := by decide +kernel
theorem dX8_keep_15 : decode cX8_keep 15 = .ok (.ifCond .ne 6, 3) := by decide +kernel
theorem dX8_keep_18 : decode cX8_keep 18 = .ok (.bipush (-4), 2) := by decide +kernel
theorem dX8_keep_20 : decode cX8_keep 20 = .ok (.ireturn, 1) := by decide +kernel
theorem dX8_keep_21 : decode cX8_keep 21 = .ok (.bipush 38, 2) := by decide +kernel
theorem dX8_keep_23 : decode cX8_keep 23 = .ok (.iload_n 1, 1) := by decide +kernel
theorem dX8_keep_24 : decode cX8_keep 24 = .ok (.imul, 1) := by decide +kernel
theorem dX8_keep_25 : decode cX8_keep 25 = .ok (.istore_n 2, 1) := by decide +kernel
theorem dX8_keep_26 : decode cX8_keep 26 = .ok (.aload_n 0, 1) := by decide +kernel
theorem dX8_keep_27 : decode cX8_keep 27 = .ok (.getfield 57, 3) := by decide +kernel
theorem dX8_keep_30 : decode cX8_keep 30 = .ok (.iload_n 2, 1) := by decide +kernel
theorem dX8_keep_31 : decode cX8_keep 31 = .ok (.aload_n 0, 1) := by decide +kernel
theorem dX8_keep_32 : decode cX8_keep 32 = .ok (.getfield 141, 3) := by decide +kernel
theorem dX8_keep_35 : decode cX8_keep 35 = .ok (.iastore, 1) := by decide +kernel
theorem dX8_keep_36 : decode cX8_keep 36 = .ok (.iconst 0, 1) := by decide +kernel
theorem dX8_keep_37 : decode cX8_keep 37 = .ok (.istore_n 3, 1) := by decide +kernel
theorem dX8_keep_38 : decode cX8_keep 38 = .ok (.iload_n 3, 1) := by decide +kernel
theorem dX8_keep_39 : decode cX8_keep 39 = .ok (.aload_n 0, 1) := by decide +kernel
theorem dX8_keep_40 : decode cX8_keep 40 = .ok (.getfield 141, 3) := by decide +kernel
theorem dX8_keep_43 : decode cX8_keep 43 = .ok (.if_icmp .ge 47, 3) := by decide +kernel
theorem dX8_keep_46 : decode cX8_keep 46 = .ok (.iconst 0, 1) := by decide +kernel
theorem dX8_keep_47 : decode cX8_keep 47 = .ok (.istore 4, 2) := by decide +kernel
theorem dX8_keep_49 : decode cX8_keep 49 = .ok (.iload 4, 2) := by decide +kernel
theorem dX8_keep_51 : decode cX8_keep 51 = .ok (.iconst 5, 1) := by decide +kernel
theorem dX8_keep_52 : decode cX8_keep 52 = .ok (.if_icmp .gt 32, 3) := by decide +kernel
theorem dX8_keep_55 : decode cX8_keep 55 = .ok (.aload_n 0, 1) := by decide +kernel
theorem dX8_keep_56 : decode cX8_keep 56 = .ok (.getfield 57, 3) := by decide +kernel
theorem dX8_keep_59 : decode cX8_keep 59 = .ok (.iload_n 2, 1) := by decide +kernel
theorem dX8_keep_60 : decode cX8_keep 60 = .ok (.iconst 1, 1) := by decide +kernel
theorem dX8_keep_61 : decode cX8_keep 61 = .ok (.iadd, 1) := by decide +kernel
theorem dX8_keep_62 : decode cX8_keep 62 = .ok (.bipush 6, 2) := by decide +kernel
theorem dX8_keep_64 : decode cX8_keep 64 = .ok (.iload_n 3, 1) := by decide +kernel
theorem dX8_keep_65 : decode cX8_keep 65 = .ok (.imul, 1) := by decide +kernel
theorem dX8_keep_66 : decode cX8_keep 66 = .ok (.iadd, 1) := by decide +kernel
theorem dX8_keep_67 : decode cX8_keep 67 = .ok (.iload 4, 2) := by decide +kernel
theorem dX8_keep_69 : decode cX8_keep 69 = .ok (.iadd, 1) := by decide +kernel
theorem dX8_keep_70 : decode cX8_keep 70 = .ok (.aload_n 0, 1) := by decide +kernel
theorem dX8_keep_71 : decode cX8_keep 71 = .ok (.iload_n 3, 1) := by decide +kernel
theorem dX8_keep_72 : decode cX8_keep 72 = .ok (.iload 4, 2) := by decide +kernel
theorem dX8_keep_74 : decode cX8_keep 74 = .ok (.invokevirtual 147, 3) := by decide +kernel
theorem dX8_keep_77 : decode cX8_keep 77 = .ok (.iastore, 1) := by decide +kernel
theorem dX8_keep_78 : decode cX8_keep 78 = .ok (.iinc 4 1, 3) := by decide +kernel
theorem dX8_keep_81 : decode cX8_keep 81 = .ok (.goto (-32), 3) := by decide +kernel
theorem dX8_keep_84 : decode cX8_keep 84 = .ok (.iinc 3 1, 3) := by decide +kernel
theorem dX8_keep_87 : decode cX8_keep 87 = .ok (.goto (-49), 3) := by decide +kernel
theorem dX8_keep_90 : decode cX8_keep 90 = .ok (.aload_n 0, 1) := by decide +kernel
theorem dX8_keep_91 : decode cX8_keep 91 = .ok (.getfield 141, 3) := by decide +kernel
theorem dX8_keep_94 : decode cX8_keep 94 = .ok (.ireturn, 1) := by decide +kernel
theorem dX8_on_0 : decode cX8_on 0 = .ok (.iload_n 1, 1) := by decide +kernel
theorem dX8_on_1 : decode cX8_on 1 = .ok (.iconst 0, 1) := by decide +kernel
theorem dX8_on_2 : decode cX8_on 2 = .ok (.iconst 2, 1) := by decide +kernel
theorem dX8_on_3 : decode cX8_on 3 = .ok (.invokestatic 78, 3) := by decide +kernel
theorem dX8_on_6 : decode cX8_on 6 = .ok (.ifCond .ne 5, 3) := by decide +kernel
theorem dX8_on_9 : decode cX8_on 9 = .ok (.iconst (-1), 1) := by decide +kernel
theorem dX8_on_10 : decode cX8_on 10 = .ok (.ireturn, 1) := by decide +kernel
theorem dX8_on_11 : decode cX8_on 11 = .ok (.bipush 38, 2) := by decide +kernel
theorem dX8_on_13 : decode cX8_on 13 = .ok (.iload_n 1, 1) := by decide +kernel
theorem dX8_on_14 : decode cX8_on 14 = .ok (.imul, 1) := by decide +kernel
theorem dX8_on_15 : decode cX8_on 15 = .ok (.istore_n 2, 1) := by decide +kernel
theorem dX8_on_16 : decode cX8_on 16 = .ok (.aload_n 0, 1) := by decide +kernel
theorem dX8_on_17 : decode cX8_on 17 = .ok (.getfield 57, 3) := by decide +kernel
theorem dX8_on_20 : decode cX8_on 20 = .ok (.iload_n 2, 1) := by decide +kernel
theorem dX8_on_21 : decode cX8_on 21 = .ok (.iaload, 1) := by decide +kernel
theorem dX8_on_22 : decode cX8_on 22 = .ok (.bipush (-9), 2) := by decide +kernel
theorem dX8_on_24 : decode cX8_on 24 = .ok (.if_icmp .ne 9, 3) := by decide +kernel
theorem dX8_on_27 : decode cX8_on 27 = .ok (.aload_n 0, 1) := by decide +kernel
theorem dX8_on_28 : decode cX8_on 28 = .ok (.iconst 1, 1) := by decide +kernel
theorem dX8_on_29 : decode cX8_on 29 = .ok (.invokevirtual 86, 3) := by decide +kernel
theorem dX8_on_32 : decode cX8_on 32 = .ok (.ireturn, 1) := by decide +kernel
theorem dX8_on_33 : decode cX8_on 33 = .ok (.aload_n 0, 1) := by decide +kernel
theorem dX8_on_34 : decode cX8_on 34 = .ok (.aload_n 0, 1) := by decide +kernel
theorem dX8_on_35 : decode cX8_on 35 = .ok (.getfield 57, 3) := by decide +kernel
theorem dX8_on_38 : decode cX8_on 38 = .ok (.iload_n 2, 1) := by decide +kernel
theorem dX8_on_39 : decode cX8_on 39 = .ok (.iaload, 1) := by decide +kernel
theorem dX8_on_40 : decode cX8_on 40 = .ok (.putfield 141, 3) := by decide +kernel
theorem dX8_on_43 : decode cX8_on 43 = .ok (.iconst 0, 1) := by decide +kernel
theorem dX8_on_44 : decode cX8_on 44 = .ok (.istore_n 3, 1) := by decide +kernel
theorem dX8_on_45 : decode cX8_on 45 = .ok (.iload_n 3, 1) := by decide +kernel
theorem dX8_on_46 : decode cX8_on 46 = .ok (.aload_n 0, 1) := by decide +kernel
theorem dX8_on_47 : decode cX8_on 47 = .ok (.getfield 141, 3) := by decide +kernel
theorem dX8_on_50 : decode cX8_on 50 = .ok (.if_icmp .ge 107, 3) := by decide +kernel
theorem dX8_on_53 : decode cX8_on 53 = .ok (.iload_n 2, 1) := by decide +kernel
theorem dX8_on_54 : decode cX8_on 54 = .ok (.iconst 1, 1) := by decide +kernel
theorem dX8_on_55 : decode cX8_on 55 = .ok (.iadd, 1) := by decide +kernel
theorem dX8_on_56 : decode cX8_on 56 = .ok (.bipush 6, 2) := by decide +kernel
theorem dX8_on_58 : decode cX8_on 58 = .ok (.iload_n 3, 1) := by decide +kernel
theorem dX8_on_59 : decode cX8_on 59 = .ok (.imul, 1) := by decide +kernel
theorem dX8_on_60 : decode cX8_on 60 = .ok (.iadd, 1) := by decide +kernel
theorem dX8_on_61 : decode cX8_on 61 = .ok (.istore 4, 2) := by decide +kernel
theorem dX8_on_63 : decode cX8_on 63 = .ok (.aload_n 0, 1) := by decide +kernel
theorem dX8_on_64 : decode cX8_on 64 = .ok (.getfield 32, 3) := by decide +kernel
theorem dX8_on_67 : decode cX8_on 67 = .ok (.iload_n 3, 1) := by decide +kernel
theorem dX8_on_68 : decode cX8_on 68 = .ok (.aload_n 0, 1) := by decide +kernel
theorem dX8_on_69 : decode cX8_on 69 = .ok (.getfield 57, 3) := by decide +kernel
theorem dX8_on_72 : decode cX8_on 72 = .ok (.iload 4, 2) := by decide +kernel
theorem dX8_on_74 : decode cX8_on 74 = .ok (.iaload, 1) := by decide +kernel
theorem dX8_on_75 : decode cX8_on 75 = .ok (.iastore, 1) := by decide +kernel
theorem dX8_on_76 : decode cX8_on 76 = .ok (.aload_n 0, 1) := by decide +kernel
theorem dX8_on_77 : decode cX8_on 77 = .ok (.getfield 35, 3) := by decide +kernel
theorem dX8_on_80 : decode cX8_on 80 = .ok (.iload_n 3, 1) := by decide +kernel
theorem dX8_on_81 : decode cX8_on 81 = .ok (.aload_n 0, 1) := by decide +kernel
theorem dX8_on_82 : decode cX8_on 82 = .ok (.getfield 57, 3) := by decide +kernel
theorem dX8_on_85 : decode cX8_on 85 = .ok (.iload 4, 2) := by decide +kernel
theorem dX8_on_87 : decode cX8_on 87 = .ok (.iconst 1, 1) := by decide +kernel
theorem dX8_on_88 : decode cX8_on 88 = .ok (.iadd, 1) := by decide +kernel
theorem dX8_on_89 : decode cX8_on 89 = .ok (.iaload, 1) := by decide +kernel
theorem dX8_on_90 : decode cX8_on 90 = .ok (.iastore, 1) := by decide +kernel
theorem dX8_on_91 : decode cX8_on 91 = .ok (.aload_n 0, 1) := by decide +kernel
theorem dX8_on_92 : decode cX8_on 92 = .ok (.getfield 38, 3) := by decide +kernel
theorem dX8_on_95 : decode cX8_on 95 = .ok (.iload_n 3, 1) := by decide +kernel
theorem dX8_on_96 : decode cX8_on 96 = .ok (.aload_n 0, 1) := by decide +kernel
theorem dX8_on_97 : decode cX8_on 97 = .ok (.getfield 57, 3) := by decide +kernel
theorem dX8_on_100 : decode cX8_on 100 = .ok (.iload 4, 2) := by decide +kernel
theorem dX8_on_102 : decode cX8_on 102 = .ok (.iconst 2, 1) := by decide +kernel
theorem dX8_on_103 : decode cX8_on 103 = .ok (.iadd, 1) := by decide +kernel
theorem dX8_on_104 : decode cX8_on 104 = .ok (.iaload, 1) := by decide +kernel
theorem dX8_on_105 : decode cX8_on 105 = .ok (.iastore, 1) := by decide +kernel
theorem dX8_on_106 : decode cX8_on 106 = .ok (.aload_n 0, 1) := by decide +kernel
theorem dX8_on_107 : decode cX8_on 107 = .ok (.getfield 41, 3) := by decide +kernel
theorem dX8_on_110 : decode cX8_on 110 = .ok (.iload_n 3, 1) := by decide +kernel
theorem dX8_on_111 : decode cX8_on 111 = .ok (.aload_n 0, 1) := by decide +kernel
theorem dX8_on_112 : decode cX8_on 112 = .ok (.getfield 57, 3) := by decide +kernel
theorem dX8_on_115 : decode cX8_on 115 = .ok (.iload 4, 2) := by decide +kernel
theorem dX8_on_117 : decode cX8_on 117 = .ok (.iconst 3, 1) := by decide +kernel
theorem dX8_on_118 : decode cX8_on 118 = .ok (.iadd, 1) := by decide +kernel
theorem dX8_on_119 : decode cX8_on 119 = .ok (.iaload, 1) := by decide +kernel
theorem dX8_on_120 : decode cX8_on 120 = .ok (.iastore, 1) := by decide +kernel
theorem dX8_on_121 : decode cX8_on 121 = .ok (.aload_n 0, 1) := by decide +kernel
theorem dX8_on_122 : decode cX8_on 122 = .ok (.getfield 44, 3) := by decide +kernel
theorem dX8_on_125 : decode cX8_on 125 = .ok (.iload_n 3, 1) := by decide +kernel
theorem dX8_on_126 : decode cX8_on 126 = .ok (.aload_n 0, 1) := by decide +kernel
theorem dX8_on_127 : decode cX8_on 127 = .ok (.getfield 57, 3) := by decide +kernel
theorem dX8_on_130 : decode cX8_on 130 = .ok (.iload 4, 2) := by decide +kernel
theorem dX8_on_132 : decode cX8_on 132 = .ok (.iconst 4, 1) := by decide +kernel
theorem dX8_on_133 : decode cX8_on 133 = .ok (.iadd, 1) := by decide +kernel
theorem dX8_on_134 : decode cX8_on 134 = .ok (.iaload, 1) := by decide +kernel
theorem dX8_on_135 : decode cX8_on 135 = .ok (.iastore, 1) := by decide +kernel
theorem dX8_on_136 : decode cX8_on 136 = .ok (.aload_n 0, 1) := by decide +kernel
theorem dX8_on_137 : decode cX8_on 137 = .ok (.getfield 47, 3) := by decide +kernel
theorem dX8_on_140 : decode cX8_on 140 = .ok (.iload_n 3, 1) := by decide +kernel
theorem dX8_on_141 : decode cX8_on 141 = .ok (.aload_n 0, 1) := by decide +kernel
theorem dX8_on_142 : decode cX8_on 142 = .ok (.getfield 57, 3) := by decide +kernel
theorem dX8_on_145 : decode cX8_on 145 = .ok (.iload 4, 2) := by decide +kernel
theorem dX8_on_147 : decode cX8_on 147 = .ok (.iconst 5, 1) := by decide +kernel
theorem dX8_on_148 : decode cX8_on 148 = .ok (.iadd, 1) := by decide +kernel
theorem dX8_on_149 : decode cX8_on 149 = .ok (.iaload, 1) := by decide +kernel
theorem dX8_on_150 : decode cX8_on 150 = .ok (.iastore, 1) := by decide +kernel
theorem dX8_on_151 : decode cX8_on 151 = .ok (.iinc 3 1, 3) := by decide +kernel
theorem dX8_on_154 : decode cX8_on 154 = .ok (.goto (-109), 3) := by decide +kernel
theorem dX8_on_157 : decode cX8_on 157 = .ok (.aload_n 0, 1) := by decide +kernel
theorem dX8_on_158 : decode cX8_on 158 = .ok (.getfield 141, 3) := by decide +kernel
theorem dX8_on_161 : decode cX8_on 161 = .ok (.ireturn, 1) := by decide +kernel
theorem dX8_meanOf_0 : decode cX8_meanOf 0 = .ok (.bipush (-9), 2) := by decide +kernel
theorem dX8_meanOf_2 : decode cX8_meanOf 2 = .ok (.istore_n 3, 1) := by decide +kernel
theorem dX8_meanOf_3 : decode cX8_meanOf 3 = .ok (.iconst 0, 1) := by decide +kernel
theorem dX8_meanOf_4 : decode cX8_meanOf 4 = .ok (.istore 4, 2) := by decide +kernel
theorem dX8_meanOf_6 : decode cX8_meanOf 6 = .ok (.iload 4, 2) := by decide +kernel
theorem dX8_meanOf_8 : decode cX8_meanOf 8 = .ok (.aload_n 0, 1) := by decide +kernel
theorem dX8_meanOf_9 : decode cX8_meanOf 9 = .ok (.getfield 141, 3) := by decide +kernel
theorem dX8_meanOf_12 : decode cX8_meanOf 12 = .ok (.if_icmp .ge 85, 3) := by decide +kernel
theorem dX8_meanOf_15 : decode cX8_meanOf 15 = .ok (.aload_n 0, 1) := by decide +kernel
theorem dX8_meanOf_16 : decode cX8_meanOf 16 = .ok (.getfield 32, 3) := by decide +kernel
theorem dX8_meanOf_19 : decode cX8_meanOf 19 = .ok (.iload 4, 2) := by decide +kernel
theorem dX8_meanOf_21 : decode cX8_meanOf 21 = .ok (.iaload, 1) := by decide +kernel
theorem dX8_meanOf_22 : decode cX8_meanOf 22 = .ok (.iconst 3, 1) := by decide +kernel
theorem dX8_meanOf_23 : decode cX8_meanOf 23 = .ok (.if_icmp .ne 31, 3) := by decide +kernel
theorem dX8_meanOf_26 : decode cX8_meanOf 26 = .ok (.aload_n 0, 1) := by decide +kernel
theorem dX8_meanOf_27 : decode cX8_meanOf 27 = .ok (.getfield 38, 3) := by decide +kernel
theorem dX8_meanOf_30 : decode cX8_meanOf 30 = .ok (.iload 4, 2) := by decide +kernel
theorem dX8_meanOf_32 : decode cX8_meanOf 32 = .ok (.iaload, 1) := by decide +kernel
theorem dX8_meanOf_33 : decode cX8_meanOf 33 = .ok (.iload_n 1, 1) := by decide +kernel
theorem dX8_meanOf_34 : decode cX8_meanOf 34 = .ok (.invokestatic 169, 3) := by decide +kernel
theorem dX8_meanOf_37 : decode cX8_meanOf 37 = .ok (.ifCond .eq 17, 3) := by decide +kernel
theorem dX8_meanOf_40 : decode cX8_meanOf 40 = .ok (.aload_n 0, 1) := by decide +kernel
theorem dX8_meanOf_41 : decode cX8_meanOf 41 = .ok (.iload 4, 2) := by decide +kernel
theorem dX8_meanOf_43 : decode cX8_meanOf 43 = .ok (.iload_n 2, 1) := by decide +kernel
theorem dX8_meanOf_44 : decode cX8_meanOf 44 = .ok (.invokevirtual 150, 3) := by decide +kernel
theorem dX8_meanOf_47 : decode cX8_meanOf 47 = .ok (.ifCond .eq 7, 3) := by decide +kernel
theorem dX8_meanOf_50 : decode cX8_meanOf 50 = .ok (.iconst 1, 1) := by decide +kernel
theorem dX8_meanOf_51 : decode cX8_meanOf 51 = .ok (.goto 4, 3) := by decide +kernel
theorem dX8_meanOf_54 : decode cX8_meanOf 54 = .ok (.iconst 0, 1) := by decide +kernel
theorem dX8_meanOf_55 : decode cX8_meanOf 55 = .ok (.istore 5, 2) := by decide +kernel
theorem dX8_meanOf_57 : decode cX8_meanOf 57 = .ok (.iload 5, 2) := by decide +kernel
theorem dX8_meanOf_59 : decode cX8_meanOf 59 = .ok (.ifCond .eq 30, 3) := by decide +kernel
theorem dX8_meanOf_62 : decode cX8_meanOf 62 = .ok (.iload_n 3, 1) := by decide +kernel
theorem dX8_meanOf_63 : decode cX8_meanOf 63 = .ok (.bipush (-9), 2) := by decide +kernel
theorem dX8_meanOf_65 : decode cX8_meanOf 65 = .ok (.if_icmp .eq 19, 3) := by decide +kernel
theorem dX8_meanOf_68 : decode cX8_meanOf 68 = .ok (.aload_n 0, 1) := by decide +kernel
theorem dX8_meanOf_69 : decode cX8_meanOf 69 = .ok (.getfield 47, 3) := by decide +kernel
theorem dX8_meanOf_72 : decode cX8_meanOf 72 = .ok (.iload 4, 2) := by decide +kernel
theorem dX8_meanOf_74 : decode cX8_meanOf 74 = .ok (.iaload, 1) := by decide +kernel
theorem dX8_meanOf_75 : decode cX8_meanOf 75 = .ok (.aload_n 0, 1) := by decide +kernel
theorem dX8_meanOf_76 : decode cX8_meanOf 76 = .ok (.getfield 47, 3) := by decide +kernel
theorem dX8_meanOf_79 : decode cX8_meanOf 79 = .ok (.iload_n 3, 1) := by decide +kernel
theorem dX8_meanOf_80 : decode cX8_meanOf 80 = .ok (.iaload, 1) := by decide +kernel
theorem dX8_meanOf_81 : decode cX8_meanOf 81 = .ok (.if_icmp .le 8, 3) := by decide +kernel
theorem dX8_meanOf_84 : decode cX8_meanOf 84 = .ok (.iload 4, 2) := by decide +kernel
theorem dX8_meanOf_86 : decode cX8_meanOf 86 = .ok (.goto 4, 3) := by decide +kernel
theorem dX8_meanOf_89 : decode cX8_meanOf 89 = .ok (.iload_n 3, 1) := by decide +kernel
theorem dX8_meanOf_90 : decode cX8_meanOf 90 = .ok (.istore_n 3, 1) := by decide +kernel
theorem dX8_meanOf_91 : decode cX8_meanOf 91 = .ok (.iinc 4 1, 3) := by decide +kernel
theorem dX8_meanOf_94 : decode cX8_meanOf 94 = .ok (.goto (-88), 3) := by decide +kernel
theorem dX8_meanOf_97 : decode cX8_meanOf 97 = .ok (.iload_n 3, 1) := by decide +kernel
theorem dX8_meanOf_98 : decode cX8_meanOf 98 = .ok (.bipush (-9), 2) := by decide +kernel
theorem dX8_meanOf_100 : decode cX8_meanOf 100 = .ok (.if_icmp .ne 8, 3) := by decide +kernel
theorem dX8_meanOf_103 : decode cX8_meanOf 103 = .ok (.bipush 31, 2) := by decide +kernel
theorem dX8_meanOf_105 : decode cX8_meanOf 105 = .ok (.goto 11, 3) := by decide +kernel
theorem dX8_meanOf_108 : decode cX8_meanOf 108 = .ok (.iconst 1, 1) := by decide +kernel
theorem dX8_meanOf_109 : decode cX8_meanOf 109 = .ok (.aload_n 0, 1) := by decide +kernel
theorem dX8_meanOf_110 : decode cX8_meanOf 110 = .ok (.getfield 44, 3) := by decide +kernel
theorem dX8_meanOf_113 : decode cX8_meanOf 113 = .ok (.iload_n 3, 1) := by decide +kernel
theorem dX8_meanOf_114 : decode cX8_meanOf 114 = .ok (.iaload, 1) := by decide +kernel
theorem dX8_meanOf_115 : decode cX8_meanOf 115 = .ok (.ishl, 1) := by decide +kernel
theorem dX8_meanOf_116 : decode cX8_meanOf 116 = .ok (.ireturn, 1) := by decide +kernel
theorem dX8_means_0 : decode cX8_means 0 = .ok (.iload_n 1, 1) := by decide +kernel
theorem dX8_means_1 : decode cX8_means 1 = .ok (.iconst 5, 1) := by decide +kernel
theorem dX8_means_2 : decode cX8_means 2 = .ok (.bipush 6, 2) := by decide +kernel
theorem dX8_means_4 : decode cX8_means 4 = .ok (.invokestatic 78, 3) := by decide +kernel
theorem dX8_means_7 : decode cX8_means 7 = .ok (.ifCond .eq 19, 3) := by decide +kernel
theorem dX8_means_10 : decode cX8_means 10 = .ok (.iload_n 2, 1) := by decide +kernel
theorem dX8_means_11 : decode cX8_means 11 = .ok (.invokestatic 154, 3) := by decide +kernel
theorem dX8_means_14 : decode cX8_means 14 = .ok (.ifCond .eq 12, 3) := by decide +kernel
theorem dX8_means_17 : decode cX8_means 17 = .ok (.aload_n 0, 1) := by decide +kernel
theorem dX8_means_18 : decode cX8_means 18 = .ok (.iload_n 1, 1) := by decide +kernel
theorem dX8_means_19 : decode cX8_means 19 = .ok (.iload_n 2, 1) := by decide +kernel
theorem dX8_means_20 : decode cX8_means 20 = .ok (.invokevirtual 172, 3) := by decide +kernel
theorem dX8_means_23 : decode cX8_means 23 = .ok (.goto 4, 3) := by decide +kernel
theorem dX8_means_26 : decode cX8_means 26 = .ok (.iconst (-1), 1) := by decide +kernel
theorem dX8_means_27 : decode cX8_means 27 = .ok (.ireturn, 1) := by decide +kernel
theorem dX8_meanings_0 : decode cX8_meanings 0 = .ok (.iload_n 1, 1) := by decide +kernel
theorem dX8_meanings_1 : decode cX8_meanings 1 = .ok (.invokestatic 154, 3) := by decide +kernel
theorem dX8_meanings_4 : decode cX8_meanings 4 = .ok (.ifCond .eq 26, 3) := by decide +kernel
theorem dX8_meanings_7 : decode cX8_meanings 7 = .ok (.aload_n 0, 1) := by decide +kernel
theorem dX8_meanings_8 : decode cX8_meanings 8 = .ok (.iconst 5, 1) := by decide +kernel
theorem dX8_meanings_9 : decode cX8_meanings 9 = .ok (.iload_n 1, 1) := by decide +kernel
theorem dX8_meanings_10 : decode cX8_meanings 10 = .ok (.invokevirtual 172, 3) := by decide +kernel
theorem dX8_meanings_13 : decode cX8_meanings 13 = .ok (.invokestatic 160, 3) := by decide +kernel
theorem dX8_meanings_16 : decode cX8_meanings 16 = .ok (.aload_n 0, 1) := by decide +kernel
theorem dX8_meanings_17 : decode cX8_meanings 17 = .ok (.bipush 6, 2) := by decide +kernel
theorem dX8_meanings_19 : decode cX8_meanings 19 = .ok (.iload_n 1, 1) := by decide +kernel
theorem dX8_meanings_20 : decode cX8_meanings 20 = .ok (.invokevirtual 172, 3) := by decide +kernel
theorem dX8_meanings_23 : decode cX8_meanings 23 = .ok (.invokestatic 160, 3) := by decide +kernel
theorem dX8_meanings_26 : decode cX8_meanings 26 = .ok (.imul, 1) := by decide +kernel
theorem dX8_meanings_27 : decode cX8_meanings 27 = .ok (.goto 4, 3) := by decide +kernel
theorem dX8_meanings_30 : decode cX8_meanings 30 = .ok (.iconst (-1), 1) := by decide +kernel
theorem dX8_meanings_31 : decode cX8_meanings 31 = .ok (.ireturn, 1) := by decide +kernel
theorem dX8_isInRing_0 : decode cX8_isInRing 0 = .ok (.iload_n 1, 1) := by decide +kernel
theorem dX8_isInRing_1 : decode cX8_isInRing 1 = .ok (.istore_n 2, 1) := by decide +kernel
theorem dX8_isInRing_2 : decode cX8_isInRing 2 = .ok (.iconst 0, 1) := by decide +kernel
theorem dX8_isInRing_3 : decode cX8_isInRing 3 = .ok (.istore_n 3, 1) := by decide +kernel
theorem dX8_isInRing_4 : decode cX8_isInRing 4 = .ok (.iload_n 3, 1) := by decide +kernel
theorem dX8_isInRing_5 : decode cX8_isInRing 5 = .ok (.bipush 6, 2) := by decide +kernel
theorem dX8_isInRing_7 : decode cX8_isInRing 7 = .ok (.if_icmp .ge 45, 3) := by decide +kernel
theorem dX8_isInRing_10 : decode cX8_isInRing 10 = .ok (.aload_n 0, 1) := by decide +kernel
theorem dX8_isInRing_11 : decode cX8_isInRing 11 = .ok (.iload_n 2, 1) := by decide +kernel
theorem dX8_isInRing_12 : decode cX8_isInRing 12 = .ok (.invokevirtual 144, 3) := by decide +kernel
theorem dX8_isInRing_15 : decode cX8_isInRing 15 = .ok (.ifCond .eq 15, 3) := by decide +kernel
theorem dX8_isInRing_18 : decode cX8_isInRing 18 = .ok (.aload_n 0, 1) := by decide +kernel
theorem dX8_isInRing_19 : decode cX8_isInRing 19 = .ok (.getfield 32, 3) := by decide +kernel
theorem dX8_isInRing_22 : decode cX8_isInRing 22 = .ok (.iload_n 2, 1) := by decide +kernel
theorem dX8_isInRing_23 : decode cX8_isInRing 23 = .ok (.iaload, 1) := by decide +kernel
theorem dX8_isInRing_24 : decode cX8_isInRing 24 = .ok (.invokestatic 125, 3) := by decide +kernel
theorem dX8_isInRing_27 : decode cX8_isInRing 27 = .ok (.ifCond .ne 5, 3) := by decide +kernel
theorem dX8_isInRing_30 : decode cX8_isInRing 30 = .ok (.iconst 0, 1) := by decide +kernel
theorem dX8_isInRing_31 : decode cX8_isInRing 31 = .ok (.ireturn, 1) := by decide +kernel
theorem dX8_isInRing_32 : decode cX8_isInRing 32 = .ok (.aload_n 0, 1) := by decide +kernel
theorem dX8_isInRing_33 : decode cX8_isInRing 33 = .ok (.getfield 41, 3) := by decide +kernel
theorem dX8_isInRing_36 : decode cX8_isInRing 36 = .ok (.iload_n 2, 1) := by decide +kernel
theorem dX8_isInRing_37 : decode cX8_isInRing 37 = .ok (.iaload, 1) := by decide +kernel
theorem dX8_isInRing_38 : decode cX8_isInRing 38 = .ok (.istore_n 2, 1) := by decide +kernel
theorem dX8_isInRing_39 : decode cX8_isInRing 39 = .ok (.iload_n 2, 1) := by decide +kernel
theorem dX8_isInRing_40 : decode cX8_isInRing 40 = .ok (.iload_n 1, 1) := by decide +kernel
theorem dX8_isInRing_41 : decode cX8_isInRing 41 = .ok (.if_icmp .ne 5, 3) := by decide +kernel
theorem dX8_isInRing_44 : decode cX8_isInRing 44 = .ok (.iconst 1, 1) := by decide +kernel
theorem dX8_isInRing_45 : decode cX8_isInRing 45 = .ok (.ireturn, 1) := by decide +kernel
theorem dX8_isInRing_46 : decode cX8_isInRing 46 = .ok (.iinc 3 1, 3) := by decide +kernel
theorem dX8_isInRing_49 : decode cX8_isInRing 49 = .ok (.goto (-45), 3) := by decide +kernel
theorem dX8_isInRing_52 : decode cX8_isInRing 52 = .ok (.iconst 0, 1) := by decide +kernel
theorem dX8_isInRing_53 : decode cX8_isInRing 53 = .ok (.ireturn, 1) := by decide +kernel
theorem dX8_never_0 : decode cX8_never 0 = .ok (.iconst 0, 1) := by decide +kernel
theorem dX8_never_1 : decode cX8_never 1 = .ok (.istore_n 1, 1) := by decide +kernel
theorem dX8_never_2 : decode cX8_never 2 = .ok (.iconst 0, 1) := by decide +kernel
theorem dX8_never_3 : decode cX8_never 3 = .ok (.istore_n 2, 1) := by decide +kernel
theorem dX8_never_4 : decode cX8_never 4 = .ok (.iconst 0, 1) := by decide +kernel
theorem dX8_never_5 : decode cX8_never 5 = .ok (.istore_n 3, 1) := by decide +kernel
theorem dX8_never_6 : decode cX8_never 6 = .ok (.iload_n 3, 1) := by decide +kernel
theorem dX8_never_7 : decode cX8_never 7 = .ok (.aload_n 0, 1) := by decide +kernel
theorem dX8_never_8 : decode cX8_never 8 = .ok (.getfield 141, 3) := by decide +kernel
theorem dX8_never_11 : decode cX8_never 11 = .ok (.if_icmp .ge 88, 3) := by decide +kernel
theorem dX8_never_14 : decode cX8_never 14 = .ok (.iconst 0, 1) := by decide +kernel
theorem dX8_never_15 : decode cX8_never 15 = .ok (.istore 4, 2) := by decide +kernel
theorem dX8_never_17 : decode cX8_never 17 = .ok (.iconst 0, 1) := by decide +kernel
theorem dX8_never_18 : decode cX8_never 18 = .ok (.istore 5, 2) := by decide +kernel
theorem dX8_never_20 : decode cX8_never 20 = .ok (.iload 5, 2) := by decide +kernel
theorem dX8_never_22 : decode cX8_never 22 = .ok (.bipush 20, 2) := by decide +kernel
theorem dX8_never_24 : decode cX8_never 24 = .ok (.if_icmp .gt 31, 3) := by decide +kernel
theorem dX8_never_27 : decode cX8_never 27 = .ok (.iload 4, 2) := by decide +kernel
theorem dX8_never_29 : decode cX8_never 29 = .ok (.ifCond .ne 13, 3) := by decide +kernel
theorem dX8_never_32 : decode cX8_never 32 = .ok (.aload_n 0, 1) := by decide +kernel
theorem dX8_never_33 : decode cX8_never 33 = .ok (.iload_n 3, 1) := by decide +kernel
theorem dX8_never_34 : decode cX8_never 34 = .ok (.iload 5, 2) := by decide +kernel
theorem dX8_never_36 : decode cX8_never 36 = .ok (.invokevirtual 150, 3) := by decide +kernel
theorem dX8_never_39 : decode cX8_never 39 = .ok (.ifCond .eq 7, 3) := by decide +kernel
theorem dX8_never_42 : decode cX8_never 42 = .ok (.iconst 1, 1) := by decide +kernel
theorem dX8_never_43 : decode cX8_never 43 = .ok (.goto 4, 3) := by decide +kernel
theorem dX8_never_46 : decode cX8_never 46 = .ok (.iconst 0, 1) := by decide +kernel
theorem dX8_never_47 : decode cX8_never 47 = .ok (.istore 4, 2) := by decide +kernel
theorem dX8_never_49 : decode cX8_never 49 = .ok (.iinc 5 1, 3) := by decide +kernel
theorem dX8_never_52 : decode cX8_never 52 = .ok (.goto (-32), 3) := by decide +kernel
theorem dX8_never_55 : decode cX8_never 55 = .ok (.iload_n 1, 1) := by decide +kernel
theorem dX8_never_56 : decode cX8_never 56 = .ok (.iload 4, 2) := by decide +kernel
theorem dX8_never_58 : decode cX8_never 58 = .ok (.ifCond .eq 7, 3) := by decide +kernel
theorem dX8_never_61 : decode cX8_never 61 = .ok (.iconst 0, 1) := by decide +kernel
theorem dX8_never_62 : decode cX8_never 62 = .ok (.goto 6, 3) := by decide +kernel
theorem dX8_never_65 : decode cX8_never 65 = .ok (.iconst 1, 1) := by decide +kernel
theorem dX8_never_66 : decode cX8_never 66 = .ok (.iload_n 3, 1) := by decide +kernel
theorem dX8_never_67 : decode cX8_never 67 = .ok (.ishl, 1) := by decide +kernel
theorem dX8_never_68 : decode cX8_never 68 = .ok (.ior, 1) := by decide +kernel
theorem dX8_never_69 : decode cX8_never 69 = .ok (.istore_n 1, 1) := by decide +kernel
theorem dX8_never_70 : decode cX8_never 70 = .ok (.iload_n 2, 1) := by decide +kernel
theorem dX8_never_71 : decode cX8_never 71 = .ok (.iload 4, 2) := by decide +kernel
theorem dX8_never_73 : decode cX8_never 73 = .ok (.ifCond .ne 17, 3) := by decide +kernel
theorem dX8_never_76 : decode cX8_never 76 = .ok (.aload_n 0, 1) := by decide +kernel
theorem dX8_never_77 : decode cX8_never 77 = .ok (.iload_n 3, 1) := by decide +kernel
theorem dX8_never_78 : decode cX8_never 78 = .ok (.invokevirtual 175, 3) := by decide +kernel
theorem dX8_never_81 : decode cX8_never 81 = .ok (.ifCond .eq 9, 3) := by decide +kernel
theorem dX8_never_84 : decode cX8_never 84 = .ok (.iconst 1, 1) := by decide +kernel
theorem dX8_never_85 : decode cX8_never 85 = .ok (.iload_n 3, 1) := by decide +kernel
theorem dX8_never_86 : decode cX8_never 86 = .ok (.ishl, 1) := by decide +kernel
theorem dX8_never_87 : decode cX8_never 87 = .ok (.goto 4, 3) := by decide +kernel
theorem dX8_never_90 : decode cX8_never 90 = .ok (.iconst 0, 1) := by decide +kernel
theorem dX8_never_91 : decode cX8_never 91 = .ok (.ior, 1) := by decide +kernel
theorem dX8_never_92 : decode cX8_never 92 = .ok (.istore_n 2, 1) := by decide +kernel
theorem dX8_never_93 : decode cX8_never 93 = .ok (.iinc 3 1, 3) := by decide +kernel
theorem dX8_never_96 : decode cX8_never 96 = .ok (.goto (-90), 3) := by decide +kernel
theorem dX8_never_99 : decode cX8_never 99 = .ok (.aload_n 0, 1) := by decide +kernel
theorem dX8_never_100 : decode cX8_never 100 = .ok (.iload_n 2, 1) := by decide +kernel
theorem dX8_never_101 : decode cX8_never 101 = .ok (.iload_n 1, 1) := by decide +kernel
theorem dX8_never_102 : decode cX8_never 102 = .ok (.invokevirtual 104, 3) := by decide +kernel
theorem dX8_never_105 : decode cX8_never 105 = .ok (.ireturn, 1) := by decide +kernel
theorem dX8_judgeBy_0 : decode cX8_judgeBy 0 = .ok (.bipush (-9), 2) := by decide +kernel
theorem dX8_judgeBy_2 : decode cX8_judgeBy 2 = .ok (.istore_n 3, 1) := by decide +kernel
theorem dX8_judgeBy_3 : decode cX8_judgeBy 3 = .ok (.iconst 0, 1) := by decide +kernel
theorem dX8_judgeBy_4 : decode cX8_judgeBy 4 = .ok (.istore 4, 2) := by decide +kernel
theorem dX8_judgeBy_6 : decode cX8_judgeBy 6 = .ok (.iload 4, 2) := by decide +kernel
theorem dX8_judgeBy_8 : decode cX8_judgeBy 8 = .ok (.aload_n 0, 1) := by decide +kernel
theorem dX8_judgeBy_9 : decode cX8_judgeBy 9 = .ok (.getfield 141, 3) := by decide +kernel
theorem dX8_judgeBy_12 : decode cX8_judgeBy 12 = .ok (.if_icmp .ge 82, 3) := by decide +kernel
theorem dX8_judgeBy_15 : decode cX8_judgeBy 15 = .ok (.iload_n 2, 1) := by decide +kernel
theorem dX8_judgeBy_16 : decode cX8_judgeBy 16 = .ok (.iload 4, 2) := by decide +kernel
theorem dX8_judgeBy_18 : decode cX8_judgeBy 18 = .ok (.invokestatic 169, 3) := by decide +kernel
theorem dX8_judgeBy_21 : decode cX8_judgeBy 21 = .ok (.ifCond .eq 32, 3) := by decide +kernel
theorem dX8_judgeBy_24 : decode cX8_judgeBy 24 = .ok (.aload_n 0, 1) := by decide +kernel
theorem dX8_judgeBy_25 : decode cX8_judgeBy 25 = .ok (.getfield 32, 3) := by decide +kernel
theorem dX8_judgeBy_28 : decode cX8_judgeBy 28 = .ok (.iload 4, 2) := by decide +kernel
theorem dX8_judgeBy_30 : decode cX8_judgeBy 30 = .ok (.iaload, 1) := by decide +kernel
theorem dX8_judgeBy_31 : decode cX8_judgeBy 31 = .ok (.iconst 3, 1) := by decide +kernel
theorem dX8_judgeBy_32 : decode cX8_judgeBy 32 = .ok (.if_icmp .eq 21, 3) := by decide +kernel
theorem dX8_judgeBy_35 : decode cX8_judgeBy 35 = .ok (.aload_n 0, 1) := by decide +kernel
theorem dX8_judgeBy_36 : decode cX8_judgeBy 36 = .ok (.getfield 38, 3) := by decide +kernel
theorem dX8_judgeBy_39 : decode cX8_judgeBy 39 = .ok (.iload 4, 2) := by decide +kernel
theorem dX8_judgeBy_41 : decode cX8_judgeBy 41 = .ok (.iaload, 1) := by decide +kernel
theorem dX8_judgeBy_42 : decode cX8_judgeBy 42 = .ok (.iload_n 1, 1) := by decide +kernel
theorem dX8_judgeBy_43 : decode cX8_judgeBy 43 = .ok (.iconst (-1), 1) := by decide +kernel
theorem dX8_judgeBy_44 : decode cX8_judgeBy 44 = .ok (.ixor, 1) := by decide +kernel
theorem dX8_judgeBy_45 : decode cX8_judgeBy 45 = .ok (.iand, 1) := by decide +kernel
theorem dX8_judgeBy_46 : decode cX8_judgeBy 46 = .ok (.ifCond .ne 7, 3) := by decide +kernel
theorem dX8_judgeBy_49 : decode cX8_judgeBy 49 = .ok (.iconst 1, 1) := by decide +kernel
theorem dX8_judgeBy_50 : decode cX8_judgeBy 50 = .ok (.goto 4, 3) := by decide +kernel
theorem dX8_judgeBy_53 : decode cX8_judgeBy 53 = .ok (.iconst 0, 1) := by decide +kernel
theorem dX8_judgeBy_54 : decode cX8_judgeBy 54 = .ok (.istore 5, 2) := by decide +kernel
theorem dX8_judgeBy_56 : decode cX8_judgeBy 56 = .ok (.iload 5, 2) := by decide +kernel
theorem dX8_judgeBy_58 : decode cX8_judgeBy 58 = .ok (.ifCond .eq 28, 3) := by decide +kernel
theorem dX8_judgeBy_61 : decode cX8_judgeBy 61 = .ok (.iload_n 3, 1) := by decide +kernel
theorem dX8_judgeBy_62 : decode cX8_judgeBy 62 = .ok (.bipush (-9), 2) := by decide +kernel
theorem dX8_judgeBy_64 : decode cX8_judgeBy 64 = .ok (.if_icmp .eq 17, 3) := by decide +kernel
theorem dX8_judgeBy_67 : decode cX8_judgeBy 67 = .ok (.aload_n 0, 1) := by decide +kernel
theorem dX8_judgeBy_68 : decode cX8_judgeBy 68 = .ok (.iload 4, 2) := by decide +kernel
theorem dX8_judgeBy_70 : decode cX8_judgeBy 70 = .ok (.invokevirtual 166, 3) := by decide +kernel
theorem dX8_judgeBy_73 : decode cX8_judgeBy 73 = .ok (.aload_n 0, 1) := by decide +kernel
theorem dX8_judgeBy_74 : decode cX8_judgeBy 74 = .ok (.iload_n 3, 1) := by decide +kernel
theorem dX8_judgeBy_75 : decode cX8_judgeBy 75 = .ok (.invokevirtual 166, 3) := by decide +kernel
theorem dX8_judgeBy_78 : decode cX8_judgeBy 78 = .ok (.if_icmp .le 8, 3) := by decide +kernel
theorem dX8_judgeBy_81 : decode cX8_judgeBy 81 = .ok (.iload 4, 2) := by decide +kernel
theorem dX8_judgeBy_83 : decode cX8_judgeBy 83 = .ok (.goto 4, 3) := by decide +kernel
theorem dX8_judgeBy_86 : decode cX8_judgeBy 86 = .ok (.iload_n 3, 1) := by decide +kernel
theorem dX8_judgeBy_87 : decode cX8_judgeBy 87 = .ok (.istore_n 3, 1) := by decide +kernel
theorem dX8_judgeBy_88 : decode cX8_judgeBy 88 = .ok (.iinc 4 1, 3) := by decide +kernel
theorem dX8_judgeBy_91 : decode cX8_judgeBy 91 = .ok (.goto (-85), 3) := by decide +kernel
theorem dX8_judgeBy_94 : decode cX8_judgeBy 94 = .ok (.iload_n 3, 1) := by decide +kernel
theorem dX8_judgeBy_95 : decode cX8_judgeBy 95 = .ok (.ireturn, 1) := by decide +kernel
theorem dX8_soOf_0 : decode cX8_soOf 0 = .ok (.iload_n 0, 1) := by decide +kernel
theorem dX8_soOf_1 : decode cX8_soOf 1 = .ok (.iload_n 0, 1) := by decide +kernel
theorem dX8_soOf_2 : decode cX8_soOf 2 = .ok (.iload_n 1, 1) := by decide +kernel
theorem dX8_soOf_3 : decode cX8_soOf 3 = .ok (.invokestatic 169, 3) := by decide +kernel
theorem dX8_soOf_6 : decode cX8_soOf 6 = .ok (.ifCond .eq 8, 3) := by decide +kernel
theorem dX8_soOf_9 : decode cX8_soOf 9 = .ok (.bipush 32, 2) := by decide +kernel
theorem dX8_soOf_11 : decode cX8_soOf 11 = .ok (.goto 4, 3) := by decide +kernel
theorem dX8_soOf_14 : decode cX8_soOf 14 = .ok (.iconst 0, 1) := by decide +kernel
theorem dX8_soOf_15 : decode cX8_soOf 15 = .ok (.ior, 1) := by decide +kernel
theorem dX8_soOf_16 : decode cX8_soOf 16 = .ok (.iload_n 0, 1) := by decide +kernel
theorem dX8_soOf_17 : decode cX8_soOf 17 = .ok (.iload_n 2, 1) := by decide +kernel
theorem dX8_soOf_18 : decode cX8_soOf 18 = .ok (.invokestatic 169, 3) := by decide +kernel
theorem dX8_soOf_21 : decode cX8_soOf 21 = .ok (.ifCond .eq 8, 3) := by decide +kernel
theorem dX8_soOf_24 : decode cX8_soOf 24 = .ok (.bipush 64, 2) := by decide +kernel
theorem dX8_soOf_26 : decode cX8_soOf 26 = .ok (.goto 4, 3) := by decide +kernel
theorem dX8_soOf_29 : decode cX8_soOf 29 = .ok (.iconst 0, 1) := by decide +kernel
theorem dX8_soOf_30 : decode cX8_soOf 30 = .ok (.ior, 1) := by decide +kernel
theorem dX8_soOf_31 : decode cX8_soOf 31 = .ok (.ireturn, 1) := by decide +kernel
theorem dX8_givenBy_0 : decode cX8_givenBy 0 = .ok (.aload_n 0, 1) := by decide +kernel
theorem dX8_givenBy_1 : decode cX8_givenBy 1 = .ok (.iload_n 1, 1) := by decide +kernel
theorem dX8_givenBy_2 : decode cX8_givenBy 2 = .ok (.iload_n 2, 1) := by decide +kernel
theorem dX8_givenBy_3 : decode cX8_givenBy 3 = .ok (.iload_n 3, 1) := by decide +kernel
theorem dX8_givenBy_4 : decode cX8_givenBy 4 = .ok (.invokestatic 178, 3) := by decide +kernel
theorem dX8_givenBy_7 : decode cX8_givenBy 7 = .ok (.iload 4, 2) := by decide +kernel
theorem dX8_givenBy_9 : decode cX8_givenBy 9 = .ok (.invokevirtual 181, 3) := by decide +kernel
theorem dX8_givenBy_12 : decode cX8_givenBy 12 = .ok (.istore 5, 2) := by decide +kernel
theorem dX8_givenBy_14 : decode cX8_givenBy 14 = .ok (.iload 5, 2) := by decide +kernel
theorem dX8_givenBy_16 : decode cX8_givenBy 16 = .ok (.bipush (-9), 2) := by decide +kernel
theorem dX8_givenBy_18 : decode cX8_givenBy 18 = .ok (.if_icmp .ne 7, 3) := by decide +kernel
theorem dX8_givenBy_21 : decode cX8_givenBy 21 = .ok (.iconst 0, 1) := by decide +kernel
theorem dX8_givenBy_22 : decode cX8_givenBy 22 = .ok (.goto 10, 3) := by decide +kernel
theorem dX8_givenBy_25 : decode cX8_givenBy 25 = .ok (.aload_n 0, 1) := by decide +kernel
theorem dX8_givenBy_26 : decode cX8_givenBy 26 = .ok (.getfield 35, 3) := by decide +kernel
theorem dX8_givenBy_29 : decode cX8_givenBy 29 = .ok (.iload 5, 2) := by decide +kernel
theorem dX8_givenBy_31 : decode cX8_givenBy 31 = .ok (.iaload, 1) := by decide +kernel
theorem dX8_givenBy_32 : decode cX8_givenBy 32 = .ok (.ireturn, 1) := by decide +kernel
theorem dX8_onesOf_0 : decode cX8_onesOf 0 = .ok (.iconst 0, 1) := by decide +kernel
theorem dX8_onesOf_1 : decode cX8_onesOf 1 = .ok (.istore 5, 2) := by decide +kernel
theorem dX8_onesOf_3 : decode cX8_onesOf 3 = .ok (.aload_n 0, 1) := by decide +kernel
theorem dX8_onesOf_4 : decode cX8_onesOf 4 = .ok (.iconst 0, 1) := by decide +kernel
theorem dX8_onesOf_5 : decode cX8_onesOf 5 = .ok (.putfield 184, 3) := by decide +kernel
theorem dX8_onesOf_8 : decode cX8_onesOf 8 = .ok (.iconst 0, 1) := by decide +kernel
theorem dX8_onesOf_9 : decode cX8_onesOf 9 = .ok (.istore 6, 2) := by decide +kernel
theorem dX8_onesOf_11 : decode cX8_onesOf 11 = .ok (.iload 6, 2) := by decide +kernel
theorem dX8_onesOf_13 : decode cX8_onesOf 13 = .ok (.iconst 5, 1) := by decide +kernel
theorem dX8_onesOf_14 : decode cX8_onesOf 14 = .ok (.if_icmp .ge 68, 3) := by decide +kernel
theorem dX8_onesOf_17 : decode cX8_onesOf 17 = .ok (.iconst 0, 1) := by decide +kernel
theorem dX8_onesOf_18 : decode cX8_onesOf 18 = .ok (.istore 7, 2) := by decide +kernel
theorem dX8_onesOf_20 : decode cX8_onesOf 20 = .ok (.iload 7, 2) := by decide +kernel
theorem dX8_onesOf_22 : decode cX8_onesOf 22 = .ok (.iconst 5, 1) := by decide +kernel
theorem dX8_onesOf_23 : decode cX8_onesOf 23 = .ok (.if_icmp .ge 53, 3) := by decide +kernel
theorem dX8_onesOf_26 : decode cX8_onesOf 26 = .ok (.iload_n 3, 1) := by decide +kernel
theorem dX8_onesOf_27 : decode cX8_onesOf 27 = .ok (.iload 6, 2) := by decide +kernel
theorem dX8_onesOf_29 : decode cX8_onesOf 29 = .ok (.invokestatic 169, 3) := by decide +kernel
theorem dX8_onesOf_32 : decode cX8_onesOf 32 = .ok (.ifCond .eq 38, 3) := by decide +kernel
theorem dX8_onesOf_35 : decode cX8_onesOf 35 = .ok (.iload 4, 2) := by decide +kernel
theorem dX8_onesOf_37 : decode cX8_onesOf 37 = .ok (.iload 7, 2) := by decide +kernel
theorem dX8_onesOf_39 : decode cX8_onesOf 39 = .ok (.invokestatic 169, 3) := by decide +kernel
theorem dX8_onesOf_42 : decode cX8_onesOf 42 = .ok (.ifCond .eq 28, 3) := by decide +kernel
theorem dX8_onesOf_45 : decode cX8_onesOf 45 = .ok (.aload_n 0, 1) := by decide +kernel
theorem dX8_onesOf_46 : decode cX8_onesOf 46 = .ok (.dup, 1) := by decide +kernel
theorem dX8_onesOf_47 : decode cX8_onesOf 47 = .ok (.getfield 184, 3) := by decide +kernel
theorem dX8_onesOf_50 : decode cX8_onesOf 50 = .ok (.iconst 1, 1) := by decide +kernel
theorem dX8_onesOf_51 : decode cX8_onesOf 51 = .ok (.iadd, 1) := by decide +kernel
theorem dX8_onesOf_52 : decode cX8_onesOf 52 = .ok (.putfield 184, 3) := by decide +kernel
theorem dX8_onesOf_55 : decode cX8_onesOf 55 = .ok (.iload 5, 2) := by decide +kernel
theorem dX8_onesOf_57 : decode cX8_onesOf 57 = .ok (.aload_n 0, 1) := by decide +kernel
theorem dX8_onesOf_58 : decode cX8_onesOf 58 = .ok (.iload_n 1, 1) := by decide +kernel
theorem dX8_onesOf_59 : decode cX8_onesOf 59 = .ok (.iload 6, 2) := by decide +kernel
theorem dX8_onesOf_61 : decode cX8_onesOf 61 = .ok (.iload 7, 2) := by decide +kernel
theorem dX8_onesOf_63 : decode cX8_onesOf 63 = .ok (.iload_n 2, 1) := by decide +kernel
theorem dX8_onesOf_64 : decode cX8_onesOf 64 = .ok (.invokevirtual 187, 3) := by decide +kernel
theorem dX8_onesOf_67 : decode cX8_onesOf 67 = .ok (.iadd, 1) := by decide +kernel
theorem dX8_onesOf_68 : decode cX8_onesOf 68 = .ok (.istore 5, 2) := by decide +kernel
theorem dX8_onesOf_70 : decode cX8_onesOf 70 = .ok (.iinc 7 1, 3) := by decide +kernel
theorem dX8_onesOf_73 : decode cX8_onesOf 73 = .ok (.goto (-53), 3) := by decide +kernel
theorem dX8_onesOf_76 : decode cX8_onesOf 76 = .ok (.iinc 6 1, 3) := by decide +kernel
theorem dX8_onesOf_79 : decode cX8_onesOf 79 = .ok (.goto (-68), 3) := by decide +kernel
theorem dX8_onesOf_82 : decode cX8_onesOf 82 = .ok (.iload 5, 2) := by decide +kernel
theorem dX8_onesOf_84 : decode cX8_onesOf 84 = .ok (.ireturn, 1) := by decide +kernel
theorem dX8_isOn_0 : decode cX8_isOn 0 = .ok (.aload_n 0, 1) := by decide +kernel
theorem dX8_isOn_1 : decode cX8_isOn 1 = .ok (.iload_n 1, 1) := by decide +kernel
theorem dX8_isOn_2 : decode cX8_isOn 2 = .ok (.aload_n 0, 1) := by decide +kernel
theorem dX8_isOn_3 : decode cX8_isOn 3 = .ok (.iload_n 2, 1) := by decide +kernel
theorem dX8_isOn_4 : decode cX8_isOn 4 = .ok (.invokevirtual 157, 3) := by decide +kernel
theorem dX8_isOn_7 : decode cX8_isOn 7 = .ok (.aload_n 0, 1) := by decide +kernel
theorem dX8_isOn_8 : decode cX8_isOn 8 = .ok (.iconst 5, 1) := by decide +kernel
theorem dX8_isOn_9 : decode cX8_isOn 9 = .ok (.iload_n 2, 1) := by decide +kernel
theorem dX8_isOn_10 : decode cX8_isOn 10 = .ok (.invokevirtual 172, 3) := by decide +kernel
theorem dX8_isOn_13 : decode cX8_isOn 13 = .ok (.aload_n 0, 1) := by decide +kernel
theorem dX8_isOn_14 : decode cX8_isOn 14 = .ok (.bipush 6, 2) := by decide +kernel
theorem dX8_isOn_16 : decode cX8_isOn 16 = .ok (.iload_n 2, 1) := by decide +kernel
theorem dX8_isOn_17 : decode cX8_isOn 17 = .ok (.invokevirtual 172, 3) := by decide +kernel
theorem dX8_isOn_20 : decode cX8_isOn 20 = .ok (.invokevirtual 191, 3) := by decide +kernel
theorem dX8_isOn_23 : decode cX8_isOn 23 = .ok (.istore_n 3, 1) := by decide +kernel
theorem dX8_isOn_24 : decode cX8_isOn 24 = .ok (.iload_n 3, 1) := by decide +kernel
theorem dX8_isOn_25 : decode cX8_isOn 25 = .ok (.ifCond .ne 7, 3) := by decide +kernel
theorem dX8_isOn_28 : decode cX8_isOn 28 = .ok (.iconst 0, 1) := by decide +kernel
theorem dX8_isOn_29 : decode cX8_isOn 29 = .ok (.goto 17, 3) := by decide +kernel
theorem dX8_isOn_32 : decode cX8_isOn 32 = .ok (.iload_n 3, 1) := by decide +kernel
theorem dX8_isOn_33 : decode cX8_isOn 33 = .ok (.aload_n 0, 1) := by decide +kernel
theorem dX8_isOn_34 : decode cX8_isOn 34 = .ok (.getfield 184, 3) := by decide +kernel
theorem dX8_isOn_37 : decode cX8_isOn 37 = .ok (.if_icmp .ne 7, 3) := by decide +kernel
theorem dX8_isOn_40 : decode cX8_isOn 40 = .ok (.iconst 1, 1) := by decide +kernel
theorem dX8_isOn_41 : decode cX8_isOn 41 = .ok (.goto 5, 3) := by decide +kernel
theorem dX8_isOn_44 : decode cX8_isOn 44 = .ok (.bipush (-9), 2) := by decide +kernel
theorem dX8_isOn_46 : decode cX8_isOn 46 = .ok (.ireturn, 1) := by decide +kernel
theorem dX8_verdict_0 : decode cX8_verdict 0 = .ok (.iload_n 1, 1) := by decide +kernel
theorem dX8_verdict_1 : decode cX8_verdict 1 = .ok (.invokestatic 194, 3) := by decide +kernel
theorem dX8_verdict_4 : decode cX8_verdict 4 = .ok (.ifCond .eq 10, 3) := by decide +kernel
theorem dX8_verdict_7 : decode cX8_verdict 7 = .ok (.iload_n 2, 1) := by decide +kernel
theorem dX8_verdict_8 : decode cX8_verdict 8 = .ok (.invokestatic 154, 3) := by decide +kernel
theorem dX8_verdict_11 : decode cX8_verdict 11 = .ok (.ifCond .ne 5, 3) := by decide +kernel
theorem dX8_verdict_14 : decode cX8_verdict 14 = .ok (.iconst (-1), 1) := by decide +kernel
theorem dX8_verdict_15 : decode cX8_verdict 15 = .ok (.ireturn, 1) := by decide +kernel
theorem dX8_verdict_16 : decode cX8_verdict 16 = .ok (.aload_n 0, 1) := by decide +kernel
theorem dX8_verdict_17 : decode cX8_verdict 17 = .ok (.iload_n 1, 1) := by decide +kernel
theorem dX8_verdict_18 : decode cX8_verdict 18 = .ok (.iload_n 2, 1) := by decide +kernel
theorem dX8_verdict_19 : decode cX8_verdict 19 = .ok (.invokevirtual 197, 3) := by decide +kernel
theorem dX8_verdict_22 : decode cX8_verdict 22 = .ok (.istore_n 3, 1) := by decide +kernel
theorem dX8_verdict_23 : decode cX8_verdict 23 = .ok (.aload_n 0, 1) := by decide +kernel
theorem dX8_verdict_24 : decode cX8_verdict 24 = .ok (.aload_n 0, 1) := by decide +kernel
theorem dX8_verdict_25 : decode cX8_verdict 25 = .ok (.iload_n 1, 1) := by decide +kernel
theorem dX8_verdict_26 : decode cX8_verdict 26 = .ok (.aload_n 0, 1) := by decide +kernel
theorem dX8_verdict_27 : decode cX8_verdict 27 = .ok (.iload_n 2, 1) := by decide +kernel
theorem dX8_verdict_28 : decode cX8_verdict 28 = .ok (.invokevirtual 157, 3) := by decide +kernel
theorem dX8_verdict_31 : decode cX8_verdict 31 = .ok (.aload_n 0, 1) := by decide +kernel
theorem dX8_verdict_32 : decode cX8_verdict 32 = .ok (.iconst 5, 1) := by decide +kernel
theorem dX8_verdict_33 : decode cX8_verdict 33 = .ok (.iload_n 2, 1) := by decide +kernel
theorem dX8_verdict_34 : decode cX8_verdict 34 = .ok (.invokevirtual 172, 3) := by decide +kernel
theorem dX8_verdict_37 : decode cX8_verdict 37 = .ok (.aload_n 0, 1) := by decide +kernel
theorem dX8_verdict_38 : decode cX8_verdict 38 = .ok (.bipush 6, 2) := by decide +kernel
theorem dX8_verdict_40 : decode cX8_verdict 40 = .ok (.iload_n 2, 1) := by decide +kernel
theorem dX8_verdict_41 : decode cX8_verdict 41 = .ok (.invokevirtual 172, 3) := by decide +kernel
theorem dX8_verdict_44 : decode cX8_verdict 44 = .ok (.invokevirtual 191, 3) := by decide +kernel
theorem dX8_verdict_47 : decode cX8_verdict 47 = .ok (.iload_n 3, 1) := by decide +kernel
theorem dX8_verdict_48 : decode cX8_verdict 48 = .ok (.invokevirtual 104, 3) := by decide +kernel
theorem dX8_verdict_51 : decode cX8_verdict 51 = .ok (.ireturn, 1) := by decide +kernel
theorem dX8_judge_0 : decode cX8_judge 0 = .ok (.iload_n 1, 1) := by decide +kernel
theorem dX8_judge_1 : decode cX8_judge 1 = .ok (.invokestatic 194, 3) := by decide +kernel
theorem dX8_judge_4 : decode cX8_judge 4 = .ok (.ifCond .eq 20, 3) := by decide +kernel
theorem dX8_judge_7 : decode cX8_judge 7 = .ok (.iload_n 3, 1) := by decide +kernel
theorem dX8_judge_8 : decode cX8_judge 8 = .ok (.invokestatic 154, 3) := by decide +kernel
theorem dX8_judge_11 : decode cX8_judge 11 = .ok (.ifCond .eq 13, 3) := by decide +kernel
theorem dX8_judge_14 : decode cX8_judge 14 = .ok (.iload_n 2, 1) := by decide +kernel
theorem dX8_judge_15 : decode cX8_judge 15 = .ok (.iconst 0, 1) := by decide +kernel
theorem dX8_judge_16 : decode cX8_judge 16 = .ok (.bipush 44, 2) := by decide +kernel
theorem dX8_judge_18 : decode cX8_judge 18 = .ok (.invokestatic 78, 3) := by decide +kernel
theorem dX8_judge_21 : decode cX8_judge 21 = .ok (.ifCond .ne 5, 3) := by decide +kernel
theorem dX8_judge_24 : decode cX8_judge 24 = .ok (.iconst (-1), 1) := by decide +kernel
theorem dX8_judge_25 : decode cX8_judge 25 = .ok (.ireturn, 1) := by decide +kernel
theorem dX8_judge_26 : decode cX8_judge 26 = .ok (.iload_n 2, 1) := by decide +kernel
theorem dX8_judge_27 : decode cX8_judge 27 = .ok (.bipush 10, 2) := by decide +kernel
theorem dX8_judge_29 : decode cX8_judge 29 = .ok (.idiv, 1) := by decide +kernel
theorem dX8_judge_30 : decode cX8_judge 30 = .ok (.istore 4, 2) := by decide +kernel
theorem dX8_judge_32 : decode cX8_judge 32 = .ok (.iload_n 2, 1) := by decide +kernel
theorem dX8_judge_33 : decode cX8_judge 33 = .ok (.bipush 10, 2) := by decide +kernel
theorem dX8_judge_35 : decode cX8_judge 35 = .ok (.irem, 1) := by decide +kernel
theorem dX8_judge_36 : decode cX8_judge 36 = .ok (.istore 5, 2) := by decide +kernel
theorem dX8_judge_38 : decode cX8_judge 38 = .ok (.iload 5, 2) := by decide +kernel
theorem dX8_judge_40 : decode cX8_judge 40 = .ok (.iconst 5, 1) := by decide +kernel
theorem dX8_judge_41 : decode cX8_judge 41 = .ok (.if_icmp .ge 52, 3) := by decide +kernel
theorem dX8_judge_44 : decode cX8_judge 44 = .ok (.aload_n 0, 1) := by decide +kernel
theorem dX8_judge_45 : decode cX8_judge 45 = .ok (.iconst 5, 1) := by decide +kernel
theorem dX8_judge_46 : decode cX8_judge 46 = .ok (.iload_n 3, 1) := by decide +kernel
theorem dX8_judge_47 : decode cX8_judge 47 = .ok (.invokevirtual 172, 3) := by decide +kernel
theorem dX8_judge_50 : decode cX8_judge 50 = .ok (.iload 4, 2) := by decide +kernel
theorem dX8_judge_52 : decode cX8_judge 52 = .ok (.invokestatic 169, 3) := by decide +kernel
theorem dX8_judge_55 : decode cX8_judge 55 = .ok (.ifCond .eq 38, 3) := by decide +kernel
theorem dX8_judge_58 : decode cX8_judge 58 = .ok (.aload_n 0, 1) := by decide +kernel
theorem dX8_judge_59 : decode cX8_judge 59 = .ok (.bipush 6, 2) := by decide +kernel
theorem dX8_judge_61 : decode cX8_judge 61 = .ok (.iload_n 3, 1) := by decide +kernel
theorem dX8_judge_62 : decode cX8_judge 62 = .ok (.invokevirtual 172, 3) := by decide +kernel
theorem dX8_judge_65 : decode cX8_judge 65 = .ok (.iload 5, 2) := by decide +kernel
theorem dX8_judge_67 : decode cX8_judge 67 = .ok (.invokestatic 169, 3) := by decide +kernel
theorem dX8_judge_70 : decode cX8_judge 70 = .ok (.ifCond .eq 23, 3) := by decide +kernel
theorem dX8_judge_73 : decode cX8_judge 73 = .ok (.aload_n 0, 1) := by decide +kernel
theorem dX8_judge_74 : decode cX8_judge 74 = .ok (.iload_n 1, 1) := by decide +kernel
theorem dX8_judge_75 : decode cX8_judge 75 = .ok (.iload 4, 2) := by decide +kernel
theorem dX8_judge_77 : decode cX8_judge 77 = .ok (.iload 5, 2) := by decide +kernel
theorem dX8_judge_79 : decode cX8_judge 79 = .ok (.invokestatic 178, 3) := by decide +kernel
theorem dX8_judge_82 : decode cX8_judge 82 = .ok (.aload_n 0, 1) := by decide +kernel
theorem dX8_judge_83 : decode cX8_judge 83 = .ok (.iload_n 3, 1) := by decide +kernel
theorem dX8_judge_84 : decode cX8_judge 84 = .ok (.invokevirtual 157, 3) := by decide +kernel
theorem dX8_judge_87 : decode cX8_judge 87 = .ok (.invokevirtual 181, 3) := by decide +kernel
theorem dX8_judge_90 : decode cX8_judge 90 = .ok (.goto 4, 3) := by decide +kernel
theorem dX8_judge_93 : decode cX8_judge 93 = .ok (.iconst (-1), 1) := by decide +kernel
theorem dX8_judge_94 : decode cX8_judge 94 = .ok (.ireturn, 1) := by decide +kernel
theorem dX8_odds_0 : decode cX8_odds 0 = .ok (.iload_n 1, 1) := by decide +kernel
theorem dX8_odds_1 : decode cX8_odds 1 = .ok (.invokestatic 194, 3) := by decide +kernel
theorem dX8_odds_4 : decode cX8_odds 4 = .ok (.ifCond .eq 10, 3) := by decide +kernel
theorem dX8_odds_7 : decode cX8_odds 7 = .ok (.iload_n 2, 1) := by decide +kernel
theorem dX8_odds_8 : decode cX8_odds 8 = .ok (.invokestatic 154, 3) := by decide +kernel
theorem dX8_odds_11 : decode cX8_odds 11 = .ok (.ifCond .ne 5, 3) := by decide +kernel
theorem dX8_odds_14 : decode cX8_odds 14 = .ok (.iconst (-1), 1) := by decide +kernel
theorem dX8_odds_15 : decode cX8_odds 15 = .ok (.ireturn, 1) := by decide +kernel
theorem dX8_odds_16 : decode cX8_odds 16 = .ok (.aload_n 0, 1) := by decide +kernel
theorem dX8_odds_17 : decode cX8_odds 17 = .ok (.iload_n 1, 1) := by decide +kernel
theorem dX8_odds_18 : decode cX8_odds 18 = .ok (.aload_n 0, 1) := by decide +kernel
theorem dX8_odds_19 : decode cX8_odds 19 = .ok (.iload_n 2, 1) := by decide +kernel
theorem dX8_odds_20 : decode cX8_odds 20 = .ok (.invokevirtual 157, 3) := by decide +kernel
theorem dX8_odds_23 : decode cX8_odds 23 = .ok (.aload_n 0, 1) := by decide +kernel
theorem dX8_odds_24 : decode cX8_odds 24 = .ok (.iconst 5, 1) := by decide +kernel
theorem dX8_odds_25 : decode cX8_odds 25 = .ok (.iload_n 2, 1) := by decide +kernel
theorem dX8_odds_26 : decode cX8_odds 26 = .ok (.invokevirtual 172, 3) := by decide +kernel
theorem dX8_odds_29 : decode cX8_odds 29 = .ok (.aload_n 0, 1) := by decide +kernel
theorem dX8_odds_30 : decode cX8_odds 30 = .ok (.bipush 6, 2) := by decide +kernel
theorem dX8_odds_32 : decode cX8_odds 32 = .ok (.iload_n 2, 1) := by decide +kernel
theorem dX8_odds_33 : decode cX8_odds 33 = .ok (.invokevirtual 172, 3) := by decide +kernel
theorem dX8_odds_36 : decode cX8_odds 36 = .ok (.invokevirtual 191, 3) := by decide +kernel
theorem dX8_odds_39 : decode cX8_odds 39 = .ok (.istore_n 3, 1) := by decide +kernel
theorem dX8_odds_40 : decode cX8_odds 40 = .ok (.iload_n 3, 1) := by decide +kernel
theorem dX8_odds_41 : decode cX8_odds 41 = .ok (.istore 4, 2) := by decide +kernel
theorem dX8_odds_43 : decode cX8_odds 43 = .ok (.aload_n 0, 1) := by decide +kernel
theorem dX8_odds_44 : decode cX8_odds 44 = .ok (.getfield 184, 3) := by decide +kernel
theorem dX8_odds_47 : decode cX8_odds 47 = .ok (.istore 5, 2) := by decide +kernel
theorem dX8_odds_49 : decode cX8_odds 49 = .ok (.iload 5, 2) := by decide +kernel
theorem dX8_odds_51 : decode cX8_odds 51 = .ok (.ifCond .eq 21, 3) := by decide +kernel
theorem dX8_odds_54 : decode cX8_odds 54 = .ok (.iload 4, 2) := by decide +kernel
theorem dX8_odds_56 : decode cX8_odds 56 = .ok (.iload 5, 2) := by decide +kernel
theorem dX8_odds_58 : decode cX8_odds 58 = .ok (.irem, 1) := by decide +kernel
theorem dX8_odds_59 : decode cX8_odds 59 = .ok (.istore 6, 2) := by decide +kernel
theorem dX8_odds_61 : decode cX8_odds 61 = .ok (.iload 5, 2) := by decide +kernel
theorem dX8_odds_63 : decode cX8_odds 63 = .ok (.istore 4, 2) := by decide +kernel
theorem dX8_odds_65 : decode cX8_odds 65 = .ok (.iload 6, 2) := by decide +kernel
theorem dX8_odds_67 : decode cX8_odds 67 = .ok (.istore 5, 2) := by decide +kernel
theorem dX8_odds_69 : decode cX8_odds 69 = .ok (.goto (-20), 3) := by decide +kernel
theorem dX8_odds_72 : decode cX8_odds 72 = .ok (.aload_n 0, 1) := by decide +kernel
theorem dX8_odds_73 : decode cX8_odds 73 = .ok (.iload_n 3, 1) := by decide +kernel
theorem dX8_odds_74 : decode cX8_odds 74 = .ok (.iload 4, 2) := by decide +kernel
theorem dX8_odds_76 : decode cX8_odds 76 = .ok (.idiv, 1) := by decide +kernel
theorem dX8_odds_77 : decode cX8_odds 77 = .ok (.i2l, 1) := by decide +kernel
theorem dX8_odds_78 : decode cX8_odds 78 = .ok (.putfield 200, 3) := by decide +kernel
theorem dX8_odds_81 : decode cX8_odds 81 = .ok (.aload_n 0, 1) := by decide +kernel
theorem dX8_odds_82 : decode cX8_odds 82 = .ok (.aload_n 0, 1) := by decide +kernel
theorem dX8_odds_83 : decode cX8_odds 83 = .ok (.getfield 184, 3) := by decide +kernel
theorem dX8_odds_86 : decode cX8_odds 86 = .ok (.iload 4, 2) := by decide +kernel
theorem dX8_odds_88 : decode cX8_odds 88 = .ok (.idiv, 1) := by decide +kernel
theorem dX8_odds_89 : decode cX8_odds 89 = .ok (.i2l, 1) := by decide +kernel
theorem dX8_odds_90 : decode cX8_odds 90 = .ok (.putfield 13, 3) := by decide +kernel
theorem dX8_odds_93 : decode cX8_odds 93 = .ok (.iconst 1, 1) := by decide +kernel
theorem dX8_odds_94 : decode cX8_odds 94 = .ok (.ireturn, 1) := by decide +kernel
theorem dX8_waitsOn_0 : decode cX8_waitsOn 0 = .ok (.aload_n 0, 1) := by decide +kernel
theorem dX8_waitsOn_1 : decode cX8_waitsOn 1 = .ok (.iload_n 1, 1) := by decide +kernel
theorem dX8_waitsOn_2 : decode cX8_waitsOn 2 = .ok (.invokevirtual 157, 3) := by decide +kernel
theorem dX8_waitsOn_5 : decode cX8_waitsOn 5 = .ok (.istore_n 3, 1) := by decide +kernel
theorem dX8_waitsOn_6 : decode cX8_waitsOn 6 = .ok (.aload_n 0, 1) := by decide +kernel
theorem dX8_waitsOn_7 : decode cX8_waitsOn 7 = .ok (.iconst 5, 1) := by decide +kernel
theorem dX8_waitsOn_8 : decode cX8_waitsOn 8 = .ok (.iload_n 1, 1) := by decide +kernel
theorem dX8_waitsOn_9 : decode cX8_waitsOn 9 = .ok (.invokevirtual 172, 3) := by decide +kernel
theorem dX8_waitsOn_12 : decode cX8_waitsOn 12 = .ok (.istore 4, 2) := by decide +kernel
theorem dX8_waitsOn_14 : decode cX8_waitsOn 14 = .ok (.aload_n 0, 1) := by decide +kernel
theorem dX8_waitsOn_15 : decode cX8_waitsOn 15 = .ok (.bipush 6, 2) := by decide +kernel
theorem dX8_waitsOn_17 : decode cX8_waitsOn 17 = .ok (.iload_n 1, 1) := by decide +kernel
theorem dX8_waitsOn_18 : decode cX8_waitsOn 18 = .ok (.invokevirtual 172, 3) := by decide +kernel
theorem dX8_waitsOn_21 : decode cX8_waitsOn 21 = .ok (.istore 5, 2) := by decide +kernel
theorem dX8_waitsOn_23 : decode cX8_waitsOn 23 = .ok (.iconst 0, 1) := by decide +kernel
theorem dX8_waitsOn_24 : decode cX8_waitsOn 24 = .ok (.istore 6, 2) := by decide +kernel
theorem dX8_waitsOn_26 : decode cX8_waitsOn 26 = .ok (.iconst 0, 1) := by decide +kernel
theorem dX8_waitsOn_27 : decode cX8_waitsOn 27 = .ok (.istore 7, 2) := by decide +kernel
theorem dX8_waitsOn_29 : decode cX8_waitsOn 29 = .ok (.iload 7, 2) := by decide +kernel
theorem dX8_waitsOn_31 : decode cX8_waitsOn 31 = .ok (.bipush 32, 2) := by decide +kernel
theorem dX8_waitsOn_33 : decode cX8_waitsOn 33 = .ok (.if_icmp .ge 64, 3) := by decide +kernel
theorem dX8_waitsOn_36 : decode cX8_waitsOn 36 = .ok (.aload_n 0, 1) := by decide +kernel
theorem dX8_waitsOn_37 : decode cX8_waitsOn 37 = .ok (.iload 7, 2) := by decide +kernel
theorem dX8_waitsOn_39 : decode cX8_waitsOn 39 = .ok (.iload_n 3, 1) := by decide +kernel
theorem dX8_waitsOn_40 : decode cX8_waitsOn 40 = .ok (.iload 4, 2) := by decide +kernel
theorem dX8_waitsOn_42 : decode cX8_waitsOn 42 = .ok (.iload 5, 2) := by decide +kernel
theorem dX8_waitsOn_44 : decode cX8_waitsOn 44 = .ok (.invokevirtual 191, 3) := by decide +kernel
theorem dX8_waitsOn_47 : decode cX8_waitsOn 47 = .ok (.istore 8, 2) := by decide +kernel
theorem dX8_waitsOn_49 : decode cX8_waitsOn 49 = .ok (.iload 8, 2) := by decide +kernel
theorem dX8_waitsOn_51 : decode cX8_waitsOn 51 = .ok (.ifCond .ne 7, 3) := by decide +kernel
theorem dX8_waitsOn_54 : decode cX8_waitsOn 54 = .ok (.iconst 0, 1) := by decide +kernel
theorem dX8_waitsOn_55 : decode cX8_waitsOn 55 = .ok (.goto 18, 3) := by decide +kernel
theorem dX8_waitsOn_58 : decode cX8_waitsOn 58 = .ok (.iload 8, 2) := by decide +kernel
theorem dX8_waitsOn_60 : decode cX8_waitsOn 60 = .ok (.aload_n 0, 1) := by decide +kernel
theorem dX8_waitsOn_61 : decode cX8_waitsOn 61 = .ok (.getfield 184, 3) := by decide +kernel
theorem dX8_waitsOn_64 : decode cX8_waitsOn 64 = .ok (.if_icmp .ne 7, 3) := by decide +kernel
theorem dX8_waitsOn_67 : decode cX8_waitsOn 67 = .ok (.iconst 1, 1) := by decide +kernel
theorem dX8_waitsOn_68 : decode cX8_waitsOn 68 = .ok (.goto 5, 3) := by decide +kernel
theorem dX8_waitsOn_71 : decode cX8_waitsOn 71 = .ok (.bipush (-9), 2) := by decide +kernel
theorem dX8_waitsOn_73 : decode cX8_waitsOn 73 = .ok (.istore 9, 2) := by decide +kernel
theorem dX8_waitsOn_75 : decode cX8_waitsOn 75 = .ok (.iload 6, 2) := by decide +kernel
theorem dX8_waitsOn_77 : decode cX8_waitsOn 77 = .ok (.iload 9, 2) := by decide +kernel
theorem dX8_waitsOn_79 : decode cX8_waitsOn 79 = .ok (.iload_n 2, 1) := by decide +kernel
theorem dX8_waitsOn_80 : decode cX8_waitsOn 80 = .ok (.if_icmp .ne 7, 3) := by decide +kernel
theorem dX8_waitsOn_83 : decode cX8_waitsOn 83 = .ok (.iconst 1, 1) := by decide +kernel
theorem dX8_waitsOn_84 : decode cX8_waitsOn 84 = .ok (.goto 4, 3) := by decide +kernel
theorem dX8_waitsOn_87 : decode cX8_waitsOn 87 = .ok (.iconst 0, 1) := by decide +kernel
theorem dX8_waitsOn_88 : decode cX8_waitsOn 88 = .ok (.iadd, 1) := by decide +kernel
theorem dX8_waitsOn_89 : decode cX8_waitsOn 89 = .ok (.istore 6, 2) := by decide +kernel
theorem dX8_waitsOn_91 : decode cX8_waitsOn 91 = .ok (.iinc 7 1, 3) := by decide +kernel
theorem dX8_waitsOn_94 : decode cX8_waitsOn 94 = .ok (.goto (-65), 3) := by decide +kernel
theorem dX8_waitsOn_97 : decode cX8_waitsOn 97 = .ok (.iload 6, 2) := by decide +kernel
theorem dX8_waitsOn_99 : decode cX8_waitsOn 99 = .ok (.ireturn, 1) := by decide +kernel
theorem dX8_waits_0 : decode cX8_waits 0 = .ok (.iload_n 1, 1) := by decide +kernel
theorem dX8_waits_1 : decode cX8_waits 1 = .ok (.invokestatic 154, 3) := by decide +kernel
theorem dX8_waits_4 : decode cX8_waits 4 = .ok (.ifCond .eq 23, 3) := by decide +kernel
theorem dX8_waits_7 : decode cX8_waits 7 = .ok (.aload_n 0, 1) := by decide +kernel
theorem dX8_waits_8 : decode cX8_waits 8 = .ok (.aload_n 0, 1) := by decide +kernel
theorem dX8_waits_9 : decode cX8_waits 9 = .ok (.iload_n 1, 1) := by decide +kernel
theorem dX8_waits_10 : decode cX8_waits 10 = .ok (.iconst 1, 1) := by decide +kernel
theorem dX8_waits_11 : decode cX8_waits 11 = .ok (.invokevirtual 203, 3) := by decide +kernel
theorem dX8_waits_14 : decode cX8_waits 14 = .ok (.aload_n 0, 1) := by decide +kernel
theorem dX8_waits_15 : decode cX8_waits 15 = .ok (.iload_n 1, 1) := by decide +kernel
theorem dX8_waits_16 : decode cX8_waits 16 = .ok (.bipush (-9), 2) := by decide +kernel
theorem dX8_waits_18 : decode cX8_waits 18 = .ok (.invokevirtual 203, 3) := by decide +kernel
theorem dX8_waits_21 : decode cX8_waits 21 = .ok (.invokevirtual 104, 3) := by decide +kernel
theorem dX8_waits_24 : decode cX8_waits 24 = .ok (.goto 4, 3) := by decide +kernel
theorem dX8_waits_27 : decode cX8_waits 27 = .ok (.iconst (-1), 1) := by decide +kernel
theorem dX8_waits_28 : decode cX8_waits 28 = .ok (.ireturn, 1) := by decide +kernel
theorem dX8_allWaits_0 : decode cX8_allWaits 0 = .ok (.iconst 0, 1) := by decide +kernel
theorem dX8_allWaits_1 : decode cX8_allWaits 1 = .ok (.istore_n 1, 1) := by decide +kernel
theorem dX8_allWaits_2 : decode cX8_allWaits 2 = .ok (.iconst 0, 1) := by decide +kernel
theorem dX8_allWaits_3 : decode cX8_allWaits 3 = .ok (.istore_n 2, 1) := by decide +kernel
theorem dX8_allWaits_4 : decode cX8_allWaits 4 = .ok (.iload_n 2, 1) := by decide +kernel
theorem dX8_allWaits_5 : decode cX8_allWaits 5 = .ok (.aload_n 0, 1) := by decide +kernel
theorem dX8_allWaits_6 : decode cX8_allWaits 6 = .ok (.getfield 141, 3) := by decide +kernel
theorem dX8_allWaits_9 : decode cX8_allWaits 9 = .ok (.if_icmp .ge 19, 3) := by decide +kernel
theorem dX8_allWaits_12 : decode cX8_allWaits 12 = .ok (.iload_n 1, 1) := by decide +kernel
theorem dX8_allWaits_13 : decode cX8_allWaits 13 = .ok (.aload_n 0, 1) := by decide +kernel
theorem dX8_allWaits_14 : decode cX8_allWaits 14 = .ok (.iload_n 2, 1) := by decide +kernel
theorem dX8_allWaits_15 : decode cX8_allWaits 15 = .ok (.bipush (-9), 2) := by decide +kernel
theorem dX8_allWaits_17 : decode cX8_allWaits 17 = .ok (.invokevirtual 203, 3) := by decide +kernel
theorem dX8_allWaits_20 : decode cX8_allWaits 20 = .ok (.iadd, 1) := by decide +kernel
theorem dX8_allWaits_21 : decode cX8_allWaits 21 = .ok (.istore_n 1, 1) := by decide +kernel
theorem dX8_allWaits_22 : decode cX8_allWaits 22 = .ok (.iinc 2 1, 3) := by decide +kernel
theorem dX8_allWaits_25 : decode cX8_allWaits 25 = .ok (.goto (-21), 3) := by decide +kernel
theorem dX8_allWaits_28 : decode cX8_allWaits 28 = .ok (.iload_n 1, 1) := by decide +kernel
theorem dX8_allWaits_29 : decode cX8_allWaits 29 = .ok (.ireturn, 1) := by decide +kernel
theorem dX8_all_0 : decode cX8_all 0 = .ok (.aload_n 0, 1) := by decide +kernel
theorem dX8_all_1 : decode cX8_all 1 = .ok (.invokevirtual 206, 3) := by decide +kernel
theorem dX8_all_4 : decode cX8_all 4 = .ok (.ireturn, 1) := by decide +kernel
theorem dX8_freeFrom_0 : decode cX8_freeFrom 0 = .ok (.iload_n 2, 1) := by decide +kernel
theorem dX8_freeFrom_1 : decode cX8_freeFrom 1 = .ok (.istore_n 3, 1) := by decide +kernel
theorem dX8_freeFrom_2 : decode cX8_freeFrom 2 = .ok (.iload_n 3, 1) := by decide +kernel
theorem dX8_freeFrom_3 : decode cX8_freeFrom 3 = .ok (.bipush 20, 2) := by decide +kernel
theorem dX8_freeFrom_5 : decode cX8_freeFrom 5 = .ok (.if_icmp .gt 20, 3) := by decide +kernel
theorem dX8_freeFrom_8 : decode cX8_freeFrom 8 = .ok (.aload_n 0, 1) := by decide +kernel
theorem dX8_freeFrom_9 : decode cX8_freeFrom 9 = .ok (.iload_n 1, 1) := by decide +kernel
theorem dX8_freeFrom_10 : decode cX8_freeFrom 10 = .ok (.iload_n 3, 1) := by decide +kernel
theorem dX8_freeFrom_11 : decode cX8_freeFrom 11 = .ok (.invokevirtual 197, 3) := by decide +kernel
theorem dX8_freeFrom_14 : decode cX8_freeFrom 14 = .ok (.ifCond .ne 5, 3) := by decide +kernel
theorem dX8_freeFrom_17 : decode cX8_freeFrom 17 = .ok (.iload_n 3, 1) := by decide +kernel
theorem dX8_freeFrom_18 : decode cX8_freeFrom 18 = .ok (.ireturn, 1) := by decide +kernel
theorem dX8_freeFrom_19 : decode cX8_freeFrom 19 = .ok (.iinc 3 1, 3) := by decide +kernel
theorem dX8_freeFrom_22 : decode cX8_freeFrom 22 = .ok (.goto (-20), 3) := by decide +kernel
theorem dX8_freeFrom_25 : decode cX8_freeFrom 25 = .ok (.bipush (-9), 2) := by decide +kernel
theorem dX8_freeFrom_27 : decode cX8_freeFrom 27 = .ok (.ireturn, 1) := by decide +kernel
theorem dX8_free_0 : decode cX8_free 0 = .ok (.iload_n 1, 1) := by decide +kernel
theorem dX8_free_1 : decode cX8_free 1 = .ok (.invokestatic 194, 3) := by decide +kernel
theorem dX8_free_4 : decode cX8_free 4 = .ok (.ifCond .eq 19, 3) := by decide +kernel
theorem dX8_free_7 : decode cX8_free 7 = .ok (.iload_n 2, 1) := by decide +kernel
theorem dX8_free_8 : decode cX8_free 8 = .ok (.invokestatic 154, 3) := by decide +kernel
theorem dX8_free_11 : decode cX8_free 11 = .ok (.ifCond .eq 12, 3) := by decide +kernel
theorem dX8_free_14 : decode cX8_free 14 = .ok (.aload_n 0, 1) := by decide +kernel
theorem dX8_free_15 : decode cX8_free 15 = .ok (.iload_n 1, 1) := by decide +kernel
theorem dX8_free_16 : decode cX8_free 16 = .ok (.iload_n 2, 1) := by decide +kernel
theorem dX8_free_17 : decode cX8_free 17 = .ok (.invokevirtual 210, 3) := by decide +kernel
theorem dX8_free_20 : decode cX8_free 20 = .ok (.goto 4, 3) := by decide +kernel
theorem dX8_free_23 : decode cX8_free 23 = .ok (.iconst (-1), 1) := by decide +kernel
theorem dX8_free_24 : decode cX8_free 24 = .ok (.ireturn, 1) := by decide +kernel
theorem dX8_askedDeeds_0 : decode cX8_askedDeeds 0 = .ok (.aload_n 0, 1) := by decide +kernel
theorem dX8_askedDeeds_1 : decode cX8_askedDeeds 1 = .ok (.iload_n 1, 1) := by decide +kernel
theorem dX8_askedDeeds_2 : decode cX8_askedDeeds 2 = .ok (.invokevirtual 97, 3) := by decide +kernel
theorem dX8_askedDeeds_5 : decode cX8_askedDeeds 5 = .ok (.istore_n 3, 1) := by decide +kernel
theorem dX8_askedDeeds_6 : decode cX8_askedDeeds 6 = .ok (.iload_n 3, 1) := by decide +kernel
theorem dX8_askedDeeds_7 : decode cX8_askedDeeds 7 = .ok (.ifCond .ge 5, 3) := by decide +kernel
theorem dX8_askedDeeds_10 : decode cX8_askedDeeds 10 = .ok (.iload_n 3, 1) := by decide +kernel
theorem dX8_askedDeeds_11 : decode cX8_askedDeeds 11 = .ok (.ireturn, 1) := by decide +kernel
theorem dX8_askedDeeds_12 : decode cX8_askedDeeds 12 = .ok (.aload_n 0, 1) := by decide +kernel
theorem dX8_askedDeeds_13 : decode cX8_askedDeeds 13 = .ok (.getfield 17, 3) := by decide +kernel
theorem dX8_askedDeeds_16 : decode cX8_askedDeeds 16 = .ok (.iload_n 1, 1) := by decide +kernel
theorem dX8_askedDeeds_17 : decode cX8_askedDeeds 17 = .ok (.iaload, 1) := by decide +kernel
theorem dX8_askedDeeds_18 : decode cX8_askedDeeds 18 = .ok (.iload_n 2, 1) := by decide +kernel
theorem dX8_askedDeeds_19 : decode cX8_askedDeeds 19 = .ok (.if_icmp .le 9, 3) := by decide +kernel
theorem dX8_askedDeeds_22 : decode cX8_askedDeeds 22 = .ok (.aload_n 0, 1) := by decide +kernel
theorem dX8_askedDeeds_23 : decode cX8_askedDeeds 23 = .ok (.iconst 5, 1) := by decide +kernel
theorem dX8_askedDeeds_24 : decode cX8_askedDeeds 24 = .ok (.invokevirtual 86, 3) := by decide +kernel
theorem dX8_askedDeeds_27 : decode cX8_askedDeeds 27 = .ok (.ireturn, 1) := by decide +kernel
theorem dX8_askedDeeds_28 : decode cX8_askedDeeds 28 = .ok (.iconst 0, 1) := by decide +kernel
theorem dX8_askedDeeds_29 : decode cX8_askedDeeds 29 = .ok (.istore 4, 2) := by decide +kernel
theorem dX8_askedDeeds_31 : decode cX8_askedDeeds 31 = .ok (.iload 4, 2) := by decide +kernel
theorem dX8_askedDeeds_33 : decode cX8_askedDeeds 33 = .ok (.aload_n 0, 1) := by decide +kernel
theorem dX8_askedDeeds_34 : decode cX8_askedDeeds 34 = .ok (.getfield 17, 3) := by decide +kernel
theorem dX8_askedDeeds_37 : decode cX8_askedDeeds 37 = .ok (.iload_n 1, 1) := by decide +kernel
theorem dX8_askedDeeds_38 : decode cX8_askedDeeds 38 = .ok (.iaload, 1) := by decide +kernel
theorem dX8_askedDeeds_39 : decode cX8_askedDeeds 39 = .ok (.if_icmp .ge 28, 3) := by decide +kernel
theorem dX8_askedDeeds_42 : decode cX8_askedDeeds 42 = .ok (.aload_n 0, 1) := by decide +kernel
theorem dX8_askedDeeds_43 : decode cX8_askedDeeds 43 = .ok (.iload_n 1, 1) := by decide +kernel
theorem dX8_askedDeeds_44 : decode cX8_askedDeeds 44 = .ok (.iload 4, 2) := by decide +kernel
theorem dX8_askedDeeds_46 : decode cX8_askedDeeds 46 = .ok (.invokevirtual 100, 3) := by decide +kernel
theorem dX8_askedDeeds_49 : decode cX8_askedDeeds 49 = .ok (.invokestatic 194, 3) := by decide +kernel
theorem dX8_askedDeeds_52 : decode cX8_askedDeeds 52 = .ok (.ifCond .ne 9, 3) := by decide +kernel
theorem dX8_askedDeeds_55 : decode cX8_askedDeeds 55 = .ok (.aload_n 0, 1) := by decide +kernel
theorem dX8_askedDeeds_56 : decode cX8_askedDeeds 56 = .ok (.iconst 3, 1) := by decide +kernel
theorem dX8_askedDeeds_57 : decode cX8_askedDeeds 57 = .ok (.invokevirtual 86, 3) := by decide +kernel
theorem dX8_askedDeeds_60 : decode cX8_askedDeeds 60 = .ok (.ireturn, 1) := by decide +kernel
theorem dX8_askedDeeds_61 : decode cX8_askedDeeds 61 = .ok (.iinc 4 1, 3) := by decide +kernel
theorem dX8_askedDeeds_64 : decode cX8_askedDeeds 64 = .ok (.goto (-33), 3) := by decide +kernel
theorem dX8_askedDeeds_67 : decode cX8_askedDeeds 67 = .ok (.iconst 0, 1) := by decide +kernel
theorem dX8_askedDeeds_68 : decode cX8_askedDeeds 68 = .ok (.ireturn, 1) := by decide +kernel
theorem dX8_layTold_0 : decode cX8_layTold 0 = .ok (.aload_n 0, 1) := by decide +kernel
theorem dX8_layTold_1 : decode cX8_layTold 1 = .ok (.iload_n 1, 1) := by decide +kernel
theorem dX8_layTold_2 : decode cX8_layTold 2 = .ok (.iload_n 2, 1) := by decide +kernel
theorem dX8_layTold_3 : decode cX8_layTold 3 = .ok (.invokevirtual 213, 3) := by decide +kernel
theorem dX8_layTold_6 : decode cX8_layTold 6 = .ok (.pop, 1) := by decide +kernel
theorem dX8_layTold_7 : decode cX8_layTold 7 = .ok (.iconst 0, 1) := by decide +kernel
theorem dX8_layTold_8 : decode cX8_layTold 8 = .ok (.istore_n 3, 1) := by decide +kernel
theorem dX8_layTold_9 : decode cX8_layTold 9 = .ok (.iload_n 3, 1) := by decide +kernel
theorem dX8_layTold_10 : decode cX8_layTold 10 = .ok (.iload_n 2, 1) := by decide +kernel
theorem dX8_layTold_11 : decode cX8_layTold 11 = .ok (.if_icmp .ge 21, 3) := by decide +kernel
theorem dX8_layTold_14 : decode cX8_layTold 14 = .ok (.aload_n 0, 1) := by decide +kernel
theorem dX8_layTold_15 : decode cX8_layTold 15 = .ok (.iload_n 1, 1) := by decide +kernel
theorem dX8_layTold_16 : decode cX8_layTold 16 = .ok (.iload_n 3, 1) := by decide +kernel
theorem dX8_layTold_17 : decode cX8_layTold 17 = .ok (.aload_n 0, 1) := by decide +kernel
theorem dX8_layTold_18 : decode cX8_layTold 18 = .ok (.getfield 60, 3) := by decide +kernel
theorem dX8_layTold_21 : decode cX8_layTold 21 = .ok (.iload_n 3, 1) := by decide +kernel
theorem dX8_layTold_22 : decode cX8_layTold 22 = .ok (.iaload, 1) := by decide +kernel
theorem dX8_layTold_23 : decode cX8_layTold 23 = .ok (.invokevirtual 93, 3) := by decide +kernel
theorem dX8_layTold_26 : decode cX8_layTold 26 = .ok (.iinc 3 1, 3) := by decide +kernel
theorem dX8_layTold_29 : decode cX8_layTold 29 = .ok (.goto (-20), 3) := by decide +kernel
theorem dX8_layTold_32 : decode cX8_layTold 32 = .ok (.return_, 1) := by decide +kernel
theorem dX8_deeds_0 : decode cX8_deeds 0 = .ok (.iload_n 2, 1) := by decide +kernel
theorem dX8_deeds_1 : decode cX8_deeds 1 = .ok (.invokestatic 82, 3) := by decide +kernel
theorem dX8_deeds_4 : decode cX8_deeds 4 = .ok (.ifCond .ne 7, 3) := by decide +kernel
theorem dX8_deeds_7 : decode cX8_deeds 7 = .ok (.iconst (-1), 1) := by decide +kernel
theorem dX8_deeds_8 : decode cX8_deeds 8 = .ok (.goto 10, 3) := by decide +kernel
theorem dX8_deeds_11 : decode cX8_deeds 11 = .ok (.aload_n 0, 1) := by decide +kernel
theorem dX8_deeds_12 : decode cX8_deeds 12 = .ok (.iload_n 1, 1) := by decide +kernel
theorem dX8_deeds_13 : decode cX8_deeds 13 = .ok (.bipush 8, 2) := by decide +kernel
theorem dX8_deeds_15 : decode cX8_deeds 15 = .ok (.invokevirtual 216, 3) := by decide +kernel
theorem dX8_deeds_18 : decode cX8_deeds 18 = .ok (.istore_n 3, 1) := by decide +kernel
theorem dX8_deeds_19 : decode cX8_deeds 19 = .ok (.iload_n 3, 1) := by decide +kernel
theorem dX8_deeds_20 : decode cX8_deeds 20 = .ok (.ifCond .ge 5, 3) := by decide +kernel
theorem dX8_deeds_23 : decode cX8_deeds 23 = .ok (.iload_n 3, 1) := by decide +kernel
theorem dX8_deeds_24 : decode cX8_deeds 24 = .ok (.ireturn, 1) := by decide +kernel
theorem dX8_deeds_25 : decode cX8_deeds 25 = .ok (.bipush (-9), 2) := by decide +kernel
theorem dX8_deeds_27 : decode cX8_deeds 27 = .ok (.istore 4, 2) := by decide +kernel
theorem dX8_deeds_29 : decode cX8_deeds 29 = .ok (.iconst 0, 1) := by decide +kernel
theorem dX8_deeds_30 : decode cX8_deeds 30 = .ok (.istore 5, 2) := by decide +kernel
theorem dX8_deeds_32 : decode cX8_deeds 32 = .ok (.iload 5, 2) := by decide +kernel
theorem dX8_deeds_34 : decode cX8_deeds 34 = .ok (.aload_n 0, 1) := by decide +kernel
theorem dX8_deeds_35 : decode cX8_deeds 35 = .ok (.getfield 17, 3) := by decide +kernel
theorem dX8_deeds_38 : decode cX8_deeds 38 = .ok (.iload_n 1, 1) := by decide +kernel
theorem dX8_deeds_39 : decode cX8_deeds 39 = .ok (.iaload, 1) := by decide +kernel
theorem dX8_deeds_40 : decode cX8_deeds 40 = .ok (.if_icmp .ge 60, 3) := by decide +kernel
theorem dX8_deeds_43 : decode cX8_deeds 43 = .ok (.aload_n 0, 1) := by decide +kernel
theorem dX8_deeds_44 : decode cX8_deeds 44 = .ok (.aload_n 0, 1) := by decide +kernel
theorem dX8_deeds_45 : decode cX8_deeds 45 = .ok (.iload_n 1, 1) := by decide +kernel
theorem dX8_deeds_46 : decode cX8_deeds 46 = .ok (.iload 5, 2) := by decide +kernel
theorem dX8_deeds_48 : decode cX8_deeds 48 = .ok (.invokevirtual 100, 3) := by decide +kernel
theorem dX8_deeds_51 : decode cX8_deeds 51 = .ok (.iload 4, 2) := by decide +kernel
theorem dX8_deeds_53 : decode cX8_deeds 53 = .ok (.bipush (-9), 2) := by decide +kernel
theorem dX8_deeds_55 : decode cX8_deeds 55 = .ok (.if_icmp .ne 7, 3) := by decide +kernel
theorem dX8_deeds_58 : decode cX8_deeds 58 = .ok (.iconst 0, 1) := by decide +kernel
theorem dX8_deeds_59 : decode cX8_deeds 59 = .ok (.goto 7, 3) := by decide +kernel
theorem dX8_deeds_62 : decode cX8_deeds 62 = .ok (.iload 4, 2) := by decide +kernel
theorem dX8_deeds_64 : decode cX8_deeds 64 = .ok (.iconst 1, 1) := by decide +kernel
theorem dX8_deeds_65 : decode cX8_deeds 65 = .ok (.iadd, 1) := by decide +kernel
theorem dX8_deeds_66 : decode cX8_deeds 66 = .ok (.invokevirtual 210, 3) := by decide +kernel
theorem dX8_deeds_69 : decode cX8_deeds 69 = .ok (.istore 6, 2) := by decide +kernel
theorem dX8_deeds_71 : decode cX8_deeds 71 = .ok (.iload 6, 2) := by decide +kernel
theorem dX8_deeds_73 : decode cX8_deeds 73 = .ok (.bipush (-9), 2) := by decide +kernel
theorem dX8_deeds_75 : decode cX8_deeds 75 = .ok (.if_icmp .ne 6, 3) := by decide +kernel
theorem dX8_deeds_78 : decode cX8_deeds 78 = .ok (.bipush (-6), 2) := by decide +kernel
theorem dX8_deeds_80 : decode cX8_deeds 80 = .ok (.ireturn, 1) := by decide +kernel
theorem dX8_deeds_81 : decode cX8_deeds 81 = .ok (.aload_n 0, 1) := by decide +kernel
theorem dX8_deeds_82 : decode cX8_deeds 82 = .ok (.getfield 60, 3) := by decide +kernel
theorem dX8_deeds_85 : decode cX8_deeds 85 = .ok (.iload 5, 2) := by decide +kernel
theorem dX8_deeds_87 : decode cX8_deeds 87 = .ok (.iload 6, 2) := by decide +kernel
theorem dX8_deeds_89 : decode cX8_deeds 89 = .ok (.iastore, 1) := by decide +kernel
theorem dX8_deeds_90 : decode cX8_deeds 90 = .ok (.iload 6, 2) := by decide +kernel
theorem dX8_deeds_92 : decode cX8_deeds 92 = .ok (.istore 4, 2) := by decide +kernel
theorem dX8_deeds_94 : decode cX8_deeds 94 = .ok (.iinc 5 1, 3) := by decide +kernel
theorem dX8_deeds_97 : decode cX8_deeds 97 = .ok (.goto (-65), 3) := by decide +kernel
theorem dX8_deeds_100 : decode cX8_deeds 100 = .ok (.aload_n 0, 1) := by decide +kernel
theorem dX8_deeds_101 : decode cX8_deeds 101 = .ok (.iload_n 2, 1) := by decide +kernel
theorem dX8_deeds_102 : decode cX8_deeds 102 = .ok (.aload_n 0, 1) := by decide +kernel
theorem dX8_deeds_103 : decode cX8_deeds 103 = .ok (.getfield 17, 3) := by decide +kernel
theorem dX8_deeds_106 : decode cX8_deeds 106 = .ok (.iload_n 1, 1) := by decide +kernel
theorem dX8_deeds_107 : decode cX8_deeds 107 = .ok (.iaload, 1) := by decide +kernel
theorem dX8_deeds_108 : decode cX8_deeds 108 = .ok (.invokevirtual 219, 3) := by decide +kernel
theorem dX8_deeds_111 : decode cX8_deeds 111 = .ok (.iload 4, 2) := by decide +kernel
theorem dX8_deeds_113 : decode cX8_deeds 113 = .ok (.ireturn, 1) := by decide +kernel
theorem dX8_orderOn_0 : decode cX8_orderOn 0 = .ok (.iload_n 2, 1) := by decide +kernel
theorem dX8_orderOn_1 : decode cX8_orderOn 1 = .ok (.aload_n 0, 1) := by decide +kernel
theorem dX8_orderOn_2 : decode cX8_orderOn 2 = .ok (.getfield 17, 3) := by decide +kernel
theorem dX8_orderOn_5 : decode cX8_orderOn 5 = .ok (.iload_n 1, 1) := by decide +kernel
theorem dX8_orderOn_6 : decode cX8_orderOn 6 = .ok (.iaload, 1) := by decide +kernel
theorem dX8_orderOn_7 : decode cX8_orderOn 7 = .ok (.if_icmp .ne 48, 3) := by decide +kernel
theorem dX8_orderOn_10 : decode cX8_orderOn 10 = .ok (.iload 4, 2) := by decide +kernel
theorem dX8_orderOn_12 : decode cX8_orderOn 12 = .ok (.aload_n 0, 1) := by decide +kernel
theorem dX8_orderOn_13 : decode cX8_orderOn 13 = .ok (.getfield 223, 3) := by decide +kernel
theorem dX8_orderOn_16 : decode cX8_orderOn 16 = .ok (.if_icmp .ge 38, 3) := by decide +kernel
theorem dX8_orderOn_19 : decode cX8_orderOn 19 = .ok (.aload_n 0, 1) := by decide +kernel
theorem dX8_orderOn_20 : decode cX8_orderOn 20 = .ok (.iload 4, 2) := by decide +kernel
theorem dX8_orderOn_22 : decode cX8_orderOn 22 = .ok (.putfield 223, 3) := by decide +kernel
theorem dX8_orderOn_25 : decode cX8_orderOn 25 = .ok (.iconst 0, 1) := by decide +kernel
theorem dX8_orderOn_26 : decode cX8_orderOn 26 = .ok (.istore 5, 2) := by decide +kernel
theorem dX8_orderOn_28 : decode cX8_orderOn 28 = .ok (.iload 5, 2) := by decide +kernel
theorem dX8_orderOn_30 : decode cX8_orderOn 30 = .ok (.iload_n 2, 1) := by decide +kernel
theorem dX8_orderOn_31 : decode cX8_orderOn 31 = .ok (.if_icmp .ge 23, 3) := by decide +kernel
theorem dX8_orderOn_34 : decode cX8_orderOn 34 = .ok (.aload_n 0, 1) := by decide +kernel
theorem dX8_orderOn_35 : decode cX8_orderOn 35 = .ok (.getfield 60, 3) := by decide +kernel
theorem dX8_orderOn_38 : decode cX8_orderOn 38 = .ok (.iload 5, 2) := by decide +kernel
theorem dX8_orderOn_40 : decode cX8_orderOn 40 = .ok (.aload_n 0, 1) := by decide +kernel
theorem dX8_orderOn_41 : decode cX8_orderOn 41 = .ok (.getfield 63, 3) := by decide +kernel
theorem dX8_orderOn_44 : decode cX8_orderOn 44 = .ok (.iload 5, 2) := by decide +kernel
theorem dX8_orderOn_46 : decode cX8_orderOn 46 = .ok (.iaload, 1) := by decide +kernel
theorem dX8_orderOn_47 : decode cX8_orderOn 47 = .ok (.iastore, 1) := by decide +kernel
theorem dX8_orderOn_48 : decode cX8_orderOn 48 = .ok (.iinc 5 1, 3) := by decide +kernel
theorem dX8_orderOn_51 : decode cX8_orderOn 51 = .ok (.goto (-23), 3) := by decide +kernel
theorem dX8_orderOn_54 : decode cX8_orderOn 54 = .ok (.return_, 1) := by decide +kernel
theorem dX8_orderOn_55 : decode cX8_orderOn 55 = .ok (.iconst 0, 1) := by decide +kernel
theorem dX8_orderOn_56 : decode cX8_orderOn 56 = .ok (.istore 5, 2) := by decide +kernel
theorem dX8_orderOn_58 : decode cX8_orderOn 58 = .ok (.iload 5, 2) := by decide +kernel
theorem dX8_orderOn_60 : decode cX8_orderOn 60 = .ok (.aload_n 0, 1) := by decide +kernel
theorem dX8_orderOn_61 : decode cX8_orderOn 61 = .ok (.getfield 17, 3) := by decide +kernel
theorem dX8_orderOn_64 : decode cX8_orderOn 64 = .ok (.iload_n 1, 1) := by decide +kernel
theorem dX8_orderOn_65 : decode cX8_orderOn 65 = .ok (.iaload, 1) := by decide +kernel
theorem dX8_orderOn_66 : decode cX8_orderOn 66 = .ok (.if_icmp .ge 73, 3) := by decide +kernel
theorem dX8_orderOn_69 : decode cX8_orderOn 69 = .ok (.iload_n 3, 1) := by decide +kernel
theorem dX8_orderOn_70 : decode cX8_orderOn 70 = .ok (.iload 5, 2) := by decide +kernel
theorem dX8_orderOn_72 : decode cX8_orderOn 72 = .ok (.invokestatic 169, 3) := by decide +kernel
theorem dX8_orderOn_75 : decode cX8_orderOn 75 = .ok (.ifCond .eq 21, 3) := by decide +kernel
theorem dX8_orderOn_78 : decode cX8_orderOn 78 = .ok (.aload_n 0, 1) := by decide +kernel
theorem dX8_orderOn_79 : decode cX8_orderOn 79 = .ok (.aload_n 0, 1) := by decide +kernel
theorem dX8_orderOn_80 : decode cX8_orderOn 80 = .ok (.iload_n 1, 1) := by decide +kernel
theorem dX8_orderOn_81 : decode cX8_orderOn 81 = .ok (.iload 5, 2) := by decide +kernel
theorem dX8_orderOn_83 : decode cX8_orderOn 83 = .ok (.invokevirtual 100, 3) := by decide +kernel
theorem dX8_orderOn_86 : decode cX8_orderOn 86 = .ok (.iload 4, 2) := by decide +kernel
theorem dX8_orderOn_88 : decode cX8_orderOn 88 = .ok (.iconst 1, 1) := by decide +kernel
theorem dX8_orderOn_89 : decode cX8_orderOn 89 = .ok (.iadd, 1) := by decide +kernel
theorem dX8_orderOn_90 : decode cX8_orderOn 90 = .ok (.invokevirtual 210, 3) := by decide +kernel
theorem dX8_orderOn_93 : decode cX8_orderOn 93 = .ok (.goto 5, 3) := by decide +kernel
theorem dX8_orderOn_96 : decode cX8_orderOn 96 = .ok (.bipush (-9), 2) := by decide +kernel
theorem dX8_orderOn_98 : decode cX8_orderOn 98 = .ok (.istore 6, 2) := by decide +kernel
theorem dX8_orderOn_100 : decode cX8_orderOn 100 = .ok (.iload 6, 2) := by decide +kernel
theorem dX8_orderOn_102 : decode cX8_orderOn 102 = .ok (.bipush (-9), 2) := by decide +kernel
theorem dX8_orderOn_104 : decode cX8_orderOn 104 = .ok (.if_icmp .eq 29, 3) := by decide +kernel
theorem dX8_orderOn_107 : decode cX8_orderOn 107 = .ok (.aload_n 0, 1) := by decide +kernel
theorem dX8_orderOn_108 : decode cX8_orderOn 108 = .ok (.getfield 63, 3) := by decide +kernel
theorem dX8_orderOn_111 : decode cX8_orderOn 111 = .ok (.iload_n 2, 1) := by decide +kernel
theorem dX8_orderOn_112 : decode cX8_orderOn 112 = .ok (.iload 5, 2) := by decide +kernel
theorem dX8_orderOn_114 : decode cX8_orderOn 114 = .ok (.iastore, 1) := by decide +kernel
theorem dX8_orderOn_115 : decode cX8_orderOn 115 = .ok (.aload_n 0, 1) := by decide +kernel
theorem dX8_orderOn_116 : decode cX8_orderOn 116 = .ok (.iload_n 1, 1) := by decide +kernel
theorem dX8_orderOn_117 : decode cX8_orderOn 117 = .ok (.iload_n 2, 1) := by decide +kernel
theorem dX8_orderOn_118 : decode cX8_orderOn 118 = .ok (.iconst 1, 1) := by decide +kernel
theorem dX8_orderOn_119 : decode cX8_orderOn 119 = .ok (.iadd, 1) := by decide +kernel
theorem dX8_orderOn_120 : decode cX8_orderOn 120 = .ok (.iload_n 3, 1) := by decide +kernel
theorem dX8_orderOn_121 : decode cX8_orderOn 121 = .ok (.iconst 1, 1) := by decide +kernel
theorem dX8_orderOn_122 : decode cX8_orderOn 122 = .ok (.iload 5, 2) := by decide +kernel
theorem dX8_orderOn_124 : decode cX8_orderOn 124 = .ok (.ishl, 1) := by decide +kernel
theorem dX8_orderOn_125 : decode cX8_orderOn 125 = .ok (.iconst (-1), 1) := by decide +kernel
theorem dX8_orderOn_126 : decode cX8_orderOn 126 = .ok (.ixor, 1) := by decide +kernel
theorem dX8_orderOn_127 : decode cX8_orderOn 127 = .ok (.iand, 1) := by decide +kernel
theorem dX8_orderOn_128 : decode cX8_orderOn 128 = .ok (.iload 6, 2) := by decide +kernel
theorem dX8_orderOn_130 : decode cX8_orderOn 130 = .ok (.invokevirtual 226, 3) := by decide +kernel
theorem dX8_orderOn_133 : decode cX8_orderOn 133 = .ok (.iinc 5 1, 3) := by decide +kernel
theorem dX8_orderOn_136 : decode cX8_orderOn 136 = .ok (.goto (-78), 3) := by decide +kernel
theorem dX8_orderOn_139 : decode cX8_orderOn 139 = .ok (.return_, 1) := by decide +kernel
theorem dX8_order_0 : decode cX8_order 0 = .ok (.iload_n 2, 1) := by decide +kernel
theorem dX8_order_1 : decode cX8_order 1 = .ok (.invokestatic 82, 3) := by decide +kernel
theorem dX8_order_4 : decode cX8_order 4 = .ok (.ifCond .ne 7, 3) := by decide +kernel
theorem dX8_order_7 : decode cX8_order 7 = .ok (.iconst (-1), 1) := by decide +kernel
theorem dX8_order_8 : decode cX8_order 8 = .ok (.goto 9, 3) := by decide +kernel
theorem dX8_order_11 : decode cX8_order 11 = .ok (.aload_n 0, 1) := by decide +kernel
theorem dX8_order_12 : decode cX8_order 12 = .ok (.iload_n 1, 1) := by decide +kernel
theorem dX8_order_13 : decode cX8_order 13 = .ok (.iconst 5, 1) := by decide +kernel
theorem dX8_order_14 : decode cX8_order 14 = .ok (.invokevirtual 216, 3) := by decide +kernel
theorem dX8_order_17 : decode cX8_order 17 = .ok (.istore_n 3, 1) := by decide +kernel
theorem dX8_order_18 : decode cX8_order 18 = .ok (.iload_n 3, 1) := by decide +kernel
theorem dX8_order_19 : decode cX8_order 19 = .ok (.ifCond .ge 5, 3) := by decide +kernel
theorem dX8_order_22 : decode cX8_order 22 = .ok (.iload_n 3, 1) := by decide +kernel
theorem dX8_order_23 : decode cX8_order 23 = .ok (.ireturn, 1) := by decide +kernel
theorem dX8_order_24 : decode cX8_order 24 = .ok (.aload_n 0, 1) := by decide +kernel
theorem dX8_order_25 : decode cX8_order 25 = .ok (.ldc 230, 2) := by decide +kernel
theorem dX8_order_27 : decode cX8_order 27 = .ok (.putfield 223, 3) := by decide +kernel
theorem dX8_order_30 : decode cX8_order 30 = .ok (.aload_n 0, 1) := by decide +kernel
theorem dX8_order_31 : decode cX8_order 31 = .ok (.iload_n 1, 1) := by decide +kernel
theorem dX8_order_32 : decode cX8_order 32 = .ok (.iconst 0, 1) := by decide +kernel
theorem dX8_order_33 : decode cX8_order 33 = .ok (.iconst 1, 1) := by decide +kernel
theorem dX8_order_34 : decode cX8_order 34 = .ok (.aload_n 0, 1) := by decide +kernel
theorem dX8_order_35 : decode cX8_order 35 = .ok (.getfield 17, 3) := by decide +kernel
theorem dX8_order_38 : decode cX8_order 38 = .ok (.iload_n 1, 1) := by decide +kernel
theorem dX8_order_39 : decode cX8_order 39 = .ok (.iaload, 1) := by decide +kernel
theorem dX8_order_40 : decode cX8_order 40 = .ok (.ishl, 1) := by decide +kernel
theorem dX8_order_41 : decode cX8_order 41 = .ok (.iconst 1, 1) := by decide +kernel
theorem dX8_order_42 : decode cX8_order 42 = .ok (.isub, 1) := by decide +kernel
theorem dX8_order_43 : decode cX8_order 43 = .ok (.iconst (-1), 1) := by decide +kernel
theorem dX8_order_44 : decode cX8_order 44 = .ok (.invokevirtual 226, 3) := by decide +kernel
theorem dX8_order_47 : decode cX8_order 47 = .ok (.aload_n 0, 1) := by decide +kernel
theorem dX8_order_48 : decode cX8_order 48 = .ok (.getfield 223, 3) := by decide +kernel
theorem dX8_order_51 : decode cX8_order 51 = .ok (.ldc 230, 2) := by decide +kernel
theorem dX8_order_53 : decode cX8_order 53 = .ok (.if_icmp .ne 6, 3) := by decide +kernel
theorem dX8_order_56 : decode cX8_order 56 = .ok (.bipush (-6), 2) := by decide +kernel
theorem dX8_order_58 : decode cX8_order 58 = .ok (.ireturn, 1) := by decide +kernel
theorem dX8_order_59 : decode cX8_order 59 = .ok (.aload_n 0, 1) := by decide +kernel
theorem dX8_order_60 : decode cX8_order 60 = .ok (.iload_n 2, 1) := by decide +kernel
theorem dX8_order_61 : decode cX8_order 61 = .ok (.aload_n 0, 1) := by decide +kernel
theorem dX8_order_62 : decode cX8_order 62 = .ok (.getfield 17, 3) := by decide +kernel
theorem dX8_order_65 : decode cX8_order 65 = .ok (.iload_n 1, 1) := by decide +kernel
theorem dX8_order_66 : decode cX8_order 66 = .ok (.iaload, 1) := by decide +kernel
theorem dX8_order_67 : decode cX8_order 67 = .ok (.invokevirtual 219, 3) := by decide +kernel
theorem dX8_order_70 : decode cX8_order 70 = .ok (.aload_n 0, 1) := by decide +kernel
theorem dX8_order_71 : decode cX8_order 71 = .ok (.getfield 223, 3) := by decide +kernel
theorem dX8_order_74 : decode cX8_order 74 = .ok (.ifCond .ge 8, 3) := by decide +kernel
theorem dX8_order_77 : decode cX8_order 77 = .ok (.bipush (-9), 2) := by decide +kernel
theorem dX8_order_79 : decode cX8_order 79 = .ok (.goto 7, 3) := by decide +kernel
theorem dX8_order_82 : decode cX8_order 82 = .ok (.aload_n 0, 1) := by decide +kernel
theorem dX8_order_83 : decode cX8_order 83 = .ok (.getfield 223, 3) := by decide +kernel
theorem dX8_order_86 : decode cX8_order 86 = .ok (.ireturn, 1) := by decide +kernel
theorem dX8_flipsOf_0 : decode cX8_flipsOf 0 = .ok (.bipush (-9), 2) := by decide +kernel
theorem dX8_flipsOf_2 : decode cX8_flipsOf 2 = .ok (.istore_n 3, 1) := by decide +kernel
theorem dX8_flipsOf_3 : decode cX8_flipsOf 3 = .ok (.iconst 0, 1) := by decide +kernel
theorem dX8_flipsOf_4 : decode cX8_flipsOf 4 = .ok (.istore 4, 2) := by decide +kernel
theorem dX8_flipsOf_6 : decode cX8_flipsOf 6 = .ok (.aload_n 0, 1) := by decide +kernel
theorem dX8_flipsOf_7 : decode cX8_flipsOf 7 = .ok (.bipush (-9), 2) := by decide +kernel
theorem dX8_flipsOf_9 : decode cX8_flipsOf 9 = .ok (.putfield 231, 3) := by decide +kernel
theorem dX8_flipsOf_12 : decode cX8_flipsOf 12 = .ok (.iconst 0, 1) := by decide +kernel
theorem dX8_flipsOf_13 : decode cX8_flipsOf 13 = .ok (.istore 5, 2) := by decide +kernel
theorem dX8_flipsOf_15 : decode cX8_flipsOf 15 = .ok (.iload 5, 2) := by decide +kernel
theorem dX8_flipsOf_17 : decode cX8_flipsOf 17 = .ok (.aload_n 0, 1) := by decide +kernel
theorem dX8_flipsOf_18 : decode cX8_flipsOf 18 = .ok (.getfield 141, 3) := by decide +kernel
theorem dX8_flipsOf_21 : decode cX8_flipsOf 21 = .ok (.if_icmp .ge 86, 3) := by decide +kernel
theorem dX8_flipsOf_24 : decode cX8_flipsOf 24 = .ok (.aload_n 0, 1) := by decide +kernel
theorem dX8_flipsOf_25 : decode cX8_flipsOf 25 = .ok (.iload_n 1, 1) := by decide +kernel
theorem dX8_flipsOf_26 : decode cX8_flipsOf 26 = .ok (.iload 5, 2) := by decide +kernel
theorem dX8_flipsOf_28 : decode cX8_flipsOf 28 = .ok (.invokevirtual 197, 3) := by decide +kernel
theorem dX8_flipsOf_31 : decode cX8_flipsOf 31 = .ok (.istore 6, 2) := by decide +kernel
theorem dX8_flipsOf_33 : decode cX8_flipsOf 33 = .ok (.iload 6, 2) := by decide +kernel
theorem dX8_flipsOf_35 : decode cX8_flipsOf 35 = .ok (.bipush (-9), 2) := by decide +kernel
theorem dX8_flipsOf_37 : decode cX8_flipsOf 37 = .ok (.if_icmp .eq 64, 3) := by decide +kernel
theorem dX8_flipsOf_40 : decode cX8_flipsOf 40 = .ok (.iload_n 3, 1) := by decide +kernel
theorem dX8_flipsOf_41 : decode cX8_flipsOf 41 = .ok (.bipush (-9), 2) := by decide +kernel
theorem dX8_flipsOf_43 : decode cX8_flipsOf 43 = .ok (.if_icmp .eq 13, 3) := by decide +kernel
theorem dX8_flipsOf_46 : decode cX8_flipsOf 46 = .ok (.iload 6, 2) := by decide +kernel
theorem dX8_flipsOf_48 : decode cX8_flipsOf 48 = .ok (.iload_n 3, 1) := by decide +kernel
theorem dX8_flipsOf_49 : decode cX8_flipsOf 49 = .ok (.if_icmp .eq 7, 3) := by decide +kernel
theorem dX8_flipsOf_52 : decode cX8_flipsOf 52 = .ok (.iconst 1, 1) := by decide +kernel
theorem dX8_flipsOf_53 : decode cX8_flipsOf 53 = .ok (.goto 4, 3) := by decide +kernel
theorem dX8_flipsOf_56 : decode cX8_flipsOf 56 = .ok (.iconst 0, 1) := by decide +kernel
theorem dX8_flipsOf_57 : decode cX8_flipsOf 57 = .ok (.istore 7, 2) := by decide +kernel
theorem dX8_flipsOf_59 : decode cX8_flipsOf 59 = .ok (.aload_n 0, 1) := by decide +kernel
theorem dX8_flipsOf_60 : decode cX8_flipsOf 60 = .ok (.iload 7, 2) := by decide +kernel
theorem dX8_flipsOf_62 : decode cX8_flipsOf 62 = .ok (.ifCond .eq 14, 3) := by decide +kernel
theorem dX8_flipsOf_65 : decode cX8_flipsOf 65 = .ok (.iload 4, 2) := by decide +kernel
theorem dX8_flipsOf_67 : decode cX8_flipsOf 67 = .ok (.iload_n 2, 1) := by decide +kernel
theorem dX8_flipsOf_68 : decode cX8_flipsOf 68 = .ok (.if_icmp .ne 8, 3) := by decide +kernel
theorem dX8_flipsOf_71 : decode cX8_flipsOf 71 = .ok (.iload 5, 2) := by decide +kernel
theorem dX8_flipsOf_73 : decode cX8_flipsOf 73 = .ok (.goto 7, 3) := by decide +kernel
theorem dX8_flipsOf_76 : decode cX8_flipsOf 76 = .ok (.aload_n 0, 1) := by decide +kernel
theorem dX8_flipsOf_77 : decode cX8_flipsOf 77 = .ok (.getfield 231, 3) := by decide +kernel
theorem dX8_flipsOf_80 : decode cX8_flipsOf 80 = .ok (.putfield 231, 3) := by decide +kernel
theorem dX8_flipsOf_83 : decode cX8_flipsOf 83 = .ok (.iload 4, 2) := by decide +kernel
theorem dX8_flipsOf_85 : decode cX8_flipsOf 85 = .ok (.iload 7, 2) := by decide +kernel
theorem dX8_flipsOf_87 : decode cX8_flipsOf 87 = .ok (.ifCond .eq 7, 3) := by decide +kernel
theorem dX8_flipsOf_90 : decode cX8_flipsOf 90 = .ok (.iconst 1, 1) := by decide +kernel
theorem dX8_flipsOf_91 : decode cX8_flipsOf 91 = .ok (.goto 4, 3) := by decide +kernel
theorem dX8_flipsOf_94 : decode cX8_flipsOf 94 = .ok (.iconst 0, 1) := by decide +kernel
theorem dX8_flipsOf_95 : decode cX8_flipsOf 95 = .ok (.iadd, 1) := by decide +kernel
theorem dX8_flipsOf_96 : decode cX8_flipsOf 96 = .ok (.istore 4, 2) := by decide +kernel
theorem dX8_flipsOf_98 : decode cX8_flipsOf 98 = .ok (.iload 6, 2) := by decide +kernel
theorem dX8_flipsOf_100 : decode cX8_flipsOf 100 = .ok (.istore_n 3, 1) := by decide +kernel
theorem dX8_flipsOf_101 : decode cX8_flipsOf 101 = .ok (.iinc 5 1, 3) := by decide +kernel
theorem dX8_flipsOf_104 : decode cX8_flipsOf 104 = .ok (.goto (-89), 3) := by decide +kernel
theorem dX8_flipsOf_107 : decode cX8_flipsOf 107 = .ok (.iload 4, 2) := by decide +kernel
theorem dX8_flipsOf_109 : decode cX8_flipsOf 109 = .ok (.ireturn, 1) := by decide +kernel
theorem dX8_flips_0 : decode cX8_flips 0 = .ok (.iload_n 1, 1) := by decide +kernel
theorem dX8_flips_1 : decode cX8_flips 1 = .ok (.invokestatic 194, 3) := by decide +kernel
theorem dX8_flips_4 : decode cX8_flips 4 = .ok (.ifCond .eq 13, 3) := by decide +kernel
theorem dX8_flips_7 : decode cX8_flips 7 = .ok (.aload_n 0, 1) := by decide +kernel
theorem dX8_flips_8 : decode cX8_flips 8 = .ok (.iload_n 1, 1) := by decide +kernel
theorem dX8_flips_9 : decode cX8_flips 9 = .ok (.bipush (-9), 2) := by decide +kernel
theorem dX8_flips_11 : decode cX8_flips 11 = .ok (.invokevirtual 234, 3) := by decide +kernel
theorem dX8_flips_14 : decode cX8_flips 14 = .ok (.goto 4, 3) := by decide +kernel
theorem dX8_flips_17 : decode cX8_flips 17 = .ok (.iconst (-1), 1) := by decide +kernel
theorem dX8_flips_18 : decode cX8_flips 18 = .ok (.ireturn, 1) := by decide +kernel
theorem dX8_flip_0 : decode cX8_flip 0 = .ok (.iload_n 1, 1) := by decide +kernel
theorem dX8_flip_1 : decode cX8_flip 1 = .ok (.invokestatic 194, 3) := by decide +kernel
theorem dX8_flip_4 : decode cX8_flip 4 = .ok (.ifCond .eq 7, 3) := by decide +kernel
theorem dX8_flip_7 : decode cX8_flip 7 = .ok (.iload_n 2, 1) := by decide +kernel
theorem dX8_flip_8 : decode cX8_flip 8 = .ok (.ifCond .ge 5, 3) := by decide +kernel
theorem dX8_flip_11 : decode cX8_flip 11 = .ok (.iconst (-1), 1) := by decide +kernel
theorem dX8_flip_12 : decode cX8_flip 12 = .ok (.ireturn, 1) := by decide +kernel
theorem dX8_flip_13 : decode cX8_flip 13 = .ok (.aload_n 0, 1) := by decide +kernel
theorem dX8_flip_14 : decode cX8_flip 14 = .ok (.iload_n 1, 1) := by decide +kernel
theorem dX8_flip_15 : decode cX8_flip 15 = .ok (.iload_n 2, 1) := by decide +kernel
theorem dX8_flip_16 : decode cX8_flip 16 = .ok (.invokevirtual 234, 3) := by decide +kernel
theorem dX8_flip_19 : decode cX8_flip 19 = .ok (.pop, 1) := by decide +kernel
theorem dX8_flip_20 : decode cX8_flip 20 = .ok (.aload_n 0, 1) := by decide +kernel
theorem dX8_flip_21 : decode cX8_flip 21 = .ok (.getfield 231, 3) := by decide +kernel
theorem dX8_flip_24 : decode cX8_flip 24 = .ok (.istore_n 3, 1) := by decide +kernel
theorem dX8_flip_25 : decode cX8_flip 25 = .ok (.iconst 0, 1) := by decide +kernel
theorem dX8_flip_26 : decode cX8_flip 26 = .ok (.istore 4, 2) := by decide +kernel
theorem dX8_flip_28 : decode cX8_flip 28 = .ok (.iload 4, 2) := by decide +kernel
theorem dX8_flip_30 : decode cX8_flip 30 = .ok (.aload_n 0, 1) := by decide +kernel
theorem dX8_flip_31 : decode cX8_flip 31 = .ok (.getfield 141, 3) := by decide +kernel
theorem dX8_flip_34 : decode cX8_flip 34 = .ok (.if_icmp .ge 29, 3) := by decide +kernel
theorem dX8_flip_37 : decode cX8_flip 37 = .ok (.iload_n 3, 1) := by decide +kernel
theorem dX8_flip_38 : decode cX8_flip 38 = .ok (.bipush (-9), 2) := by decide +kernel
theorem dX8_flip_40 : decode cX8_flip 40 = .ok (.if_icmp .eq 23, 3) := by decide +kernel
theorem dX8_flip_43 : decode cX8_flip 43 = .ok (.aload_n 0, 1) := by decide +kernel
theorem dX8_flip_44 : decode cX8_flip 44 = .ok (.getfield 47, 3) := by decide +kernel
theorem dX8_flip_47 : decode cX8_flip 47 = .ok (.iload 4, 2) := by decide +kernel
theorem dX8_flip_49 : decode cX8_flip 49 = .ok (.iaload, 1) := by decide +kernel
theorem dX8_flip_50 : decode cX8_flip 50 = .ok (.iload_n 3, 1) := by decide +kernel
theorem dX8_flip_51 : decode cX8_flip 51 = .ok (.if_icmp .ne 6, 3) := by decide +kernel
theorem dX8_flip_54 : decode cX8_flip 54 = .ok (.iload 4, 2) := by decide +kernel
theorem dX8_flip_56 : decode cX8_flip 56 = .ok (.ireturn, 1) := by decide +kernel
theorem dX8_flip_57 : decode cX8_flip 57 = .ok (.iinc 4 1, 3) := by decide +kernel
theorem dX8_flip_60 : decode cX8_flip 60 = .ok (.goto (-32), 3) := by decide +kernel
theorem dX8_flip_63 : decode cX8_flip 63 = .ok (.bipush (-9), 2) := by decide +kernel
theorem dX8_flip_65 : decode cX8_flip 65 = .ok (.ireturn, 1) := by decide +kernel
theorem dX8_most_0 : decode cX8_most 0 = .ok (.iconst 0, 1) := by decide +kernel
theorem dX8_most_1 : decode cX8_most 1 = .ok (.istore_n 1, 1) := by decide +kernel
theorem dX8_most_2 : decode cX8_most 2 = .ok (.iconst 0, 1) := by decide +kernel
theorem dX8_most_3 : decode cX8_most 3 = .ok (.istore_n 2, 1) := by decide +kernel
theorem dX8_most_4 : decode cX8_most 4 = .ok (.iconst 0, 1) := by decide +kernel
theorem dX8_most_5 : decode cX8_most 5 = .ok (.istore_n 3, 1) := by decide +kernel
theorem dX8_most_6 : decode cX8_most 6 = .ok (.iload_n 3, 1) := by decide +kernel
theorem dX8_most_7 : decode cX8_most 7 = .ok (.bipush 32, 2) := by decide +kernel
theorem dX8_most_9 : decode cX8_most 9 = .ok (.if_icmp .ge 43, 3) := by decide +kernel
theorem dX8_most_12 : decode cX8_most 12 = .ok (.aload_n 0, 1) := by decide +kernel
theorem dX8_most_13 : decode cX8_most 13 = .ok (.iload_n 3, 1) := by decide +kernel
theorem dX8_most_14 : decode cX8_most 14 = .ok (.bipush (-9), 2) := by decide +kernel
theorem dX8_most_16 : decode cX8_most 16 = .ok (.invokevirtual 234, 3) := by decide +kernel
theorem dX8_most_19 : decode cX8_most 19 = .ok (.istore 4, 2) := by decide +kernel
theorem dX8_most_21 : decode cX8_most 21 = .ok (.iload 4, 2) := by decide +kernel
theorem dX8_most_23 : decode cX8_most 23 = .ok (.iload_n 2, 1) := by decide +kernel
theorem dX8_most_24 : decode cX8_most 24 = .ok (.if_icmp .le 7, 3) := by decide +kernel
theorem dX8_most_27 : decode cX8_most 27 = .ok (.iload_n 3, 1) := by decide +kernel
theorem dX8_most_28 : decode cX8_most 28 = .ok (.goto 4, 3) := by decide +kernel
theorem dX8_most_31 : decode cX8_most 31 = .ok (.iload_n 1, 1) := by decide +kernel
theorem dX8_most_32 : decode cX8_most 32 = .ok (.istore_n 1, 1) := by decide +kernel
theorem dX8_most_33 : decode cX8_most 33 = .ok (.iload 4, 2) := by decide +kernel
theorem dX8_most_35 : decode cX8_most 35 = .ok (.iload_n 2, 1) := by decide +kernel
theorem dX8_most_36 : decode cX8_most 36 = .ok (.if_icmp .le 8, 3) := by decide +kernel
theorem dX8_most_39 : decode cX8_most 39 = .ok (.iload 4, 2) := by decide +kernel
theorem dX8_most_41 : decode cX8_most 41 = .ok (.goto 4, 3) := by decide +kernel
theorem dX8_most_44 : decode cX8_most 44 = .ok (.iload_n 2, 1) := by decide +kernel
theorem dX8_most_45 : decode cX8_most 45 = .ok (.istore_n 2, 1) := by decide +kernel
theorem dX8_most_46 : decode cX8_most 46 = .ok (.iinc 3 1, 3) := by decide +kernel
theorem dX8_most_49 : decode cX8_most 49 = .ok (.goto (-43), 3) := by decide +kernel
theorem dX8_most_52 : decode cX8_most 52 = .ok (.aload_n 0, 1) := by decide +kernel
theorem dX8_most_53 : decode cX8_most 53 = .ok (.iload_n 2, 1) := by decide +kernel
theorem dX8_most_54 : decode cX8_most 54 = .ok (.iload_n 1, 1) := by decide +kernel
theorem dX8_most_55 : decode cX8_most 55 = .ok (.invokevirtual 104, 3) := by decide +kernel
theorem dX8_most_58 : decode cX8_most 58 = .ok (.ireturn, 1) := by decide +kernel
theorem dX8_matter_0 : decode cX8_matter 0 = .ok (.aload_n 0, 1) := by decide +kernel
theorem dX8_matter_1 : decode cX8_matter 1 = .ok (.iload_n 1, 1) := by decide +kernel
theorem dX8_matter_2 : decode cX8_matter 2 = .ok (.invokevirtual 144, 3) := by decide +kernel
theorem dX8_matter_5 : decode cX8_matter 5 = .ok (.ifCond .eq 10, 3) := by decide +kernel
theorem dX8_matter_8 : decode cX8_matter 8 = .ok (.iload_n 2, 1) := by decide +kernel
theorem dX8_matter_9 : decode cX8_matter 9 = .ok (.invokestatic 154, 3) := by decide +kernel
theorem dX8_matter_12 : decode cX8_matter 12 = .ok (.ifCond .ne 5, 3) := by decide +kernel
theorem dX8_matter_15 : decode cX8_matter 15 = .ok (.iconst (-1), 1) := by decide +kernel
theorem dX8_matter_16 : decode cX8_matter 16 = .ok (.ireturn, 1) := by decide +kernel
theorem dX8_matter_17 : decode cX8_matter 17 = .ok (.iconst 0, 1) := by decide +kernel
theorem dX8_matter_18 : decode cX8_matter 18 = .ok (.istore_n 3, 1) := by decide +kernel
theorem dX8_matter_19 : decode cX8_matter 19 = .ok (.iconst 0, 1) := by decide +kernel
theorem dX8_matter_20 : decode cX8_matter 20 = .ok (.istore 4, 2) := by decide +kernel
theorem dX8_matter_22 : decode cX8_matter 22 = .ok (.iload 4, 2) := by decide +kernel
theorem dX8_matter_24 : decode cX8_matter 24 = .ok (.bipush 32, 2) := by decide +kernel
theorem dX8_matter_26 : decode cX8_matter 26 = .ok (.if_icmp .ge 53, 3) := by decide +kernel
theorem dX8_matter_29 : decode cX8_matter 29 = .ok (.aload_n 0, 1) := by decide +kernel
theorem dX8_matter_30 : decode cX8_matter 30 = .ok (.iload 4, 2) := by decide +kernel
theorem dX8_matter_32 : decode cX8_matter 32 = .ok (.iload_n 2, 1) := by decide +kernel
theorem dX8_matter_33 : decode cX8_matter 33 = .ok (.invokevirtual 197, 3) := by decide +kernel
theorem dX8_matter_36 : decode cX8_matter 36 = .ok (.istore 5, 2) := by decide +kernel
theorem dX8_matter_38 : decode cX8_matter 38 = .ok (.aload_n 0, 1) := by decide +kernel
theorem dX8_matter_39 : decode cX8_matter 39 = .ok (.iload_n 1, 1) := by decide +kernel
theorem dX8_matter_40 : decode cX8_matter 40 = .ok (.putfield 53, 3) := by decide +kernel
theorem dX8_matter_43 : decode cX8_matter 43 = .ok (.aload_n 0, 1) := by decide +kernel
theorem dX8_matter_44 : decode cX8_matter 44 = .ok (.iload 4, 2) := by decide +kernel
theorem dX8_matter_46 : decode cX8_matter 46 = .ok (.iload_n 2, 1) := by decide +kernel
theorem dX8_matter_47 : decode cX8_matter 47 = .ok (.invokevirtual 197, 3) := by decide +kernel
theorem dX8_matter_50 : decode cX8_matter 50 = .ok (.istore 6, 2) := by decide +kernel
theorem dX8_matter_52 : decode cX8_matter 52 = .ok (.aload_n 0, 1) := by decide +kernel
theorem dX8_matter_53 : decode cX8_matter 53 = .ok (.bipush (-9), 2) := by decide +kernel
theorem dX8_matter_55 : decode cX8_matter 55 = .ok (.putfield 53, 3) := by decide +kernel
theorem dX8_matter_58 : decode cX8_matter 58 = .ok (.iload_n 3, 1) := by decide +kernel
theorem dX8_matter_59 : decode cX8_matter 59 = .ok (.iload 5, 2) := by decide +kernel
theorem dX8_matter_61 : decode cX8_matter 61 = .ok (.iload 6, 2) := by decide +kernel
theorem dX8_matter_63 : decode cX8_matter 63 = .ok (.if_icmp .ne 7, 3) := by decide +kernel
theorem dX8_matter_66 : decode cX8_matter 66 = .ok (.iconst 0, 1) := by decide +kernel
theorem dX8_matter_67 : decode cX8_matter 67 = .ok (.goto 4, 3) := by decide +kernel
theorem dX8_matter_70 : decode cX8_matter 70 = .ok (.iconst 1, 1) := by decide +kernel
theorem dX8_matter_71 : decode cX8_matter 71 = .ok (.iadd, 1) := by decide +kernel
theorem dX8_matter_72 : decode cX8_matter 72 = .ok (.istore_n 3, 1) := by decide +kernel
theorem dX8_matter_73 : decode cX8_matter 73 = .ok (.iinc 4 1, 3) := by decide +kernel
theorem dX8_matter_76 : decode cX8_matter 76 = .ok (.goto (-54), 3) := by decide +kernel
theorem dX8_matter_79 : decode cX8_matter 79 = .ok (.iload_n 3, 1) := by decide +kernel
theorem dX8_matter_80 : decode cX8_matter 80 = .ok (.ireturn, 1) := by decide +kernel
theorem dX8_putAside_0 : decode cX8_putAside 0 = .ok (.iconst 0, 1) := by decide +kernel
theorem dX8_putAside_1 : decode cX8_putAside 1 = .ok (.istore_n 1, 1) := by decide +kernel
theorem dX8_putAside_2 : decode cX8_putAside 2 = .ok (.iload_n 1, 1) := by decide +kernel
theorem dX8_putAside_3 : decode cX8_putAside 3 = .ok (.aload_n 0, 1) := by decide +kernel
theorem dX8_putAside_4 : decode cX8_putAside 4 = .ok (.getfield 141, 3) := by decide +kernel
theorem dX8_putAside_7 : decode cX8_putAside 7 = .ok (.if_icmp .ge 21, 3) := by decide +kernel
theorem dX8_putAside_10 : decode cX8_putAside 10 = .ok (.aload_n 0, 1) := by decide +kernel
theorem dX8_putAside_11 : decode cX8_putAside 11 = .ok (.getfield 66, 3) := by decide +kernel
theorem dX8_putAside_14 : decode cX8_putAside 14 = .ok (.iload_n 1, 1) := by decide +kernel
theorem dX8_putAside_15 : decode cX8_putAside 15 = .ok (.aload_n 0, 1) := by decide +kernel
theorem dX8_putAside_16 : decode cX8_putAside 16 = .ok (.getfield 47, 3) := by decide +kernel
theorem dX8_putAside_19 : decode cX8_putAside 19 = .ok (.iload_n 1, 1) := by decide +kernel
theorem dX8_putAside_20 : decode cX8_putAside 20 = .ok (.iaload, 1) := by decide +kernel
theorem dX8_putAside_21 : decode cX8_putAside 21 = .ok (.iastore, 1) := by decide +kernel
theorem dX8_putAside_22 : decode cX8_putAside 22 = .ok (.iinc 1 1, 3) := by decide +kernel
theorem dX8_putAside_25 : decode cX8_putAside 25 = .ok (.goto (-23), 3) := by decide +kernel
theorem dX8_putAside_28 : decode cX8_putAside 28 = .ok (.return_, 1) := by decide +kernel
theorem dX8_comeBack_0 : decode cX8_comeBack 0 = .ok (.iconst 0, 1) := by decide +kernel
theorem dX8_comeBack_1 : decode cX8_comeBack 1 = .ok (.istore_n 1, 1) := by decide +kernel
theorem dX8_comeBack_2 : decode cX8_comeBack 2 = .ok (.iload_n 1, 1) := by decide +kernel
theorem dX8_comeBack_3 : decode cX8_comeBack 3 = .ok (.aload_n 0, 1) := by decide +kernel
theorem dX8_comeBack_4 : decode cX8_comeBack 4 = .ok (.getfield 141, 3) := by decide +kernel
theorem dX8_comeBack_7 : decode cX8_comeBack 7 = .ok (.if_icmp .ge 21, 3) := by decide +kernel
theorem dX8_comeBack_10 : decode cX8_comeBack 10 = .ok (.aload_n 0, 1) := by decide +kernel
theorem dX8_comeBack_11 : decode cX8_comeBack 11 = .ok (.getfield 47, 3) := by decide +kernel
theorem dX8_comeBack_14 : decode cX8_comeBack 14 = .ok (.iload_n 1, 1) := by decide +kernel
theorem dX8_comeBack_15 : decode cX8_comeBack 15 = .ok (.aload_n 0, 1) := by decide +kernel
theorem dX8_comeBack_16 : decode cX8_comeBack 16 = .ok (.getfield 66, 3) := by decide +kernel
theorem dX8_comeBack_19 : decode cX8_comeBack 19 = .ok (.iload_n 1, 1) := by decide +kernel
theorem dX8_comeBack_20 : decode cX8_comeBack 20 = .ok (.iaload, 1) := by decide +kernel
theorem dX8_comeBack_21 : decode cX8_comeBack 21 = .ok (.iastore, 1) := by decide +kernel
theorem dX8_comeBack_22 : decode cX8_comeBack 22 = .ok (.iinc 1 1, 3) := by decide +kernel
theorem dX8_comeBack_25 : decode cX8_comeBack 25 = .ok (.goto (-23), 3) := by decide +kernel
theorem dX8_comeBack_28 : decode cX8_comeBack 28 = .ok (.return_, 1) := by decide +kernel
