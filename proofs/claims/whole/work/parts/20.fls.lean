theorem fls_X0_havingWords_4 (ke : Int32 → Stt → Option (Int32 × Stt)) (n : Nat) (b0 : Nat) (x1 : Int32) (x2 : Int32) (x3 : Int32) (S : Stt) : fl_X0_havingWords_4 ke (n + 1) b0 x1 x2 x3 S = fb_X0_havingWords_4 (fl_X0_havingWords_4 ke n) ke b0 x1 x2 x3 S := by
  first | rfl | (simp only [fl_X0_havingWords_4])
theorem fls_X0_pageReadOn_2 (ke : Stt → Option (Int32 × Stt)) (n : Nat) (b0 : Nat) (x1 : Int32) (x2 : Int32) (S : Stt) : fl_X0_pageReadOn_2 ke (n + 1) b0 x1 x2 S = fb_X0_pageReadOn_2 (fl_X0_pageReadOn_2 ke n) ke b0 x1 x2 S := by
  first | rfl | (simp only [fl_X0_pageReadOn_2])
theorem fls_X0_turnFromEnd_2 (ke : Stt → Option (Stt)) (n : Nat) (b0 : Nat) (x1 : Int32) (S : Stt) : fl_X0_turnFromEnd_2 ke (n + 1) b0 x1 S = fb_X0_turnFromEnd_2 (fl_X0_turnFromEnd_2 ke n) ke b0 x1 S := by
  first | rfl | (simp only [fl_X0_turnFromEnd_2])
theorem fls_X0_turnFromFront_2 (ke : Stt → Option (Stt)) (n : Nat) (b0 : Nat) (x1 : Int32) (S : Stt) : fl_X0_turnFromFront_2 ke (n + 1) b0 x1 S = fb_X0_turnFromFront_2 (fl_X0_turnFromFront_2 ke n) ke b0 x1 S := by
  first | rfl | (simp only [fl_X0_turnFromFront_2])
theorem fls_X5_kindByLetter_2 (ke : Stt → Option (Int32 × Stt)) (n : Nat) (x0 : Int32) (x1 : Int32) (S : Stt) : fl_X5_kindByLetter_2 ke (n + 1) x0 x1 S = fb_X5_kindByLetter_2 (fl_X5_kindByLetter_2 ke n) ke x0 x1 S := by
  first | rfl | (simp only [fl_X5_kindByLetter_2])
theorem fls_X6_digestOn_33 (ke : Nat → Int64 → Int32 → Stt → Option (Int64 × Stt)) (n : Nat) (z0 : Nat) (y3 : Int64) (x5 : Int32) (x6 : Int32) (S : Stt) : fl_X6_digestOn_33 ke (n + 1) z0 y3 x5 x6 S = fb_X6_digestOn_33 (fl_X6_digestOn_33 ke n) ke z0 y3 x5 x6 S := by
  first | rfl | (simp only [fl_X6_digestOn_33])
theorem fls_X6_digestOn_5 (ke : Int64 → Stt → Option (Int64 × Stt)) (n : Nat) (z0 : Nat) (y3 : Int64) (x5 : Int32) (S : Stt) : fl_X6_digestOn_5 ke (n + 1) z0 y3 x5 S = fb_X6_digestOn_5 (fl_X6_digestOn_5 ke n) ke z0 y3 x5 S := by
  first | rfl | (simp only [fl_X6_digestOn_5])
theorem fls_X6_make_10 (ke : Stt → Option (Stt)) (n : Nat) (z0 : Nat) (x1 : Int32) (x2 : Int32) (x3 : Int32) (x4 : Int32) (S : Stt) : fl_X6_make_10 ke (n + 1) z0 x1 x2 x3 x4 S = fb_X6_make_10 (fl_X6_make_10 ke n) ke z0 x1 x2 x3 x4 S := by
  first | rfl | (simp only [fl_X6_make_10])
theorem fls_X6_sumOf_5 (ke : Int64 → Stt → Option (Int64 × Stt)) (n : Nat) (z0 : Nat) (x1 : Int32) (y2 : Int64) (x4 : Int32) (S : Stt) : fl_X6_sumOf_5 ke (n + 1) z0 x1 y2 x4 S = fb_X6_sumOf_5 (fl_X6_sumOf_5 ke n) ke z0 x1 y2 x4 S := by
  first | rfl | (simp only [fl_X6_sumOf_5])
theorem fls_X7_keptBooks_4 (ke : Int32 → Stt → Option (Int32 × Stt)) (n : Nat) (x1 : Int32) (x2 : Int32) (S : Stt) : fl_X7_keptBooks_4 ke (n + 1) x1 x2 S = fb_X7_keptBooks_4 (fl_X7_keptBooks_4 ke n) ke x1 x2 S := by
  first | rfl | (simp only [fl_X7_keptBooks_4])
theorem fls_X7_tellFraction_2 (ke : Stt → Option (Stt)) (n : Nat) (x1 : Int32) (x2 : Int32) (x3 : Int32) (S : Stt) : fl_X7_tellFraction_2 ke (n + 1) x1 x2 x3 S = fb_X7_tellFraction_2 (fl_X7_tellFraction_2 ke n) ke x1 x2 x3 S := by
  first | rfl | (simp only [fl_X7_tellFraction_2])
theorem fls_X8_comeBack_2 (ke : Stt → Option (Stt)) (n : Nat) (x1 : Int32) (S : Stt) : fl_X8_comeBack_2 ke (n + 1) x1 S = fb_X8_comeBack_2 (fl_X8_comeBack_2 ke n) ke x1 S := by
  first | rfl | (simp only [fl_X8_comeBack_2])
theorem fls_X8_putAside_2 (ke : Stt → Option (Stt)) (n : Nat) (x1 : Int32) (S : Stt) : fl_X8_putAside_2 ke (n + 1) x1 S = fb_X8_putAside_2 (fl_X8_putAside_2 ke n) ke x1 S := by
  first | rfl | (simp only [fl_X8_putAside_2])
theorem fls_X8_rip_22 (ke : Stt → Option (Int32 × Stt)) (n : Nat) (x1 : Int32) (S : Stt) : fl_X8_rip_22 ke (n + 1) x1 S = fb_X8_rip_22 (fl_X8_rip_22 ke n) ke x1 S := by
  first | rfl | (simp only [fl_X8_rip_22])
theorem fls_X8_sizeOf_4 (ke : Int32 → Stt → Option (Int32 × Stt)) (n : Nat) (x0 : Int32) (x1 : Int32) (x2 : Int32) (S : Stt) : fl_X8_sizeOf_4 ke (n + 1) x0 x1 x2 S = fb_X8_sizeOf_4 (fl_X8_sizeOf_4 ke n) ke x0 x1 x2 S := by
  first | rfl | (simp only [fl_X8_sizeOf_4])
theorem fls_X0_become_10 (ke : Stt → Option (Stt)) (n : Nat) (b0 : Nat) (b1 : Nat) (x2 : Int32) (S : Stt) : fl_X0_become_10 ke (n + 1) b0 b1 x2 S = fb_X0_become_10 (fl_X0_become_10 ke n) ke b0 b1 x2 S := by
  first | rfl | (simp only [fl_X0_become_10])
theorem fls_X0_countOf_4 (ke : Int32 → Stt → Option (Int32 × Stt)) (n : Nat) (b0 : Nat) (x1 : Int32) (x2 : Int32) (x3 : Int32) (S : Stt) : fl_X0_countOf_4 ke (n + 1) b0 x1 x2 x3 S = fb_X0_countOf_4 (fl_X0_countOf_4 ke n) ke b0 x1 x2 x3 S := by
  first | rfl | (simp only [fl_X0_countOf_4])
theorem fls_X0_factsFor_9 (ke : Int32 → Stt → Option (Int32 × Stt)) (n : Nat) (b0 : Nat) (x1 : Int32) (x2 : Int32) (x3 : Int32) (x4 : Int32) (x5 : Int32) (S : Stt) : fl_X0_factsFor_9 ke (n + 1) b0 x1 x2 x3 x4 x5 S = fb_X0_factsFor_9 (fl_X0_factsFor_9 ke n) ke b0 x1 x2 x3 x4 x5 S := by
  first | rfl | (simp only [fl_X0_factsFor_9])
theorem fls_X0_holds_5 (ke : Stt → Option (Int32 × Stt)) (n : Nat) (b0 : Nat) (x2 : Int32) (x3 : Int32) (x4 : Int32) (S : Stt) : fl_X0_holds_5 ke (n + 1) b0 x2 x3 x4 S = fb_X0_holds_5 (fl_X0_holds_5 ke n) ke b0 x2 x3 x4 S := by
  first | rfl | (simp only [fl_X0_holds_5])
theorem fls_X0_isInRing_4 (ke : Stt → Option (Int32 × Stt)) (n : Nat) (b0 : Nat) (x1 : Int32) (x2 : Int32) (x3 : Int32) (S : Stt) : fl_X0_isInRing_4 ke (n + 1) b0 x1 x2 x3 S = fb_X0_isInRing_4 (fl_X0_isInRing_4 ke n) ke b0 x1 x2 x3 S := by
  first | rfl | (simp only [fl_X0_isInRing_4])
theorem fls_X1_timesOne_4 (ke : Int32 → Stt → Option (Int32 × Stt)) (n : Nat) (x1 : Int32) (x2 : Int32) (x3 : Int32) (S : Stt) : fl_X1_timesOne_4 ke (n + 1) x1 x2 x3 S = fb_X1_timesOne_4 (fl_X1_timesOne_4 ke n) ke x1 x2 x3 S := by
  first | rfl | (simp only [fl_X1_timesOne_4])
theorem fls_X1_trace_8 (ke : Int32 → Stt → Option (Int32 × Stt)) (n : Nat) (x1 : Int32) (x2 : Int32) (x3 : Int32) (x4 : Int32) (S : Stt) : fl_X1_trace_8 ke (n + 1) x1 x2 x3 x4 S = fb_X1_trace_8 (fl_X1_trace_8 ke n) ke x1 x2 x3 x4 S := by
  first | rfl | (simp only [fl_X1_trace_8])
theorem fls_X3_putWords_12 (ke : Stt → Option (Stt)) (n : Nat) (b0 : Nat) (i0 : Nat) (x1 : Int32) (x2 : Int32) (S : Stt) : fl_X3_putWords_12 ke (n + 1) b0 i0 x1 x2 S = fb_X3_putWords_12 (fl_X3_putWords_12 ke n) ke b0 i0 x1 x2 S := by
  first | rfl | (simp only [fl_X3_putWords_12])
theorem fls_X4_firstClear_2 (ke : Stt → Option (Int32 × Stt)) (n : Nat) (x1 : Int32) (x3 : Int32) (S : Stt) : fl_X4_firstClear_2 ke (n + 1) x1 x3 S = fb_X4_firstClear_2 (fl_X4_firstClear_2 ke n) ke x1 x3 S := by
  first | rfl | (simp only [fl_X4_firstClear_2])
theorem fls_X4_tellDays_12 (ke : Stt → Option (Stt)) (n : Nat) (z1 : Nat) (x2 : Int32) (x3 : Int32) (S : Stt) : fl_X4_tellDays_12 ke (n + 1) z1 x2 x3 S = fb_X4_tellDays_12 (fl_X4_tellDays_12 ke n) ke z1 x2 x3 S := by
  first | rfl | (simp only [fl_X4_tellDays_12])
theorem fls_X4_tellPlaces_12 (ke : Stt → Option (Stt)) (n : Nat) (z1 : Nat) (x2 : Int32) (x3 : Int32) (S : Stt) : fl_X4_tellPlaces_12 ke (n + 1) z1 x2 x3 S = fb_X4_tellPlaces_12 (fl_X4_tellPlaces_12 ke n) ke z1 x2 x3 S := by
  first | rfl | (simp only [fl_X4_tellPlaces_12])
theorem fls_X6_countThere_4 (ke : Int32 → Stt → Option (Int32 × Stt)) (n : Nat) (z0 : Nat) (x1 : Int32) (x2 : Int32) (S : Stt) : fl_X6_countThere_4 ke (n + 1) z0 x1 x2 S = fb_X6_countThere_4 (fl_X6_countThere_4 ke n) ke z0 x1 x2 S := by
  first | rfl | (simp only [fl_X6_countThere_4])
theorem fls_X7_namesEachPageOnce_4 (ke : Stt → Option (Int32 × Stt)) (n : Nat) (x1 : Int32) (x2 : Int32) (x3 : Int32) (S : Stt) : fl_X7_namesEachPageOnce_4 ke (n + 1) x1 x2 x3 S = fb_X7_namesEachPageOnce_4 (fl_X7_namesEachPageOnce_4 ke n) ke x1 x2 x3 S := by
  first | rfl | (simp only [fl_X7_namesEachPageOnce_4])
theorem fls_X7_refusalOfDeeds_62 (ke : Stt → Option (Int32 × Stt)) (n : Nat) (x1 : Int32) (x4 : Int32) (S : Stt) : fl_X7_refusalOfDeeds_62 ke (n + 1) x1 x4 S = fb_X7_refusalOfDeeds_62 (fl_X7_refusalOfDeeds_62 ke n) ke x1 x4 S := by
  first | rfl | (simp only [fl_X7_refusalOfDeeds_62])
theorem fls_X7_tellsJudgements_2 (ke : Stt → Option (Int32 × Stt)) (n : Nat) (x1 : Int32) (x2 : Int32) (S : Stt) : fl_X7_tellsJudgements_2 ke (n + 1) x1 x2 S = fb_X7_tellsJudgements_2 (fl_X7_tellsJudgements_2 ke n) ke x1 x2 S := by
  first | rfl | (simp only [fl_X7_tellsJudgements_2])
theorem fls_X8_keep_49 (ke : Int32 → Int32 → Stt → Option (Int32 × Stt)) (n : Nat) (x2 : Int32) (x3 : Int32) (x4 : Int32) (S : Stt) : fl_X8_keep_49 ke (n + 1) x2 x3 x4 S = fb_X8_keep_49 (fl_X8_keep_49 ke n) ke x2 x3 x4 S := by
  first | rfl | (simp only [fl_X8_keep_49])
theorem fls_X8_keep_38 (ke : Stt → Option (Int32 × Stt)) (n : Nat) (x2 : Int32) (x3 : Int32) (S : Stt) : fl_X8_keep_38 ke (n + 1) x2 x3 S = fb_X8_keep_38 (fl_X8_keep_38 ke n) ke x2 x3 S := by
  first | rfl | (simp only [fl_X8_keep_38])
theorem fls_X8_on_45 (ke : Stt → Option (Int32 × Stt)) (n : Nat) (x2 : Int32) (x3 : Int32) (S : Stt) : fl_X8_on_45 ke (n + 1) x2 x3 S = fb_X8_on_45 (fl_X8_on_45 ke n) ke x2 x3 S := by
  first | rfl | (simp only [fl_X8_on_45])
theorem fls_X8_readsWords_2 (ke : Int32 → Stt → Option (Int32 × Stt)) (n : Nat) (x1 : Int32) (x2 : Int32) (S : Stt) : fl_X8_readsWords_2 ke (n + 1) x1 x2 S = fb_X8_readsWords_2 (fl_X8_readsWords_2 ke n) ke x1 x2 S := by
  first | rfl | (simp only [fl_X8_readsWords_2])
theorem fls_X8_tells_4 (ke : Int32 → Int32 → Stt → Option (Int32 × Stt)) (n : Nat) (x1 : Int32) (x2 : Int32) (x3 : Int32) (S : Stt) : fl_X8_tells_4 ke (n + 1) x1 x2 x3 S = fb_X8_tells_4 (fl_X8_tells_4 ke n) ke x1 x2 x3 S := by
  first | rfl | (simp only [fl_X8_tells_4])
theorem fls_X0_bound_4 (ke : Int32 → Stt → Option (Int32 × Stt)) (n : Nat) (b0 : Nat) (x1 : Int32) (x2 : Int32) (x3 : Int32) (S : Stt) : fl_X0_bound_4 ke (n + 1) b0 x1 x2 x3 S = fb_X0_bound_4 (fl_X0_bound_4 ke n) ke b0 x1 x2 x3 S := by
  first | rfl | (simp only [fl_X0_bound_4])
theorem fls_X0_casesOne_9 (ke : Int32 → Stt → Option (Int32 × Stt)) (n : Nat) (b0 : Nat) (x1 : Int32) (x2 : Int32) (x3 : Int32) (x4 : Int32) (x5 : Int32) (x6 : Int32) (S : Stt) : fl_X0_casesOne_9 ke (n + 1) b0 x1 x2 x3 x4 x5 x6 S = fb_X0_casesOne_9 (fl_X0_casesOne_9 ke n) ke b0 x1 x2 x3 x4 x5 x6 S := by
  first | rfl | (simp only [fl_X0_casesOne_9])
theorem fls_X0_firstDayOf_2 (ke : Stt → Option (Int32 × Stt)) (n : Nat) (b0 : Nat) (x1 : Int32) (x2 : Int32) (S : Stt) : fl_X0_firstDayOf_2 ke (n + 1) b0 x1 x2 S = fb_X0_firstDayOf_2 (fl_X0_firstDayOf_2 ke n) ke b0 x1 x2 S := by
  first | rfl | (simp only [fl_X0_firstDayOf_2])
theorem fls_X0_judgeOf_3 (ke : Stt → Option (Int32 × Stt)) (n : Nat) (b0 : Nat) (x1 : Int32) (x2 : Int32) (x3 : Int32) (x4 : Int32) (x5 : Int32) (S : Stt) : fl_X0_judgeOf_3 ke (n + 1) b0 x1 x2 x3 x4 x5 S = fb_X0_judgeOf_3 (fl_X0_judgeOf_3 ke n) ke b0 x1 x2 x3 x4 x5 S := by
  first | rfl | (simp only [fl_X0_judgeOf_3])
theorem fls_X0_rank_12 (ke : Nat → Int32 → Int32 → Stt → Option (Stt)) (n : Nat) (b0 : Nat) (x1 : Int32) (x2 : Int32) (S : Stt) : fl_X0_rank_12 ke (n + 1) b0 x1 x2 S = fb_X0_rank_12 (fl_X0_rank_12 ke n) ke b0 x1 x2 S := by
  first | rfl | (simp only [fl_X0_rank_12])
theorem fls_X0_rank_2 (ke : Stt → Option (Stt)) (n : Nat) (b0 : Nat) (x1 : Int32) (S : Stt) : fl_X0_rank_2 ke (n + 1) b0 x1 S = fb_X0_rank_2 (fl_X0_rank_2 ke n) ke b0 x1 S := by
  first | rfl | (simp only [fl_X0_rank_2])
theorem fls_X4_planAsTheyCome_10 (ke : Stt → Option (Int32 × Stt)) (n : Nat) (x1 : Int32) (x2 : Int32) (S : Stt) : fl_X4_planAsTheyCome_10 ke (n + 1) x1 x2 S = fb_X4_planAsTheyCome_10 (fl_X4_planAsTheyCome_10 ke n) ke x1 x2 S := by
  first | rfl | (simp only [fl_X4_planAsTheyCome_10])
theorem fls_X7_read_83 (ke : Stt → Option (Int32 × Stt)) (n : Nat) (x1 : Int32) (x2 : Int32) (S : Stt) : fl_X7_read_83 ke (n + 1) x1 x2 S = fb_X7_read_83 (fl_X7_read_83 ke n) ke x1 x2 S := by
  first | rfl | (simp only [fl_X7_read_83])
theorem fls_X8_copy_104 (ke : Int32 → Int32 → Int32 → Stt → Option (Int32 × Stt)) (n : Nat) (x1 : Int32) (x2 : Int32) (x3 : Int32) (x4 : Int32) (x5 : Int32) (x6 : Int32) (S : Stt) : fl_X8_copy_104 ke (n + 1) x1 x2 x3 x4 x5 x6 S = fb_X8_copy_104 (fl_X8_copy_104 ke n) ke x1 x2 x3 x4 x5 x6 S := by
  first | rfl | (simp only [fl_X8_copy_104])
theorem fls_X8_copy_136 (ke : Stt → Option (Int32 × Stt)) (n : Nat) (x3 : Int32) (x4 : Int32) (x5 : Int32) (x6 : Int32) (S : Stt) : fl_X8_copy_136 ke (n + 1) x3 x4 x5 x6 S = fb_X8_copy_136 (fl_X8_copy_136 ke n) ke x3 x4 x5 x6 S := by
  first | rfl | (simp only [fl_X8_copy_136])
theorem fls_X8_digest_9 (ke : Stt → Option (Int64 × Stt)) (n : Nat) (x1 : Int32) (S : Stt) : fl_X8_digest_9 ke (n + 1) x1 S = fb_X8_digest_9 (fl_X8_digest_9 ke n) ke x1 S := by
  first | rfl | (simp only [fl_X8_digest_9])
theorem fls_X8_digest_42 (ke : Int32 → Stt → Option (Int64 × Stt)) (n : Nat) (x1 : Int32) (x2 : Int32) (S : Stt) : fl_X8_digest_42 ke (n + 1) x1 x2 S = fb_X8_digest_42 (fl_X8_digest_42 ke n) ke x1 x2 S := by
  first | rfl | (simp only [fl_X8_digest_42])
theorem fls_X8_digest_32 (ke : Stt → Option (Int64 × Stt)) (n : Nat) (x1 : Int32) (S : Stt) : fl_X8_digest_32 ke (n + 1) x1 S = fb_X8_digest_32 (fl_X8_digest_32 ke n) ke x1 S := by
  first | rfl | (simp only [fl_X8_digest_32])
theorem fls_X8_digest_71 (ke : Stt → Option (Int64 × Stt)) (n : Nat) (x1 : Int32) (S : Stt) : fl_X8_digest_71 ke (n + 1) x1 S = fb_X8_digest_71 (fl_X8_digest_71 ke n) ke x1 S := by
  first | rfl | (simp only [fl_X8_digest_71])
theorem fls_X8_digest_146 (ke : Int32 → Stt → Option (Int64 × Stt)) (n : Nat) (x1 : Int32) (x2 : Int32) (S : Stt) : fl_X8_digest_146 ke (n + 1) x1 x2 S = fb_X8_digest_146 (fl_X8_digest_146 ke n) ke x1 x2 S := by
  first | rfl | (simp only [fl_X8_digest_146])
theorem fls_X8_digest_115 (ke : Stt → Option (Int64 × Stt)) (n : Nat) (x1 : Int32) (S : Stt) : fl_X8_digest_115 ke (n + 1) x1 S = fb_X8_digest_115 (fl_X8_digest_115 ke n) ke x1 S := by
  first | rfl | (simp only [fl_X8_digest_115])
theorem fls_X8_digest_210 (ke : Int32 → Stt → Option (Int64 × Stt)) (n : Nat) (x1 : Int32) (x2 : Int32) (S : Stt) : fl_X8_digest_210 ke (n + 1) x1 x2 S = fb_X8_digest_210 (fl_X8_digest_210 ke n) ke x1 x2 S := by
  first | rfl | (simp only [fl_X8_digest_210])
theorem fls_X8_digest_180 (ke : Stt → Option (Int64 × Stt)) (n : Nat) (x1 : Int32) (S : Stt) : fl_X8_digest_180 ke (n + 1) x1 S = fb_X8_digest_180 (fl_X8_digest_180 ke n) ke x1 S := by
  first | rfl | (simp only [fl_X8_digest_180])
theorem fls_X8_doesBind_5 (ke : Stt → Option (Int32 × Stt)) (n : Nat) (x2 : Int32) (x3 : Int32) (x4 : Int32) (S : Stt) : fl_X8_doesBind_5 ke (n + 1) x2 x3 x4 S = fb_X8_doesBind_5 (fl_X8_doesBind_5 ke n) ke x2 x3 x4 S := by
  first | rfl | (simp only [fl_X8_doesBind_5])
theorem fls_X8_isInRing_4 (ke : Stt → Option (Int32 × Stt)) (n : Nat) (x1 : Int32) (x2 : Int32) (x3 : Int32) (S : Stt) : fl_X8_isInRing_4 ke (n + 1) x1 x2 x3 S = fb_X8_isInRing_4 (fl_X8_isInRing_4 ke n) ke x1 x2 x3 S := by
  first | rfl | (simp only [fl_X8_isInRing_4])
theorem fls_X8_judgeBy_6 (ke : Int32 → Stt → Option (Int32 × Stt)) (n : Nat) (x1 : Int32) (x2 : Int32) (x3 : Int32) (x4 : Int32) (S : Stt) : fl_X8_judgeBy_6 ke (n + 1) x1 x2 x3 x4 S = fb_X8_judgeBy_6 (fl_X8_judgeBy_6 ke n) ke x1 x2 x3 x4 S := by
  first | rfl | (simp only [fl_X8_judgeBy_6])
theorem fls_X8_row_34 (ke : Int32 → Stt → Option (Int32 × Stt)) (n : Nat) (x1 : Int32) (x2 : Int32) (x3 : Int32) (S : Stt) : fl_X8_row_34 ke (n + 1) x1 x2 x3 S = fb_X8_row_34 (fl_X8_row_34 ke n) ke x1 x2 x3 S := by
  first | rfl | (simp only [fl_X8_row_34])
theorem fls_X8_text_34 (ke : Int32 → Stt → Option (Int32 × Stt)) (n : Nat) (x1 : Int32) (x2 : Int32) (x3 : Int32) (S : Stt) : fl_X8_text_34 ke (n + 1) x1 x2 x3 S = fb_X8_text_34 (fl_X8_text_34 ke n) ke x1 x2 x3 S := by
  first | rfl | (simp only [fl_X8_text_34])
theorem fls_X0_dropLast_33 (ke : Nat → Stt → Option (Stt)) (n : Nat) (b0 : Nat) (x1 : Int32) (x2 : Int32) (S : Stt) : fl_X0_dropLast_33 ke (n + 1) b0 x1 x2 S = fb_X0_dropLast_33 (fl_X0_dropLast_33 ke n) ke b0 x1 x2 S := by
  first | rfl | (simp only [fl_X0_dropLast_33])
theorem fls_X1_hear_63 (ke : Nat → Int32 → Int32 → Int32 → Int32 → Stt → Option (Stt)) (n : Nat) (b1 : Nat) (x3 : Int32) (x4 : Int32) (x5 : Int32) (x6 : Int32) (x7 : Int32) (S : Stt) : fl_X1_hear_63 ke (n + 1) b1 x3 x4 x5 x6 x7 S = fb_X1_hear_63 (fl_X1_hear_63 ke n) ke b1 x3 x4 x5 x6 x7 S := by
  first | rfl | (simp only [fl_X1_hear_63])
theorem fls_X1_hear_41 (ke : Stt → Option (Stt)) (n : Nat) (b1 : Nat) (x3 : Int32) (x4 : Int32) (x5 : Int32) (x6 : Int32) (S : Stt) : fl_X1_hear_41 ke (n + 1) b1 x3 x4 x5 x6 S = fb_X1_hear_41 (fl_X1_hear_41 ke n) ke b1 x3 x4 x5 x6 S := by
  first | rfl | (simp only [fl_X1_hear_41])
theorem fls_X5_takeWords_6 (ke : Int32 → Stt → Option (Int32 × Stt)) (n : Nat) (x1 : Int32) (x2 : Int32) (x3 : Int32) (S : Stt) : fl_X5_takeWords_6 ke (n + 1) x1 x2 x3 S = fb_X5_takeWords_6 (fl_X5_takeWords_6 ke n) ke x1 x2 x3 S := by
  first | rfl | (simp only [fl_X5_takeWords_6])
theorem fls_X7_couldMean_3 (ke : Stt → Option (Int32 × Stt)) (n : Nat) (x1 : Int32) (x2 : Int32) (x3 : Int32) (x4 : Int32) (S : Stt) : fl_X7_couldMean_3 ke (n + 1) x1 x2 x3 x4 S = fb_X7_couldMean_3 (fl_X7_couldMean_3 ke n) ke x1 x2 x3 x4 S := by
  first | rfl | (simp only [fl_X7_couldMean_3])
theorem fls_X7_digest_6 (ke : Int64 → Stt → Option (Int64 × Stt)) (n : Nat) (y1 : Int64) (x3 : Int32) (S : Stt) : fl_X7_digest_6 ke (n + 1) y1 x3 S = fb_X7_digest_6 (fl_X7_digest_6 ke n) ke y1 x3 S := by
  first | rfl | (simp only [fl_X7_digest_6])
theorem fls_X7_digest_47 (ke : Int64 → Int32 → Stt → Option (Int64 × Stt)) (n : Nat) (y1 : Int64) (x3 : Int32) (x4 : Int32) (S : Stt) : fl_X7_digest_47 ke (n + 1) y1 x3 x4 S = fb_X7_digest_47 (fl_X7_digest_47 ke n) ke y1 x3 x4 S := by
  first | rfl | (simp only [fl_X7_digest_47])
theorem fls_X7_digest_33 (ke : Int64 → Stt → Option (Int64 × Stt)) (n : Nat) (y1 : Int64) (x3 : Int32) (S : Stt) : fl_X7_digest_33 ke (n + 1) y1 x3 S = fb_X7_digest_33 (fl_X7_digest_33 ke n) ke y1 x3 S := by
  first | rfl | (simp only [fl_X7_digest_33])
theorem fls_X7_digest_85 (ke : Int64 → Stt → Option (Int64 × Stt)) (n : Nat) (y1 : Int64) (x3 : Int32) (S : Stt) : fl_X7_digest_85 ke (n + 1) y1 x3 S = fb_X7_digest_85 (fl_X7_digest_85 ke n) ke y1 x3 S := by
  first | rfl | (simp only [fl_X7_digest_85])
theorem fls_X7_never_6 (ke : Int32 → Int32 → Stt → Option (Int32 × Stt)) (n : Nat) (x1 : Int32) (x2 : Int32) (x3 : Int32) (S : Stt) : fl_X7_never_6 ke (n + 1) x1 x2 x3 S = fb_X7_never_6 (fl_X7_never_6 ke n) ke x1 x2 x3 S := by
  first | rfl | (simp only [fl_X7_never_6])
theorem fls_X8_askedDeeds_31 (ke : Stt → Option (Int32 × Stt)) (n : Nat) (x1 : Int32) (x4 : Int32) (S : Stt) : fl_X8_askedDeeds_31 ke (n + 1) x1 x4 S = fb_X8_askedDeeds_31 (fl_X8_askedDeeds_31 ke n) ke x1 x4 S := by
  first | rfl | (simp only [fl_X8_askedDeeds_31])
theorem fls_X8_bindSet_4 (ke : Int32 → Stt → Option (Int32 × Stt)) (n : Nat) (x1 : Int32) (x2 : Int32) (x3 : Int32) (S : Stt) : fl_X8_bindSet_4 ke (n + 1) x1 x2 x3 S = fb_X8_bindSet_4 (fl_X8_bindSet_4 ke n) ke x1 x2 x3 S := by
  first | rfl | (simp only [fl_X8_bindSet_4])
theorem fls_X8_goesOn_10 (ke : Stt → Option (Int32 × Stt)) (n : Nat) (x1 : Int32) (S : Stt) : fl_X8_goesOn_10 ke (n + 1) x1 S = fb_X8_goesOn_10 (fl_X8_goesOn_10 ke n) ke x1 S := by
  first | rfl | (simp only [fl_X8_goesOn_10])
theorem fls_X8_layTold_9 (ke : Stt → Option (Stt)) (n : Nat) (x1 : Int32) (x2 : Int32) (x3 : Int32) (S : Stt) : fl_X8_layTold_9 ke (n + 1) x1 x2 x3 S = fb_X8_layTold_9 (fl_X8_layTold_9 ke n) ke x1 x2 x3 S := by
  first | rfl | (simp only [fl_X8_layTold_9])
theorem fls_X8_mark_43 (ke : Int32 → Int32 → Int32 → Int32 → Stt → Option (Int32 × Stt)) (n : Nat) (x1 : Int32) (x2 : Int32) (x3 : Int32) (x4 : Int32) (x5 : Int32) (S : Stt) : fl_X8_mark_43 ke (n + 1) x1 x2 x3 x4 x5 S = fb_X8_mark_43 (fl_X8_mark_43 ke n) ke x1 x2 x3 x4 x5 S := by
  first | rfl | (simp only [fl_X8_mark_43])
theorem fls_X8_mark_98 (ke : Int32 → Int32 → Int32 → Int32 → Stt → Option (Int32 × Stt)) (n : Nat) (x1 : Int32) (x2 : Int32) (x3 : Int32) (x4 : Int32) (x5 : Int32) (S : Stt) : fl_X8_mark_98 ke (n + 1) x1 x2 x3 x4 x5 S = fb_X8_mark_98 (fl_X8_mark_98 ke n) ke x1 x2 x3 x4 x5 S := by
  first | rfl | (simp only [fl_X8_mark_98])
theorem fls_X8_mean_17 (ke : Int32 → Int64 → Stt → Option (Int32 × Stt)) (n : Nat) (x1 : Int32) (y3 : Int64) (x5 : Int32) (S : Stt) : fl_X8_mean_17 ke (n + 1) x1 y3 x5 S = fb_X8_mean_17 (fl_X8_mean_17 ke n) ke x1 y3 x5 S := by
  first | rfl | (simp only [fl_X8_mean_17])
theorem fls_X8_meanOf_6 (ke : Int32 → Stt → Option (Int32 × Stt)) (n : Nat) (x1 : Int32) (x2 : Int32) (x3 : Int32) (x4 : Int32) (S : Stt) : fl_X8_meanOf_6 ke (n + 1) x1 x2 x3 x4 S = fb_X8_meanOf_6 (fl_X8_meanOf_6 ke n) ke x1 x2 x3 x4 S := by
  first | rfl | (simp only [fl_X8_meanOf_6])
theorem fls_X8_never_20 (ke : Int32 → Int32 → Int32 → Int32 → Stt → Option (Int32 × Stt)) (n : Nat) (x1 : Int32) (x2 : Int32) (x3 : Int32) (x4 : Int32) (x5 : Int32) (S : Stt) : fl_X8_never_20 ke (n + 1) x1 x2 x3 x4 x5 S = fb_X8_never_20 (fl_X8_never_20 ke n) ke x1 x2 x3 x4 x5 S := by
  first | rfl | (simp only [fl_X8_never_20])
theorem fls_X8_never_6 (ke : Int32 → Int32 → Stt → Option (Int32 × Stt)) (n : Nat) (x1 : Int32) (x2 : Int32) (x3 : Int32) (S : Stt) : fl_X8_never_6 ke (n + 1) x1 x2 x3 S = fb_X8_never_6 (fl_X8_never_6 ke n) ke x1 x2 x3 S := by
  first | rfl | (simp only [fl_X8_never_6])
theorem fls_X8_read_55 (ke : Int32 → Int32 → Stt → Option (Int32 × Stt)) (n : Nat) (x1 : Int32) (x3 : Int32) (x4 : Int32) (S : Stt) : fl_X8_read_55 ke (n + 1) x1 x3 x4 S = fb_X8_read_55 (fl_X8_read_55 ke n) ke x1 x3 x4 S := by
  first | rfl | (simp only [fl_X8_read_55])
theorem fls_X8_read_121 (ke : Stt → Option (Int32 × Stt)) (n : Nat) (x1 : Int32) (x4 : Int32) (S : Stt) : fl_X8_read_121 ke (n + 1) x1 x4 S = fb_X8_read_121 (fl_X8_read_121 ke n) ke x1 x4 S := by
  first | rfl | (simp only [fl_X8_read_121])
theorem fls_X1_hearReading_10 (ke : Stt → Option (Stt)) (n : Nat) (b1 : Nat) (x2 : Int32) (S : Stt) : fl_X1_hearReading_10 ke (n + 1) b1 x2 S = fb_X1_hearReading_10 (fl_X1_hearReading_10 ke n) ke b1 x2 S := by
  first | rfl | (simp only [fl_X1_hearReading_10])
theorem fls_X1_waitingInAll_4 (ke : Int32 → Stt → Option (Int32 × Stt)) (n : Nat) (b1 : Nat) (x2 : Int32) (x3 : Int32) (S : Stt) : fl_X1_waitingInAll_4 ke (n + 1) b1 x2 x3 S = fb_X1_waitingInAll_4 (fl_X1_waitingInAll_4 ke n) ke b1 x2 x3 S := by
  first | rfl | (simp only [fl_X1_waitingInAll_4])
theorem fls_X4_take_17 (ke : Nat → Stt → Option (Stt)) (n : Nat) (z1 : Nat) (x2 : Int32) (b4 : Nat) (x5 : Int32) (S : Stt) : fl_X4_take_17 ke (n + 1) z1 x2 b4 x5 S = fb_X4_take_17 (fl_X4_take_17 ke n) ke z1 x2 b4 x5 S := by
  first | rfl | (simp only [fl_X4_take_17])
theorem fls_X4_take_49 (ke : Stt → Option (Stt)) (n : Nat) (b4 : Nat) (x5 : Int32) (S : Stt) : fl_X4_take_49 ke (n + 1) b4 x5 S = fb_X4_take_49 (fl_X4_take_49 ke n) ke b4 x5 S := by
  first | rfl | (simp only [fl_X4_take_49])
theorem fls_X7_free_18 (ke : Stt → Option (Int32 × Stt)) (n : Nat) (x1 : Int32) (x3 : Int32) (S : Stt) : fl_X7_free_18 ke (n + 1) x1 x3 S = fb_X7_free_18 (fl_X7_free_18 ke n) ke x1 x3 S := by
  first | rfl | (simp only [fl_X7_free_18])
theorem fls_X7_lots_34 (ke : Int32 → Stt → Option (Int32 × Stt)) (n : Nat) (x1 : Int32) (x3 : Int32) (y4 : Int64) (x6 : Int32) (S : Stt) : fl_X7_lots_34 ke (n + 1) x1 x3 y4 x6 S = fb_X7_lots_34 (fl_X7_lots_34 ke n) ke x1 x3 y4 x6 S := by
  first | rfl | (simp only [fl_X7_lots_34])
theorem fls_X7_meant_79 (ke : Int32 → Int32 → Int32 → Int32 → Stt → Option (Int32 × Stt)) (n : Nat) (x1 : Int32) (x2 : Int32) (x3 : Int32) (x4 : Int32) (x5 : Int32) (S : Stt) : fl_X7_meant_79 ke (n + 1) x1 x2 x3 x4 x5 S = fb_X7_meant_79 (fl_X7_meant_79 ke n) ke x1 x2 x3 x4 x5 S := by
  first | rfl | (simp only [fl_X7_meant_79])
theorem fls_X7_meant_70 (ke : Int32 → Int32 → Stt → Option (Int32 × Stt)) (n : Nat) (x1 : Int32) (x2 : Int32) (x3 : Int32) (x4 : Int32) (S : Stt) : fl_X7_meant_70 ke (n + 1) x1 x2 x3 x4 S = fb_X7_meant_70 (fl_X7_meant_70 ke n) ke x1 x2 x3 x4 S := by
  first | rfl | (simp only [fl_X7_meant_70])
theorem fls_X8_book_35 (ke : Stt → Option (Int32 × Stt)) (n : Nat) (x3 : Int32) (S : Stt) : fl_X8_book_35 ke (n + 1) x3 S = fb_X8_book_35 (fl_X8_book_35 ke n) ke x3 S := by
  first | rfl | (simp only [fl_X8_book_35])
theorem fls_X8_book_143 (ke : Stt → Option (Int32 × Stt)) (n : Nat) (x3 : Int32) (S : Stt) : fl_X8_book_143 ke (n + 1) x3 S = fb_X8_book_143 (fl_X8_book_143 ke n) ke x3 S := by
  first | rfl | (simp only [fl_X8_book_143])
theorem fls_X8_meant_31 (ke : Int32 → Stt → Option (Int32 × Stt)) (n : Nat) (x1 : Int32) (x3 : Int32) (S : Stt) : fl_X8_meant_31 ke (n + 1) x1 x3 S = fb_X8_meant_31 (fl_X8_meant_31 ke n) ke x1 x3 S := by
  first | rfl | (simp only [fl_X8_meant_31])
theorem fls_X8_meant_116 (ke : Int32 → Int32 → Int32 → Int32 → Int32 → Stt → Option (Int32 × Stt)) (n : Nat) (x1 : Int32) (x3 : Int32) (x4 : Int32) (x5 : Int32) (x6 : Int32) (x7 : Int32) (S : Stt) : fl_X8_meant_116 ke (n + 1) x1 x3 x4 x5 x6 x7 S = fb_X8_meant_116 (fl_X8_meant_116 ke n) ke x1 x3 x4 x5 x6 x7 S := by
  first | rfl | (simp only [fl_X8_meant_116])
theorem fls_X8_meant_103 (ke : Int32 → Int32 → Stt → Option (Int32 × Stt)) (n : Nat) (x1 : Int32) (x3 : Int32) (x4 : Int32) (x5 : Int32) (S : Stt) : fl_X8_meant_103 ke (n + 1) x1 x3 x4 x5 S = fb_X8_meant_103 (fl_X8_meant_103 ke n) ke x1 x3 x4 x5 S := by
  first | rfl | (simp only [fl_X8_meant_103])
theorem fls_X8_onesOf_20 (ke : Int32 → Int32 → Int32 → Int32 → Int32 → Int32 → Stt → Option (Int32 × Stt)) (n : Nat) (x1 : Int32) (x2 : Int32) (x3 : Int32) (x4 : Int32) (x5 : Int32) (x6 : Int32) (x7 : Int32) (S : Stt) : fl_X8_onesOf_20 ke (n + 1) x1 x2 x3 x4 x5 x6 x7 S = fb_X8_onesOf_20 (fl_X8_onesOf_20 ke n) ke x1 x2 x3 x4 x5 x6 x7 S := by
  first | rfl | (simp only [fl_X8_onesOf_20])
theorem fls_X8_onesOf_11 (ke : Int32 → Stt → Option (Int32 × Stt)) (n : Nat) (x1 : Int32) (x2 : Int32) (x3 : Int32) (x4 : Int32) (x5 : Int32) (x6 : Int32) (S : Stt) : fl_X8_onesOf_11 ke (n + 1) x1 x2 x3 x4 x5 x6 S = fb_X8_onesOf_11 (fl_X8_onesOf_11 ke n) ke x1 x2 x3 x4 x5 x6 S := by
  first | rfl | (simp only [fl_X8_onesOf_11])
theorem fls_X5_faultOf_36 (ke : Stt → Option (Int32 × Stt)) (n : Nat) (b3 : Nat) (x4 : Int32) (S : Stt) : fl_X5_faultOf_36 ke (n + 1) b3 x4 S = fb_X5_faultOf_36 (fl_X5_faultOf_36 ke n) ke b3 x4 S := by
  first | rfl | (simp only [fl_X5_faultOf_36])
theorem fls_X7_most_17 (ke : Int32 → Int32 → Stt → Option (Int32 × Stt)) (n : Nat) (x1 : Int32) (x2 : Int32) (x3 : Int32) (S : Stt) : fl_X7_most_17 ke (n + 1) x1 x2 x3 S = fb_X7_most_17 (fl_X7_most_17 ke n) ke x1 x2 x3 S := by
  first | rfl | (simp only [fl_X7_most_17])
theorem fls_X8_odds_49 (ke : Int32 → Int32 → Stt → Option (Int32 × Stt)) (n : Nat) (x3 : Int32) (x4 : Int32) (x5 : Int32) (S : Stt) : fl_X8_odds_49 ke (n + 1) x3 x4 x5 S = fb_X8_odds_49 (fl_X8_odds_49 ke n) ke x3 x4 x5 S := by
  first | rfl | (simp only [fl_X8_odds_49])
theorem fls_X8_waitsOn_29 (ke : Int32 → Stt → Option (Int32 × Stt)) (n : Nat) (x2 : Int32) (x3 : Int32) (x4 : Int32) (x5 : Int32) (x6 : Int32) (x7 : Int32) (S : Stt) : fl_X8_waitsOn_29 ke (n + 1) x2 x3 x4 x5 x6 x7 S = fb_X8_waitsOn_29 (fl_X8_waitsOn_29 ke n) ke x2 x3 x4 x5 x6 x7 S := by
  first | rfl | (simp only [fl_X8_waitsOn_29])
theorem fls_X7_book_74 (ke : Stt → Option (Int32 × Stt)) (n : Nat) (x2 : Int32) (S : Stt) : fl_X7_book_74 ke (n + 1) x2 S = fb_X7_book_74 (fl_X7_book_74 ke n) ke x2 S := by
  first | rfl | (simp only [fl_X7_book_74])
theorem fls_X8_allWaits_4 (ke : Int32 → Stt → Option (Int32 × Stt)) (n : Nat) (x1 : Int32) (x2 : Int32) (S : Stt) : fl_X8_allWaits_4 ke (n + 1) x1 x2 S = fb_X8_allWaits_4 (fl_X8_allWaits_4 ke n) ke x1 x2 S := by
  first | rfl | (simp only [fl_X8_allWaits_4])
theorem fls_X8_flipsOf_15 (ke : Int32 → Stt → Option (Int32 × Stt)) (n : Nat) (x1 : Int32) (x2 : Int32) (x3 : Int32) (x4 : Int32) (x5 : Int32) (S : Stt) : fl_X8_flipsOf_15 ke (n + 1) x1 x2 x3 x4 x5 S = fb_X8_flipsOf_15 (fl_X8_flipsOf_15 ke n) ke x1 x2 x3 x4 x5 S := by
  first | rfl | (simp only [fl_X8_flipsOf_15])
theorem fls_X8_freeFrom_2 (ke : Stt → Option (Int32 × Stt)) (n : Nat) (x1 : Int32) (x3 : Int32) (S : Stt) : fl_X8_freeFrom_2 ke (n + 1) x1 x3 S = fb_X8_freeFrom_2 (fl_X8_freeFrom_2 ke n) ke x1 x3 S := by
  first | rfl | (simp only [fl_X8_freeFrom_2])
theorem fls_X8_kinds_71 (ke : Int32 → Int32 → Int32 → Stt → Option (Int32 × Stt)) (n : Nat) (x1 : Int32) (x2 : Int32) (x3 : Int32) (x4 : Int32) (x5 : Int32) (x6 : Int32) (x7 : Int32) (S : Stt) : fl_X8_kinds_71 ke (n + 1) x1 x2 x3 x4 x5 x6 x7 S = fb_X8_kinds_71 (fl_X8_kinds_71 ke n) ke x1 x2 x3 x4 x5 x6 x7 S := by
  first | rfl | (simp only [fl_X8_kinds_71])
theorem fls_X8_lots_31 (ke : Int32 → Stt → Option (Int32 × Stt)) (n : Nat) (x1 : Int32) (y3 : Int64) (x5 : Int32) (x6 : Int32) (S : Stt) : fl_X8_lots_31 ke (n + 1) x1 y3 x5 x6 S = fb_X8_lots_31 (fl_X8_lots_31 ke n) ke x1 y3 x5 x6 S := by
  first | rfl | (simp only [fl_X8_lots_31])
theorem fls_X8_matter_22 (ke : Int32 → Stt → Option (Int32 × Stt)) (n : Nat) (x1 : Int32) (x2 : Int32) (x3 : Int32) (x4 : Int32) (S : Stt) : fl_X8_matter_22 ke (n + 1) x1 x2 x3 x4 S = fb_X8_matter_22 (fl_X8_matter_22 ke n) ke x1 x2 x3 x4 S := by
  first | rfl | (simp only [fl_X8_matter_22])
theorem fls_X8_deeds_32 (ke : Int32 → Int32 → Int32 → Stt → Option (Int32 × Stt)) (n : Nat) (x1 : Int32) (x2 : Int32) (x4 : Int32) (x5 : Int32) (S : Stt) : fl_X8_deeds_32 ke (n + 1) x1 x2 x4 x5 S = fb_X8_deeds_32 (fl_X8_deeds_32 ke n) ke x1 x2 x4 x5 S := by
  first | rfl | (simp only [fl_X8_deeds_32])
theorem fls_X8_flip_28 (ke : Stt → Option (Int32 × Stt)) (n : Nat) (x3 : Int32) (x4 : Int32) (S : Stt) : fl_X8_flip_28 ke (n + 1) x3 x4 S = fb_X8_flip_28 (fl_X8_flip_28 ke n) ke x3 x4 S := by
  first | rfl | (simp only [fl_X8_flip_28])
theorem fls_X8_front_6 (ke : Stt → Option (Int32 × Stt)) (n : Nat) (x1 : Int32) (S : Stt) : fl_X8_front_6 ke (n + 1) x1 S = fb_X8_front_6 (fl_X8_front_6 ke n) ke x1 S := by
  first | rfl | (simp only [fl_X8_front_6])
theorem fls_X8_front_34 (ke : Int32 → Stt → Option (Int32 × Stt)) (n : Nat) (x1 : Int32) (x2 : Int32) (S : Stt) : fl_X8_front_34 ke (n + 1) x1 x2 S = fb_X8_front_34 (fl_X8_front_34 ke n) ke x1 x2 S := by
  first | rfl | (simp only [fl_X8_front_34])
theorem fls_X8_most_6 (ke : Int32 → Int32 → Stt → Option (Int32 × Stt)) (n : Nat) (x1 : Int32) (x2 : Int32) (x3 : Int32) (S : Stt) : fl_X8_most_6 ke (n + 1) x1 x2 x3 S = fb_X8_most_6 (fl_X8_most_6 ke n) ke x1 x2 x3 S := by
  first | rfl | (simp only [fl_X8_most_6])
theorem fls_X4_tryFrom_3 (fr : Int32 → Int32 → Int32 → Stt → Option (Stt)) (ke : Stt → Option (Stt)) (n : Nat) (x1 : Int32) (x2 : Int32) (x3 : Int32) (x4 : Int32) (S : Stt) : fl_X4_tryFrom_3 fr ke (n + 1) x1 x2 x3 x4 S = fb_X4_tryFrom_3 fr (fl_X4_tryFrom_3 fr ke n) ke x1 x2 x3 x4 S := by
  first | rfl | (simp only [fl_X4_tryFrom_3])
theorem fls_X8_orderOn_58 (fr : Int32 → Int32 → Int32 → Int32 → Stt → Option (Stt)) (ke : Stt → Option (Stt)) (n : Nat) (x1 : Int32) (x2 : Int32) (x3 : Int32) (x4 : Int32) (x5 : Int32) (S : Stt) : fl_X8_orderOn_58 fr ke (n + 1) x1 x2 x3 x4 x5 S = fb_X8_orderOn_58 fr (fl_X8_orderOn_58 fr ke n) ke x1 x2 x3 x4 x5 S := by
  first | rfl | (simp only [fl_X8_orderOn_58])
theorem fls_X8_orderOn_28 (fr : Int32 → Int32 → Int32 → Int32 → Stt → Option (Stt)) (ke : Stt → Option (Stt)) (n : Nat) (x2 : Int32) (x5 : Int32) (S : Stt) : fl_X8_orderOn_28 fr ke (n + 1) x2 x5 S = fb_X8_orderOn_28 fr (fl_X8_orderOn_28 fr ke n) ke x2 x5 S := by
  first | rfl | (simp only [fl_X8_orderOn_28])
theorem fls_X8_readOn_61 (fr : Int32 → Int32 → Stt → Option (Stt)) (ke : Stt → Option (Stt)) (n : Nat) (x1 : Int32) (x2 : Int32) (x3 : Int32) (S : Stt) : fl_X8_readOn_61 fr ke (n + 1) x1 x2 x3 S = fb_X8_readOn_61 fr (fl_X8_readOn_61 fr ke n) ke x1 x2 x3 S := by
  first | rfl | (simp only [fl_X8_readOn_61])
theorem fls_X8_readOn_29 (fr : Int32 → Int32 → Stt → Option (Stt)) (ke : Stt → Option (Stt)) (n : Nat) (x4 : Int32) (S : Stt) : fl_X8_readOn_29 fr ke (n + 1) x4 S = fb_X8_readOn_29 fr (fl_X8_readOn_29 fr ke n) ke x4 S := by
  first | rfl | (simp only [fl_X8_readOn_29])
theorem fls_X8_best_58 (ke : Stt → Option (Int32 × Stt)) (n : Nat) (x1 : Int32) (x2 : Int32) (S : Stt) : fl_X8_best_58 ke (n + 1) x1 x2 S = fb_X8_best_58 (fl_X8_best_58 ke n) ke x1 x2 S := by
  first | rfl | (simp only [fl_X8_best_58])
theorem fls_X2_tryDay_3 (fr : Nat → Int32 → Int32 → Stt → Option (Stt)) (ke : Stt → Option (Stt)) (n : Nat) (b1 : Nat) (x3 : Int32) (x4 : Int32) (x5 : Int32) (S : Stt) : fl_X2_tryDay_3 fr ke (n + 1) b1 x3 x4 x5 S = fb_X2_tryDay_3 fr (fl_X2_tryDay_3 fr ke n) ke b1 x3 x4 x5 S := by
  first | rfl | (simp only [fl_X2_tryDay_3])
theorem fls_X2_findBest_9 (ke : Nat → Stt → Option (Stt)) (n : Nat) (b1 : Nat) (x3 : Int32) (S : Stt) : fl_X2_findBest_9 ke (n + 1) b1 x3 S = fb_X2_findBest_9 (fl_X2_findBest_9 ke n) ke b1 x3 S := by
  first | rfl | (simp only [fl_X2_findBest_9])
theorem fls_X7_best_70 (ke : Stt → Option (Int32 × Stt)) (n : Nat) (x1 : Int32) (x2 : Int32) (S : Stt) : fl_X7_best_70 ke (n + 1) x1 x2 S = fb_X7_best_70 (fl_X7_best_70 ke n) ke x1 x2 S := by
  first | rfl | (simp only [fl_X7_best_70])
