theorem mem_r {ws : List Cond} (ps : List Nat) (hp : ws = ps.filterMap (fun i => lw_tbl[i]?)) (h : ws.all stw = true) : ∀ w ∈ ws, w ∈ tbs := by
  intro w hw
  refine tbs_of ?_ (List.all_eq_true.mp h w hw)
  rw [hp] at hw
  obtain ⟨i, -, hi⟩ := List.mem_filterMap.mp hw
  exact List.mem_of_getElem? hi
theorem tw_0 : Cond.fieldLink RX6 11 "LastPage$Shelf" "places" "[[I" ∈ tbs := tbs_of (List.mem_of_getElem? (i := 87) (by decide +kernel)) rfl
theorem tw_1 : Cond.fieldLink RX6 16 "LastPage$Shelf" "sizes" "[I" ∈ tbs := tbs_of (List.mem_of_getElem? (i := 88) (by decide +kernel)) rfl
theorem tw_2 : Cond.fieldLink RX3 9 "LastPage$Page" "kind" "I" ∈ tbs := tbs_of (List.mem_of_getElem? (i := 108) (by decide +kernel)) rfl
theorem tw_3 : Cond.fieldLinkNest RX0 30 "LastPage$Page" "kind" "I" "LastPage" ∈ tbs := tbs_of (List.mem_of_getElem? (i := 109) (by decide +kernel)) rfl
theorem tw_4 : Cond.fieldLinkNest RX7 172 "LastPage$Page" "kind" "I" "LastPage" ∈ tbs := tbs_of (List.mem_of_getElem? (i := 110) (by decide +kernel)) rfl
theorem tw_5 : Cond.fieldLink RX3 15 "LastPage$Page" "points" "I" ∈ tbs := tbs_of (List.mem_of_getElem? (i := 111) (by decide +kernel)) rfl
theorem tw_6 : Cond.fieldLinkNest RX0 33 "LastPage$Page" "points" "I" "LastPage" ∈ tbs := tbs_of (List.mem_of_getElem? (i := 112) (by decide +kernel)) rfl
theorem tw_7 : Cond.fieldLink RX3 18 "LastPage$Page" "verdict" "I" ∈ tbs := tbs_of (List.mem_of_getElem? (i := 113) (by decide +kernel)) rfl
theorem tw_8 : Cond.fieldLinkNest RX0 36 "LastPage$Page" "verdict" "I" "LastPage" ∈ tbs := tbs_of (List.mem_of_getElem? (i := 114) (by decide +kernel)) rfl
theorem tw_9 : Cond.fieldLinkNest RX7 175 "LastPage$Page" "verdict" "I" "LastPage" ∈ tbs := tbs_of (List.mem_of_getElem? (i := 115) (by decide +kernel)) rfl
theorem tw_10 : Cond.fieldLink RX3 21 "LastPage$Page" "words" "I" ∈ tbs := tbs_of (List.mem_of_getElem? (i := 116) (by decide +kernel)) rfl
theorem tw_11 : Cond.fieldLinkNest RX0 64 "LastPage$Page" "words" "I" "LastPage" ∈ tbs := tbs_of (List.mem_of_getElem? (i := 117) (by decide +kernel)) rfl
theorem tw_12 : Cond.fieldLinkNest RX7 157 "LastPage$Page" "words" "I" "LastPage" ∈ tbs := tbs_of (List.mem_of_getElem? (i := 118) (by decide +kernel)) rfl
theorem tw_13 : Cond.fieldLink RX3 24 "LastPage$Page" "fact" "I" ∈ tbs := tbs_of (List.mem_of_getElem? (i := 119) (by decide +kernel)) rfl
theorem tw_14 : Cond.fieldLinkNest RX0 43 "LastPage$Page" "fact" "I" "LastPage" ∈ tbs := tbs_of (List.mem_of_getElem? (i := 120) (by decide +kernel)) rfl
theorem tw_15 : Cond.fieldLinkNest RX2 31 "LastPage$Page" "day" "I" "LastPage" ∈ tbs := tbs_of (List.mem_of_getElem? (i := 121) (by decide +kernel)) rfl
theorem tw_16 : Cond.fieldLink RX3 27 "LastPage$Page" "day" "I" ∈ tbs := tbs_of (List.mem_of_getElem? (i := 122) (by decide +kernel)) rfl
theorem tw_17 : Cond.fieldLinkNest RX0 46 "LastPage$Page" "day" "I" "LastPage" ∈ tbs := tbs_of (List.mem_of_getElem? (i := 123) (by decide +kernel)) rfl
theorem tw_18 : Cond.fieldLinkNest RX7 163 "LastPage$Page" "day" "I" "LastPage" ∈ tbs := tbs_of (List.mem_of_getElem? (i := 124) (by decide +kernel)) rfl
theorem tw_19 : Cond.fieldLink RX3 30 "LastPage$Page" "plainly" "I" ∈ tbs := tbs_of (List.mem_of_getElem? (i := 125) (by decide +kernel)) rfl
theorem tw_20 : Cond.fieldLink RX0 11 "LastPage$Book" "pages" "[LLastPage$Page;" ∈ tbs := tbs_of (List.mem_of_getElem? (i := 141) (by decide +kernel)) rfl
theorem tw_21 : Cond.fieldLinkNest RX2 27 "LastPage$Book" "pages" "[LLastPage$Page;" "LastPage" ∈ tbs := tbs_of (List.mem_of_getElem? (i := 142) (by decide +kernel)) rfl
theorem tw_22 : Cond.fieldLinkNest RX7 141 "LastPage$Book" "pages" "[LLastPage$Page;" "LastPage" ∈ tbs := tbs_of (List.mem_of_getElem? (i := 143) (by decide +kernel)) rfl
theorem tw_23 : Cond.fieldLink RX0 17 "LastPage$Book" "ranked" "[I" ∈ tbs := tbs_of (List.mem_of_getElem? (i := 144) (by decide +kernel)) rfl
theorem tw_24 : Cond.fieldLink RX0 22 "LastPage$Book" "count" "I" ∈ tbs := tbs_of (List.mem_of_getElem? (i := 145) (by decide +kernel)) rfl
theorem tw_25 : Cond.fieldLinkNest RX2 22 "LastPage$Book" "count" "I" "LastPage" ∈ tbs := tbs_of (List.mem_of_getElem? (i := 146) (by decide +kernel)) rfl
theorem tw_26 : Cond.fieldLinkNest RX5 55 "LastPage$Book" "count" "I" "LastPage" ∈ tbs := tbs_of (List.mem_of_getElem? (i := 147) (by decide +kernel)) rfl
theorem tw_27 : Cond.fieldLinkNest RX1 56 "LastPage$Book" "count" "I" "LastPage" ∈ tbs := tbs_of (List.mem_of_getElem? (i := 148) (by decide +kernel)) rfl
theorem tw_28 : Cond.fieldLinkNest RX7 134 "LastPage$Book" "count" "I" "LastPage" ∈ tbs := tbs_of (List.mem_of_getElem? (i := 149) (by decide +kernel)) rfl
theorem tw_29 : Cond.fieldLink RX5 9 "LastPage$Scribe" "texts" "LLastPage$Shelf;" ∈ tbs := tbs_of (List.mem_of_getElem? (i := 164) (by decide +kernel)) rfl
theorem tw_30 : Cond.fieldLink RX5 15 "LastPage$Scribe" "t" "I" ∈ tbs := tbs_of (List.mem_of_getElem? (i := 165) (by decide +kernel)) rfl
theorem tw_31 : Cond.fieldLink RX5 25 "LastPage$Scribe" "size" "I" ∈ tbs := tbs_of (List.mem_of_getElem? (i := 166) (by decide +kernel)) rfl
theorem tw_32 : Cond.fieldLink RX5 28 "LastPage$Scribe" "place" "I" ∈ tbs := tbs_of (List.mem_of_getElem? (i := 167) (by decide +kernel)) rfl
theorem tw_33 : Cond.fieldLink RX5 31 "LastPage$Scribe" "stuck" "Z" ∈ tbs := tbs_of (List.mem_of_getElem? (i := 168) (by decide +kernel)) rfl
theorem tw_34 : Cond.fieldLink RX1 9 "LastPage$Court" "ones" "[I" ∈ tbs := tbs_of (List.mem_of_getElem? (i := 186) (by decide +kernel)) rfl
theorem tw_35 : Cond.fieldLink RX1 34 "LastPage$Court" "heard" "I" ∈ tbs := tbs_of (List.mem_of_getElem? (i := 187) (by decide +kernel)) rfl
theorem tw_36 : Cond.fieldLinkNest RX7 227 "LastPage$Court" "heard" "I" "LastPage" ∈ tbs := tbs_of (List.mem_of_getElem? (i := 188) (by decide +kernel)) rfl
theorem tw_37 : Cond.fieldLink RX1 38 "LastPage$Court" "always" "I" ∈ tbs := tbs_of (List.mem_of_getElem? (i := 189) (by decide +kernel)) rfl
theorem tw_38 : Cond.fieldLinkNest RX7 233 "LastPage$Court" "always" "I" "LastPage" ∈ tbs := tbs_of (List.mem_of_getElem? (i := 190) (by decide +kernel)) rfl
theorem tw_39 : Cond.fieldLink RX1 41 "LastPage$Court" "ever" "I" ∈ tbs := tbs_of (List.mem_of_getElem? (i := 191) (by decide +kernel)) rfl
theorem tw_40 : Cond.fieldLinkNest RX4 52 "LastPage$Court" "ever" "I" "LastPage" ∈ tbs := tbs_of (List.mem_of_getElem? (i := 192) (by decide +kernel)) rfl
theorem tw_41 : Cond.fieldLinkNest RX7 280 "LastPage$Court" "ever" "I" "LastPage" ∈ tbs := tbs_of (List.mem_of_getElem? (i := 193) (by decide +kernel)) rfl
theorem tw_42 : Cond.fieldLink RX1 15 "LastPage$Court" "alwaysOn" "[I" ∈ tbs := tbs_of (List.mem_of_getElem? (i := 194) (by decide +kernel)) rfl
theorem tw_43 : Cond.fieldLink RX1 18 "LastPage$Court" "everOn" "[I" ∈ tbs := tbs_of (List.mem_of_getElem? (i := 195) (by decide +kernel)) rfl
theorem tw_44 : Cond.fieldLink RX1 72 "LastPage$Court" "daysRead" "I" ∈ tbs := tbs_of (List.mem_of_getElem? (i := 196) (by decide +kernel)) rfl
theorem tw_45 : Cond.fieldLink RX1 21 "LastPage$Court" "flipDays" "[I" ∈ tbs := tbs_of (List.mem_of_getElem? (i := 197) (by decide +kernel)) rfl
theorem tw_46 : Cond.fieldLinkNest RX7 274 "LastPage$Court" "flipDays" "[I" "LastPage" ∈ tbs := tbs_of (List.mem_of_getElem? (i := 198) (by decide +kernel)) rfl
theorem tw_47 : Cond.fieldLink RX4 9 "LastPage$Planner" "clearOn" "[I" ∈ tbs := tbs_of (List.mem_of_getElem? (i := 222) (by decide +kernel)) rfl
theorem tw_48 : Cond.fieldLink RX4 15 "LastPage$Planner" "deeds" "[I" ∈ tbs := tbs_of (List.mem_of_getElem? (i := 223) (by decide +kernel)) rfl
theorem tw_49 : Cond.fieldLink RX4 39 "LastPage$Planner" "size" "I" ∈ tbs := tbs_of (List.mem_of_getElem? (i := 224) (by decide +kernel)) rfl
theorem tw_50 : Cond.fieldLink RX4 18 "LastPage$Planner" "days" "[I" ∈ tbs := tbs_of (List.mem_of_getElem? (i := 225) (by decide +kernel)) rfl
theorem tw_51 : Cond.fieldLink RX4 21 "LastPage$Planner" "tried" "[I" ∈ tbs := tbs_of (List.mem_of_getElem? (i := 226) (by decide +kernel)) rfl
theorem tw_52 : Cond.fieldLink RX4 24 "LastPage$Planner" "places" "[I" ∈ tbs := tbs_of (List.mem_of_getElem? (i := 227) (by decide +kernel)) rfl
theorem tw_53 : Cond.fieldLink RX4 59 "LastPage$Planner" "soonest" "I" ∈ tbs := tbs_of (List.mem_of_getElem? (i := 228) (by decide +kernel)) rfl
theorem tw_54 : Cond.fieldLinkNest RX7 259 "LastPage$Planner" "soonest" "I" "LastPage" ∈ tbs := tbs_of (List.mem_of_getElem? (i := 229) (by decide +kernel)) rfl
theorem tw_55 : Cond.fieldLink RX2 9 "LastPage$Orders" "tried" "[I" ∈ tbs := tbs_of (List.mem_of_getElem? (i := 251) (by decide +kernel)) rfl
theorem tw_56 : Cond.fieldLink RX2 15 "LastPage$Orders" "best" "[I" ∈ tbs := tbs_of (List.mem_of_getElem? (i := 252) (by decide +kernel)) rfl
theorem tw_57 : Cond.fieldLinkNest RX7 290 "LastPage$Orders" "best" "[I" "LastPage" ∈ tbs := tbs_of (List.mem_of_getElem? (i := 253) (by decide +kernel)) rfl
theorem tw_58 : Cond.fieldLink RX2 18 "LastPage$Orders" "least" "I" ∈ tbs := tbs_of (List.mem_of_getElem? (i := 254) (by decide +kernel)) rfl
theorem tw_59 : Cond.fieldLinkNest RX7 293 "LastPage$Orders" "least" "I" "LastPage" ∈ tbs := tbs_of (List.mem_of_getElem? (i := 255) (by decide +kernel)) rfl
theorem tw_60 : Cond.fieldLink RX7 14 "LastPage" "rows" "LLastPage$Shelf;" ∈ tbs := tbs_of (List.mem_of_getElem? (i := 263) (by decide +kernel)) rfl
theorem tw_61 : Cond.fieldLink RX7 18 "LastPage" "texts" "LLastPage$Shelf;" ∈ tbs := tbs_of (List.mem_of_getElem? (i := 264) (by decide +kernel)) rfl
theorem tw_62 : Cond.fieldLink RX7 24 "LastPage" "book" "LLastPage$Book;" ∈ tbs := tbs_of (List.mem_of_getElem? (i := 265) (by decide +kernel)) rfl
theorem tw_63 : Cond.fieldLink RX7 28 "LastPage" "trial" "LLastPage$Book;" ∈ tbs := tbs_of (List.mem_of_getElem? (i := 266) (by decide +kernel)) rfl
theorem tw_64 : Cond.fieldLink RX7 31 "LastPage" "kept" "[LLastPage$Book;" ∈ tbs := tbs_of (List.mem_of_getElem? (i := 267) (by decide +kernel)) rfl
theorem tw_65 : Cond.fieldLink RX7 38 "LastPage" "scribe" "LLastPage$Scribe;" ∈ tbs := tbs_of (List.mem_of_getElem? (i := 268) (by decide +kernel)) rfl
theorem tw_66 : Cond.fieldLink RX7 45 "LastPage" "court" "LLastPage$Court;" ∈ tbs := tbs_of (List.mem_of_getElem? (i := 269) (by decide +kernel)) rfl
theorem tw_67 : Cond.fieldLink RX7 52 "LastPage" "planner" "LLastPage$Planner;" ∈ tbs := tbs_of (List.mem_of_getElem? (i := 270) (by decide +kernel)) rfl
theorem tw_68 : Cond.fieldLink RX7 59 "LastPage" "orders" "LLastPage$Orders;" ∈ tbs := tbs_of (List.mem_of_getElem? (i := 271) (by decide +kernel)) rfl
theorem tw_69 : Cond.fieldLink RX7 63 "LastPage" "found" "[I" ∈ tbs := tbs_of (List.mem_of_getElem? (i := 272) (by decide +kernel)) rfl
theorem tw_70 : Cond.fieldLink RX7 330 "LastPage" "latestFinding" "I" ∈ tbs := tbs_of (List.mem_of_getElem? (i := 273) (by decide +kernel)) rfl
theorem tw_71 : Cond.fieldLink RX7 94 "LastPage" "lastAsked" "I" ∈ tbs := tbs_of (List.mem_of_getElem? (i := 274) (by decide +kernel)) rfl
theorem tw_72 : Cond.fieldLink RX7 318 "LastPage" "upperNumber" "J" ∈ tbs := tbs_of (List.mem_of_getElem? (i := 275) (by decide +kernel)) rfl
theorem tw_73 : Cond.fieldLink RX7 67 "LastPage" "lowerNumber" "J" ∈ tbs := tbs_of (List.mem_of_getElem? (i := 276) (by decide +kernel)) rfl
theorem tw_74 : Cond.fieldLinkNest RX5 68 "LastPage" "LETTERS" "[I" "LastPage" ∈ tbs := tbs_of (List.mem_of_getElem? (i := 414) (by decide +kernel)) rfl
theorem tw_75 : Cond.fieldLinkNest RX3 37 "LastPage" "CASES_WITH" "[I" "LastPage" ∈ tbs := tbs_of (List.mem_of_getElem? (i := 431) (by decide +kernel)) rfl
theorem tw_76 : Cond.fieldLink RX8 72 "LastPageModel" "finding" "I" ∈ tbs := tbs_of (List.mem_of_getElem? (i := 859) (by decide +kernel)) rfl
theorem tw_77 : Cond.fieldLink RX8 7 "LastPageModel" "findings" "[I" ∈ tbs := tbs_of (List.mem_of_getElem? (i := 860) (by decide +kernel)) rfl
theorem tw_78 : Cond.fieldLink RX8 75 "LastPageModel" "asked" "I" ∈ tbs := tbs_of (List.mem_of_getElem? (i := 861) (by decide +kernel)) rfl
theorem tw_79 : Cond.fieldLink RX8 200 "LastPageModel" "upper" "J" ∈ tbs := tbs_of (List.mem_of_getElem? (i := 862) (by decide +kernel)) rfl
theorem tw_80 : Cond.fieldLink RX8 13 "LastPageModel" "lower" "J" ∈ tbs := tbs_of (List.mem_of_getElem? (i := 863) (by decide +kernel)) rfl
theorem tw_81 : Cond.fieldLink RX8 17 "LastPageModel" "sizes" "[I" ∈ tbs := tbs_of (List.mem_of_getElem? (i := 864) (by decide +kernel)) rfl
theorem tw_82 : Cond.fieldLink RX8 20 "LastPageModel" "rows" "[I" ∈ tbs := tbs_of (List.mem_of_getElem? (i := 865) (by decide +kernel)) rfl
theorem tw_83 : Cond.fieldLink RX8 23 "LastPageModel" "moving" "[I" ∈ tbs := tbs_of (List.mem_of_getElem? (i := 866) (by decide +kernel)) rfl
theorem tw_84 : Cond.fieldLink RX8 26 "LastPageModel" "lengths" "[I" ∈ tbs := tbs_of (List.mem_of_getElem? (i := 867) (by decide +kernel)) rfl
theorem tw_85 : Cond.fieldLink RX8 29 "LastPageModel" "texts" "[I" ∈ tbs := tbs_of (List.mem_of_getElem? (i := 868) (by decide +kernel)) rfl
theorem tw_86 : Cond.fieldLink RX8 141 "LastPageModel" "many" "I" ∈ tbs := tbs_of (List.mem_of_getElem? (i := 869) (by decide +kernel)) rfl
theorem tw_87 : Cond.fieldLink RX8 32 "LastPageModel" "kinds" "[I" ∈ tbs := tbs_of (List.mem_of_getElem? (i := 870) (by decide +kernel)) rfl
theorem tw_88 : Cond.fieldLink RX8 35 "LastPageModel" "verdicts" "[I" ∈ tbs := tbs_of (List.mem_of_getElem? (i := 871) (by decide +kernel)) rfl
theorem tw_89 : Cond.fieldLink RX8 38 "LastPageModel" "words" "[I" ∈ tbs := tbs_of (List.mem_of_getElem? (i := 872) (by decide +kernel)) rfl
theorem tw_90 : Cond.fieldLink RX8 41 "LastPageModel" "points" "[I" ∈ tbs := tbs_of (List.mem_of_getElem? (i := 873) (by decide +kernel)) rfl
theorem tw_91 : Cond.fieldLink RX8 44 "LastPageModel" "facts" "[I" ∈ tbs := tbs_of (List.mem_of_getElem? (i := 874) (by decide +kernel)) rfl
theorem tw_92 : Cond.fieldLink RX8 47 "LastPageModel" "days" "[I" ∈ tbs := tbs_of (List.mem_of_getElem? (i := 875) (by decide +kernel)) rfl
theorem tw_93 : Cond.fieldLink RX8 113 "LastPageModel" "readAt" "I" ∈ tbs := tbs_of (List.mem_of_getElem? (i := 876) (by decide +kernel)) rfl
theorem tw_94 : Cond.fieldLink RX8 122 "LastPageModel" "readMany" "I" ∈ tbs := tbs_of (List.mem_of_getElem? (i := 877) (by decide +kernel)) rfl
theorem tw_95 : Cond.fieldLink RX8 50 "LastPageModel" "readPages" "[I" ∈ tbs := tbs_of (List.mem_of_getElem? (i := 878) (by decide +kernel)) rfl
theorem tw_96 : Cond.fieldLink RX8 53 "LastPageModel" "leftOut" "I" ∈ tbs := tbs_of (List.mem_of_getElem? (i := 879) (by decide +kernel)) rfl
theorem tw_97 : Cond.fieldLink RX8 57 "LastPageModel" "kept" "[I" ∈ tbs := tbs_of (List.mem_of_getElem? (i := 880) (by decide +kernel)) rfl
theorem tw_98 : Cond.fieldLink RX8 184 "LastPageModel" "ways" "I" ∈ tbs := tbs_of (List.mem_of_getElem? (i := 881) (by decide +kernel)) rfl
theorem tw_99 : Cond.fieldLink RX8 60 "LastPageModel" "told" "[I" ∈ tbs := tbs_of (List.mem_of_getElem? (i := 882) (by decide +kernel)) rfl
theorem tw_100 : Cond.fieldLink RX8 223 "LastPageModel" "bestLast" "I" ∈ tbs := tbs_of (List.mem_of_getElem? (i := 883) (by decide +kernel)) rfl
theorem tw_101 : Cond.fieldLink RX8 63 "LastPageModel" "laid" "[I" ∈ tbs := tbs_of (List.mem_of_getElem? (i := 884) (by decide +kernel)) rfl
theorem tw_102 : Cond.fieldLink RX8 231 "LastPageModel" "flipDay" "I" ∈ tbs := tbs_of (List.mem_of_getElem? (i := 885) (by decide +kernel)) rfl
theorem tw_103 : Cond.fieldLink RX8 66 "LastPageModel" "daysAside" "[I" ∈ tbs := tbs_of (List.mem_of_getElem? (i := 886) (by decide +kernel)) rfl
theorem tw_104 : Cond.fieldLink RX8 237 "LastPageModel" "bestWaits" "I" ∈ tbs := tbs_of (List.mem_of_getElem? (i := 887) (by decide +kernel)) rfl
theorem tw_105 : Cond.fieldLink RX8 69 "LastPageModel" "bestLaid" "[I" ∈ tbs := tbs_of (List.mem_of_getElem? (i := 888) (by decide +kernel)) rfl
theorem tw_106 : Cond.fieldLink RX8 263 "LastPageModel" "h0" "J" ∈ tbs := tbs_of (List.mem_of_getElem? (i := 889) (by decide +kernel)) rfl
theorem tw_107 : Cond.methodLink RL 9 yX7_init ∈ tbs := tbs_of (List.mem_of_getElem? (i := 70) (by decide +kernel)) rfl
theorem tw_108 : Cond.methodLink RX7 1 objectInit ∈ tbs := tbs_of (List.mem_of_getElem? (i := 73) (by decide +kernel)) rfl
theorem tw_109 : Cond.methodLink RX7 11 yX6_init ∈ tbs := tbs_of (List.mem_of_getElem? (i := 78) (by decide +kernel)) rfl
theorem tw_110 : Cond.methodLink RX6 3 objectInit ∈ tbs := tbs_of (List.mem_of_getElem? (i := 81) (by decide +kernel)) rfl
theorem tw_111 : Cond.methodLink RX6 20 yJ7_fill_53178 ∈ tbs := tbs_of (List.mem_of_getElem? (i := 84) (by decide +kernel)) rfl
theorem tw_112 : Cond.methodLink RX7 23 yX0_init ∈ tbs := tbs_of (List.mem_of_getElem? (i := 97) (by decide +kernel)) rfl
theorem tw_113 : Cond.methodLink RX0 3 objectInit ∈ tbs := tbs_of (List.mem_of_getElem? (i := 100) (by decide +kernel)) rfl
theorem tw_114 : Cond.methodLinkNest RX0 21 yX3_init "LastPage" ∈ tbs := tbs_of (List.mem_of_getElem? (i := 104) (by decide +kernel)) rfl
theorem tw_115 : Cond.methodLink RX3 3 objectInit ∈ tbs := tbs_of (List.mem_of_getElem? (i := 107) (by decide +kernel)) rfl
theorem tw_116 : Cond.methodLinkNest RX7 37 yX5_init "LastPage" ∈ tbs := tbs_of (List.mem_of_getElem? (i := 160) (by decide +kernel)) rfl
theorem tw_117 : Cond.methodLink RX5 3 objectInit ∈ tbs := tbs_of (List.mem_of_getElem? (i := 163) (by decide +kernel)) rfl
theorem tw_118 : Cond.methodLinkNest RX7 44 yX1_init "LastPage" ∈ tbs := tbs_of (List.mem_of_getElem? (i := 182) (by decide +kernel)) rfl
theorem tw_119 : Cond.methodLink RX1 3 objectInit ∈ tbs := tbs_of (List.mem_of_getElem? (i := 185) (by decide +kernel)) rfl
theorem tw_120 : Cond.methodLinkNest RX7 51 yX4_init "LastPage" ∈ tbs := tbs_of (List.mem_of_getElem? (i := 218) (by decide +kernel)) rfl
theorem tw_121 : Cond.methodLink RX4 3 objectInit ∈ tbs := tbs_of (List.mem_of_getElem? (i := 221) (by decide +kernel)) rfl
theorem tw_122 : Cond.methodLinkNest RX7 58 yX2_init "LastPage" ∈ tbs := tbs_of (List.mem_of_getElem? (i := 247) (by decide +kernel)) rfl
theorem tw_123 : Cond.methodLink RX2 3 objectInit ∈ tbs := tbs_of (List.mem_of_getElem? (i := 250) (by decide +kernel)) rfl
theorem tw_124 : Cond.methodLink RL 13 yX7_row ∈ tbs := tbs_of (List.mem_of_getElem? (i := 306) (by decide +kernel)) rfl
theorem tw_125 : Cond.methodLink RX7 71 yX6_isOne ∈ tbs := tbs_of (List.mem_of_getElem? (i := 310) (by decide +kernel)) rfl
theorem tw_126 : Cond.methodLink RX7 75 yX7_refuse ∈ tbs := tbs_of (List.mem_of_getElem? (i := 314) (by decide +kernel)) rfl
theorem tw_127 : Cond.methodLink RX7 79 yX6_make ∈ tbs := tbs_of (List.mem_of_getElem? (i := 318) (by decide +kernel)) rfl
theorem tw_128 : Cond.methodLink RL 18 yX7_lay ∈ tbs := tbs_of (List.mem_of_getElem? (i := 322) (by decide +kernel)) rfl
theorem tw_129 : Cond.methodLink RX7 83 yX6_isThere ∈ tbs := tbs_of (List.mem_of_getElem? (i := 326) (by decide +kernel)) rfl
theorem tw_130 : Cond.methodLink RX7 86 yX6_isPlace ∈ tbs := tbs_of (List.mem_of_getElem? (i := 330) (by decide +kernel)) rfl
theorem tw_131 : Cond.methodLink RX7 90 yX6_placeOf ∈ tbs := tbs_of (List.mem_of_getElem? (i := 334) (by decide +kernel)) rfl
theorem tw_132 : Cond.methodLink RX7 98 yX6_write ∈ tbs := tbs_of (List.mem_of_getElem? (i := 338) (by decide +kernel)) rfl
theorem tw_133 : Cond.methodLink RL 23 yX7_at ∈ tbs := tbs_of (List.mem_of_getElem? (i := 342) (by decide +kernel)) rfl
theorem tw_134 : Cond.methodLink RL 27 yX7_tear ∈ tbs := tbs_of (List.mem_of_getElem? (i := 346) (by decide +kernel)) rfl
theorem tw_135 : Cond.methodLink RX7 101 yX6_drop ∈ tbs := tbs_of (List.mem_of_getElem? (i := 350) (by decide +kernel)) rfl
theorem tw_136 : Cond.methodLink RL 32 yX7_copy ∈ tbs := tbs_of (List.mem_of_getElem? (i := 354) (by decide +kernel)) rfl
theorem tw_137 : Cond.methodLink RX7 105 yX6_arePlaces ∈ tbs := tbs_of (List.mem_of_getElem? (i := 358) (by decide +kernel)) rfl
theorem tw_138 : Cond.methodLink RX7 109 yX6_carry ∈ tbs := tbs_of (List.mem_of_getElem? (i := 362) (by decide +kernel)) rfl
theorem tw_139 : Cond.methodLink RX6 26 arraycopyName ∈ tbs := tbs_of (List.mem_of_getElem? (i := 366) (by decide +kernel)) rfl
theorem tw_140 : Cond.methodLink RL 37 yX7_mean ∈ tbs := tbs_of (List.mem_of_getElem? (i := 369) (by decide +kernel)) rfl
theorem tw_141 : Cond.methodLink RX7 113 yX6_sizeOf ∈ tbs := tbs_of (List.mem_of_getElem? (i := 373) (by decide +kernel)) rfl
theorem tw_142 : Cond.methodLink RX7 116 yX6_sumOf ∈ tbs := tbs_of (List.mem_of_getElem? (i := 377) (by decide +kernel)) rfl
theorem tw_143 : Cond.methodLink RL 41 yX7_text ∈ tbs := tbs_of (List.mem_of_getElem? (i := 381) (by decide +kernel)) rfl
theorem tw_144 : Cond.methodLink RL 45 yX7_put ∈ tbs := tbs_of (List.mem_of_getElem? (i := 385) (by decide +kernel)) rfl
theorem tw_145 : Cond.methodLink RL 49 yX7_fault ∈ tbs := tbs_of (List.mem_of_getElem? (i := 389) (by decide +kernel)) rfl
theorem tw_146 : Cond.methodLink RX7 120 yX5_faultOf ∈ tbs := tbs_of (List.mem_of_getElem? (i := 393) (by decide +kernel)) rfl
theorem tw_147 : Cond.methodLink RX5 19 yX6_sizeOf ∈ tbs := tbs_of (List.mem_of_getElem? (i := 397) (by decide +kernel)) rfl
theorem tw_148 : Cond.methodLink RX5 35 yX0_empty ∈ tbs := tbs_of (List.mem_of_getElem? (i := 398) (by decide +kernel)) rfl
theorem tw_149 : Cond.methodLink RX5 40 yX5_sign ∈ tbs := tbs_of (List.mem_of_getElem? (i := 402) (by decide +kernel)) rfl
theorem tw_150 : Cond.methodLink RX5 48 yX6_placeOf ∈ tbs := tbs_of (List.mem_of_getElem? (i := 406) (by decide +kernel)) rfl
theorem tw_151 : Cond.methodLink RX5 44 yX5_takeItem ∈ tbs := tbs_of (List.mem_of_getElem? (i := 407) (by decide +kernel)) rfl
theorem tw_152 : Cond.methodLink RX5 52 yX5_kindByLetter ∈ tbs := tbs_of (List.mem_of_getElem? (i := 411) (by decide +kernel)) rfl
theorem tw_153 : Cond.methodLink RX5 58 yX5_takeFigure ∈ tbs := tbs_of (List.mem_of_getElem? (i := 416) (by decide +kernel)) rfl
theorem tw_154 : Cond.methodLink RX5 61 yX0_append ∈ tbs := tbs_of (List.mem_of_getElem? (i := 420) (by decide +kernel)) rfl
theorem tw_155 : Cond.methodLink RX0 39 yX3_putWords ∈ tbs := tbs_of (List.mem_of_getElem? (i := 424) (by decide +kernel)) rfl
theorem tw_156 : Cond.methodLinkNest RX3 33 yX7_hasBit "LastPage" ∈ tbs := tbs_of (List.mem_of_getElem? (i := 428) (by decide +kernel)) rfl
theorem tw_157 : Cond.methodLink RX0 49 yX0_rank ∈ tbs := tbs_of (List.mem_of_getElem? (i := 433) (by decide +kernel)) rfl
theorem tw_158 : Cond.methodLink RX0 60 yX3_weight ∈ tbs := tbs_of (List.mem_of_getElem? (i := 437) (by decide +kernel)) rfl
theorem tw_159 : Cond.methodLink RX3 41 yJ6_bitCount_0f7a4 ∈ tbs := tbs_of (List.mem_of_getElem? (i := 441) (by decide +kernel)) rfl
theorem tw_160 : Cond.methodLink RX3 47 yX3_isOf ∈ tbs := tbs_of (List.mem_of_getElem? (i := 447) (by decide +kernel)) rfl
theorem tw_161 : Cond.methodLink RX5 65 yX5_takeWords ∈ tbs := tbs_of (List.mem_of_getElem? (i := 451) (by decide +kernel)) rfl
theorem tw_162 : Cond.methodLink RX5 72 yX5_isAtFigure ∈ tbs := tbs_of (List.mem_of_getElem? (i := 455) (by decide +kernel)) rfl
theorem tw_163 : Cond.methodLink RL 53 yX7_book ∈ tbs := tbs_of (List.mem_of_getElem? (i := 459) (by decide +kernel)) rfl
theorem tw_164 : Cond.methodLink RX7 124 yX0_become ∈ tbs := tbs_of (List.mem_of_getElem? (i := 463) (by decide +kernel)) rfl
theorem tw_165 : Cond.methodLink RX0 26 yX3_become ∈ tbs := tbs_of (List.mem_of_getElem? (i := 467) (by decide +kernel)) rfl
theorem tw_166 : Cond.methodLink RX7 128 yX0_turnFromEnd ∈ tbs := tbs_of (List.mem_of_getElem? (i := 471) (by decide +kernel)) rfl
theorem tw_167 : Cond.methodLink RX7 131 yX0_empty ∈ tbs := tbs_of (List.mem_of_getElem? (i := 475) (by decide +kernel)) rfl
theorem tw_168 : Cond.methodLink RL 57 yX7_page ∈ tbs := tbs_of (List.mem_of_getElem? (i := 476) (by decide +kernel)) rfl
theorem tw_169 : Cond.methodLink RX7 137 yX0_isOne ∈ tbs := tbs_of (List.mem_of_getElem? (i := 480) (by decide +kernel)) rfl
theorem tw_170 : Cond.methodLink RX7 138 yX0_tell ∈ tbs := tbs_of (List.mem_of_getElem? (i := 484) (by decide +kernel)) rfl
theorem tw_171 : Cond.methodLink RX0 52 yX0_isOne ∈ tbs := tbs_of (List.mem_of_getElem? (i := 488) (by decide +kernel)) rfl
theorem tw_172 : Cond.methodLink RL 61 yX7_mark ∈ tbs := tbs_of (List.mem_of_getElem? (i := 489) (by decide +kernel)) rfl
theorem tw_173 : Cond.methodLink RX7 145 yX3_isOf ∈ tbs := tbs_of (List.mem_of_getElem? (i := 493) (by decide +kernel)) rfl
theorem tw_174 : Cond.methodLink RX7 150 yX3_weight ∈ tbs := tbs_of (List.mem_of_getElem? (i := 494) (by decide +kernel)) rfl
theorem tw_175 : Cond.methodLink RX7 154 yX0_holds ∈ tbs := tbs_of (List.mem_of_getElem? (i := 495) (by decide +kernel)) rfl
theorem tw_176 : Cond.methodLink RX0 67 yX3_isOf ∈ tbs := tbs_of (List.mem_of_getElem? (i := 499) (by decide +kernel)) rfl
theorem tw_177 : Cond.methodLink RX7 160 yX0_havingWords ∈ tbs := tbs_of (List.mem_of_getElem? (i := 500) (by decide +kernel)) rfl
theorem tw_178 : Cond.methodLink RX7 166 yX0_firstDayOf ∈ tbs := tbs_of (List.mem_of_getElem? (i := 504) (by decide +kernel)) rfl
theorem tw_179 : Cond.methodLink RX0 70 yX0_holds ∈ tbs := tbs_of (List.mem_of_getElem? (i := 508) (by decide +kernel)) rfl
theorem tw_180 : Cond.methodLink RL 65 yX7_reverse ∈ tbs := tbs_of (List.mem_of_getElem? (i := 509) (by decide +kernel)) rfl
theorem tw_181 : Cond.methodLink RX7 169 yX7_isVerdict ∈ tbs := tbs_of (List.mem_of_getElem? (i := 513) (by decide +kernel)) rfl
theorem tw_182 : Cond.methodLink RL 69 yX7_swap ∈ tbs := tbs_of (List.mem_of_getElem? (i := 516) (by decide +kernel)) rfl
theorem tw_183 : Cond.methodLink RL 73 yX7_read ∈ tbs := tbs_of (List.mem_of_getElem? (i := 520) (by decide +kernel)) rfl
theorem tw_184 : Cond.methodLink RX7 178 yX7_namesEachPageOnce ∈ tbs := tbs_of (List.mem_of_getElem? (i := 524) (by decide +kernel)) rfl
theorem tw_185 : Cond.methodLink RX7 220 yX7_hasBit ∈ tbs := tbs_of (List.mem_of_getElem? (i := 528) (by decide +kernel)) rfl
theorem tw_186 : Cond.methodLink RL 77 yX7_add ∈ tbs := tbs_of (List.mem_of_getElem? (i := 529) (by decide +kernel)) rfl
theorem tw_187 : Cond.methodLink RX7 181 yX0_append ∈ tbs := tbs_of (List.mem_of_getElem? (i := 533) (by decide +kernel)) rfl
theorem tw_188 : Cond.methodLink RL 81 yX7_rip ∈ tbs := tbs_of (List.mem_of_getElem? (i := 534) (by decide +kernel)) rfl
theorem tw_189 : Cond.methodLink RX7 184 yX0_dropLast ∈ tbs := tbs_of (List.mem_of_getElem? (i := 538) (by decide +kernel)) rfl
theorem tw_190 : Cond.methodLink RL 86 yX7_keep ∈ tbs := tbs_of (List.mem_of_getElem? (i := 542) (by decide +kernel)) rfl
theorem tw_191 : Cond.methodLink RX7 187 yX7_isShelf ∈ tbs := tbs_of (List.mem_of_getElem? (i := 546) (by decide +kernel)) rfl
theorem tw_192 : Cond.methodLink RL 90 yX7_on ∈ tbs := tbs_of (List.mem_of_getElem? (i := 549) (by decide +kernel)) rfl
theorem tw_193 : Cond.methodLink RL 94 yX7_binds ∈ tbs := tbs_of (List.mem_of_getElem? (i := 553) (by decide +kernel)) rfl
theorem tw_194 : Cond.methodLink RX7 190 yX7_isDay ∈ tbs := tbs_of (List.mem_of_getElem? (i := 557) (by decide +kernel)) rfl
theorem tw_195 : Cond.methodLink RX7 193 yX0_bound ∈ tbs := tbs_of (List.mem_of_getElem? (i := 560) (by decide +kernel)) rfl
theorem tw_196 : Cond.methodLink RL 98 yX7_means ∈ tbs := tbs_of (List.mem_of_getElem? (i := 564) (by decide +kernel)) rfl
theorem tw_197 : Cond.methodLink RX7 196 yX0_factsFor ∈ tbs := tbs_of (List.mem_of_getElem? (i := 568) (by decide +kernel)) rfl
theorem tw_198 : Cond.methodLinkNest RX0 74 yX7_hasBit "LastPage" ∈ tbs := tbs_of (List.mem_of_getElem? (i := 572) (by decide +kernel)) rfl
theorem tw_199 : Cond.methodLink RL 102 yX7_meanings ∈ tbs := tbs_of (List.mem_of_getElem? (i := 573) (by decide +kernel)) rfl
theorem tw_200 : Cond.methodLink RX7 199 yJ6_bitCount_0f7a4 ∈ tbs := tbs_of (List.mem_of_getElem? (i := 577) (by decide +kernel)) rfl
theorem tw_201 : Cond.methodLink RL 106 yX7_never ∈ tbs := tbs_of (List.mem_of_getElem? (i := 578) (by decide +kernel)) rfl
theorem tw_202 : Cond.methodLink RX7 204 yX0_isInRing ∈ tbs := tbs_of (List.mem_of_getElem? (i := 582) (by decide +kernel)) rfl
theorem tw_203 : Cond.methodLink RL 110 yX7_verdict ∈ tbs := tbs_of (List.mem_of_getElem? (i := 586) (by decide +kernel)) rfl
theorem tw_204 : Cond.methodLink RX7 207 yX7_isCase ∈ tbs := tbs_of (List.mem_of_getElem? (i := 590) (by decide +kernel)) rfl
theorem tw_205 : Cond.methodLink RX7 210 yX1_hear ∈ tbs := tbs_of (List.mem_of_getElem? (i := 593) (by decide +kernel)) rfl
theorem tw_206 : Cond.methodLink RX1 24 yX0_bound ∈ tbs := tbs_of (List.mem_of_getElem? (i := 597) (by decide +kernel)) rfl
theorem tw_207 : Cond.methodLink RX1 30 yX0_factsFor ∈ tbs := tbs_of (List.mem_of_getElem? (i := 598) (by decide +kernel)) rfl
theorem tw_208 : Cond.methodLinkNest RX1 44 yX7_hasBit "LastPage" ∈ tbs := tbs_of (List.mem_of_getElem? (i := 599) (by decide +kernel)) rfl
theorem tw_209 : Cond.methodLink RX1 48 yX0_casesOne ∈ tbs := tbs_of (List.mem_of_getElem? (i := 600) (by decide +kernel)) rfl
theorem tw_210 : Cond.methodLink RX0 77 yX3_casesThatFit ∈ tbs := tbs_of (List.mem_of_getElem? (i := 604) (by decide +kernel)) rfl
theorem tw_211 : Cond.methodLink RX1 52 yX1_note ∈ tbs := tbs_of (List.mem_of_getElem? (i := 608) (by decide +kernel)) rfl
theorem tw_212 : Cond.methodLink RX7 214 yX1_timesOne ∈ tbs := tbs_of (List.mem_of_getElem? (i := 612) (by decide +kernel)) rfl
theorem tw_213 : Cond.methodLink RX7 217 yX1_stateOf ∈ tbs := tbs_of (List.mem_of_getElem? (i := 616) (by decide +kernel)) rfl
theorem tw_214 : Cond.methodLink RL 114 yX7_judge ∈ tbs := tbs_of (List.mem_of_getElem? (i := 620) (by decide +kernel)) rfl
theorem tw_215 : Cond.methodLink RX7 223 yX0_judgeOf ∈ tbs := tbs_of (List.mem_of_getElem? (i := 624) (by decide +kernel)) rfl
theorem tw_216 : Cond.methodLink RL 118 yX7_odds ∈ tbs := tbs_of (List.mem_of_getElem? (i := 628) (by decide +kernel)) rfl
theorem tw_217 : Cond.methodLink RX7 230 yX7_tellFraction ∈ tbs := tbs_of (List.mem_of_getElem? (i := 632) (by decide +kernel)) rfl
theorem tw_218 : Cond.methodLink RL 122 yX7_waits ∈ tbs := tbs_of (List.mem_of_getElem? (i := 636) (by decide +kernel)) rfl
theorem tw_219 : Cond.methodLink RX7 236 yX1_waiting ∈ tbs := tbs_of (List.mem_of_getElem? (i := 640) (by decide +kernel)) rfl
theorem tw_220 : Cond.methodLink RL 126 yX7_all ∈ tbs := tbs_of (List.mem_of_getElem? (i := 644) (by decide +kernel)) rfl
theorem tw_221 : Cond.methodLink RX7 239 yX1_waitingInAll ∈ tbs := tbs_of (List.mem_of_getElem? (i := 648) (by decide +kernel)) rfl
theorem tw_222 : Cond.methodLink RX1 59 yX1_hear ∈ tbs := tbs_of (List.mem_of_getElem? (i := 652) (by decide +kernel)) rfl
theorem tw_223 : Cond.methodLink RX1 63 yX1_waiting ∈ tbs := tbs_of (List.mem_of_getElem? (i := 653) (by decide +kernel)) rfl
theorem tw_224 : Cond.methodLink RX1 67 yJ6_bitCount_0f7a4 ∈ tbs := tbs_of (List.mem_of_getElem? (i := 654) (by decide +kernel)) rfl
theorem tw_225 : Cond.methodLink RL 130 yX7_free ∈ tbs := tbs_of (List.mem_of_getElem? (i := 655) (by decide +kernel)) rfl
theorem tw_226 : Cond.methodLink RL 134 yX7_deeds ∈ tbs := tbs_of (List.mem_of_getElem? (i := 659) (by decide +kernel)) rfl
theorem tw_227 : Cond.methodLink RX7 243 yX7_refusalOfDeeds ∈ tbs := tbs_of (List.mem_of_getElem? (i := 663) (by decide +kernel)) rfl
theorem tw_228 : Cond.methodLink RX7 247 yX4_take ∈ tbs := tbs_of (List.mem_of_getElem? (i := 667) (by decide +kernel)) rfl
theorem tw_229 : Cond.methodLink RX4 27 yX6_sizeOf ∈ tbs := tbs_of (List.mem_of_getElem? (i := 671) (by decide +kernel)) rfl
theorem tw_230 : Cond.methodLink RX4 33 yJ9_min_7cf53 ∈ tbs := tbs_of (List.mem_of_getElem? (i := 672) (by decide +kernel)) rfl
theorem tw_231 : Cond.methodLink RX4 43 yX6_placeOf ∈ tbs := tbs_of (List.mem_of_getElem? (i := 675) (by decide +kernel)) rfl
theorem tw_232 : Cond.methodLink RX4 46 yX1_hear ∈ tbs := tbs_of (List.mem_of_getElem? (i := 676) (by decide +kernel)) rfl
theorem tw_233 : Cond.methodLink RX7 251 yX4_planAsTheyCome ∈ tbs := tbs_of (List.mem_of_getElem? (i := 677) (by decide +kernel)) rfl
theorem tw_234 : Cond.methodLink RX4 62 yX4_firstClear ∈ tbs := tbs_of (List.mem_of_getElem? (i := 681) (by decide +kernel)) rfl
theorem tw_235 : Cond.methodLinkNest RX4 55 yX7_hasBit "LastPage" ∈ tbs := tbs_of (List.mem_of_getElem? (i := 685) (by decide +kernel)) rfl
theorem tw_236 : Cond.methodLink RX7 255 yX4_tellDays ∈ tbs := tbs_of (List.mem_of_getElem? (i := 686) (by decide +kernel)) rfl
theorem tw_237 : Cond.methodLink RX4 75 yX6_make ∈ tbs := tbs_of (List.mem_of_getElem? (i := 690) (by decide +kernel)) rfl
theorem tw_238 : Cond.methodLink RX4 78 yX6_write ∈ tbs := tbs_of (List.mem_of_getElem? (i := 691) (by decide +kernel)) rfl
theorem tw_239 : Cond.methodLink RL 138 yX7_order ∈ tbs := tbs_of (List.mem_of_getElem? (i := 692) (by decide +kernel)) rfl
theorem tw_240 : Cond.methodLink RX7 262 yX4_planSoonest ∈ tbs := tbs_of (List.mem_of_getElem? (i := 696) (by decide +kernel)) rfl
theorem tw_241 : Cond.methodLink RX4 65 yX4_tryFrom ∈ tbs := tbs_of (List.mem_of_getElem? (i := 700) (by decide +kernel)) rfl
theorem tw_242 : Cond.methodLink RX4 69 arraycopyName ∈ tbs := tbs_of (List.mem_of_getElem? (i := 704) (by decide +kernel)) rfl
theorem tw_243 : Cond.methodLink RX7 265 yX4_tellPlaces ∈ tbs := tbs_of (List.mem_of_getElem? (i := 705) (by decide +kernel)) rfl
theorem tw_244 : Cond.methodLink RL 142 yX7_flips ∈ tbs := tbs_of (List.mem_of_getElem? (i := 709) (by decide +kernel)) rfl
theorem tw_245 : Cond.methodLink RX7 268 yX1_hearReading ∈ tbs := tbs_of (List.mem_of_getElem? (i := 713) (by decide +kernel)) rfl
theorem tw_246 : Cond.methodLink RX7 271 yX1_trace ∈ tbs := tbs_of (List.mem_of_getElem? (i := 717) (by decide +kernel)) rfl
theorem tw_247 : Cond.methodLink RL 146 yX7_flip ∈ tbs := tbs_of (List.mem_of_getElem? (i := 721) (by decide +kernel)) rfl
theorem tw_248 : Cond.methodLink RX7 277 yX0_pageReadOn ∈ tbs := tbs_of (List.mem_of_getElem? (i := 725) (by decide +kernel)) rfl
theorem tw_249 : Cond.methodLink RL 150 yX7_most ∈ tbs := tbs_of (List.mem_of_getElem? (i := 729) (by decide +kernel)) rfl
theorem tw_250 : Cond.methodLink RL 154 yX7_matter ∈ tbs := tbs_of (List.mem_of_getElem? (i := 733) (by decide +kernel)) rfl
theorem tw_251 : Cond.methodLink RX7 283 yX0_leaveOut ∈ tbs := tbs_of (List.mem_of_getElem? (i := 737) (by decide +kernel)) rfl
theorem tw_252 : Cond.methodLink RX0 56 yX0_changeKind ∈ tbs := tbs_of (List.mem_of_getElem? (i := 741) (by decide +kernel)) rfl
theorem tw_253 : Cond.methodLink RL 158 yX7_best ∈ tbs := tbs_of (List.mem_of_getElem? (i := 745) (by decide +kernel)) rfl
theorem tw_254 : Cond.methodLink RX7 286 yX2_findBest ∈ tbs := tbs_of (List.mem_of_getElem? (i := 749) (by decide +kernel)) rfl
theorem tw_255 : Cond.methodLink RX2 36 yX2_tryDay ∈ tbs := tbs_of (List.mem_of_getElem? (i := 753) (by decide +kernel)) rfl
theorem tw_256 : Cond.methodLink RX2 40 yX1_hear ∈ tbs := tbs_of (List.mem_of_getElem? (i := 757) (by decide +kernel)) rfl
theorem tw_257 : Cond.methodLink RX2 46 yX1_waiting ∈ tbs := tbs_of (List.mem_of_getElem? (i := 758) (by decide +kernel)) rfl
theorem tw_258 : Cond.methodLink RX2 50 yJ6_bitCount_0f7a4 ∈ tbs := tbs_of (List.mem_of_getElem? (i := 759) (by decide +kernel)) rfl
theorem tw_259 : Cond.methodLink RX2 56 yX2_goOn ∈ tbs := tbs_of (List.mem_of_getElem? (i := 760) (by decide +kernel)) rfl
theorem tw_260 : Cond.methodLink RX2 59 arraycopyName ∈ tbs := tbs_of (List.mem_of_getElem? (i := 764) (by decide +kernel)) rfl
theorem tw_261 : Cond.methodLink RL 162 yX7_front ∈ tbs := tbs_of (List.mem_of_getElem? (i := 765) (by decide +kernel)) rfl
theorem tw_262 : Cond.methodLink RX7 296 yX0_turnFromFront ∈ tbs := tbs_of (List.mem_of_getElem? (i := 769) (by decide +kernel)) rfl
theorem tw_263 : Cond.methodLink RL 166 yX7_meant ∈ tbs := tbs_of (List.mem_of_getElem? (i := 773) (by decide +kernel)) rfl
theorem tw_264 : Cond.methodLink RX7 299 yX7_tellsJudgements ∈ tbs := tbs_of (List.mem_of_getElem? (i := 777) (by decide +kernel)) rfl
theorem tw_265 : Cond.methodLink RX7 302 yX7_couldMean ∈ tbs := tbs_of (List.mem_of_getElem? (i := 781) (by decide +kernel)) rfl
theorem tw_266 : Cond.methodLink RX7 343 yX0_casesOne ∈ tbs := tbs_of (List.mem_of_getElem? (i := 785) (by decide +kernel)) rfl
theorem tw_267 : Cond.methodLink RL 170 yX7_kinds ∈ tbs := tbs_of (List.mem_of_getElem? (i := 786) (by decide +kernel)) rfl
theorem tw_268 : Cond.methodLink RX7 305 yX7_bitIfKind ∈ tbs := tbs_of (List.mem_of_getElem? (i := 790) (by decide +kernel)) rfl
theorem tw_269 : Cond.methodLink RX7 346 yX0_changeKind ∈ tbs := tbs_of (List.mem_of_getElem? (i := 794) (by decide +kernel)) rfl
theorem tw_270 : Cond.methodLink RL 175 yX7_lots ∈ tbs := tbs_of (List.mem_of_getElem? (i := 795) (by decide +kernel)) rfl
theorem tw_271 : Cond.methodLink RL 179 yX7_asked ∈ tbs := tbs_of (List.mem_of_getElem? (i := 804) (by decide +kernel)) rfl
theorem tw_272 : Cond.methodLink RL 183 yX7_upper ∈ tbs := tbs_of (List.mem_of_getElem? (i := 808) (by decide +kernel)) rfl
theorem tw_273 : Cond.methodLink RL 188 yX7_lower ∈ tbs := tbs_of (List.mem_of_getElem? (i := 812) (by decide +kernel)) rfl
theorem tw_274 : Cond.methodLink RL 192 yX7_count ∈ tbs := tbs_of (List.mem_of_getElem? (i := 816) (by decide +kernel)) rfl
theorem tw_275 : Cond.methodLink RX7 321 yX0_countOf ∈ tbs := tbs_of (List.mem_of_getElem? (i := 820) (by decide +kernel)) rfl
theorem tw_276 : Cond.methodLink RX7 324 yX6_countThere ∈ tbs := tbs_of (List.mem_of_getElem? (i := 824) (by decide +kernel)) rfl
theorem tw_277 : Cond.methodLink RX6 32 yX6_isThere ∈ tbs := tbs_of (List.mem_of_getElem? (i := 828) (by decide +kernel)) rfl
theorem tw_278 : Cond.methodLink RX7 327 yX7_keptBooks ∈ tbs := tbs_of (List.mem_of_getElem? (i := 829) (by decide +kernel)) rfl
theorem tw_279 : Cond.methodLink RL 196 yX7_finding ∈ tbs := tbs_of (List.mem_of_getElem? (i := 833) (by decide +kernel)) rfl
theorem tw_280 : Cond.methodLink RL 200 yX7_findings ∈ tbs := tbs_of (List.mem_of_getElem? (i := 837) (by decide +kernel)) rfl
theorem tw_281 : Cond.methodLink RL 204 yX7_digest ∈ tbs := tbs_of (List.mem_of_getElem? (i := 841) (by decide +kernel)) rfl
theorem tw_282 : Cond.methodLink RX7 337 yX7_count ∈ tbs := tbs_of (List.mem_of_getElem? (i := 847) (by decide +kernel)) rfl
theorem tw_283 : Cond.methodLink RX7 339 yX6_digestOn ∈ tbs := tbs_of (List.mem_of_getElem? (i := 848) (by decide +kernel)) rfl
theorem tw_284 : Cond.methodLink RL 12 yX8_init ∈ tbs := tbs_of (List.mem_of_getElem? (i := 855) (by decide +kernel)) rfl
theorem tw_285 : Cond.methodLink RX8 1 objectInit ∈ tbs := tbs_of (List.mem_of_getElem? (i := 858) (by decide +kernel)) rfl
theorem tw_286 : Cond.methodLink RL 17 yX8_row ∈ tbs := tbs_of (List.mem_of_getElem? (i := 953) (by decide +kernel)) rfl
theorem tw_287 : Cond.methodLink RX8 82 yX8_isRow ∈ tbs := tbs_of (List.mem_of_getElem? (i := 957) (by decide +kernel)) rfl
theorem tw_288 : Cond.methodLink RX8 78 yX8_in ∈ tbs := tbs_of (List.mem_of_getElem? (i := 960) (by decide +kernel)) rfl
theorem tw_289 : Cond.methodLink RX8 86 yX8_meet ∈ tbs := tbs_of (List.mem_of_getElem? (i := 963) (by decide +kernel)) rfl
theorem tw_290 : Cond.methodLink RX8 93 yX8_setRow ∈ tbs := tbs_of (List.mem_of_getElem? (i := 967) (by decide +kernel)) rfl
theorem tw_291 : Cond.methodLink RL 26 yX8_at ∈ tbs := tbs_of (List.mem_of_getElem? (i := 971) (by decide +kernel)) rfl
theorem tw_292 : Cond.methodLink RX8 97 yX8_askedRow ∈ tbs := tbs_of (List.mem_of_getElem? (i := 975) (by decide +kernel)) rfl
theorem tw_293 : Cond.methodLink RX8 100 yX8_rowAt ∈ tbs := tbs_of (List.mem_of_getElem? (i := 979) (by decide +kernel)) rfl
theorem tw_294 : Cond.methodLink RX8 104 yX8_ask ∈ tbs := tbs_of (List.mem_of_getElem? (i := 983) (by decide +kernel)) rfl
theorem tw_295 : Cond.methodLink RL 22 yX8_lay ∈ tbs := tbs_of (List.mem_of_getElem? (i := 987) (by decide +kernel)) rfl
theorem tw_296 : Cond.methodLink RX8 107 yX8_at ∈ tbs := tbs_of (List.mem_of_getElem? (i := 991) (by decide +kernel)) rfl
theorem tw_297 : Cond.methodLink RL 31 yX8_tear ∈ tbs := tbs_of (List.mem_of_getElem? (i := 992) (by decide +kernel)) rfl
theorem tw_298 : Cond.methodLink RL 36 yX8_copy ∈ tbs := tbs_of (List.mem_of_getElem? (i := 996) (by decide +kernel)) rfl
theorem tw_299 : Cond.methodLink RL 40 yX8_mean ∈ tbs := tbs_of (List.mem_of_getElem? (i := 1000) (by decide +kernel)) rfl
theorem tw_300 : Cond.methodLink RL 44 yX8_text ∈ tbs := tbs_of (List.mem_of_getElem? (i := 1004) (by decide +kernel)) rfl
theorem tw_301 : Cond.methodLink RX8 90 yX8_isText ∈ tbs := tbs_of (List.mem_of_getElem? (i := 1008) (by decide +kernel)) rfl
theorem tw_302 : Cond.methodLink RL 48 yX8_put ∈ tbs := tbs_of (List.mem_of_getElem? (i := 1011) (by decide +kernel)) rfl
theorem tw_303 : Cond.methodLink RX8 110 yX8_askedText ∈ tbs := tbs_of (List.mem_of_getElem? (i := 1015) (by decide +kernel)) rfl
theorem tw_304 : Cond.methodLink RL 52 yX8_fault ∈ tbs := tbs_of (List.mem_of_getElem? (i := 1019) (by decide +kernel)) rfl
theorem tw_305 : Cond.methodLink RX8 138 yX8_goesOn ∈ tbs := tbs_of (List.mem_of_getElem? (i := 1023) (by decide +kernel)) rfl
theorem tw_306 : Cond.methodLink RX8 116 yX8_here ∈ tbs := tbs_of (List.mem_of_getElem? (i := 1027) (by decide +kernel)) rfl
theorem tw_307 : Cond.methodLink RX8 135 yX8_readsPage ∈ tbs := tbs_of (List.mem_of_getElem? (i := 1031) (by decide +kernel)) rfl
theorem tw_308 : Cond.methodLink RX8 119 yX8_kindOf ∈ tbs := tbs_of (List.mem_of_getElem? (i := 1035) (by decide +kernel)) rfl
theorem tw_309 : Cond.methodLink RX8 125 yX8_doesPoint ∈ tbs := tbs_of (List.mem_of_getElem? (i := 1038) (by decide +kernel)) rfl
theorem tw_310 : Cond.methodLink RX8 128 yX8_figure ∈ tbs := tbs_of (List.mem_of_getElem? (i := 1041) (by decide +kernel)) rfl
theorem tw_311 : Cond.methodLink RX8 132 yX8_readsWords ∈ tbs := tbs_of (List.mem_of_getElem? (i := 1045) (by decide +kernel)) rfl
theorem tw_312 : Cond.methodLink RL 56 yX8_book ∈ tbs := tbs_of (List.mem_of_getElem? (i := 1049) (by decide +kernel)) rfl
theorem tw_313 : Cond.methodLink RL 60 yX8_page ∈ tbs := tbs_of (List.mem_of_getElem? (i := 1053) (by decide +kernel)) rfl
theorem tw_314 : Cond.methodLink RX8 144 yX8_isPage ∈ tbs := tbs_of (List.mem_of_getElem? (i := 1057) (by decide +kernel)) rfl
theorem tw_315 : Cond.methodLink RX8 147 yX8_pageOf ∈ tbs := tbs_of (List.mem_of_getElem? (i := 1061) (by decide +kernel)) rfl
theorem tw_316 : Cond.methodLink RL 97 yX8_binds ∈ tbs := tbs_of (List.mem_of_getElem? (i := 1065) (by decide +kernel)) rfl
theorem tw_317 : Cond.methodLink RX8 154 yX8_isDay ∈ tbs := tbs_of (List.mem_of_getElem? (i := 1069) (by decide +kernel)) rfl
theorem tw_318 : Cond.methodLink RX8 157 yX8_bindSet ∈ tbs := tbs_of (List.mem_of_getElem? (i := 1072) (by decide +kernel)) rfl
theorem tw_319 : Cond.methodLink RX8 150 yX8_doesBind ∈ tbs := tbs_of (List.mem_of_getElem? (i := 1076) (by decide +kernel)) rfl
theorem tw_320 : Cond.methodLink RL 64 yX8_mark ∈ tbs := tbs_of (List.mem_of_getElem? (i := 1080) (by decide +kernel)) rfl
theorem tw_321 : Cond.methodLink RX8 163 yX8_isA ∈ tbs := tbs_of (List.mem_of_getElem? (i := 1084) (by decide +kernel)) rfl
theorem tw_322 : Cond.methodLink RX8 166 yX8_weightOf ∈ tbs := tbs_of (List.mem_of_getElem? (i := 1088) (by decide +kernel)) rfl
theorem tw_323 : Cond.methodLink RX8 160 yX8_sizeOf ∈ tbs := tbs_of (List.mem_of_getElem? (i := 1092) (by decide +kernel)) rfl
theorem tw_324 : Cond.methodLink RL 68 yX8_reverse ∈ tbs := tbs_of (List.mem_of_getElem? (i := 1095) (by decide +kernel)) rfl
theorem tw_325 : Cond.methodLink RL 72 yX8_swap ∈ tbs := tbs_of (List.mem_of_getElem? (i := 1099) (by decide +kernel)) rfl
theorem tw_326 : Cond.methodLink RL 76 yX8_read ∈ tbs := tbs_of (List.mem_of_getElem? (i := 1103) (by decide +kernel)) rfl
theorem tw_327 : Cond.methodLink RL 80 yX8_add ∈ tbs := tbs_of (List.mem_of_getElem? (i := 1107) (by decide +kernel)) rfl
theorem tw_328 : Cond.methodLink RL 85 yX8_rip ∈ tbs := tbs_of (List.mem_of_getElem? (i := 1111) (by decide +kernel)) rfl
theorem tw_329 : Cond.methodLink RL 89 yX8_keep ∈ tbs := tbs_of (List.mem_of_getElem? (i := 1115) (by decide +kernel)) rfl
theorem tw_330 : Cond.methodLink RL 93 yX8_on ∈ tbs := tbs_of (List.mem_of_getElem? (i := 1119) (by decide +kernel)) rfl
theorem tw_331 : Cond.methodLink RL 101 yX8_means ∈ tbs := tbs_of (List.mem_of_getElem? (i := 1123) (by decide +kernel)) rfl
theorem tw_332 : Cond.methodLink RX8 172 yX8_meanOf ∈ tbs := tbs_of (List.mem_of_getElem? (i := 1127) (by decide +kernel)) rfl
theorem tw_333 : Cond.methodLink RX8 169 yX8_has ∈ tbs := tbs_of (List.mem_of_getElem? (i := 1131) (by decide +kernel)) rfl
theorem tw_334 : Cond.methodLink RL 105 yX8_meanings ∈ tbs := tbs_of (List.mem_of_getElem? (i := 1134) (by decide +kernel)) rfl
theorem tw_335 : Cond.methodLink RL 109 yX8_never ∈ tbs := tbs_of (List.mem_of_getElem? (i := 1138) (by decide +kernel)) rfl
theorem tw_336 : Cond.methodLink RX8 175 yX8_isInRing ∈ tbs := tbs_of (List.mem_of_getElem? (i := 1142) (by decide +kernel)) rfl
theorem tw_337 : Cond.methodLink RL 113 yX8_verdict ∈ tbs := tbs_of (List.mem_of_getElem? (i := 1146) (by decide +kernel)) rfl
theorem tw_338 : Cond.methodLink RX8 194 yX8_isCase ∈ tbs := tbs_of (List.mem_of_getElem? (i := 1150) (by decide +kernel)) rfl
theorem tw_339 : Cond.methodLink RX8 197 yX8_isOn ∈ tbs := tbs_of (List.mem_of_getElem? (i := 1153) (by decide +kernel)) rfl
theorem tw_340 : Cond.methodLink RX8 191 yX8_onesOf ∈ tbs := tbs_of (List.mem_of_getElem? (i := 1157) (by decide +kernel)) rfl
theorem tw_341 : Cond.methodLink RX8 187 yX8_givenBy ∈ tbs := tbs_of (List.mem_of_getElem? (i := 1161) (by decide +kernel)) rfl
theorem tw_342 : Cond.methodLink RX8 178 yX8_soOf ∈ tbs := tbs_of (List.mem_of_getElem? (i := 1165) (by decide +kernel)) rfl
theorem tw_343 : Cond.methodLink RX8 181 yX8_judgeBy ∈ tbs := tbs_of (List.mem_of_getElem? (i := 1168) (by decide +kernel)) rfl
theorem tw_344 : Cond.methodLink RL 117 yX8_judge ∈ tbs := tbs_of (List.mem_of_getElem? (i := 1172) (by decide +kernel)) rfl
theorem tw_345 : Cond.methodLink RL 121 yX8_odds ∈ tbs := tbs_of (List.mem_of_getElem? (i := 1176) (by decide +kernel)) rfl
theorem tw_346 : Cond.methodLink RL 125 yX8_waits ∈ tbs := tbs_of (List.mem_of_getElem? (i := 1180) (by decide +kernel)) rfl
theorem tw_347 : Cond.methodLink RX8 203 yX8_waitsOn ∈ tbs := tbs_of (List.mem_of_getElem? (i := 1184) (by decide +kernel)) rfl
theorem tw_348 : Cond.methodLink RL 129 yX8_all ∈ tbs := tbs_of (List.mem_of_getElem? (i := 1188) (by decide +kernel)) rfl
theorem tw_349 : Cond.methodLink RX8 206 yX8_allWaits ∈ tbs := tbs_of (List.mem_of_getElem? (i := 1192) (by decide +kernel)) rfl
theorem tw_350 : Cond.methodLink RL 133 yX8_free ∈ tbs := tbs_of (List.mem_of_getElem? (i := 1196) (by decide +kernel)) rfl
theorem tw_351 : Cond.methodLink RX8 210 yX8_freeFrom ∈ tbs := tbs_of (List.mem_of_getElem? (i := 1200) (by decide +kernel)) rfl
theorem tw_352 : Cond.methodLink RL 137 yX8_deeds ∈ tbs := tbs_of (List.mem_of_getElem? (i := 1204) (by decide +kernel)) rfl
theorem tw_353 : Cond.methodLink RX8 216 yX8_askedDeeds ∈ tbs := tbs_of (List.mem_of_getElem? (i := 1208) (by decide +kernel)) rfl
theorem tw_354 : Cond.methodLink RX8 219 yX8_layTold ∈ tbs := tbs_of (List.mem_of_getElem? (i := 1212) (by decide +kernel)) rfl
theorem tw_355 : Cond.methodLink RX8 213 yX8_row ∈ tbs := tbs_of (List.mem_of_getElem? (i := 1216) (by decide +kernel)) rfl
theorem tw_356 : Cond.methodLink RL 141 yX8_order ∈ tbs := tbs_of (List.mem_of_getElem? (i := 1217) (by decide +kernel)) rfl
theorem tw_357 : Cond.methodLink RX8 226 yX8_orderOn ∈ tbs := tbs_of (List.mem_of_getElem? (i := 1222) (by decide +kernel)) rfl
theorem tw_358 : Cond.methodLink RL 145 yX8_flips ∈ tbs := tbs_of (List.mem_of_getElem? (i := 1226) (by decide +kernel)) rfl
theorem tw_359 : Cond.methodLink RX8 234 yX8_flipsOf ∈ tbs := tbs_of (List.mem_of_getElem? (i := 1230) (by decide +kernel)) rfl
theorem tw_360 : Cond.methodLink RL 149 yX8_flip ∈ tbs := tbs_of (List.mem_of_getElem? (i := 1234) (by decide +kernel)) rfl
theorem tw_361 : Cond.methodLink RL 153 yX8_most ∈ tbs := tbs_of (List.mem_of_getElem? (i := 1238) (by decide +kernel)) rfl
theorem tw_362 : Cond.methodLink RL 157 yX8_matter ∈ tbs := tbs_of (List.mem_of_getElem? (i := 1242) (by decide +kernel)) rfl
theorem tw_363 : Cond.methodLink RL 161 yX8_best ∈ tbs := tbs_of (List.mem_of_getElem? (i := 1246) (by decide +kernel)) rfl
theorem tw_364 : Cond.methodLink RX8 243 yX8_putAside ∈ tbs := tbs_of (List.mem_of_getElem? (i := 1250) (by decide +kernel)) rfl
theorem tw_365 : Cond.methodLink RX8 240 yX8_readOn ∈ tbs := tbs_of (List.mem_of_getElem? (i := 1254) (by decide +kernel)) rfl
theorem tw_366 : Cond.methodLink RX8 246 yX8_comeBack ∈ tbs := tbs_of (List.mem_of_getElem? (i := 1258) (by decide +kernel)) rfl
theorem tw_367 : Cond.methodLink RL 165 yX8_front ∈ tbs := tbs_of (List.mem_of_getElem? (i := 1262) (by decide +kernel)) rfl
theorem tw_368 : Cond.methodLink RL 169 yX8_meant ∈ tbs := tbs_of (List.mem_of_getElem? (i := 1266) (by decide +kernel)) rfl
theorem tw_369 : Cond.methodLink RL 174 yX8_kinds ∈ tbs := tbs_of (List.mem_of_getElem? (i := 1270) (by decide +kernel)) rfl
theorem tw_370 : Cond.methodLink RL 178 yX8_lots ∈ tbs := tbs_of (List.mem_of_getElem? (i := 1274) (by decide +kernel)) rfl
theorem tw_371 : Cond.methodLink RL 182 yX8_asked ∈ tbs := tbs_of (List.mem_of_getElem? (i := 1283) (by decide +kernel)) rfl
theorem tw_372 : Cond.methodLink RL 187 yX8_upper ∈ tbs := tbs_of (List.mem_of_getElem? (i := 1287) (by decide +kernel)) rfl
theorem tw_373 : Cond.methodLink RL 191 yX8_lower ∈ tbs := tbs_of (List.mem_of_getElem? (i := 1291) (by decide +kernel)) rfl
theorem tw_374 : Cond.methodLink RL 195 yX8_count ∈ tbs := tbs_of (List.mem_of_getElem? (i := 1295) (by decide +kernel)) rfl
theorem tw_375 : Cond.methodLink RX8 258 yX8_tells ∈ tbs := tbs_of (List.mem_of_getElem? (i := 1299) (by decide +kernel)) rfl
theorem tw_376 : Cond.methodLink RL 199 yX8_finding ∈ tbs := tbs_of (List.mem_of_getElem? (i := 1303) (by decide +kernel)) rfl
theorem tw_377 : Cond.methodLink RL 203 yX8_findings ∈ tbs := tbs_of (List.mem_of_getElem? (i := 1307) (by decide +kernel)) rfl
theorem tw_378 : Cond.methodLink RL 207 yX8_digest ∈ tbs := tbs_of (List.mem_of_getElem? (i := 1311) (by decide +kernel)) rfl
theorem tw_379 : Cond.methodLink RX8 268 yX8_mix ∈ tbs := tbs_of (List.mem_of_getElem? (i := 1316) (by decide +kernel)) rfl
theorem tw_380 : Cond.initialized RL ∈ tbs := tbs_of (List.mem_of_getElem? (i := 54) (by decide +kernel)) rfl
theorem tw_381 : Cond.initialized RX7 ∈ tbs := tbs_of (List.mem_of_getElem? (i := 55) (by decide +kernel)) rfl
theorem tw_382 : Cond.initialized RX6 ∈ tbs := tbs_of (List.mem_of_getElem? (i := 56) (by decide +kernel)) rfl
theorem tw_383 : Cond.initialized RJ7 ∈ tbs := tbs_of (List.mem_of_getElem? (i := 57) (by decide +kernel)) rfl
theorem tw_384 : Cond.initialized RX0 ∈ tbs := tbs_of (List.mem_of_getElem? (i := 58) (by decide +kernel)) rfl
theorem tw_385 : Cond.initialized RX3 ∈ tbs := tbs_of (List.mem_of_getElem? (i := 59) (by decide +kernel)) rfl
theorem tw_386 : Cond.initialized RX5 ∈ tbs := tbs_of (List.mem_of_getElem? (i := 60) (by decide +kernel)) rfl
theorem tw_387 : Cond.initialized RX1 ∈ tbs := tbs_of (List.mem_of_getElem? (i := 61) (by decide +kernel)) rfl
theorem tw_388 : Cond.initialized RX4 ∈ tbs := tbs_of (List.mem_of_getElem? (i := 62) (by decide +kernel)) rfl
theorem tw_389 : Cond.initialized RX2 ∈ tbs := tbs_of (List.mem_of_getElem? (i := 63) (by decide +kernel)) rfl
theorem tw_390 : Cond.initialized RX8 ∈ tbs := tbs_of (List.mem_of_getElem? (i := 64) (by decide +kernel)) rfl
theorem tw_391 : Cond.initialized RJ10 ∈ tbs := tbs_of (List.mem_of_getElem? (i := 65) (by decide +kernel)) rfl
theorem tw_392 : Cond.initialized RJ6 ∈ tbs := tbs_of (List.mem_of_getElem? (i := 66) (by decide +kernel)) rfl
theorem tw_393 : Cond.initialized RJ9 ∈ tbs := tbs_of (List.mem_of_getElem? (i := 67) (by decide +kernel)) rfl
theorem tw_394 : Cond.instanceMethod yX7_init ∈ tbs := tbs_of (List.mem_of_getElem? (i := 71) (by decide +kernel)) rfl
theorem tw_395 : Cond.instanceMethod objectInit ∈ tbs := tbs_of (List.mem_of_getElem? (i := 74) (by decide +kernel)) rfl
theorem tw_396 : Cond.instanceMethod yX6_init ∈ tbs := tbs_of (List.mem_of_getElem? (i := 79) (by decide +kernel)) rfl
theorem tw_397 : Cond.static yJ7_fill_53178 ∈ tbs := tbs_of (List.mem_of_getElem? (i := 85) (by decide +kernel)) rfl
theorem tw_398 : Cond.instanceMethod yX0_init ∈ tbs := tbs_of (List.mem_of_getElem? (i := 98) (by decide +kernel)) rfl
theorem tw_399 : Cond.instanceMethod yX3_init ∈ tbs := tbs_of (List.mem_of_getElem? (i := 105) (by decide +kernel)) rfl
theorem tw_400 : Cond.instanceMethod yX5_init ∈ tbs := tbs_of (List.mem_of_getElem? (i := 161) (by decide +kernel)) rfl
theorem tw_401 : Cond.instanceMethod yX1_init ∈ tbs := tbs_of (List.mem_of_getElem? (i := 183) (by decide +kernel)) rfl
theorem tw_402 : Cond.instanceMethod yX4_init ∈ tbs := tbs_of (List.mem_of_getElem? (i := 219) (by decide +kernel)) rfl
theorem tw_403 : Cond.instanceMethod yX2_init ∈ tbs := tbs_of (List.mem_of_getElem? (i := 248) (by decide +kernel)) rfl
theorem tw_404 : Cond.instanceMethod yX7_row ∈ tbs := tbs_of (List.mem_of_getElem? (i := 307) (by decide +kernel)) rfl
theorem tw_405 : Cond.instanceMethod yX6_isOne ∈ tbs := tbs_of (List.mem_of_getElem? (i := 311) (by decide +kernel)) rfl
theorem tw_406 : Cond.instanceMethod yX7_refuse ∈ tbs := tbs_of (List.mem_of_getElem? (i := 316) (by decide +kernel)) rfl
theorem tw_407 : Cond.instanceMethod yX6_make ∈ tbs := tbs_of (List.mem_of_getElem? (i := 319) (by decide +kernel)) rfl
theorem tw_408 : Cond.instanceMethod yX7_lay ∈ tbs := tbs_of (List.mem_of_getElem? (i := 323) (by decide +kernel)) rfl
theorem tw_409 : Cond.instanceMethod yX6_isThere ∈ tbs := tbs_of (List.mem_of_getElem? (i := 327) (by decide +kernel)) rfl
theorem tw_410 : Cond.instanceMethod yX6_isPlace ∈ tbs := tbs_of (List.mem_of_getElem? (i := 331) (by decide +kernel)) rfl
theorem tw_411 : Cond.instanceMethod yX6_placeOf ∈ tbs := tbs_of (List.mem_of_getElem? (i := 335) (by decide +kernel)) rfl
theorem tw_412 : Cond.instanceMethod yX6_write ∈ tbs := tbs_of (List.mem_of_getElem? (i := 339) (by decide +kernel)) rfl
theorem tw_413 : Cond.instanceMethod yX7_at ∈ tbs := tbs_of (List.mem_of_getElem? (i := 343) (by decide +kernel)) rfl
theorem tw_414 : Cond.instanceMethod yX7_tear ∈ tbs := tbs_of (List.mem_of_getElem? (i := 347) (by decide +kernel)) rfl
theorem tw_415 : Cond.instanceMethod yX6_drop ∈ tbs := tbs_of (List.mem_of_getElem? (i := 351) (by decide +kernel)) rfl
theorem tw_416 : Cond.instanceMethod yX7_copy ∈ tbs := tbs_of (List.mem_of_getElem? (i := 355) (by decide +kernel)) rfl
theorem tw_417 : Cond.instanceMethod yX6_arePlaces ∈ tbs := tbs_of (List.mem_of_getElem? (i := 359) (by decide +kernel)) rfl
theorem tw_418 : Cond.instanceMethod yX6_carry ∈ tbs := tbs_of (List.mem_of_getElem? (i := 363) (by decide +kernel)) rfl
theorem tw_419 : Cond.static arraycopyName ∈ tbs := tbs_of (List.mem_of_getElem? (i := 367) (by decide +kernel)) rfl
theorem tw_420 : Cond.native arraycopyName ∈ tbs := tbs_of (List.mem_of_getElem? (i := 368) (by decide +kernel)) rfl
theorem tw_421 : Cond.instanceMethod yX7_mean ∈ tbs := tbs_of (List.mem_of_getElem? (i := 370) (by decide +kernel)) rfl
theorem tw_422 : Cond.instanceMethod yX6_sizeOf ∈ tbs := tbs_of (List.mem_of_getElem? (i := 374) (by decide +kernel)) rfl
theorem tw_423 : Cond.instanceMethod yX6_sumOf ∈ tbs := tbs_of (List.mem_of_getElem? (i := 378) (by decide +kernel)) rfl
theorem tw_424 : Cond.instanceMethod yX7_text ∈ tbs := tbs_of (List.mem_of_getElem? (i := 382) (by decide +kernel)) rfl
theorem tw_425 : Cond.instanceMethod yX7_put ∈ tbs := tbs_of (List.mem_of_getElem? (i := 386) (by decide +kernel)) rfl
theorem tw_426 : Cond.instanceMethod yX7_fault ∈ tbs := tbs_of (List.mem_of_getElem? (i := 390) (by decide +kernel)) rfl
theorem tw_427 : Cond.instanceMethod yX5_faultOf ∈ tbs := tbs_of (List.mem_of_getElem? (i := 394) (by decide +kernel)) rfl
theorem tw_428 : Cond.instanceMethod yX0_empty ∈ tbs := tbs_of (List.mem_of_getElem? (i := 399) (by decide +kernel)) rfl
theorem tw_429 : Cond.instanceMethod yX5_sign ∈ tbs := tbs_of (List.mem_of_getElem? (i := 404) (by decide +kernel)) rfl
theorem tw_430 : Cond.instanceMethod yX5_takeItem ∈ tbs := tbs_of (List.mem_of_getElem? (i := 409) (by decide +kernel)) rfl
theorem tw_431 : Cond.static yX5_kindByLetter ∈ tbs := tbs_of (List.mem_of_getElem? (i := 412) (by decide +kernel)) rfl
theorem tw_432 : Cond.instanceMethod yX5_takeFigure ∈ tbs := tbs_of (List.mem_of_getElem? (i := 418) (by decide +kernel)) rfl
theorem tw_433 : Cond.instanceMethod yX0_append ∈ tbs := tbs_of (List.mem_of_getElem? (i := 421) (by decide +kernel)) rfl
theorem tw_434 : Cond.instanceMethod yX3_putWords ∈ tbs := tbs_of (List.mem_of_getElem? (i := 425) (by decide +kernel)) rfl
theorem tw_435 : Cond.static yX7_hasBit ∈ tbs := tbs_of (List.mem_of_getElem? (i := 429) (by decide +kernel)) rfl
theorem tw_436 : Cond.instanceMethod yX0_rank ∈ tbs := tbs_of (List.mem_of_getElem? (i := 435) (by decide +kernel)) rfl
theorem tw_437 : Cond.instanceMethod yX3_weight ∈ tbs := tbs_of (List.mem_of_getElem? (i := 438) (by decide +kernel)) rfl
theorem tw_438 : Cond.static yJ6_bitCount_0f7a4 ∈ tbs := tbs_of (List.mem_of_getElem? (i := 442) (by decide +kernel)) rfl
theorem tw_439 : Cond.constant RJ6 265 (1431655765) ∈ tbs := tbs_of (List.mem_of_getElem? (i := 444) (by decide +kernel)) rfl
theorem tw_440 : Cond.constant RJ6 266 (858993459) ∈ tbs := tbs_of (List.mem_of_getElem? (i := 445) (by decide +kernel)) rfl
theorem tw_441 : Cond.constant RJ6 267 (252645135) ∈ tbs := tbs_of (List.mem_of_getElem? (i := 446) (by decide +kernel)) rfl
theorem tw_442 : Cond.instanceMethod yX3_isOf ∈ tbs := tbs_of (List.mem_of_getElem? (i := 448) (by decide +kernel)) rfl
theorem tw_443 : Cond.instanceMethod yX5_takeWords ∈ tbs := tbs_of (List.mem_of_getElem? (i := 453) (by decide +kernel)) rfl
theorem tw_444 : Cond.instanceMethod yX5_isAtFigure ∈ tbs := tbs_of (List.mem_of_getElem? (i := 457) (by decide +kernel)) rfl
theorem tw_445 : Cond.instanceMethod yX7_book ∈ tbs := tbs_of (List.mem_of_getElem? (i := 460) (by decide +kernel)) rfl
theorem tw_446 : Cond.instanceMethod yX0_become ∈ tbs := tbs_of (List.mem_of_getElem? (i := 464) (by decide +kernel)) rfl
theorem tw_447 : Cond.instanceMethod yX3_become ∈ tbs := tbs_of (List.mem_of_getElem? (i := 468) (by decide +kernel)) rfl
theorem tw_448 : Cond.instanceMethod yX0_turnFromEnd ∈ tbs := tbs_of (List.mem_of_getElem? (i := 472) (by decide +kernel)) rfl
theorem tw_449 : Cond.instanceMethod yX7_page ∈ tbs := tbs_of (List.mem_of_getElem? (i := 477) (by decide +kernel)) rfl
theorem tw_450 : Cond.instanceMethod yX0_isOne ∈ tbs := tbs_of (List.mem_of_getElem? (i := 481) (by decide +kernel)) rfl
theorem tw_451 : Cond.instanceMethod yX0_tell ∈ tbs := tbs_of (List.mem_of_getElem? (i := 485) (by decide +kernel)) rfl
theorem tw_452 : Cond.instanceMethod yX7_mark ∈ tbs := tbs_of (List.mem_of_getElem? (i := 490) (by decide +kernel)) rfl
theorem tw_453 : Cond.instanceMethod yX0_holds ∈ tbs := tbs_of (List.mem_of_getElem? (i := 496) (by decide +kernel)) rfl
theorem tw_454 : Cond.instanceMethod yX0_havingWords ∈ tbs := tbs_of (List.mem_of_getElem? (i := 501) (by decide +kernel)) rfl
theorem tw_455 : Cond.instanceMethod yX0_firstDayOf ∈ tbs := tbs_of (List.mem_of_getElem? (i := 505) (by decide +kernel)) rfl
theorem tw_456 : Cond.instanceMethod yX7_reverse ∈ tbs := tbs_of (List.mem_of_getElem? (i := 510) (by decide +kernel)) rfl
theorem tw_457 : Cond.static yX7_isVerdict ∈ tbs := tbs_of (List.mem_of_getElem? (i := 514) (by decide +kernel)) rfl
theorem tw_458 : Cond.instanceMethod yX7_swap ∈ tbs := tbs_of (List.mem_of_getElem? (i := 517) (by decide +kernel)) rfl
theorem tw_459 : Cond.instanceMethod yX7_read ∈ tbs := tbs_of (List.mem_of_getElem? (i := 521) (by decide +kernel)) rfl
theorem tw_460 : Cond.instanceMethod yX7_namesEachPageOnce ∈ tbs := tbs_of (List.mem_of_getElem? (i := 526) (by decide +kernel)) rfl
theorem tw_461 : Cond.instanceMethod yX7_add ∈ tbs := tbs_of (List.mem_of_getElem? (i := 530) (by decide +kernel)) rfl
theorem tw_462 : Cond.instanceMethod yX7_rip ∈ tbs := tbs_of (List.mem_of_getElem? (i := 535) (by decide +kernel)) rfl
theorem tw_463 : Cond.instanceMethod yX0_dropLast ∈ tbs := tbs_of (List.mem_of_getElem? (i := 539) (by decide +kernel)) rfl
theorem tw_464 : Cond.instanceMethod yX7_keep ∈ tbs := tbs_of (List.mem_of_getElem? (i := 543) (by decide +kernel)) rfl
theorem tw_465 : Cond.static yX7_isShelf ∈ tbs := tbs_of (List.mem_of_getElem? (i := 547) (by decide +kernel)) rfl
theorem tw_466 : Cond.instanceMethod yX7_on ∈ tbs := tbs_of (List.mem_of_getElem? (i := 550) (by decide +kernel)) rfl
theorem tw_467 : Cond.instanceMethod yX7_binds ∈ tbs := tbs_of (List.mem_of_getElem? (i := 554) (by decide +kernel)) rfl
theorem tw_468 : Cond.static yX7_isDay ∈ tbs := tbs_of (List.mem_of_getElem? (i := 558) (by decide +kernel)) rfl
theorem tw_469 : Cond.instanceMethod yX0_bound ∈ tbs := tbs_of (List.mem_of_getElem? (i := 561) (by decide +kernel)) rfl
theorem tw_470 : Cond.instanceMethod yX7_means ∈ tbs := tbs_of (List.mem_of_getElem? (i := 565) (by decide +kernel)) rfl
theorem tw_471 : Cond.instanceMethod yX0_factsFor ∈ tbs := tbs_of (List.mem_of_getElem? (i := 569) (by decide +kernel)) rfl
theorem tw_472 : Cond.instanceMethod yX7_meanings ∈ tbs := tbs_of (List.mem_of_getElem? (i := 574) (by decide +kernel)) rfl
theorem tw_473 : Cond.instanceMethod yX7_never ∈ tbs := tbs_of (List.mem_of_getElem? (i := 579) (by decide +kernel)) rfl
theorem tw_474 : Cond.instanceMethod yX0_isInRing ∈ tbs := tbs_of (List.mem_of_getElem? (i := 583) (by decide +kernel)) rfl
theorem tw_475 : Cond.instanceMethod yX7_verdict ∈ tbs := tbs_of (List.mem_of_getElem? (i := 587) (by decide +kernel)) rfl
theorem tw_476 : Cond.static yX7_isCase ∈ tbs := tbs_of (List.mem_of_getElem? (i := 591) (by decide +kernel)) rfl
theorem tw_477 : Cond.instanceMethod yX1_hear ∈ tbs := tbs_of (List.mem_of_getElem? (i := 594) (by decide +kernel)) rfl
theorem tw_478 : Cond.instanceMethod yX0_casesOne ∈ tbs := tbs_of (List.mem_of_getElem? (i := 601) (by decide +kernel)) rfl
theorem tw_479 : Cond.instanceMethod yX3_casesThatFit ∈ tbs := tbs_of (List.mem_of_getElem? (i := 605) (by decide +kernel)) rfl
theorem tw_480 : Cond.instanceMethod yX1_note ∈ tbs := tbs_of (List.mem_of_getElem? (i := 610) (by decide +kernel)) rfl
theorem tw_481 : Cond.instanceMethod yX1_timesOne ∈ tbs := tbs_of (List.mem_of_getElem? (i := 613) (by decide +kernel)) rfl
theorem tw_482 : Cond.instanceMethod yX1_stateOf ∈ tbs := tbs_of (List.mem_of_getElem? (i := 617) (by decide +kernel)) rfl
theorem tw_483 : Cond.instanceMethod yX7_judge ∈ tbs := tbs_of (List.mem_of_getElem? (i := 621) (by decide +kernel)) rfl
theorem tw_484 : Cond.instanceMethod yX0_judgeOf ∈ tbs := tbs_of (List.mem_of_getElem? (i := 625) (by decide +kernel)) rfl
theorem tw_485 : Cond.instanceMethod yX7_odds ∈ tbs := tbs_of (List.mem_of_getElem? (i := 629) (by decide +kernel)) rfl
theorem tw_486 : Cond.instanceMethod yX7_tellFraction ∈ tbs := tbs_of (List.mem_of_getElem? (i := 634) (by decide +kernel)) rfl
theorem tw_487 : Cond.instanceMethod yX7_waits ∈ tbs := tbs_of (List.mem_of_getElem? (i := 637) (by decide +kernel)) rfl
theorem tw_488 : Cond.instanceMethod yX1_waiting ∈ tbs := tbs_of (List.mem_of_getElem? (i := 641) (by decide +kernel)) rfl
theorem tw_489 : Cond.instanceMethod yX7_all ∈ tbs := tbs_of (List.mem_of_getElem? (i := 645) (by decide +kernel)) rfl
theorem tw_490 : Cond.instanceMethod yX1_waitingInAll ∈ tbs := tbs_of (List.mem_of_getElem? (i := 649) (by decide +kernel)) rfl
theorem tw_491 : Cond.instanceMethod yX7_free ∈ tbs := tbs_of (List.mem_of_getElem? (i := 656) (by decide +kernel)) rfl
theorem tw_492 : Cond.instanceMethod yX7_deeds ∈ tbs := tbs_of (List.mem_of_getElem? (i := 660) (by decide +kernel)) rfl
theorem tw_493 : Cond.instanceMethod yX7_refusalOfDeeds ∈ tbs := tbs_of (List.mem_of_getElem? (i := 665) (by decide +kernel)) rfl
theorem tw_494 : Cond.instanceMethod yX4_take ∈ tbs := tbs_of (List.mem_of_getElem? (i := 668) (by decide +kernel)) rfl
theorem tw_495 : Cond.static yJ9_min_7cf53 ∈ tbs := tbs_of (List.mem_of_getElem? (i := 673) (by decide +kernel)) rfl
theorem tw_496 : Cond.instanceMethod yX4_planAsTheyCome ∈ tbs := tbs_of (List.mem_of_getElem? (i := 678) (by decide +kernel)) rfl
theorem tw_497 : Cond.instanceMethod yX4_firstClear ∈ tbs := tbs_of (List.mem_of_getElem? (i := 683) (by decide +kernel)) rfl
theorem tw_498 : Cond.instanceMethod yX4_tellDays ∈ tbs := tbs_of (List.mem_of_getElem? (i := 687) (by decide +kernel)) rfl
theorem tw_499 : Cond.instanceMethod yX7_order ∈ tbs := tbs_of (List.mem_of_getElem? (i := 693) (by decide +kernel)) rfl
theorem tw_500 : Cond.instanceMethod yX4_planSoonest ∈ tbs := tbs_of (List.mem_of_getElem? (i := 697) (by decide +kernel)) rfl
theorem tw_501 : Cond.instanceMethod yX4_tryFrom ∈ tbs := tbs_of (List.mem_of_getElem? (i := 702) (by decide +kernel)) rfl
theorem tw_502 : Cond.instanceMethod yX4_tellPlaces ∈ tbs := tbs_of (List.mem_of_getElem? (i := 706) (by decide +kernel)) rfl
theorem tw_503 : Cond.instanceMethod yX7_flips ∈ tbs := tbs_of (List.mem_of_getElem? (i := 710) (by decide +kernel)) rfl
theorem tw_504 : Cond.instanceMethod yX1_hearReading ∈ tbs := tbs_of (List.mem_of_getElem? (i := 714) (by decide +kernel)) rfl
theorem tw_505 : Cond.instanceMethod yX1_trace ∈ tbs := tbs_of (List.mem_of_getElem? (i := 718) (by decide +kernel)) rfl
theorem tw_506 : Cond.instanceMethod yX7_flip ∈ tbs := tbs_of (List.mem_of_getElem? (i := 722) (by decide +kernel)) rfl
theorem tw_507 : Cond.instanceMethod yX0_pageReadOn ∈ tbs := tbs_of (List.mem_of_getElem? (i := 726) (by decide +kernel)) rfl
theorem tw_508 : Cond.instanceMethod yX7_most ∈ tbs := tbs_of (List.mem_of_getElem? (i := 730) (by decide +kernel)) rfl
theorem tw_509 : Cond.instanceMethod yX7_matter ∈ tbs := tbs_of (List.mem_of_getElem? (i := 734) (by decide +kernel)) rfl
theorem tw_510 : Cond.instanceMethod yX0_leaveOut ∈ tbs := tbs_of (List.mem_of_getElem? (i := 738) (by decide +kernel)) rfl
theorem tw_511 : Cond.instanceMethod yX0_changeKind ∈ tbs := tbs_of (List.mem_of_getElem? (i := 742) (by decide +kernel)) rfl
theorem tw_512 : Cond.instanceMethod yX7_best ∈ tbs := tbs_of (List.mem_of_getElem? (i := 746) (by decide +kernel)) rfl
theorem tw_513 : Cond.instanceMethod yX2_findBest ∈ tbs := tbs_of (List.mem_of_getElem? (i := 750) (by decide +kernel)) rfl
theorem tw_514 : Cond.instanceMethod yX2_tryDay ∈ tbs := tbs_of (List.mem_of_getElem? (i := 755) (by decide +kernel)) rfl
theorem tw_515 : Cond.instanceMethod yX2_goOn ∈ tbs := tbs_of (List.mem_of_getElem? (i := 762) (by decide +kernel)) rfl
theorem tw_516 : Cond.instanceMethod yX7_front ∈ tbs := tbs_of (List.mem_of_getElem? (i := 766) (by decide +kernel)) rfl
theorem tw_517 : Cond.instanceMethod yX0_turnFromFront ∈ tbs := tbs_of (List.mem_of_getElem? (i := 770) (by decide +kernel)) rfl
theorem tw_518 : Cond.instanceMethod yX7_meant ∈ tbs := tbs_of (List.mem_of_getElem? (i := 774) (by decide +kernel)) rfl
theorem tw_519 : Cond.instanceMethod yX7_tellsJudgements ∈ tbs := tbs_of (List.mem_of_getElem? (i := 779) (by decide +kernel)) rfl
theorem tw_520 : Cond.instanceMethod yX7_couldMean ∈ tbs := tbs_of (List.mem_of_getElem? (i := 783) (by decide +kernel)) rfl
theorem tw_521 : Cond.instanceMethod yX7_kinds ∈ tbs := tbs_of (List.mem_of_getElem? (i := 787) (by decide +kernel)) rfl
theorem tw_522 : Cond.instanceMethod yX7_bitIfKind ∈ tbs := tbs_of (List.mem_of_getElem? (i := 792) (by decide +kernel)) rfl
theorem tw_523 : Cond.instanceMethod yX7_lots ∈ tbs := tbs_of (List.mem_of_getElem? (i := 796) (by decide +kernel)) rfl
theorem tw_524 : Cond.constant RX7 309 (2147483646) ∈ tbs := tbs_of (List.mem_of_getElem? (i := 799) (by decide +kernel)) rfl
theorem tw_525 : Cond.constantLong RX7 310 (48271) ∈ tbs := tbs_of (List.mem_of_getElem? (i := 800) (by decide +kernel)) rfl
theorem tw_526 : Cond.constantLong RX7 312 (2147483647) ∈ tbs := tbs_of (List.mem_of_getElem? (i := 801) (by decide +kernel)) rfl
theorem tw_527 : Cond.constantLong RX7 314 (32) ∈ tbs := tbs_of (List.mem_of_getElem? (i := 802) (by decide +kernel)) rfl
theorem tw_528 : Cond.constantLong RX7 316 (21) ∈ tbs := tbs_of (List.mem_of_getElem? (i := 803) (by decide +kernel)) rfl
theorem tw_529 : Cond.instanceMethod yX7_asked ∈ tbs := tbs_of (List.mem_of_getElem? (i := 805) (by decide +kernel)) rfl
theorem tw_530 : Cond.instanceMethod yX7_upper ∈ tbs := tbs_of (List.mem_of_getElem? (i := 809) (by decide +kernel)) rfl
theorem tw_531 : Cond.instanceMethod yX7_lower ∈ tbs := tbs_of (List.mem_of_getElem? (i := 813) (by decide +kernel)) rfl
theorem tw_532 : Cond.instanceMethod yX7_count ∈ tbs := tbs_of (List.mem_of_getElem? (i := 817) (by decide +kernel)) rfl
theorem tw_533 : Cond.instanceMethod yX0_countOf ∈ tbs := tbs_of (List.mem_of_getElem? (i := 821) (by decide +kernel)) rfl
theorem tw_534 : Cond.instanceMethod yX6_countThere ∈ tbs := tbs_of (List.mem_of_getElem? (i := 825) (by decide +kernel)) rfl
theorem tw_535 : Cond.instanceMethod yX7_keptBooks ∈ tbs := tbs_of (List.mem_of_getElem? (i := 831) (by decide +kernel)) rfl
theorem tw_536 : Cond.instanceMethod yX7_finding ∈ tbs := tbs_of (List.mem_of_getElem? (i := 834) (by decide +kernel)) rfl
theorem tw_537 : Cond.instanceMethod yX7_findings ∈ tbs := tbs_of (List.mem_of_getElem? (i := 838) (by decide +kernel)) rfl
theorem tw_538 : Cond.instanceMethod yX7_digest ∈ tbs := tbs_of (List.mem_of_getElem? (i := 842) (by decide +kernel)) rfl
theorem tw_539 : Cond.constantLong RX7 333 (17) ∈ tbs := tbs_of (List.mem_of_getElem? (i := 845) (by decide +kernel)) rfl
theorem tw_540 : Cond.constantLong RX7 335 (31) ∈ tbs := tbs_of (List.mem_of_getElem? (i := 846) (by decide +kernel)) rfl
theorem tw_541 : Cond.instanceMethod yX6_digestOn ∈ tbs := tbs_of (List.mem_of_getElem? (i := 849) (by decide +kernel)) rfl
theorem tw_542 : Cond.constantLong RX6 36 (31) ∈ tbs := tbs_of (List.mem_of_getElem? (i := 852) (by decide +kernel)) rfl
theorem tw_543 : Cond.instanceMethod yX8_init ∈ tbs := tbs_of (List.mem_of_getElem? (i := 856) (by decide +kernel)) rfl
theorem tw_544 : Cond.instanceMethod yX8_row ∈ tbs := tbs_of (List.mem_of_getElem? (i := 954) (by decide +kernel)) rfl
theorem tw_545 : Cond.static yX8_isRow ∈ tbs := tbs_of (List.mem_of_getElem? (i := 958) (by decide +kernel)) rfl
theorem tw_546 : Cond.static yX8_in ∈ tbs := tbs_of (List.mem_of_getElem? (i := 961) (by decide +kernel)) rfl
theorem tw_547 : Cond.instanceMethod yX8_meet ∈ tbs := tbs_of (List.mem_of_getElem? (i := 965) (by decide +kernel)) rfl
theorem tw_548 : Cond.instanceMethod yX8_setRow ∈ tbs := tbs_of (List.mem_of_getElem? (i := 969) (by decide +kernel)) rfl
theorem tw_549 : Cond.instanceMethod yX8_at ∈ tbs := tbs_of (List.mem_of_getElem? (i := 972) (by decide +kernel)) rfl
theorem tw_550 : Cond.instanceMethod yX8_askedRow ∈ tbs := tbs_of (List.mem_of_getElem? (i := 977) (by decide +kernel)) rfl
theorem tw_551 : Cond.instanceMethod yX8_rowAt ∈ tbs := tbs_of (List.mem_of_getElem? (i := 981) (by decide +kernel)) rfl
theorem tw_552 : Cond.instanceMethod yX8_ask ∈ tbs := tbs_of (List.mem_of_getElem? (i := 985) (by decide +kernel)) rfl
theorem tw_553 : Cond.instanceMethod yX8_lay ∈ tbs := tbs_of (List.mem_of_getElem? (i := 988) (by decide +kernel)) rfl
theorem tw_554 : Cond.instanceMethod yX8_tear ∈ tbs := tbs_of (List.mem_of_getElem? (i := 993) (by decide +kernel)) rfl
theorem tw_555 : Cond.instanceMethod yX8_copy ∈ tbs := tbs_of (List.mem_of_getElem? (i := 997) (by decide +kernel)) rfl
theorem tw_556 : Cond.instanceMethod yX8_mean ∈ tbs := tbs_of (List.mem_of_getElem? (i := 1001) (by decide +kernel)) rfl
theorem tw_557 : Cond.instanceMethod yX8_text ∈ tbs := tbs_of (List.mem_of_getElem? (i := 1005) (by decide +kernel)) rfl
theorem tw_558 : Cond.static yX8_isText ∈ tbs := tbs_of (List.mem_of_getElem? (i := 1009) (by decide +kernel)) rfl
theorem tw_559 : Cond.instanceMethod yX8_put ∈ tbs := tbs_of (List.mem_of_getElem? (i := 1012) (by decide +kernel)) rfl
theorem tw_560 : Cond.instanceMethod yX8_askedText ∈ tbs := tbs_of (List.mem_of_getElem? (i := 1017) (by decide +kernel)) rfl
theorem tw_561 : Cond.instanceMethod yX8_fault ∈ tbs := tbs_of (List.mem_of_getElem? (i := 1020) (by decide +kernel)) rfl
theorem tw_562 : Cond.instanceMethod yX8_goesOn ∈ tbs := tbs_of (List.mem_of_getElem? (i := 1025) (by decide +kernel)) rfl
theorem tw_563 : Cond.instanceMethod yX8_here ∈ tbs := tbs_of (List.mem_of_getElem? (i := 1029) (by decide +kernel)) rfl
theorem tw_564 : Cond.instanceMethod yX8_readsPage ∈ tbs := tbs_of (List.mem_of_getElem? (i := 1033) (by decide +kernel)) rfl
theorem tw_565 : Cond.static yX8_kindOf ∈ tbs := tbs_of (List.mem_of_getElem? (i := 1036) (by decide +kernel)) rfl
theorem tw_566 : Cond.static yX8_doesPoint ∈ tbs := tbs_of (List.mem_of_getElem? (i := 1039) (by decide +kernel)) rfl
theorem tw_567 : Cond.instanceMethod yX8_figure ∈ tbs := tbs_of (List.mem_of_getElem? (i := 1043) (by decide +kernel)) rfl
theorem tw_568 : Cond.instanceMethod yX8_readsWords ∈ tbs := tbs_of (List.mem_of_getElem? (i := 1047) (by decide +kernel)) rfl
theorem tw_569 : Cond.instanceMethod yX8_book ∈ tbs := tbs_of (List.mem_of_getElem? (i := 1050) (by decide +kernel)) rfl
theorem tw_570 : Cond.instanceMethod yX8_page ∈ tbs := tbs_of (List.mem_of_getElem? (i := 1054) (by decide +kernel)) rfl
theorem tw_571 : Cond.instanceMethod yX8_isPage ∈ tbs := tbs_of (List.mem_of_getElem? (i := 1059) (by decide +kernel)) rfl
theorem tw_572 : Cond.instanceMethod yX8_pageOf ∈ tbs := tbs_of (List.mem_of_getElem? (i := 1063) (by decide +kernel)) rfl
theorem tw_573 : Cond.instanceMethod yX8_binds ∈ tbs := tbs_of (List.mem_of_getElem? (i := 1066) (by decide +kernel)) rfl
theorem tw_574 : Cond.static yX8_isDay ∈ tbs := tbs_of (List.mem_of_getElem? (i := 1070) (by decide +kernel)) rfl
theorem tw_575 : Cond.instanceMethod yX8_bindSet ∈ tbs := tbs_of (List.mem_of_getElem? (i := 1074) (by decide +kernel)) rfl
theorem tw_576 : Cond.instanceMethod yX8_doesBind ∈ tbs := tbs_of (List.mem_of_getElem? (i := 1078) (by decide +kernel)) rfl
theorem tw_577 : Cond.instanceMethod yX8_mark ∈ tbs := tbs_of (List.mem_of_getElem? (i := 1081) (by decide +kernel)) rfl
theorem tw_578 : Cond.instanceMethod yX8_isA ∈ tbs := tbs_of (List.mem_of_getElem? (i := 1086) (by decide +kernel)) rfl
theorem tw_579 : Cond.instanceMethod yX8_weightOf ∈ tbs := tbs_of (List.mem_of_getElem? (i := 1090) (by decide +kernel)) rfl
theorem tw_580 : Cond.static yX8_sizeOf ∈ tbs := tbs_of (List.mem_of_getElem? (i := 1093) (by decide +kernel)) rfl
theorem tw_581 : Cond.instanceMethod yX8_reverse ∈ tbs := tbs_of (List.mem_of_getElem? (i := 1096) (by decide +kernel)) rfl
theorem tw_582 : Cond.instanceMethod yX8_swap ∈ tbs := tbs_of (List.mem_of_getElem? (i := 1100) (by decide +kernel)) rfl
theorem tw_583 : Cond.instanceMethod yX8_read ∈ tbs := tbs_of (List.mem_of_getElem? (i := 1104) (by decide +kernel)) rfl
theorem tw_584 : Cond.instanceMethod yX8_add ∈ tbs := tbs_of (List.mem_of_getElem? (i := 1108) (by decide +kernel)) rfl
theorem tw_585 : Cond.instanceMethod yX8_rip ∈ tbs := tbs_of (List.mem_of_getElem? (i := 1112) (by decide +kernel)) rfl
theorem tw_586 : Cond.instanceMethod yX8_keep ∈ tbs := tbs_of (List.mem_of_getElem? (i := 1116) (by decide +kernel)) rfl
theorem tw_587 : Cond.instanceMethod yX8_on ∈ tbs := tbs_of (List.mem_of_getElem? (i := 1120) (by decide +kernel)) rfl
theorem tw_588 : Cond.instanceMethod yX8_means ∈ tbs := tbs_of (List.mem_of_getElem? (i := 1124) (by decide +kernel)) rfl
theorem tw_589 : Cond.instanceMethod yX8_meanOf ∈ tbs := tbs_of (List.mem_of_getElem? (i := 1129) (by decide +kernel)) rfl
theorem tw_590 : Cond.static yX8_has ∈ tbs := tbs_of (List.mem_of_getElem? (i := 1132) (by decide +kernel)) rfl
theorem tw_591 : Cond.instanceMethod yX8_meanings ∈ tbs := tbs_of (List.mem_of_getElem? (i := 1135) (by decide +kernel)) rfl
theorem tw_592 : Cond.instanceMethod yX8_never ∈ tbs := tbs_of (List.mem_of_getElem? (i := 1139) (by decide +kernel)) rfl
theorem tw_593 : Cond.instanceMethod yX8_isInRing ∈ tbs := tbs_of (List.mem_of_getElem? (i := 1144) (by decide +kernel)) rfl
theorem tw_594 : Cond.instanceMethod yX8_verdict ∈ tbs := tbs_of (List.mem_of_getElem? (i := 1147) (by decide +kernel)) rfl
theorem tw_595 : Cond.static yX8_isCase ∈ tbs := tbs_of (List.mem_of_getElem? (i := 1151) (by decide +kernel)) rfl
theorem tw_596 : Cond.instanceMethod yX8_isOn ∈ tbs := tbs_of (List.mem_of_getElem? (i := 1155) (by decide +kernel)) rfl
theorem tw_597 : Cond.instanceMethod yX8_onesOf ∈ tbs := tbs_of (List.mem_of_getElem? (i := 1159) (by decide +kernel)) rfl
theorem tw_598 : Cond.instanceMethod yX8_givenBy ∈ tbs := tbs_of (List.mem_of_getElem? (i := 1163) (by decide +kernel)) rfl
theorem tw_599 : Cond.static yX8_soOf ∈ tbs := tbs_of (List.mem_of_getElem? (i := 1166) (by decide +kernel)) rfl
theorem tw_600 : Cond.instanceMethod yX8_judgeBy ∈ tbs := tbs_of (List.mem_of_getElem? (i := 1170) (by decide +kernel)) rfl
theorem tw_601 : Cond.instanceMethod yX8_judge ∈ tbs := tbs_of (List.mem_of_getElem? (i := 1173) (by decide +kernel)) rfl
theorem tw_602 : Cond.instanceMethod yX8_odds ∈ tbs := tbs_of (List.mem_of_getElem? (i := 1177) (by decide +kernel)) rfl
theorem tw_603 : Cond.instanceMethod yX8_waits ∈ tbs := tbs_of (List.mem_of_getElem? (i := 1181) (by decide +kernel)) rfl
theorem tw_604 : Cond.instanceMethod yX8_waitsOn ∈ tbs := tbs_of (List.mem_of_getElem? (i := 1186) (by decide +kernel)) rfl
theorem tw_605 : Cond.instanceMethod yX8_all ∈ tbs := tbs_of (List.mem_of_getElem? (i := 1189) (by decide +kernel)) rfl
theorem tw_606 : Cond.instanceMethod yX8_allWaits ∈ tbs := tbs_of (List.mem_of_getElem? (i := 1194) (by decide +kernel)) rfl
theorem tw_607 : Cond.instanceMethod yX8_free ∈ tbs := tbs_of (List.mem_of_getElem? (i := 1197) (by decide +kernel)) rfl
theorem tw_608 : Cond.instanceMethod yX8_freeFrom ∈ tbs := tbs_of (List.mem_of_getElem? (i := 1202) (by decide +kernel)) rfl
theorem tw_609 : Cond.instanceMethod yX8_deeds ∈ tbs := tbs_of (List.mem_of_getElem? (i := 1205) (by decide +kernel)) rfl
theorem tw_610 : Cond.instanceMethod yX8_askedDeeds ∈ tbs := tbs_of (List.mem_of_getElem? (i := 1210) (by decide +kernel)) rfl
theorem tw_611 : Cond.instanceMethod yX8_layTold ∈ tbs := tbs_of (List.mem_of_getElem? (i := 1214) (by decide +kernel)) rfl
theorem tw_612 : Cond.instanceMethod yX8_order ∈ tbs := tbs_of (List.mem_of_getElem? (i := 1218) (by decide +kernel)) rfl
theorem tw_613 : Cond.constant RX8 230 (1048576) ∈ tbs := tbs_of (List.mem_of_getElem? (i := 1221) (by decide +kernel)) rfl
theorem tw_614 : Cond.instanceMethod yX8_orderOn ∈ tbs := tbs_of (List.mem_of_getElem? (i := 1224) (by decide +kernel)) rfl
theorem tw_615 : Cond.instanceMethod yX8_flips ∈ tbs := tbs_of (List.mem_of_getElem? (i := 1227) (by decide +kernel)) rfl
theorem tw_616 : Cond.instanceMethod yX8_flipsOf ∈ tbs := tbs_of (List.mem_of_getElem? (i := 1232) (by decide +kernel)) rfl
theorem tw_617 : Cond.instanceMethod yX8_flip ∈ tbs := tbs_of (List.mem_of_getElem? (i := 1235) (by decide +kernel)) rfl
theorem tw_618 : Cond.instanceMethod yX8_most ∈ tbs := tbs_of (List.mem_of_getElem? (i := 1239) (by decide +kernel)) rfl
theorem tw_619 : Cond.instanceMethod yX8_matter ∈ tbs := tbs_of (List.mem_of_getElem? (i := 1243) (by decide +kernel)) rfl
theorem tw_620 : Cond.instanceMethod yX8_best ∈ tbs := tbs_of (List.mem_of_getElem? (i := 1247) (by decide +kernel)) rfl
theorem tw_621 : Cond.instanceMethod yX8_putAside ∈ tbs := tbs_of (List.mem_of_getElem? (i := 1252) (by decide +kernel)) rfl
theorem tw_622 : Cond.instanceMethod yX8_readOn ∈ tbs := tbs_of (List.mem_of_getElem? (i := 1256) (by decide +kernel)) rfl
theorem tw_623 : Cond.instanceMethod yX8_comeBack ∈ tbs := tbs_of (List.mem_of_getElem? (i := 1260) (by decide +kernel)) rfl
theorem tw_624 : Cond.instanceMethod yX8_front ∈ tbs := tbs_of (List.mem_of_getElem? (i := 1263) (by decide +kernel)) rfl
theorem tw_625 : Cond.instanceMethod yX8_meant ∈ tbs := tbs_of (List.mem_of_getElem? (i := 1267) (by decide +kernel)) rfl
theorem tw_626 : Cond.instanceMethod yX8_kinds ∈ tbs := tbs_of (List.mem_of_getElem? (i := 1271) (by decide +kernel)) rfl
theorem tw_627 : Cond.instanceMethod yX8_lots ∈ tbs := tbs_of (List.mem_of_getElem? (i := 1275) (by decide +kernel)) rfl
theorem tw_628 : Cond.constant RX8 249 (2147483646) ∈ tbs := tbs_of (List.mem_of_getElem? (i := 1278) (by decide +kernel)) rfl
theorem tw_629 : Cond.constantLong RX8 250 (48271) ∈ tbs := tbs_of (List.mem_of_getElem? (i := 1279) (by decide +kernel)) rfl
theorem tw_630 : Cond.constantLong RX8 252 (2147483647) ∈ tbs := tbs_of (List.mem_of_getElem? (i := 1280) (by decide +kernel)) rfl
theorem tw_631 : Cond.constantLong RX8 254 (32) ∈ tbs := tbs_of (List.mem_of_getElem? (i := 1281) (by decide +kernel)) rfl
theorem tw_632 : Cond.constantLong RX8 256 (21) ∈ tbs := tbs_of (List.mem_of_getElem? (i := 1282) (by decide +kernel)) rfl
theorem tw_633 : Cond.instanceMethod yX8_asked ∈ tbs := tbs_of (List.mem_of_getElem? (i := 1284) (by decide +kernel)) rfl
theorem tw_634 : Cond.instanceMethod yX8_upper ∈ tbs := tbs_of (List.mem_of_getElem? (i := 1288) (by decide +kernel)) rfl
theorem tw_635 : Cond.instanceMethod yX8_lower ∈ tbs := tbs_of (List.mem_of_getElem? (i := 1292) (by decide +kernel)) rfl
theorem tw_636 : Cond.instanceMethod yX8_count ∈ tbs := tbs_of (List.mem_of_getElem? (i := 1296) (by decide +kernel)) rfl
theorem tw_637 : Cond.instanceMethod yX8_tells ∈ tbs := tbs_of (List.mem_of_getElem? (i := 1301) (by decide +kernel)) rfl
theorem tw_638 : Cond.instanceMethod yX8_finding ∈ tbs := tbs_of (List.mem_of_getElem? (i := 1304) (by decide +kernel)) rfl
theorem tw_639 : Cond.instanceMethod yX8_findings ∈ tbs := tbs_of (List.mem_of_getElem? (i := 1308) (by decide +kernel)) rfl
theorem tw_640 : Cond.instanceMethod yX8_digest ∈ tbs := tbs_of (List.mem_of_getElem? (i := 1312) (by decide +kernel)) rfl
theorem tw_641 : Cond.constantLong RX8 266 (17) ∈ tbs := tbs_of (List.mem_of_getElem? (i := 1315) (by decide +kernel)) rfl
theorem tw_642 : Cond.instanceMethod yX8_mix ∈ tbs := tbs_of (List.mem_of_getElem? (i := 1318) (by decide +kernel)) rfl
theorem tw_643 : Cond.constantLong RX8 261 (31) ∈ tbs := tbs_of (List.mem_of_getElem? (i := 1320) (by decide +kernel)) rfl
theorem cw_X0_init : Cw yX0_init cX0_init 2 none 0 := ⟨tbs_of (List.mem_of_getElem? (i := 99) (by decide +kernel)) rfl, tw_384, by decide +kernel, by decide +kernel, by decide +kernel⟩
theorem cw_X0_isOne : Cw yX0_isOne cX0_isOne 2 (some .boolean) 1 := ⟨tbs_of (List.mem_of_getElem? (i := 483) (by decide +kernel)) rfl, tw_384, by decide +kernel, by decide +kernel, by decide +kernel⟩
theorem tw_644 : Cond.selects RX0 yX0_isOne yX0_isOne ∈ tbs := tbs_of (List.mem_of_getElem? (i := 482) (by decide +kernel)) rfl
theorem cw_X0_empty : Cw yX0_empty cX0_empty 1 none 0 := ⟨tbs_of (List.mem_of_getElem? (i := 401) (by decide +kernel)) rfl, tw_384, by decide +kernel, by decide +kernel, by decide +kernel⟩
theorem tw_645 : Cond.selects RX0 yX0_empty yX0_empty ∈ tbs := tbs_of (List.mem_of_getElem? (i := 400) (by decide +kernel)) rfl
theorem cw_X0_become : Cw yX0_become cX0_become 3 none 1 := ⟨tbs_of (List.mem_of_getElem? (i := 466) (by decide +kernel)) rfl, tw_384, by decide +kernel, by decide +kernel, by decide +kernel⟩
theorem tw_646 : Cond.selects RX0 yX0_become yX0_become ∈ tbs := tbs_of (List.mem_of_getElem? (i := 465) (by decide +kernel)) rfl
theorem cw_X0_append : Cw yX0_append cX0_append 7 none 5 := ⟨tbs_of (List.mem_of_getElem? (i := 423) (by decide +kernel)) rfl, tw_384, by decide +kernel, by decide +kernel, by decide +kernel⟩
theorem tw_647 : Cond.selects RX0 yX0_append yX0_append ∈ tbs := tbs_of (List.mem_of_getElem? (i := 422) (by decide +kernel)) rfl
theorem cw_X0_dropLast : Cw yX0_dropLast cX0_dropLast 3 none 0 := ⟨tbs_of (List.mem_of_getElem? (i := 541) (by decide +kernel)) rfl, tw_384, by decide +kernel, by decide +kernel, by decide +kernel⟩
theorem tw_648 : Cond.selects RX0 yX0_dropLast yX0_dropLast ∈ tbs := tbs_of (List.mem_of_getElem? (i := 540) (by decide +kernel)) rfl
theorem cw_X0_changeKind : Cw yX0_changeKind cX0_changeKind 3 none 2 := ⟨tbs_of (List.mem_of_getElem? (i := 744) (by decide +kernel)) rfl, tw_384, by decide +kernel, by decide +kernel, by decide +kernel⟩
theorem tw_649 : Cond.selects RX0 yX0_changeKind yX0_changeKind ∈ tbs := tbs_of (List.mem_of_getElem? (i := 743) (by decide +kernel)) rfl
theorem cw_X0_leaveOut : Cw yX0_leaveOut cX0_leaveOut 2 none 1 := ⟨tbs_of (List.mem_of_getElem? (i := 740) (by decide +kernel)) rfl, tw_384, by decide +kernel, by decide +kernel, by decide +kernel⟩
theorem tw_650 : Cond.selects RX0 yX0_leaveOut yX0_leaveOut ∈ tbs := tbs_of (List.mem_of_getElem? (i := 739) (by decide +kernel)) rfl
theorem cw_X0_turnFromEnd : Cw yX0_turnFromEnd cX0_turnFromEnd 2 none 0 := ⟨tbs_of (List.mem_of_getElem? (i := 474) (by decide +kernel)) rfl, tw_384, by decide +kernel, by decide +kernel, by decide +kernel⟩
theorem tw_651 : Cond.selects RX0 yX0_turnFromEnd yX0_turnFromEnd ∈ tbs := tbs_of (List.mem_of_getElem? (i := 473) (by decide +kernel)) rfl
theorem cw_X0_turnFromFront : Cw yX0_turnFromFront cX0_turnFromFront 2 none 0 := ⟨tbs_of (List.mem_of_getElem? (i := 772) (by decide +kernel)) rfl, tw_384, by decide +kernel, by decide +kernel, by decide +kernel⟩
theorem tw_652 : Cond.selects RX0 yX0_turnFromFront yX0_turnFromFront ∈ tbs := tbs_of (List.mem_of_getElem? (i := 771) (by decide +kernel)) rfl
theorem cw_X0_rank : Cw yX0_rank cX0_rank 3 none 0 := ⟨tbs_of (List.mem_of_getElem? (i := 436) (by decide +kernel)) rfl, tw_384, by decide +kernel, by decide +kernel, by decide +kernel⟩
theorem tw_653 : Cond.selects RX0 yX0_rank yX0_rank ∈ tbs := tbs_of (List.mem_of_getElem? (i := 4) (by decide +kernel)) rfl
theorem cw_X0_tell : Cw yX0_tell cX0_tell 4 (some .int) 2 := ⟨tbs_of (List.mem_of_getElem? (i := 487) (by decide +kernel)) rfl, tw_384, by decide +kernel, by decide +kernel, by decide +kernel⟩
theorem tw_654 : Cond.selects RX0 yX0_tell yX0_tell ∈ tbs := tbs_of (List.mem_of_getElem? (i := 486) (by decide +kernel)) rfl
theorem cw_X0_countOf : Cw yX0_countOf cX0_countOf 4 (some .int) 1 := ⟨tbs_of (List.mem_of_getElem? (i := 823) (by decide +kernel)) rfl, tw_384, by decide +kernel, by decide +kernel, by decide +kernel⟩
theorem tw_655 : Cond.selects RX0 yX0_countOf yX0_countOf ∈ tbs := tbs_of (List.mem_of_getElem? (i := 822) (by decide +kernel)) rfl
theorem cw_X0_havingWords : Cw yX0_havingWords cX0_havingWords 4 (some .int) 1 := ⟨tbs_of (List.mem_of_getElem? (i := 503) (by decide +kernel)) rfl, tw_384, by decide +kernel, by decide +kernel, by decide +kernel⟩
theorem tw_656 : Cond.selects RX0 yX0_havingWords yX0_havingWords ∈ tbs := tbs_of (List.mem_of_getElem? (i := 502) (by decide +kernel)) rfl
theorem cw_X0_pageReadOn : Cw yX0_pageReadOn cX0_pageReadOn 3 (some .int) 1 := ⟨tbs_of (List.mem_of_getElem? (i := 728) (by decide +kernel)) rfl, tw_384, by decide +kernel, by decide +kernel, by decide +kernel⟩
theorem tw_657 : Cond.selects RX0 yX0_pageReadOn yX0_pageReadOn ∈ tbs := tbs_of (List.mem_of_getElem? (i := 727) (by decide +kernel)) rfl
theorem cw_X0_holds : Cw yX0_holds cX0_holds 6 (some .boolean) 2 := ⟨tbs_of (List.mem_of_getElem? (i := 498) (by decide +kernel)) rfl, tw_384, by decide +kernel, by decide +kernel, by decide +kernel⟩
theorem tw_658 : Cond.selects RX0 yX0_holds yX0_holds ∈ tbs := tbs_of (List.mem_of_getElem? (i := 497) (by decide +kernel)) rfl
theorem cw_X0_firstDayOf : Cw yX0_firstDayOf cX0_firstDayOf 3 (some .int) 1 := ⟨tbs_of (List.mem_of_getElem? (i := 507) (by decide +kernel)) rfl, tw_384, by decide +kernel, by decide +kernel, by decide +kernel⟩
theorem tw_659 : Cond.selects RX0 yX0_firstDayOf yX0_firstDayOf ∈ tbs := tbs_of (List.mem_of_getElem? (i := 506) (by decide +kernel)) rfl
theorem cw_X0_isInRing : Cw yX0_isInRing cX0_isInRing 4 (some .boolean) 1 := ⟨tbs_of (List.mem_of_getElem? (i := 585) (by decide +kernel)) rfl, tw_384, by decide +kernel, by decide +kernel, by decide +kernel⟩
theorem tw_660 : Cond.selects RX0 yX0_isInRing yX0_isInRing ∈ tbs := tbs_of (List.mem_of_getElem? (i := 584) (by decide +kernel)) rfl
theorem cw_X0_bound : Cw yX0_bound cX0_bound 4 (some .int) 1 := ⟨tbs_of (List.mem_of_getElem? (i := 563) (by decide +kernel)) rfl, tw_384, by decide +kernel, by decide +kernel, by decide +kernel⟩
theorem tw_661 : Cond.selects RX0 yX0_bound yX0_bound ∈ tbs := tbs_of (List.mem_of_getElem? (i := 562) (by decide +kernel)) rfl
theorem cw_X0_factsFor : Cw yX0_factsFor cX0_factsFor 7 (some .int) 2 := ⟨tbs_of (List.mem_of_getElem? (i := 571) (by decide +kernel)) rfl, tw_384, by decide +kernel, by decide +kernel, by decide +kernel⟩
theorem tw_662 : Cond.selects RX0 yX0_factsFor yX0_factsFor ∈ tbs := tbs_of (List.mem_of_getElem? (i := 570) (by decide +kernel)) rfl
theorem cw_X0_casesOne : Cw yX0_casesOne cX0_casesOne 9 (some .int) 3 := ⟨tbs_of (List.mem_of_getElem? (i := 603) (by decide +kernel)) rfl, tw_384, by decide +kernel, by decide +kernel, by decide +kernel⟩
theorem tw_663 : Cond.selects RX0 yX0_casesOne yX0_casesOne ∈ tbs := tbs_of (List.mem_of_getElem? (i := 602) (by decide +kernel)) rfl
theorem cw_X0_judgeOf : Cw yX0_judgeOf cX0_judgeOf 7 (some .int) 4 := ⟨tbs_of (List.mem_of_getElem? (i := 627) (by decide +kernel)) rfl, tw_384, by decide +kernel, by decide +kernel, by decide +kernel⟩
theorem tw_664 : Cond.selects RX0 yX0_judgeOf yX0_judgeOf ∈ tbs := tbs_of (List.mem_of_getElem? (i := 626) (by decide +kernel)) rfl
theorem cw_X1_init : Cw yX1_init cX1_init 1 none 0 := ⟨tbs_of (List.mem_of_getElem? (i := 184) (by decide +kernel)) rfl, tw_387, by decide +kernel, by decide +kernel, by decide +kernel⟩
theorem cw_X1_hear : Cw yX1_hear cX1_hear 8 none 2 := ⟨tbs_of (List.mem_of_getElem? (i := 596) (by decide +kernel)) rfl, tw_387, by decide +kernel, by decide +kernel, by decide +kernel⟩
theorem tw_665 : Cond.selects RX1 yX1_hear yX1_hear ∈ tbs := tbs_of (List.mem_of_getElem? (i := 595) (by decide +kernel)) rfl
theorem cw_X1_note : Cw yX1_note cX1_note 2 none 1 := ⟨tbs_of (List.mem_of_getElem? (i := 611) (by decide +kernel)) rfl, tw_387, by decide +kernel, by decide +kernel, by decide +kernel⟩
theorem tw_666 : Cond.selects RX1 yX1_note yX1_note ∈ tbs := tbs_of (List.mem_of_getElem? (i := 8) (by decide +kernel)) rfl
theorem cw_X1_waiting : Cw yX1_waiting cX1_waiting 1 (some .int) 0 := ⟨tbs_of (List.mem_of_getElem? (i := 643) (by decide +kernel)) rfl, tw_387, by decide +kernel, by decide +kernel, by decide +kernel⟩
theorem tw_667 : Cond.selects RX1 yX1_waiting yX1_waiting ∈ tbs := tbs_of (List.mem_of_getElem? (i := 642) (by decide +kernel)) rfl
theorem cw_X1_timesOne : Cw yX1_timesOne cX1_timesOne 4 (some .int) 1 := ⟨tbs_of (List.mem_of_getElem? (i := 615) (by decide +kernel)) rfl, tw_387, by decide +kernel, by decide +kernel, by decide +kernel⟩
theorem tw_668 : Cond.selects RX1 yX1_timesOne yX1_timesOne ∈ tbs := tbs_of (List.mem_of_getElem? (i := 614) (by decide +kernel)) rfl
theorem cw_X1_stateOf : Cw yX1_stateOf cX1_stateOf 2 (some .int) 1 := ⟨tbs_of (List.mem_of_getElem? (i := 619) (by decide +kernel)) rfl, tw_387, by decide +kernel, by decide +kernel, by decide +kernel⟩
theorem tw_669 : Cond.selects RX1 yX1_stateOf yX1_stateOf ∈ tbs := tbs_of (List.mem_of_getElem? (i := 618) (by decide +kernel)) rfl
theorem cw_X1_waitingInAll : Cw yX1_waitingInAll cX1_waitingInAll 4 (some .int) 1 := ⟨tbs_of (List.mem_of_getElem? (i := 651) (by decide +kernel)) rfl, tw_387, by decide +kernel, by decide +kernel, by decide +kernel⟩
theorem tw_670 : Cond.selects RX1 yX1_waitingInAll yX1_waitingInAll ∈ tbs := tbs_of (List.mem_of_getElem? (i := 650) (by decide +kernel)) rfl
theorem cw_X1_hearReading : Cw yX1_hearReading cX1_hearReading 3 none 1 := ⟨tbs_of (List.mem_of_getElem? (i := 716) (by decide +kernel)) rfl, tw_387, by decide +kernel, by decide +kernel, by decide +kernel⟩
theorem tw_671 : Cond.selects RX1 yX1_hearReading yX1_hearReading ∈ tbs := tbs_of (List.mem_of_getElem? (i := 715) (by decide +kernel)) rfl
theorem cw_X1_trace : Cw yX1_trace cX1_trace 7 (some .int) 1 := ⟨tbs_of (List.mem_of_getElem? (i := 720) (by decide +kernel)) rfl, tw_387, by decide +kernel, by decide +kernel, by decide +kernel⟩
theorem tw_672 : Cond.selects RX1 yX1_trace yX1_trace ∈ tbs := tbs_of (List.mem_of_getElem? (i := 719) (by decide +kernel)) rfl
theorem cw_X2_init : Cw yX2_init cX2_init 1 none 0 := ⟨tbs_of (List.mem_of_getElem? (i := 249) (by decide +kernel)) rfl, tw_389, by decide +kernel, by decide +kernel, by decide +kernel⟩
theorem cw_X2_findBest : Cw yX2_findBest cX2_findBest 4 none 2 := ⟨tbs_of (List.mem_of_getElem? (i := 752) (by decide +kernel)) rfl, tw_389, by decide +kernel, by decide +kernel, by decide +kernel⟩
theorem tw_673 : Cond.selects RX2 yX2_findBest yX2_findBest ∈ tbs := tbs_of (List.mem_of_getElem? (i := 751) (by decide +kernel)) rfl
theorem cw_X2_tryDay : Cw yX2_tryDay cX2_tryDay 7 none 4 := ⟨tbs_of (List.mem_of_getElem? (i := 756) (by decide +kernel)) rfl, tw_389, by decide +kernel, by decide +kernel, by decide +kernel⟩
theorem tw_674 : Cond.selects RX2 yX2_tryDay yX2_tryDay ∈ tbs := tbs_of (List.mem_of_getElem? (i := 13) (by decide +kernel)) rfl
theorem cw_X2_goOn : Cw yX2_goOn cX2_goOn 5 none 4 := ⟨tbs_of (List.mem_of_getElem? (i := 763) (by decide +kernel)) rfl, tw_389, by decide +kernel, by decide +kernel, by decide +kernel⟩
theorem tw_675 : Cond.selects RX2 yX2_goOn yX2_goOn ∈ tbs := tbs_of (List.mem_of_getElem? (i := 14) (by decide +kernel)) rfl
theorem cw_X3_init : Cw yX3_init cX3_init 1 none 0 := ⟨tbs_of (List.mem_of_getElem? (i := 106) (by decide +kernel)) rfl, tw_385, by decide +kernel, by decide +kernel, by decide +kernel⟩
theorem cw_X3_become : Cw yX3_become cX3_become 2 none 1 := ⟨tbs_of (List.mem_of_getElem? (i := 470) (by decide +kernel)) rfl, tw_385, by decide +kernel, by decide +kernel, by decide +kernel⟩
theorem tw_676 : Cond.selects RX3 yX3_become yX3_become ∈ tbs := tbs_of (List.mem_of_getElem? (i := 469) (by decide +kernel)) rfl
theorem cw_X3_putWords : Cw yX3_putWords cX3_putWords 3 none 1 := ⟨tbs_of (List.mem_of_getElem? (i := 427) (by decide +kernel)) rfl, tw_385, by decide +kernel, by decide +kernel, by decide +kernel⟩
theorem tw_677 : Cond.selects RX3 yX3_putWords yX3_putWords ∈ tbs := tbs_of (List.mem_of_getElem? (i := 426) (by decide +kernel)) rfl
theorem cw_X3_isOf : Cw yX3_isOf cX3_isOf 2 (some .boolean) 1 := ⟨tbs_of (List.mem_of_getElem? (i := 450) (by decide +kernel)) rfl, tw_385, by decide +kernel, by decide +kernel, by decide +kernel⟩
theorem tw_678 : Cond.selects RX3 yX3_isOf yX3_isOf ∈ tbs := tbs_of (List.mem_of_getElem? (i := 449) (by decide +kernel)) rfl
theorem cw_X3_weight : Cw yX3_weight cX3_weight 1 (some .int) 0 := ⟨tbs_of (List.mem_of_getElem? (i := 440) (by decide +kernel)) rfl, tw_385, by decide +kernel, by decide +kernel, by decide +kernel⟩
theorem tw_679 : Cond.selects RX3 yX3_weight yX3_weight ∈ tbs := tbs_of (List.mem_of_getElem? (i := 439) (by decide +kernel)) rfl
theorem cw_X3_casesThatFit : Cw yX3_casesThatFit cX3_casesThatFit 4 (some .int) 2 := ⟨tbs_of (List.mem_of_getElem? (i := 607) (by decide +kernel)) rfl, tw_385, by decide +kernel, by decide +kernel, by decide +kernel⟩
theorem tw_680 : Cond.selects RX3 yX3_casesThatFit yX3_casesThatFit ∈ tbs := tbs_of (List.mem_of_getElem? (i := 606) (by decide +kernel)) rfl
theorem cw_X4_init : Cw yX4_init cX4_init 1 none 0 := ⟨tbs_of (List.mem_of_getElem? (i := 220) (by decide +kernel)) rfl, tw_388, by decide +kernel, by decide +kernel, by decide +kernel⟩
theorem cw_X4_take : Cw yX4_take cX4_take 6 none 4 := ⟨tbs_of (List.mem_of_getElem? (i := 670) (by decide +kernel)) rfl, tw_388, by decide +kernel, by decide +kernel, by decide +kernel⟩
theorem tw_681 : Cond.selects RX4 yX4_take yX4_take ∈ tbs := tbs_of (List.mem_of_getElem? (i := 669) (by decide +kernel)) rfl
theorem cw_X4_firstClear : Cw yX4_firstClear cX4_firstClear 4 (some .int) 2 := ⟨tbs_of (List.mem_of_getElem? (i := 684) (by decide +kernel)) rfl, tw_388, by decide +kernel, by decide +kernel, by decide +kernel⟩
theorem tw_682 : Cond.selects RX4 yX4_firstClear yX4_firstClear ∈ tbs := tbs_of (List.mem_of_getElem? (i := 11) (by decide +kernel)) rfl
theorem cw_X4_planAsTheyCome : Cw yX4_planAsTheyCome cX4_planAsTheyCome 4 (some .boolean) 0 := ⟨tbs_of (List.mem_of_getElem? (i := 680) (by decide +kernel)) rfl, tw_388, by decide +kernel, by decide +kernel, by decide +kernel⟩
theorem tw_683 : Cond.selects RX4 yX4_planAsTheyCome yX4_planAsTheyCome ∈ tbs := tbs_of (List.mem_of_getElem? (i := 679) (by decide +kernel)) rfl
theorem cw_X4_planSoonest : Cw yX4_planSoonest cX4_planSoonest 1 (some .boolean) 0 := ⟨tbs_of (List.mem_of_getElem? (i := 699) (by decide +kernel)) rfl, tw_388, by decide +kernel, by decide +kernel, by decide +kernel⟩
theorem tw_684 : Cond.selects RX4 yX4_planSoonest yX4_planSoonest ∈ tbs := tbs_of (List.mem_of_getElem? (i := 698) (by decide +kernel)) rfl
theorem cw_X4_tryFrom : Cw yX4_tryFrom cX4_tryFrom 6 none 3 := ⟨tbs_of (List.mem_of_getElem? (i := 703) (by decide +kernel)) rfl, tw_388, by decide +kernel, by decide +kernel, by decide +kernel⟩
theorem tw_685 : Cond.selects RX4 yX4_tryFrom yX4_tryFrom ∈ tbs := tbs_of (List.mem_of_getElem? (i := 12) (by decide +kernel)) rfl
theorem cw_X4_tellDays : Cw yX4_tellDays cX4_tellDays 4 none 2 := ⟨tbs_of (List.mem_of_getElem? (i := 689) (by decide +kernel)) rfl, tw_388, by decide +kernel, by decide +kernel, by decide +kernel⟩
theorem tw_686 : Cond.selects RX4 yX4_tellDays yX4_tellDays ∈ tbs := tbs_of (List.mem_of_getElem? (i := 688) (by decide +kernel)) rfl
theorem cw_X4_tellPlaces : Cw yX4_tellPlaces cX4_tellPlaces 4 none 2 := ⟨tbs_of (List.mem_of_getElem? (i := 708) (by decide +kernel)) rfl, tw_388, by decide +kernel, by decide +kernel, by decide +kernel⟩
theorem tw_687 : Cond.selects RX4 yX4_tellPlaces yX4_tellPlaces ∈ tbs := tbs_of (List.mem_of_getElem? (i := 707) (by decide +kernel)) rfl
theorem cw_X5_init : Cw yX5_init cX5_init 1 none 0 := ⟨tbs_of (List.mem_of_getElem? (i := 162) (by decide +kernel)) rfl, tw_386, by decide +kernel, by decide +kernel, by decide +kernel⟩
theorem cw_X5_faultOf : Cw yX5_faultOf cX5_faultOf 5 (some .int) 3 := ⟨tbs_of (List.mem_of_getElem? (i := 396) (by decide +kernel)) rfl, tw_386, by decide +kernel, by decide +kernel, by decide +kernel⟩
theorem tw_688 : Cond.selects RX5 yX5_faultOf yX5_faultOf ∈ tbs := tbs_of (List.mem_of_getElem? (i := 395) (by decide +kernel)) rfl
theorem cw_X5_sign : Cw yX5_sign cX5_sign 1 (some .int) 0 := ⟨tbs_of (List.mem_of_getElem? (i := 405) (by decide +kernel)) rfl, tw_386, by decide +kernel, by decide +kernel, by decide +kernel⟩
theorem tw_689 : Cond.selects RX5 yX5_sign yX5_sign ∈ tbs := tbs_of (List.mem_of_getElem? (i := 1) (by decide +kernel)) rfl
theorem cw_X5_takeItem : Cw yX5_takeItem cX5_takeItem 5 none 1 := ⟨tbs_of (List.mem_of_getElem? (i := 410) (by decide +kernel)) rfl, tw_386, by decide +kernel, by decide +kernel, by decide +kernel⟩
theorem tw_690 : Cond.selects RX5 yX5_takeItem yX5_takeItem ∈ tbs := tbs_of (List.mem_of_getElem? (i := 2) (by decide +kernel)) rfl
theorem cw_X5_kindByLetter : Cw yX5_kindByLetter cX5_kindByLetter 2 (some .int) 1 := ⟨tbs_of (List.mem_of_getElem? (i := 413) (by decide +kernel)) rfl, tw_386, by decide +kernel, by decide +kernel, by decide +kernel⟩
theorem cw_X5_takeFigure : Cw yX5_takeFigure cX5_takeFigure 3 (some .int) 2 := ⟨tbs_of (List.mem_of_getElem? (i := 419) (by decide +kernel)) rfl, tw_386, by decide +kernel, by decide +kernel, by decide +kernel⟩
theorem tw_691 : Cond.selects RX5 yX5_takeFigure yX5_takeFigure ∈ tbs := tbs_of (List.mem_of_getElem? (i := 3) (by decide +kernel)) rfl
theorem cw_X5_isAtFigure : Cw yX5_isAtFigure cX5_isAtFigure 1 (some .boolean) 0 := ⟨tbs_of (List.mem_of_getElem? (i := 458) (by decide +kernel)) rfl, tw_386, by decide +kernel, by decide +kernel, by decide +kernel⟩
theorem tw_692 : Cond.selects RX5 yX5_isAtFigure yX5_isAtFigure ∈ tbs := tbs_of (List.mem_of_getElem? (i := 6) (by decide +kernel)) rfl
theorem cw_X5_takeWords : Cw yX5_takeWords cX5_takeWords 5 (some .int) 0 := ⟨tbs_of (List.mem_of_getElem? (i := 454) (by decide +kernel)) rfl, tw_386, by decide +kernel, by decide +kernel, by decide +kernel⟩
theorem tw_693 : Cond.selects RX5 yX5_takeWords yX5_takeWords ∈ tbs := tbs_of (List.mem_of_getElem? (i := 5) (by decide +kernel)) rfl
theorem cw_X6_init : Cw yX6_init cX6_init 3 none 2 := ⟨tbs_of (List.mem_of_getElem? (i := 80) (by decide +kernel)) rfl, tw_382, by decide +kernel, by decide +kernel, by decide +kernel⟩
theorem cw_X6_isOne : Cw yX6_isOne cX6_isOne 2 (some .boolean) 1 := ⟨tbs_of (List.mem_of_getElem? (i := 313) (by decide +kernel)) rfl, tw_382, by decide +kernel, by decide +kernel, by decide +kernel⟩
theorem tw_694 : Cond.selects RX6 yX6_isOne yX6_isOne ∈ tbs := tbs_of (List.mem_of_getElem? (i := 312) (by decide +kernel)) rfl
theorem cw_X6_isThere : Cw yX6_isThere cX6_isThere 2 (some .boolean) 1 := ⟨tbs_of (List.mem_of_getElem? (i := 329) (by decide +kernel)) rfl, tw_382, by decide +kernel, by decide +kernel, by decide +kernel⟩
theorem tw_695 : Cond.selects RX6 yX6_isThere yX6_isThere ∈ tbs := tbs_of (List.mem_of_getElem? (i := 328) (by decide +kernel)) rfl
theorem cw_X6_isPlace : Cw yX6_isPlace cX6_isPlace 3 (some .boolean) 2 := ⟨tbs_of (List.mem_of_getElem? (i := 333) (by decide +kernel)) rfl, tw_382, by decide +kernel, by decide +kernel, by decide +kernel⟩
theorem tw_696 : Cond.selects RX6 yX6_isPlace yX6_isPlace ∈ tbs := tbs_of (List.mem_of_getElem? (i := 332) (by decide +kernel)) rfl
theorem cw_X6_arePlaces : Cw yX6_arePlaces cX6_arePlaces 4 (some .boolean) 3 := ⟨tbs_of (List.mem_of_getElem? (i := 361) (by decide +kernel)) rfl, tw_382, by decide +kernel, by decide +kernel, by decide +kernel⟩
theorem tw_697 : Cond.selects RX6 yX6_arePlaces yX6_arePlaces ∈ tbs := tbs_of (List.mem_of_getElem? (i := 360) (by decide +kernel)) rfl
theorem cw_X6_sizeOf : Cw yX6_sizeOf cX6_sizeOf 2 (some .int) 1 := ⟨tbs_of (List.mem_of_getElem? (i := 376) (by decide +kernel)) rfl, tw_382, by decide +kernel, by decide +kernel, by decide +kernel⟩
theorem tw_698 : Cond.selects RX6 yX6_sizeOf yX6_sizeOf ∈ tbs := tbs_of (List.mem_of_getElem? (i := 375) (by decide +kernel)) rfl
theorem cw_X6_placeOf : Cw yX6_placeOf cX6_placeOf 3 (some .int) 2 := ⟨tbs_of (List.mem_of_getElem? (i := 337) (by decide +kernel)) rfl, tw_382, by decide +kernel, by decide +kernel, by decide +kernel⟩
theorem tw_699 : Cond.selects RX6 yX6_placeOf yX6_placeOf ∈ tbs := tbs_of (List.mem_of_getElem? (i := 336) (by decide +kernel)) rfl
theorem cw_X6_write : Cw yX6_write cX6_write 4 none 3 := ⟨tbs_of (List.mem_of_getElem? (i := 341) (by decide +kernel)) rfl, tw_382, by decide +kernel, by decide +kernel, by decide +kernel⟩
theorem tw_700 : Cond.selects RX6 yX6_write yX6_write ∈ tbs := tbs_of (List.mem_of_getElem? (i := 340) (by decide +kernel)) rfl
theorem cw_X6_make : Cw yX6_make cX6_make 5 none 3 := ⟨tbs_of (List.mem_of_getElem? (i := 321) (by decide +kernel)) rfl, tw_382, by decide +kernel, by decide +kernel, by decide +kernel⟩
theorem tw_701 : Cond.selects RX6 yX6_make yX6_make ∈ tbs := tbs_of (List.mem_of_getElem? (i := 320) (by decide +kernel)) rfl
theorem cw_X6_drop : Cw yX6_drop cX6_drop 2 none 1 := ⟨tbs_of (List.mem_of_getElem? (i := 353) (by decide +kernel)) rfl, tw_382, by decide +kernel, by decide +kernel, by decide +kernel⟩
theorem tw_702 : Cond.selects RX6 yX6_drop yX6_drop ∈ tbs := tbs_of (List.mem_of_getElem? (i := 352) (by decide +kernel)) rfl
theorem cw_X6_carry : Cw yX6_carry cX6_carry 6 none 5 := ⟨tbs_of (List.mem_of_getElem? (i := 365) (by decide +kernel)) rfl, tw_382, by decide +kernel, by decide +kernel, by decide +kernel⟩
theorem tw_703 : Cond.selects RX6 yX6_carry yX6_carry ∈ tbs := tbs_of (List.mem_of_getElem? (i := 364) (by decide +kernel)) rfl
theorem cw_X6_sumOf : Cw yX6_sumOf cX6_sumOf 5 (some .long) 1 := ⟨tbs_of (List.mem_of_getElem? (i := 380) (by decide +kernel)) rfl, tw_382, by decide +kernel, by decide +kernel, by decide +kernel⟩
theorem tw_704 : Cond.selects RX6 yX6_sumOf yX6_sumOf ∈ tbs := tbs_of (List.mem_of_getElem? (i := 379) (by decide +kernel)) rfl
theorem cw_X6_countThere : Cw yX6_countThere cX6_countThere 3 (some .int) 0 := ⟨tbs_of (List.mem_of_getElem? (i := 827) (by decide +kernel)) rfl, tw_382, by decide +kernel, by decide +kernel, by decide +kernel⟩
theorem tw_705 : Cond.selects RX6 yX6_countThere yX6_countThere ∈ tbs := tbs_of (List.mem_of_getElem? (i := 826) (by decide +kernel)) rfl
theorem cw_X6_digestOn : Cw yX6_digestOn cX6_digestOn 7 (some .long) 1 := ⟨tbs_of (List.mem_of_getElem? (i := 851) (by decide +kernel)) rfl, tw_382, by decide +kernel, by decide +kernel, by decide +kernel⟩
theorem tw_706 : Cond.selects RX6 yX6_digestOn yX6_digestOn ∈ tbs := tbs_of (List.mem_of_getElem? (i := 850) (by decide +kernel)) rfl
theorem cw_X7_init : Cw yX7_init cX7_init 1 none 0 := ⟨tbs_of (List.mem_of_getElem? (i := 72) (by decide +kernel)) rfl, tw_381, by decide +kernel, by decide +kernel, by decide +kernel⟩
theorem cw_X7_row : Cw yX7_row cX7_row 3 (some .int) 2 := ⟨tbs_of (List.mem_of_getElem? (i := 309) (by decide +kernel)) rfl, tw_381, by decide +kernel, by decide +kernel, by decide +kernel⟩
theorem tw_707 : Cond.selects RX7 yX7_row yX7_row ∈ tbs := tbs_of (List.mem_of_getElem? (i := 308) (by decide +kernel)) rfl
theorem cw_X7_lay : Cw yX7_lay cX7_lay 4 (some .int) 3 := ⟨tbs_of (List.mem_of_getElem? (i := 325) (by decide +kernel)) rfl, tw_381, by decide +kernel, by decide +kernel, by decide +kernel⟩
theorem tw_708 : Cond.selects RX7 yX7_lay yX7_lay ∈ tbs := tbs_of (List.mem_of_getElem? (i := 324) (by decide +kernel)) rfl
theorem cw_X7_at : Cw yX7_at cX7_at 3 (some .int) 2 := ⟨tbs_of (List.mem_of_getElem? (i := 345) (by decide +kernel)) rfl, tw_381, by decide +kernel, by decide +kernel, by decide +kernel⟩
theorem tw_709 : Cond.selects RX7 yX7_at yX7_at ∈ tbs := tbs_of (List.mem_of_getElem? (i := 344) (by decide +kernel)) rfl
theorem cw_X7_tear : Cw yX7_tear cX7_tear 2 (some .int) 1 := ⟨tbs_of (List.mem_of_getElem? (i := 349) (by decide +kernel)) rfl, tw_381, by decide +kernel, by decide +kernel, by decide +kernel⟩
theorem tw_710 : Cond.selects RX7 yX7_tear yX7_tear ∈ tbs := tbs_of (List.mem_of_getElem? (i := 348) (by decide +kernel)) rfl
theorem cw_X7_copy : Cw yX7_copy cX7_copy 6 (some .int) 5 := ⟨tbs_of (List.mem_of_getElem? (i := 357) (by decide +kernel)) rfl, tw_381, by decide +kernel, by decide +kernel, by decide +kernel⟩
theorem tw_711 : Cond.selects RX7 yX7_copy yX7_copy ∈ tbs := tbs_of (List.mem_of_getElem? (i := 356) (by decide +kernel)) rfl
theorem cw_X7_mean : Cw yX7_mean cX7_mean 3 (some .int) 1 := ⟨tbs_of (List.mem_of_getElem? (i := 372) (by decide +kernel)) rfl, tw_381, by decide +kernel, by decide +kernel, by decide +kernel⟩
theorem tw_712 : Cond.selects RX7 yX7_mean yX7_mean ∈ tbs := tbs_of (List.mem_of_getElem? (i := 371) (by decide +kernel)) rfl
theorem cw_X7_text : Cw yX7_text cX7_text 3 (some .int) 2 := ⟨tbs_of (List.mem_of_getElem? (i := 384) (by decide +kernel)) rfl, tw_381, by decide +kernel, by decide +kernel, by decide +kernel⟩
theorem tw_713 : Cond.selects RX7 yX7_text yX7_text ∈ tbs := tbs_of (List.mem_of_getElem? (i := 383) (by decide +kernel)) rfl
theorem cw_X7_put : Cw yX7_put cX7_put 5 (some .int) 3 := ⟨tbs_of (List.mem_of_getElem? (i := 388) (by decide +kernel)) rfl, tw_381, by decide +kernel, by decide +kernel, by decide +kernel⟩
theorem tw_714 : Cond.selects RX7 yX7_put yX7_put ∈ tbs := tbs_of (List.mem_of_getElem? (i := 387) (by decide +kernel)) rfl
theorem cw_X7_fault : Cw yX7_fault cX7_fault 2 (some .int) 1 := ⟨tbs_of (List.mem_of_getElem? (i := 392) (by decide +kernel)) rfl, tw_381, by decide +kernel, by decide +kernel, by decide +kernel⟩
theorem tw_715 : Cond.selects RX7 yX7_fault yX7_fault ∈ tbs := tbs_of (List.mem_of_getElem? (i := 391) (by decide +kernel)) rfl
theorem cw_X7_book : Cw yX7_book cX7_book 3 (some .int) 1 := ⟨tbs_of (List.mem_of_getElem? (i := 462) (by decide +kernel)) rfl, tw_381, by decide +kernel, by decide +kernel, by decide +kernel⟩
theorem tw_716 : Cond.selects RX7 yX7_book yX7_book ∈ tbs := tbs_of (List.mem_of_getElem? (i := 461) (by decide +kernel)) rfl
theorem cw_X7_page : Cw yX7_page cX7_page 3 (some .int) 2 := ⟨tbs_of (List.mem_of_getElem? (i := 479) (by decide +kernel)) rfl, tw_381, by decide +kernel, by decide +kernel, by decide +kernel⟩
theorem tw_717 : Cond.selects RX7 yX7_page yX7_page ∈ tbs := tbs_of (List.mem_of_getElem? (i := 478) (by decide +kernel)) rfl
theorem cw_X7_mark : Cw yX7_mark cX7_mark 3 (some .int) 2 := ⟨tbs_of (List.mem_of_getElem? (i := 492) (by decide +kernel)) rfl, tw_381, by decide +kernel, by decide +kernel, by decide +kernel⟩
theorem tw_718 : Cond.selects RX7 yX7_mark yX7_mark ∈ tbs := tbs_of (List.mem_of_getElem? (i := 491) (by decide +kernel)) rfl
theorem cw_X7_reverse : Cw yX7_reverse cX7_reverse 5 (some .int) 2 := ⟨tbs_of (List.mem_of_getElem? (i := 512) (by decide +kernel)) rfl, tw_381, by decide +kernel, by decide +kernel, by decide +kernel⟩
theorem tw_719 : Cond.selects RX7 yX7_reverse yX7_reverse ∈ tbs := tbs_of (List.mem_of_getElem? (i := 511) (by decide +kernel)) rfl
theorem cw_X7_swap : Cw yX7_swap cX7_swap 4 (some .int) 2 := ⟨tbs_of (List.mem_of_getElem? (i := 519) (by decide +kernel)) rfl, tw_381, by decide +kernel, by decide +kernel, by decide +kernel⟩
theorem tw_720 : Cond.selects RX7 yX7_swap yX7_swap ∈ tbs := tbs_of (List.mem_of_getElem? (i := 518) (by decide +kernel)) rfl
theorem cw_X7_read : Cw yX7_read cX7_read 4 (some .int) 1 := ⟨tbs_of (List.mem_of_getElem? (i := 523) (by decide +kernel)) rfl, tw_381, by decide +kernel, by decide +kernel, by decide +kernel⟩
theorem tw_721 : Cond.selects RX7 yX7_read yX7_read ∈ tbs := tbs_of (List.mem_of_getElem? (i := 522) (by decide +kernel)) rfl
theorem cw_X7_add : Cw yX7_add cX7_add 3 (some .int) 2 := ⟨tbs_of (List.mem_of_getElem? (i := 532) (by decide +kernel)) rfl, tw_381, by decide +kernel, by decide +kernel, by decide +kernel⟩
theorem tw_722 : Cond.selects RX7 yX7_add yX7_add ∈ tbs := tbs_of (List.mem_of_getElem? (i := 531) (by decide +kernel)) rfl
theorem cw_X7_rip : Cw yX7_rip cX7_rip 1 (some .int) 0 := ⟨tbs_of (List.mem_of_getElem? (i := 537) (by decide +kernel)) rfl, tw_381, by decide +kernel, by decide +kernel, by decide +kernel⟩
theorem tw_723 : Cond.selects RX7 yX7_rip yX7_rip ∈ tbs := tbs_of (List.mem_of_getElem? (i := 536) (by decide +kernel)) rfl
theorem cw_X7_keep : Cw yX7_keep cX7_keep 2 (some .int) 1 := ⟨tbs_of (List.mem_of_getElem? (i := 545) (by decide +kernel)) rfl, tw_381, by decide +kernel, by decide +kernel, by decide +kernel⟩
theorem tw_724 : Cond.selects RX7 yX7_keep yX7_keep ∈ tbs := tbs_of (List.mem_of_getElem? (i := 544) (by decide +kernel)) rfl
theorem cw_X7_on : Cw yX7_on cX7_on 2 (some .int) 1 := ⟨tbs_of (List.mem_of_getElem? (i := 552) (by decide +kernel)) rfl, tw_381, by decide +kernel, by decide +kernel, by decide +kernel⟩
theorem tw_725 : Cond.selects RX7 yX7_on yX7_on ∈ tbs := tbs_of (List.mem_of_getElem? (i := 551) (by decide +kernel)) rfl
theorem cw_X7_binds : Cw yX7_binds cX7_binds 2 (some .int) 1 := ⟨tbs_of (List.mem_of_getElem? (i := 556) (by decide +kernel)) rfl, tw_381, by decide +kernel, by decide +kernel, by decide +kernel⟩
theorem tw_726 : Cond.selects RX7 yX7_binds yX7_binds ∈ tbs := tbs_of (List.mem_of_getElem? (i := 555) (by decide +kernel)) rfl
theorem cw_X7_means : Cw yX7_means cX7_means 3 (some .int) 2 := ⟨tbs_of (List.mem_of_getElem? (i := 567) (by decide +kernel)) rfl, tw_381, by decide +kernel, by decide +kernel, by decide +kernel⟩
theorem tw_727 : Cond.selects RX7 yX7_means yX7_means ∈ tbs := tbs_of (List.mem_of_getElem? (i := 566) (by decide +kernel)) rfl
theorem cw_X7_meanings : Cw yX7_meanings cX7_meanings 3 (some .int) 1 := ⟨tbs_of (List.mem_of_getElem? (i := 576) (by decide +kernel)) rfl, tw_381, by decide +kernel, by decide +kernel, by decide +kernel⟩
theorem tw_728 : Cond.selects RX7 yX7_meanings yX7_meanings ∈ tbs := tbs_of (List.mem_of_getElem? (i := 575) (by decide +kernel)) rfl
theorem cw_X7_never : Cw yX7_never cX7_never 4 (some .int) 0 := ⟨tbs_of (List.mem_of_getElem? (i := 581) (by decide +kernel)) rfl, tw_381, by decide +kernel, by decide +kernel, by decide +kernel⟩
theorem tw_729 : Cond.selects RX7 yX7_never yX7_never ∈ tbs := tbs_of (List.mem_of_getElem? (i := 580) (by decide +kernel)) rfl
theorem cw_X7_verdict : Cw yX7_verdict cX7_verdict 3 (some .int) 2 := ⟨tbs_of (List.mem_of_getElem? (i := 589) (by decide +kernel)) rfl, tw_381, by decide +kernel, by decide +kernel, by decide +kernel⟩
theorem tw_730 : Cond.selects RX7 yX7_verdict yX7_verdict ∈ tbs := tbs_of (List.mem_of_getElem? (i := 588) (by decide +kernel)) rfl
theorem cw_X7_judge : Cw yX7_judge cX7_judge 7 (some .int) 3 := ⟨tbs_of (List.mem_of_getElem? (i := 623) (by decide +kernel)) rfl, tw_381, by decide +kernel, by decide +kernel, by decide +kernel⟩
theorem tw_731 : Cond.selects RX7 yX7_judge yX7_judge ∈ tbs := tbs_of (List.mem_of_getElem? (i := 622) (by decide +kernel)) rfl
theorem cw_X7_odds : Cw yX7_odds cX7_odds 3 (some .int) 2 := ⟨tbs_of (List.mem_of_getElem? (i := 631) (by decide +kernel)) rfl, tw_381, by decide +kernel, by decide +kernel, by decide +kernel⟩
theorem tw_732 : Cond.selects RX7 yX7_odds yX7_odds ∈ tbs := tbs_of (List.mem_of_getElem? (i := 630) (by decide +kernel)) rfl
theorem cw_X7_waits : Cw yX7_waits cX7_waits 2 (some .int) 1 := ⟨tbs_of (List.mem_of_getElem? (i := 639) (by decide +kernel)) rfl, tw_381, by decide +kernel, by decide +kernel, by decide +kernel⟩
theorem tw_733 : Cond.selects RX7 yX7_waits yX7_waits ∈ tbs := tbs_of (List.mem_of_getElem? (i := 638) (by decide +kernel)) rfl
theorem cw_X7_all : Cw yX7_all cX7_all 1 (some .int) 0 := ⟨tbs_of (List.mem_of_getElem? (i := 647) (by decide +kernel)) rfl, tw_381, by decide +kernel, by decide +kernel, by decide +kernel⟩
theorem tw_734 : Cond.selects RX7 yX7_all yX7_all ∈ tbs := tbs_of (List.mem_of_getElem? (i := 646) (by decide +kernel)) rfl
theorem cw_X7_free : Cw yX7_free cX7_free 4 (some .int) 2 := ⟨tbs_of (List.mem_of_getElem? (i := 658) (by decide +kernel)) rfl, tw_381, by decide +kernel, by decide +kernel, by decide +kernel⟩
theorem tw_735 : Cond.selects RX7 yX7_free yX7_free ∈ tbs := tbs_of (List.mem_of_getElem? (i := 657) (by decide +kernel)) rfl
theorem cw_X7_deeds : Cw yX7_deeds cX7_deeds 4 (some .int) 2 := ⟨tbs_of (List.mem_of_getElem? (i := 662) (by decide +kernel)) rfl, tw_381, by decide +kernel, by decide +kernel, by decide +kernel⟩
theorem tw_736 : Cond.selects RX7 yX7_deeds yX7_deeds ∈ tbs := tbs_of (List.mem_of_getElem? (i := 661) (by decide +kernel)) rfl
theorem cw_X7_order : Cw yX7_order cX7_order 4 (some .int) 2 := ⟨tbs_of (List.mem_of_getElem? (i := 695) (by decide +kernel)) rfl, tw_381, by decide +kernel, by decide +kernel, by decide +kernel⟩
theorem tw_737 : Cond.selects RX7 yX7_order yX7_order ∈ tbs := tbs_of (List.mem_of_getElem? (i := 694) (by decide +kernel)) rfl
theorem cw_X7_flips : Cw yX7_flips cX7_flips 2 (some .int) 1 := ⟨tbs_of (List.mem_of_getElem? (i := 712) (by decide +kernel)) rfl, tw_381, by decide +kernel, by decide +kernel, by decide +kernel⟩
theorem tw_738 : Cond.selects RX7 yX7_flips yX7_flips ∈ tbs := tbs_of (List.mem_of_getElem? (i := 711) (by decide +kernel)) rfl
theorem cw_X7_flip : Cw yX7_flip cX7_flip 3 (some .int) 2 := ⟨tbs_of (List.mem_of_getElem? (i := 724) (by decide +kernel)) rfl, tw_381, by decide +kernel, by decide +kernel, by decide +kernel⟩
theorem tw_739 : Cond.selects RX7 yX7_flip yX7_flip ∈ tbs := tbs_of (List.mem_of_getElem? (i := 723) (by decide +kernel)) rfl
theorem cw_X7_most : Cw yX7_most cX7_most 5 (some .int) 0 := ⟨tbs_of (List.mem_of_getElem? (i := 732) (by decide +kernel)) rfl, tw_381, by decide +kernel, by decide +kernel, by decide +kernel⟩
theorem tw_740 : Cond.selects RX7 yX7_most yX7_most ∈ tbs := tbs_of (List.mem_of_getElem? (i := 731) (by decide +kernel)) rfl
theorem cw_X7_matter : Cw yX7_matter cX7_matter 5 (some .int) 2 := ⟨tbs_of (List.mem_of_getElem? (i := 736) (by decide +kernel)) rfl, tw_381, by decide +kernel, by decide +kernel, by decide +kernel⟩
theorem tw_741 : Cond.selects RX7 yX7_matter yX7_matter ∈ tbs := tbs_of (List.mem_of_getElem? (i := 735) (by decide +kernel)) rfl
theorem cw_X7_best : Cw yX7_best cX7_best 3 (some .int) 1 := ⟨tbs_of (List.mem_of_getElem? (i := 748) (by decide +kernel)) rfl, tw_381, by decide +kernel, by decide +kernel, by decide +kernel⟩
theorem tw_742 : Cond.selects RX7 yX7_best yX7_best ∈ tbs := tbs_of (List.mem_of_getElem? (i := 747) (by decide +kernel)) rfl
theorem cw_X7_front : Cw yX7_front cX7_front 1 (some .int) 0 := ⟨tbs_of (List.mem_of_getElem? (i := 768) (by decide +kernel)) rfl, tw_381, by decide +kernel, by decide +kernel, by decide +kernel⟩
theorem tw_743 : Cond.selects RX7 yX7_front yX7_front ∈ tbs := tbs_of (List.mem_of_getElem? (i := 767) (by decide +kernel)) rfl
theorem cw_X7_meant : Cw yX7_meant cX7_meant 6 (some .int) 1 := ⟨tbs_of (List.mem_of_getElem? (i := 776) (by decide +kernel)) rfl, tw_381, by decide +kernel, by decide +kernel, by decide +kernel⟩
theorem tw_744 : Cond.selects RX7 yX7_meant yX7_meant ∈ tbs := tbs_of (List.mem_of_getElem? (i := 775) (by decide +kernel)) rfl
theorem cw_X7_kinds : Cw yX7_kinds cX7_kinds 6 (some .int) 4 := ⟨tbs_of (List.mem_of_getElem? (i := 789) (by decide +kernel)) rfl, tw_381, by decide +kernel, by decide +kernel, by decide +kernel⟩
theorem tw_745 : Cond.selects RX7 yX7_kinds yX7_kinds ∈ tbs := tbs_of (List.mem_of_getElem? (i := 788) (by decide +kernel)) rfl
theorem cw_X7_lots : Cw yX7_lots cX7_lots 7 (some .int) 2 := ⟨tbs_of (List.mem_of_getElem? (i := 798) (by decide +kernel)) rfl, tw_381, by decide +kernel, by decide +kernel, by decide +kernel⟩
theorem tw_746 : Cond.selects RX7 yX7_lots yX7_lots ∈ tbs := tbs_of (List.mem_of_getElem? (i := 797) (by decide +kernel)) rfl
theorem cw_X7_asked : Cw yX7_asked cX7_asked 1 (some .int) 0 := ⟨tbs_of (List.mem_of_getElem? (i := 807) (by decide +kernel)) rfl, tw_381, by decide +kernel, by decide +kernel, by decide +kernel⟩
theorem tw_747 : Cond.selects RX7 yX7_asked yX7_asked ∈ tbs := tbs_of (List.mem_of_getElem? (i := 806) (by decide +kernel)) rfl
theorem cw_X7_upper : Cw yX7_upper cX7_upper 1 (some .long) 0 := ⟨tbs_of (List.mem_of_getElem? (i := 811) (by decide +kernel)) rfl, tw_381, by decide +kernel, by decide +kernel, by decide +kernel⟩
theorem tw_748 : Cond.selects RX7 yX7_upper yX7_upper ∈ tbs := tbs_of (List.mem_of_getElem? (i := 810) (by decide +kernel)) rfl
theorem cw_X7_lower : Cw yX7_lower cX7_lower 1 (some .long) 0 := ⟨tbs_of (List.mem_of_getElem? (i := 815) (by decide +kernel)) rfl, tw_381, by decide +kernel, by decide +kernel, by decide +kernel⟩
theorem tw_749 : Cond.selects RX7 yX7_lower yX7_lower ∈ tbs := tbs_of (List.mem_of_getElem? (i := 814) (by decide +kernel)) rfl
theorem cw_X7_count : Cw yX7_count cX7_count 2 (some .int) 1 := ⟨tbs_of (List.mem_of_getElem? (i := 819) (by decide +kernel)) rfl, tw_381, by decide +kernel, by decide +kernel, by decide +kernel⟩
theorem tw_750 : Cond.selects RX7 yX7_count yX7_count ∈ tbs := tbs_of (List.mem_of_getElem? (i := 818) (by decide +kernel)) rfl
theorem cw_X7_finding : Cw yX7_finding cX7_finding 1 (some .int) 0 := ⟨tbs_of (List.mem_of_getElem? (i := 836) (by decide +kernel)) rfl, tw_381, by decide +kernel, by decide +kernel, by decide +kernel⟩
theorem tw_751 : Cond.selects RX7 yX7_finding yX7_finding ∈ tbs := tbs_of (List.mem_of_getElem? (i := 835) (by decide +kernel)) rfl
theorem cw_X7_findings : Cw yX7_findings cX7_findings 2 (some .int) 1 := ⟨tbs_of (List.mem_of_getElem? (i := 840) (by decide +kernel)) rfl, tw_381, by decide +kernel, by decide +kernel, by decide +kernel⟩
theorem tw_752 : Cond.selects RX7 yX7_findings yX7_findings ∈ tbs := tbs_of (List.mem_of_getElem? (i := 839) (by decide +kernel)) rfl
theorem cw_X7_digest : Cw yX7_digest cX7_digest 5 (some .long) 0 := ⟨tbs_of (List.mem_of_getElem? (i := 844) (by decide +kernel)) rfl, tw_381, by decide +kernel, by decide +kernel, by decide +kernel⟩
theorem tw_753 : Cond.selects RX7 yX7_digest yX7_digest ∈ tbs := tbs_of (List.mem_of_getElem? (i := 843) (by decide +kernel)) rfl
theorem cw_X7_hasBit : Cw yX7_hasBit cX7_hasBit 2 (some .boolean) 2 := ⟨tbs_of (List.mem_of_getElem? (i := 430) (by decide +kernel)) rfl, tw_381, by decide +kernel, by decide +kernel, by decide +kernel⟩
theorem cw_X7_isDay : Cw yX7_isDay cX7_isDay 1 (some .boolean) 1 := ⟨tbs_of (List.mem_of_getElem? (i := 559) (by decide +kernel)) rfl, tw_381, by decide +kernel, by decide +kernel, by decide +kernel⟩
theorem cw_X7_isCase : Cw yX7_isCase cX7_isCase 1 (some .boolean) 1 := ⟨tbs_of (List.mem_of_getElem? (i := 592) (by decide +kernel)) rfl, tw_381, by decide +kernel, by decide +kernel, by decide +kernel⟩
theorem cw_X7_isVerdict : Cw yX7_isVerdict cX7_isVerdict 1 (some .boolean) 1 := ⟨tbs_of (List.mem_of_getElem? (i := 515) (by decide +kernel)) rfl, tw_381, by decide +kernel, by decide +kernel, by decide +kernel⟩
theorem cw_X7_isShelf : Cw yX7_isShelf cX7_isShelf 1 (some .boolean) 1 := ⟨tbs_of (List.mem_of_getElem? (i := 548) (by decide +kernel)) rfl, tw_381, by decide +kernel, by decide +kernel, by decide +kernel⟩
theorem cw_X7_refuse : Cw yX7_refuse cX7_refuse 2 (some .int) 1 := ⟨tbs_of (List.mem_of_getElem? (i := 317) (by decide +kernel)) rfl, tw_381, by decide +kernel, by decide +kernel, by decide +kernel⟩
theorem tw_754 : Cond.selects RX7 yX7_refuse yX7_refuse ∈ tbs := tbs_of (List.mem_of_getElem? (i := 0) (by decide +kernel)) rfl
theorem cw_X7_keptBooks : Cw yX7_keptBooks cX7_keptBooks 3 (some .int) 0 := ⟨tbs_of (List.mem_of_getElem? (i := 832) (by decide +kernel)) rfl, tw_381, by decide +kernel, by decide +kernel, by decide +kernel⟩
theorem tw_755 : Cond.selects RX7 yX7_keptBooks yX7_keptBooks ∈ tbs := tbs_of (List.mem_of_getElem? (i := 18) (by decide +kernel)) rfl
theorem cw_X7_namesEachPageOnce : Cw yX7_namesEachPageOnce cX7_namesEachPageOnce 5 (some .boolean) 1 := ⟨tbs_of (List.mem_of_getElem? (i := 527) (by decide +kernel)) rfl, tw_381, by decide +kernel, by decide +kernel, by decide +kernel⟩
theorem tw_756 : Cond.selects RX7 yX7_namesEachPageOnce yX7_namesEachPageOnce ∈ tbs := tbs_of (List.mem_of_getElem? (i := 7) (by decide +kernel)) rfl
theorem cw_X7_tellFraction : Cw yX7_tellFraction cX7_tellFraction 4 none 2 := ⟨tbs_of (List.mem_of_getElem? (i := 635) (by decide +kernel)) rfl, tw_381, by decide +kernel, by decide +kernel, by decide +kernel⟩
theorem tw_757 : Cond.selects RX7 yX7_tellFraction yX7_tellFraction ∈ tbs := tbs_of (List.mem_of_getElem? (i := 9) (by decide +kernel)) rfl
theorem cw_X7_refusalOfDeeds : Cw yX7_refusalOfDeeds cX7_refusalOfDeeds 5 (some .int) 3 := ⟨tbs_of (List.mem_of_getElem? (i := 666) (by decide +kernel)) rfl, tw_381, by decide +kernel, by decide +kernel, by decide +kernel⟩
theorem tw_758 : Cond.selects RX7 yX7_refusalOfDeeds yX7_refusalOfDeeds ∈ tbs := tbs_of (List.mem_of_getElem? (i := 10) (by decide +kernel)) rfl
theorem cw_X7_tellsJudgements : Cw yX7_tellsJudgements cX7_tellsJudgements 3 (some .boolean) 1 := ⟨tbs_of (List.mem_of_getElem? (i := 780) (by decide +kernel)) rfl, tw_381, by decide +kernel, by decide +kernel, by decide +kernel⟩
theorem tw_759 : Cond.selects RX7 yX7_tellsJudgements yX7_tellsJudgements ∈ tbs := tbs_of (List.mem_of_getElem? (i := 15) (by decide +kernel)) rfl
theorem cw_X7_couldMean : Cw yX7_couldMean cX7_couldMean 7 (some .boolean) 3 := ⟨tbs_of (List.mem_of_getElem? (i := 784) (by decide +kernel)) rfl, tw_381, by decide +kernel, by decide +kernel, by decide +kernel⟩
theorem tw_760 : Cond.selects RX7 yX7_couldMean yX7_couldMean ∈ tbs := tbs_of (List.mem_of_getElem? (i := 16) (by decide +kernel)) rfl
theorem cw_X7_bitIfKind : Cw yX7_bitIfKind cX7_bitIfKind 6 (some .int) 5 := ⟨tbs_of (List.mem_of_getElem? (i := 793) (by decide +kernel)) rfl, tw_381, by decide +kernel, by decide +kernel, by decide +kernel⟩
theorem tw_761 : Cond.selects RX7 yX7_bitIfKind yX7_bitIfKind ∈ tbs := tbs_of (List.mem_of_getElem? (i := 17) (by decide +kernel)) rfl
theorem cw_X8_init : Cw yX8_init cX8_init 2 none 0 := ⟨tbs_of (List.mem_of_getElem? (i := 857) (by decide +kernel)) rfl, tw_390, by decide +kernel, by decide +kernel, by decide +kernel⟩
theorem cw_X8_in : Cw yX8_in cX8_in 3 (some .boolean) 3 := ⟨tbs_of (List.mem_of_getElem? (i := 962) (by decide +kernel)) rfl, tw_390, by decide +kernel, by decide +kernel, by decide +kernel⟩
theorem cw_X8_meet : Cw yX8_meet cX8_meet 2 (some .int) 1 := ⟨tbs_of (List.mem_of_getElem? (i := 966) (by decide +kernel)) rfl, tw_390, by decide +kernel, by decide +kernel, by decide +kernel⟩
theorem tw_762 : Cond.selects RX8 yX8_meet yX8_meet ∈ tbs := tbs_of (List.mem_of_getElem? (i := 19) (by decide +kernel)) rfl
theorem cw_X8_ask : Cw yX8_ask cX8_ask 3 (some .int) 2 := ⟨tbs_of (List.mem_of_getElem? (i := 986) (by decide +kernel)) rfl, tw_390, by decide +kernel, by decide +kernel, by decide +kernel⟩
theorem tw_763 : Cond.selects RX8 yX8_ask yX8_ask ∈ tbs := tbs_of (List.mem_of_getElem? (i := 23) (by decide +kernel)) rfl
theorem cw_X8_has : Cw yX8_has cX8_has 2 (some .boolean) 2 := ⟨tbs_of (List.mem_of_getElem? (i := 1133) (by decide +kernel)) rfl, tw_390, by decide +kernel, by decide +kernel, by decide +kernel⟩
theorem cw_X8_sizeOf : Cw yX8_sizeOf cX8_sizeOf 3 (some .int) 1 := ⟨tbs_of (List.mem_of_getElem? (i := 1094) (by decide +kernel)) rfl, tw_390, by decide +kernel, by decide +kernel, by decide +kernel⟩
theorem cw_X8_isRow : Cw yX8_isRow cX8_isRow 1 (some .boolean) 1 := ⟨tbs_of (List.mem_of_getElem? (i := 959) (by decide +kernel)) rfl, tw_390, by decide +kernel, by decide +kernel, by decide +kernel⟩
theorem cw_X8_isText : Cw yX8_isText cX8_isText 1 (some .boolean) 1 := ⟨tbs_of (List.mem_of_getElem? (i := 1010) (by decide +kernel)) rfl, tw_390, by decide +kernel, by decide +kernel, by decide +kernel⟩
theorem cw_X8_askedRow : Cw yX8_askedRow cX8_askedRow 2 (some .int) 1 := ⟨tbs_of (List.mem_of_getElem? (i := 978) (by decide +kernel)) rfl, tw_390, by decide +kernel, by decide +kernel, by decide +kernel⟩
theorem tw_764 : Cond.selects RX8 yX8_askedRow yX8_askedRow ∈ tbs := tbs_of (List.mem_of_getElem? (i := 21) (by decide +kernel)) rfl
theorem cw_X8_askedText : Cw yX8_askedText cX8_askedText 2 (some .int) 1 := ⟨tbs_of (List.mem_of_getElem? (i := 1018) (by decide +kernel)) rfl, tw_390, by decide +kernel, by decide +kernel, by decide +kernel⟩
theorem tw_765 : Cond.selects RX8 yX8_askedText yX8_askedText ∈ tbs := tbs_of (List.mem_of_getElem? (i := 24) (by decide +kernel)) rfl
theorem cw_X8_rowAt : Cw yX8_rowAt cX8_rowAt 3 (some .int) 2 := ⟨tbs_of (List.mem_of_getElem? (i := 982) (by decide +kernel)) rfl, tw_390, by decide +kernel, by decide +kernel, by decide +kernel⟩
theorem tw_766 : Cond.selects RX8 yX8_rowAt yX8_rowAt ∈ tbs := tbs_of (List.mem_of_getElem? (i := 22) (by decide +kernel)) rfl
theorem cw_X8_setRow : Cw yX8_setRow cX8_setRow 4 none 3 := ⟨tbs_of (List.mem_of_getElem? (i := 970) (by decide +kernel)) rfl, tw_390, by decide +kernel, by decide +kernel, by decide +kernel⟩
theorem tw_767 : Cond.selects RX8 yX8_setRow yX8_setRow ∈ tbs := tbs_of (List.mem_of_getElem? (i := 20) (by decide +kernel)) rfl
theorem cw_X8_row : Cw yX8_row cX8_row 4 (some .int) 2 := ⟨tbs_of (List.mem_of_getElem? (i := 956) (by decide +kernel)) rfl, tw_390, by decide +kernel, by decide +kernel, by decide +kernel⟩
theorem tw_768 : Cond.selects RX8 yX8_row yX8_row ∈ tbs := tbs_of (List.mem_of_getElem? (i := 955) (by decide +kernel)) rfl
theorem cw_X8_at : Cw yX8_at cX8_at 4 (some .int) 2 := ⟨tbs_of (List.mem_of_getElem? (i := 974) (by decide +kernel)) rfl, tw_390, by decide +kernel, by decide +kernel, by decide +kernel⟩
theorem tw_769 : Cond.selects RX8 yX8_at yX8_at ∈ tbs := tbs_of (List.mem_of_getElem? (i := 973) (by decide +kernel)) rfl
theorem cw_X8_lay : Cw yX8_lay cX8_lay 5 (some .int) 3 := ⟨tbs_of (List.mem_of_getElem? (i := 990) (by decide +kernel)) rfl, tw_390, by decide +kernel, by decide +kernel, by decide +kernel⟩
theorem tw_770 : Cond.selects RX8 yX8_lay yX8_lay ∈ tbs := tbs_of (List.mem_of_getElem? (i := 989) (by decide +kernel)) rfl
theorem cw_X8_tear : Cw yX8_tear cX8_tear 3 (some .int) 1 := ⟨tbs_of (List.mem_of_getElem? (i := 995) (by decide +kernel)) rfl, tw_390, by decide +kernel, by decide +kernel, by decide +kernel⟩
theorem tw_771 : Cond.selects RX8 yX8_tear yX8_tear ∈ tbs := tbs_of (List.mem_of_getElem? (i := 994) (by decide +kernel)) rfl
theorem cw_X8_copy : Cw yX8_copy cX8_copy 7 (some .int) 5 := ⟨tbs_of (List.mem_of_getElem? (i := 999) (by decide +kernel)) rfl, tw_390, by decide +kernel, by decide +kernel, by decide +kernel⟩
theorem tw_772 : Cond.selects RX8 yX8_copy yX8_copy ∈ tbs := tbs_of (List.mem_of_getElem? (i := 998) (by decide +kernel)) rfl
theorem cw_X8_mean : Cw yX8_mean cX8_mean 6 (some .int) 1 := ⟨tbs_of (List.mem_of_getElem? (i := 1003) (by decide +kernel)) rfl, tw_390, by decide +kernel, by decide +kernel, by decide +kernel⟩
theorem tw_773 : Cond.selects RX8 yX8_mean yX8_mean ∈ tbs := tbs_of (List.mem_of_getElem? (i := 1002) (by decide +kernel)) rfl
theorem cw_X8_text : Cw yX8_text cX8_text 4 (some .int) 2 := ⟨tbs_of (List.mem_of_getElem? (i := 1007) (by decide +kernel)) rfl, tw_390, by decide +kernel, by decide +kernel, by decide +kernel⟩
theorem tw_774 : Cond.selects RX8 yX8_text yX8_text ∈ tbs := tbs_of (List.mem_of_getElem? (i := 1006) (by decide +kernel)) rfl
theorem cw_X8_put : Cw yX8_put cX8_put 6 (some .int) 3 := ⟨tbs_of (List.mem_of_getElem? (i := 1014) (by decide +kernel)) rfl, tw_390, by decide +kernel, by decide +kernel, by decide +kernel⟩
theorem tw_775 : Cond.selects RX8 yX8_put yX8_put ∈ tbs := tbs_of (List.mem_of_getElem? (i := 1013) (by decide +kernel)) rfl
theorem cw_X8_here : Cw yX8_here cX8_here 2 (some .int) 1 := ⟨tbs_of (List.mem_of_getElem? (i := 1030) (by decide +kernel)) rfl, tw_390, by decide +kernel, by decide +kernel, by decide +kernel⟩
theorem tw_776 : Cond.selects RX8 yX8_here yX8_here ∈ tbs := tbs_of (List.mem_of_getElem? (i := 26) (by decide +kernel)) rfl
theorem cw_X8_kindOf : Cw yX8_kindOf cX8_kindOf 1 (some .int) 1 := ⟨tbs_of (List.mem_of_getElem? (i := 1037) (by decide +kernel)) rfl, tw_390, by decide +kernel, by decide +kernel, by decide +kernel⟩
theorem cw_X8_figure : Cw yX8_figure cX8_figure 5 (some .int) 3 := ⟨tbs_of (List.mem_of_getElem? (i := 1044) (by decide +kernel)) rfl, tw_390, by decide +kernel, by decide +kernel, by decide +kernel⟩
theorem tw_777 : Cond.selects RX8 yX8_figure yX8_figure ∈ tbs := tbs_of (List.mem_of_getElem? (i := 28) (by decide +kernel)) rfl
theorem cw_X8_doesPoint : Cw yX8_doesPoint cX8_doesPoint 1 (some .boolean) 1 := ⟨tbs_of (List.mem_of_getElem? (i := 1040) (by decide +kernel)) rfl, tw_390, by decide +kernel, by decide +kernel, by decide +kernel⟩
theorem cw_X8_readsWords : Cw yX8_readsWords cX8_readsWords 4 (some .int) 1 := ⟨tbs_of (List.mem_of_getElem? (i := 1048) (by decide +kernel)) rfl, tw_390, by decide +kernel, by decide +kernel, by decide +kernel⟩
theorem tw_778 : Cond.selects RX8 yX8_readsWords yX8_readsWords ∈ tbs := tbs_of (List.mem_of_getElem? (i := 29) (by decide +kernel)) rfl
theorem cw_X8_readsPage : Cw yX8_readsPage cX8_readsPage 7 (some .boolean) 1 := ⟨tbs_of (List.mem_of_getElem? (i := 1034) (by decide +kernel)) rfl, tw_390, by decide +kernel, by decide +kernel, by decide +kernel⟩
theorem tw_779 : Cond.selects RX8 yX8_readsPage yX8_readsPage ∈ tbs := tbs_of (List.mem_of_getElem? (i := 27) (by decide +kernel)) rfl
theorem cw_X8_goesOn : Cw yX8_goesOn cX8_goesOn 2 (some .int) 1 := ⟨tbs_of (List.mem_of_getElem? (i := 1026) (by decide +kernel)) rfl, tw_390, by decide +kernel, by decide +kernel, by decide +kernel⟩
theorem tw_780 : Cond.selects RX8 yX8_goesOn yX8_goesOn ∈ tbs := tbs_of (List.mem_of_getElem? (i := 25) (by decide +kernel)) rfl
theorem cw_X8_fault : Cw yX8_fault cX8_fault 3 (some .int) 1 := ⟨tbs_of (List.mem_of_getElem? (i := 1022) (by decide +kernel)) rfl, tw_390, by decide +kernel, by decide +kernel, by decide +kernel⟩
theorem tw_781 : Cond.selects RX8 yX8_fault yX8_fault ∈ tbs := tbs_of (List.mem_of_getElem? (i := 1021) (by decide +kernel)) rfl
theorem cw_X8_book : Cw yX8_book cX8_book 4 (some .int) 1 := ⟨tbs_of (List.mem_of_getElem? (i := 1052) (by decide +kernel)) rfl, tw_390, by decide +kernel, by decide +kernel, by decide +kernel⟩
theorem tw_782 : Cond.selects RX8 yX8_book yX8_book ∈ tbs := tbs_of (List.mem_of_getElem? (i := 1051) (by decide +kernel)) rfl
theorem cw_X8_isPage : Cw yX8_isPage cX8_isPage 2 (some .boolean) 1 := ⟨tbs_of (List.mem_of_getElem? (i := 1060) (by decide +kernel)) rfl, tw_390, by decide +kernel, by decide +kernel, by decide +kernel⟩
theorem tw_783 : Cond.selects RX8 yX8_isPage yX8_isPage ∈ tbs := tbs_of (List.mem_of_getElem? (i := 30) (by decide +kernel)) rfl
theorem cw_X8_isDay : Cw yX8_isDay cX8_isDay 1 (some .boolean) 1 := ⟨tbs_of (List.mem_of_getElem? (i := 1071) (by decide +kernel)) rfl, tw_390, by decide +kernel, by decide +kernel, by decide +kernel⟩
theorem cw_X8_isCase : Cw yX8_isCase cX8_isCase 1 (some .boolean) 1 := ⟨tbs_of (List.mem_of_getElem? (i := 1152) (by decide +kernel)) rfl, tw_390, by decide +kernel, by decide +kernel, by decide +kernel⟩
theorem cw_X8_isA : Cw yX8_isA cX8_isA 3 (some .boolean) 2 := ⟨tbs_of (List.mem_of_getElem? (i := 1087) (by decide +kernel)) rfl, tw_390, by decide +kernel, by decide +kernel, by decide +kernel⟩
theorem tw_784 : Cond.selects RX8 yX8_isA yX8_isA ∈ tbs := tbs_of (List.mem_of_getElem? (i := 34) (by decide +kernel)) rfl
theorem cw_X8_pageOf : Cw yX8_pageOf cX8_pageOf 3 (some .int) 2 := ⟨tbs_of (List.mem_of_getElem? (i := 1064) (by decide +kernel)) rfl, tw_390, by decide +kernel, by decide +kernel, by decide +kernel⟩
theorem tw_785 : Cond.selects RX8 yX8_pageOf yX8_pageOf ∈ tbs := tbs_of (List.mem_of_getElem? (i := 31) (by decide +kernel)) rfl
theorem cw_X8_page : Cw yX8_page cX8_page 3 (some .int) 2 := ⟨tbs_of (List.mem_of_getElem? (i := 1056) (by decide +kernel)) rfl, tw_390, by decide +kernel, by decide +kernel, by decide +kernel⟩
theorem tw_786 : Cond.selects RX8 yX8_page yX8_page ∈ tbs := tbs_of (List.mem_of_getElem? (i := 1055) (by decide +kernel)) rfl
theorem cw_X8_doesBind : Cw yX8_doesBind cX8_doesBind 5 (some .boolean) 2 := ⟨tbs_of (List.mem_of_getElem? (i := 1079) (by decide +kernel)) rfl, tw_390, by decide +kernel, by decide +kernel, by decide +kernel⟩
theorem tw_787 : Cond.selects RX8 yX8_doesBind yX8_doesBind ∈ tbs := tbs_of (List.mem_of_getElem? (i := 33) (by decide +kernel)) rfl
theorem cw_X8_bindSet : Cw yX8_bindSet cX8_bindSet 4 (some .int) 1 := ⟨tbs_of (List.mem_of_getElem? (i := 1075) (by decide +kernel)) rfl, tw_390, by decide +kernel, by decide +kernel, by decide +kernel⟩
theorem tw_788 : Cond.selects RX8 yX8_bindSet yX8_bindSet ∈ tbs := tbs_of (List.mem_of_getElem? (i := 32) (by decide +kernel)) rfl
theorem cw_X8_binds : Cw yX8_binds cX8_binds 2 (some .int) 1 := ⟨tbs_of (List.mem_of_getElem? (i := 1068) (by decide +kernel)) rfl, tw_390, by decide +kernel, by decide +kernel, by decide +kernel⟩
theorem tw_789 : Cond.selects RX8 yX8_binds yX8_binds ∈ tbs := tbs_of (List.mem_of_getElem? (i := 1067) (by decide +kernel)) rfl
theorem cw_X8_weightOf : Cw yX8_weightOf cX8_weightOf 2 (some .int) 1 := ⟨tbs_of (List.mem_of_getElem? (i := 1091) (by decide +kernel)) rfl, tw_390, by decide +kernel, by decide +kernel, by decide +kernel⟩
theorem tw_790 : Cond.selects RX8 yX8_weightOf yX8_weightOf ∈ tbs := tbs_of (List.mem_of_getElem? (i := 35) (by decide +kernel)) rfl
theorem cw_X8_mark : Cw yX8_mark cX8_mark 6 (some .int) 2 := ⟨tbs_of (List.mem_of_getElem? (i := 1083) (by decide +kernel)) rfl, tw_390, by decide +kernel, by decide +kernel, by decide +kernel⟩
theorem tw_791 : Cond.selects RX8 yX8_mark yX8_mark ∈ tbs := tbs_of (List.mem_of_getElem? (i := 1082) (by decide +kernel)) rfl
theorem cw_X8_reverse : Cw yX8_reverse cX8_reverse 4 (some .int) 2 := ⟨tbs_of (List.mem_of_getElem? (i := 1098) (by decide +kernel)) rfl, tw_390, by decide +kernel, by decide +kernel, by decide +kernel⟩
theorem tw_792 : Cond.selects RX8 yX8_reverse yX8_reverse ∈ tbs := tbs_of (List.mem_of_getElem? (i := 1097) (by decide +kernel)) rfl
theorem cw_X8_swap : Cw yX8_swap cX8_swap 4 (some .int) 2 := ⟨tbs_of (List.mem_of_getElem? (i := 1102) (by decide +kernel)) rfl, tw_390, by decide +kernel, by decide +kernel, by decide +kernel⟩
theorem tw_793 : Cond.selects RX8 yX8_swap yX8_swap ∈ tbs := tbs_of (List.mem_of_getElem? (i := 1101) (by decide +kernel)) rfl
theorem cw_X8_read : Cw yX8_read cX8_read 5 (some .int) 1 := ⟨tbs_of (List.mem_of_getElem? (i := 1106) (by decide +kernel)) rfl, tw_390, by decide +kernel, by decide +kernel, by decide +kernel⟩
theorem tw_794 : Cond.selects RX8 yX8_read yX8_read ∈ tbs := tbs_of (List.mem_of_getElem? (i := 1105) (by decide +kernel)) rfl
theorem cw_X8_add : Cw yX8_add cX8_add 3 (some .int) 2 := ⟨tbs_of (List.mem_of_getElem? (i := 1110) (by decide +kernel)) rfl, tw_390, by decide +kernel, by decide +kernel, by decide +kernel⟩
theorem tw_795 : Cond.selects RX8 yX8_add yX8_add ∈ tbs := tbs_of (List.mem_of_getElem? (i := 1109) (by decide +kernel)) rfl
theorem cw_X8_rip : Cw yX8_rip cX8_rip 2 (some .int) 0 := ⟨tbs_of (List.mem_of_getElem? (i := 1114) (by decide +kernel)) rfl, tw_390, by decide +kernel, by decide +kernel, by decide +kernel⟩
theorem tw_796 : Cond.selects RX8 yX8_rip yX8_rip ∈ tbs := tbs_of (List.mem_of_getElem? (i := 1113) (by decide +kernel)) rfl
theorem cw_X8_keep : Cw yX8_keep cX8_keep 5 (some .int) 1 := ⟨tbs_of (List.mem_of_getElem? (i := 1118) (by decide +kernel)) rfl, tw_390, by decide +kernel, by decide +kernel, by decide +kernel⟩
theorem tw_797 : Cond.selects RX8 yX8_keep yX8_keep ∈ tbs := tbs_of (List.mem_of_getElem? (i := 1117) (by decide +kernel)) rfl
theorem cw_X8_on : Cw yX8_on cX8_on 5 (some .int) 1 := ⟨tbs_of (List.mem_of_getElem? (i := 1122) (by decide +kernel)) rfl, tw_390, by decide +kernel, by decide +kernel, by decide +kernel⟩
theorem tw_798 : Cond.selects RX8 yX8_on yX8_on ∈ tbs := tbs_of (List.mem_of_getElem? (i := 1121) (by decide +kernel)) rfl
theorem cw_X8_meanOf : Cw yX8_meanOf cX8_meanOf 6 (some .int) 2 := ⟨tbs_of (List.mem_of_getElem? (i := 1130) (by decide +kernel)) rfl, tw_390, by decide +kernel, by decide +kernel, by decide +kernel⟩
theorem tw_799 : Cond.selects RX8 yX8_meanOf yX8_meanOf ∈ tbs := tbs_of (List.mem_of_getElem? (i := 36) (by decide +kernel)) rfl
theorem cw_X8_means : Cw yX8_means cX8_means 3 (some .int) 2 := ⟨tbs_of (List.mem_of_getElem? (i := 1126) (by decide +kernel)) rfl, tw_390, by decide +kernel, by decide +kernel, by decide +kernel⟩
theorem tw_800 : Cond.selects RX8 yX8_means yX8_means ∈ tbs := tbs_of (List.mem_of_getElem? (i := 1125) (by decide +kernel)) rfl
theorem cw_X8_meanings : Cw yX8_meanings cX8_meanings 2 (some .int) 1 := ⟨tbs_of (List.mem_of_getElem? (i := 1137) (by decide +kernel)) rfl, tw_390, by decide +kernel, by decide +kernel, by decide +kernel⟩
theorem tw_801 : Cond.selects RX8 yX8_meanings yX8_meanings ∈ tbs := tbs_of (List.mem_of_getElem? (i := 1136) (by decide +kernel)) rfl
theorem cw_X8_isInRing : Cw yX8_isInRing cX8_isInRing 4 (some .boolean) 1 := ⟨tbs_of (List.mem_of_getElem? (i := 1145) (by decide +kernel)) rfl, tw_390, by decide +kernel, by decide +kernel, by decide +kernel⟩
theorem tw_802 : Cond.selects RX8 yX8_isInRing yX8_isInRing ∈ tbs := tbs_of (List.mem_of_getElem? (i := 37) (by decide +kernel)) rfl
theorem cw_X8_never : Cw yX8_never cX8_never 6 (some .int) 0 := ⟨tbs_of (List.mem_of_getElem? (i := 1141) (by decide +kernel)) rfl, tw_390, by decide +kernel, by decide +kernel, by decide +kernel⟩
theorem tw_803 : Cond.selects RX8 yX8_never yX8_never ∈ tbs := tbs_of (List.mem_of_getElem? (i := 1140) (by decide +kernel)) rfl
theorem cw_X8_judgeBy : Cw yX8_judgeBy cX8_judgeBy 6 (some .int) 2 := ⟨tbs_of (List.mem_of_getElem? (i := 1171) (by decide +kernel)) rfl, tw_390, by decide +kernel, by decide +kernel, by decide +kernel⟩
theorem tw_804 : Cond.selects RX8 yX8_judgeBy yX8_judgeBy ∈ tbs := tbs_of (List.mem_of_getElem? (i := 41) (by decide +kernel)) rfl
theorem cw_X8_soOf : Cw yX8_soOf cX8_soOf 3 (some .int) 3 := ⟨tbs_of (List.mem_of_getElem? (i := 1167) (by decide +kernel)) rfl, tw_390, by decide +kernel, by decide +kernel, by decide +kernel⟩
theorem cw_X8_givenBy : Cw yX8_givenBy cX8_givenBy 6 (some .int) 4 := ⟨tbs_of (List.mem_of_getElem? (i := 1164) (by decide +kernel)) rfl, tw_390, by decide +kernel, by decide +kernel, by decide +kernel⟩
theorem tw_805 : Cond.selects RX8 yX8_givenBy yX8_givenBy ∈ tbs := tbs_of (List.mem_of_getElem? (i := 40) (by decide +kernel)) rfl
theorem cw_X8_onesOf : Cw yX8_onesOf cX8_onesOf 8 (some .int) 4 := ⟨tbs_of (List.mem_of_getElem? (i := 1160) (by decide +kernel)) rfl, tw_390, by decide +kernel, by decide +kernel, by decide +kernel⟩
theorem tw_806 : Cond.selects RX8 yX8_onesOf yX8_onesOf ∈ tbs := tbs_of (List.mem_of_getElem? (i := 39) (by decide +kernel)) rfl
theorem cw_X8_isOn : Cw yX8_isOn cX8_isOn 4 (some .int) 2 := ⟨tbs_of (List.mem_of_getElem? (i := 1156) (by decide +kernel)) rfl, tw_390, by decide +kernel, by decide +kernel, by decide +kernel⟩
theorem tw_807 : Cond.selects RX8 yX8_isOn yX8_isOn ∈ tbs := tbs_of (List.mem_of_getElem? (i := 38) (by decide +kernel)) rfl
theorem cw_X8_verdict : Cw yX8_verdict cX8_verdict 4 (some .int) 2 := ⟨tbs_of (List.mem_of_getElem? (i := 1149) (by decide +kernel)) rfl, tw_390, by decide +kernel, by decide +kernel, by decide +kernel⟩
theorem tw_808 : Cond.selects RX8 yX8_verdict yX8_verdict ∈ tbs := tbs_of (List.mem_of_getElem? (i := 1148) (by decide +kernel)) rfl
theorem cw_X8_judge : Cw yX8_judge cX8_judge 6 (some .int) 3 := ⟨tbs_of (List.mem_of_getElem? (i := 1175) (by decide +kernel)) rfl, tw_390, by decide +kernel, by decide +kernel, by decide +kernel⟩
theorem tw_809 : Cond.selects RX8 yX8_judge yX8_judge ∈ tbs := tbs_of (List.mem_of_getElem? (i := 1174) (by decide +kernel)) rfl
theorem cw_X8_odds : Cw yX8_odds cX8_odds 7 (some .int) 2 := ⟨tbs_of (List.mem_of_getElem? (i := 1179) (by decide +kernel)) rfl, tw_390, by decide +kernel, by decide +kernel, by decide +kernel⟩
theorem tw_810 : Cond.selects RX8 yX8_odds yX8_odds ∈ tbs := tbs_of (List.mem_of_getElem? (i := 1178) (by decide +kernel)) rfl
theorem cw_X8_waitsOn : Cw yX8_waitsOn cX8_waitsOn 10 (some .int) 2 := ⟨tbs_of (List.mem_of_getElem? (i := 1187) (by decide +kernel)) rfl, tw_390, by decide +kernel, by decide +kernel, by decide +kernel⟩
theorem tw_811 : Cond.selects RX8 yX8_waitsOn yX8_waitsOn ∈ tbs := tbs_of (List.mem_of_getElem? (i := 42) (by decide +kernel)) rfl
theorem cw_X8_waits : Cw yX8_waits cX8_waits 2 (some .int) 1 := ⟨tbs_of (List.mem_of_getElem? (i := 1183) (by decide +kernel)) rfl, tw_390, by decide +kernel, by decide +kernel, by decide +kernel⟩
theorem tw_812 : Cond.selects RX8 yX8_waits yX8_waits ∈ tbs := tbs_of (List.mem_of_getElem? (i := 1182) (by decide +kernel)) rfl
theorem cw_X8_allWaits : Cw yX8_allWaits cX8_allWaits 3 (some .int) 0 := ⟨tbs_of (List.mem_of_getElem? (i := 1195) (by decide +kernel)) rfl, tw_390, by decide +kernel, by decide +kernel, by decide +kernel⟩
theorem tw_813 : Cond.selects RX8 yX8_allWaits yX8_allWaits ∈ tbs := tbs_of (List.mem_of_getElem? (i := 43) (by decide +kernel)) rfl
theorem cw_X8_all : Cw yX8_all cX8_all 1 (some .int) 0 := ⟨tbs_of (List.mem_of_getElem? (i := 1191) (by decide +kernel)) rfl, tw_390, by decide +kernel, by decide +kernel, by decide +kernel⟩
theorem tw_814 : Cond.selects RX8 yX8_all yX8_all ∈ tbs := tbs_of (List.mem_of_getElem? (i := 1190) (by decide +kernel)) rfl
theorem cw_X8_freeFrom : Cw yX8_freeFrom cX8_freeFrom 4 (some .int) 2 := ⟨tbs_of (List.mem_of_getElem? (i := 1203) (by decide +kernel)) rfl, tw_390, by decide +kernel, by decide +kernel, by decide +kernel⟩
theorem tw_815 : Cond.selects RX8 yX8_freeFrom yX8_freeFrom ∈ tbs := tbs_of (List.mem_of_getElem? (i := 44) (by decide +kernel)) rfl
theorem cw_X8_free : Cw yX8_free cX8_free 3 (some .int) 2 := ⟨tbs_of (List.mem_of_getElem? (i := 1199) (by decide +kernel)) rfl, tw_390, by decide +kernel, by decide +kernel, by decide +kernel⟩
theorem tw_816 : Cond.selects RX8 yX8_free yX8_free ∈ tbs := tbs_of (List.mem_of_getElem? (i := 1198) (by decide +kernel)) rfl
theorem cw_X8_askedDeeds : Cw yX8_askedDeeds cX8_askedDeeds 5 (some .int) 2 := ⟨tbs_of (List.mem_of_getElem? (i := 1211) (by decide +kernel)) rfl, tw_390, by decide +kernel, by decide +kernel, by decide +kernel⟩
theorem tw_817 : Cond.selects RX8 yX8_askedDeeds yX8_askedDeeds ∈ tbs := tbs_of (List.mem_of_getElem? (i := 45) (by decide +kernel)) rfl
theorem cw_X8_layTold : Cw yX8_layTold cX8_layTold 4 none 2 := ⟨tbs_of (List.mem_of_getElem? (i := 1215) (by decide +kernel)) rfl, tw_390, by decide +kernel, by decide +kernel, by decide +kernel⟩
theorem tw_818 : Cond.selects RX8 yX8_layTold yX8_layTold ∈ tbs := tbs_of (List.mem_of_getElem? (i := 46) (by decide +kernel)) rfl
theorem cw_X8_deeds : Cw yX8_deeds cX8_deeds 7 (some .int) 2 := ⟨tbs_of (List.mem_of_getElem? (i := 1207) (by decide +kernel)) rfl, tw_390, by decide +kernel, by decide +kernel, by decide +kernel⟩
theorem tw_819 : Cond.selects RX8 yX8_deeds yX8_deeds ∈ tbs := tbs_of (List.mem_of_getElem? (i := 1206) (by decide +kernel)) rfl
theorem cw_X8_orderOn : Cw yX8_orderOn cX8_orderOn 7 none 4 := ⟨tbs_of (List.mem_of_getElem? (i := 1225) (by decide +kernel)) rfl, tw_390, by decide +kernel, by decide +kernel, by decide +kernel⟩
theorem tw_820 : Cond.selects RX8 yX8_orderOn yX8_orderOn ∈ tbs := tbs_of (List.mem_of_getElem? (i := 47) (by decide +kernel)) rfl
theorem cw_X8_order : Cw yX8_order cX8_order 4 (some .int) 2 := ⟨tbs_of (List.mem_of_getElem? (i := 1220) (by decide +kernel)) rfl, tw_390, by decide +kernel, by decide +kernel, by decide +kernel⟩
theorem tw_821 : Cond.selects RX8 yX8_order yX8_order ∈ tbs := tbs_of (List.mem_of_getElem? (i := 1219) (by decide +kernel)) rfl
theorem cw_X8_flipsOf : Cw yX8_flipsOf cX8_flipsOf 8 (some .int) 2 := ⟨tbs_of (List.mem_of_getElem? (i := 1233) (by decide +kernel)) rfl, tw_390, by decide +kernel, by decide +kernel, by decide +kernel⟩
theorem tw_822 : Cond.selects RX8 yX8_flipsOf yX8_flipsOf ∈ tbs := tbs_of (List.mem_of_getElem? (i := 48) (by decide +kernel)) rfl
theorem cw_X8_flips : Cw yX8_flips cX8_flips 2 (some .int) 1 := ⟨tbs_of (List.mem_of_getElem? (i := 1229) (by decide +kernel)) rfl, tw_390, by decide +kernel, by decide +kernel, by decide +kernel⟩
theorem tw_823 : Cond.selects RX8 yX8_flips yX8_flips ∈ tbs := tbs_of (List.mem_of_getElem? (i := 1228) (by decide +kernel)) rfl
theorem cw_X8_flip : Cw yX8_flip cX8_flip 5 (some .int) 2 := ⟨tbs_of (List.mem_of_getElem? (i := 1237) (by decide +kernel)) rfl, tw_390, by decide +kernel, by decide +kernel, by decide +kernel⟩
theorem tw_824 : Cond.selects RX8 yX8_flip yX8_flip ∈ tbs := tbs_of (List.mem_of_getElem? (i := 1236) (by decide +kernel)) rfl
theorem cw_X8_most : Cw yX8_most cX8_most 5 (some .int) 0 := ⟨tbs_of (List.mem_of_getElem? (i := 1241) (by decide +kernel)) rfl, tw_390, by decide +kernel, by decide +kernel, by decide +kernel⟩
theorem tw_825 : Cond.selects RX8 yX8_most yX8_most ∈ tbs := tbs_of (List.mem_of_getElem? (i := 1240) (by decide +kernel)) rfl
theorem cw_X8_matter : Cw yX8_matter cX8_matter 7 (some .int) 2 := ⟨tbs_of (List.mem_of_getElem? (i := 1245) (by decide +kernel)) rfl, tw_390, by decide +kernel, by decide +kernel, by decide +kernel⟩
theorem tw_826 : Cond.selects RX8 yX8_matter yX8_matter ∈ tbs := tbs_of (List.mem_of_getElem? (i := 1244) (by decide +kernel)) rfl
theorem cw_X8_putAside : Cw yX8_putAside cX8_putAside 2 none 0 := ⟨tbs_of (List.mem_of_getElem? (i := 1253) (by decide +kernel)) rfl, tw_390, by decide +kernel, by decide +kernel, by decide +kernel⟩
theorem tw_827 : Cond.selects RX8 yX8_putAside yX8_putAside ∈ tbs := tbs_of (List.mem_of_getElem? (i := 49) (by decide +kernel)) rfl
theorem cw_X8_comeBack : Cw yX8_comeBack cX8_comeBack 2 none 0 := ⟨tbs_of (List.mem_of_getElem? (i := 1261) (by decide +kernel)) rfl, tw_390, by decide +kernel, by decide +kernel, by decide +kernel⟩
theorem tw_828 : Cond.selects RX8 yX8_comeBack yX8_comeBack ∈ tbs := tbs_of (List.mem_of_getElem? (i := 51) (by decide +kernel)) rfl
theorem cw_X8_readOn : Cw yX8_readOn cX8_readOn 5 none 2 := ⟨tbs_of (List.mem_of_getElem? (i := 1257) (by decide +kernel)) rfl, tw_390, by decide +kernel, by decide +kernel, by decide +kernel⟩
theorem tw_829 : Cond.selects RX8 yX8_readOn yX8_readOn ∈ tbs := tbs_of (List.mem_of_getElem? (i := 50) (by decide +kernel)) rfl
theorem cw_X8_best : Cw yX8_best cX8_best 3 (some .int) 1 := ⟨tbs_of (List.mem_of_getElem? (i := 1249) (by decide +kernel)) rfl, tw_390, by decide +kernel, by decide +kernel, by decide +kernel⟩
theorem tw_830 : Cond.selects RX8 yX8_best yX8_best ∈ tbs := tbs_of (List.mem_of_getElem? (i := 1248) (by decide +kernel)) rfl
theorem cw_X8_front : Cw yX8_front cX8_front 3 (some .int) 0 := ⟨tbs_of (List.mem_of_getElem? (i := 1265) (by decide +kernel)) rfl, tw_390, by decide +kernel, by decide +kernel, by decide +kernel⟩
theorem tw_831 : Cond.selects RX8 yX8_front yX8_front ∈ tbs := tbs_of (List.mem_of_getElem? (i := 1264) (by decide +kernel)) rfl
theorem cw_X8_meant : Cw yX8_meant cX8_meant 8 (some .int) 1 := ⟨tbs_of (List.mem_of_getElem? (i := 1269) (by decide +kernel)) rfl, tw_390, by decide +kernel, by decide +kernel, by decide +kernel⟩
theorem tw_832 : Cond.selects RX8 yX8_meant yX8_meant ∈ tbs := tbs_of (List.mem_of_getElem? (i := 1268) (by decide +kernel)) rfl
theorem cw_X8_kinds : Cw yX8_kinds cX8_kinds 9 (some .int) 4 := ⟨tbs_of (List.mem_of_getElem? (i := 1273) (by decide +kernel)) rfl, tw_390, by decide +kernel, by decide +kernel, by decide +kernel⟩
theorem tw_833 : Cond.selects RX8 yX8_kinds yX8_kinds ∈ tbs := tbs_of (List.mem_of_getElem? (i := 1272) (by decide +kernel)) rfl
theorem cw_X8_lots : Cw yX8_lots cX8_lots 7 (some .int) 2 := ⟨tbs_of (List.mem_of_getElem? (i := 1277) (by decide +kernel)) rfl, tw_390, by decide +kernel, by decide +kernel, by decide +kernel⟩
theorem tw_834 : Cond.selects RX8 yX8_lots yX8_lots ∈ tbs := tbs_of (List.mem_of_getElem? (i := 1276) (by decide +kernel)) rfl
theorem cw_X8_asked : Cw yX8_asked cX8_asked 1 (some .int) 0 := ⟨tbs_of (List.mem_of_getElem? (i := 1286) (by decide +kernel)) rfl, tw_390, by decide +kernel, by decide +kernel, by decide +kernel⟩
theorem tw_835 : Cond.selects RX8 yX8_asked yX8_asked ∈ tbs := tbs_of (List.mem_of_getElem? (i := 1285) (by decide +kernel)) rfl
theorem cw_X8_upper : Cw yX8_upper cX8_upper 1 (some .long) 0 := ⟨tbs_of (List.mem_of_getElem? (i := 1290) (by decide +kernel)) rfl, tw_390, by decide +kernel, by decide +kernel, by decide +kernel⟩
theorem tw_836 : Cond.selects RX8 yX8_upper yX8_upper ∈ tbs := tbs_of (List.mem_of_getElem? (i := 1289) (by decide +kernel)) rfl
theorem cw_X8_lower : Cw yX8_lower cX8_lower 1 (some .long) 0 := ⟨tbs_of (List.mem_of_getElem? (i := 1294) (by decide +kernel)) rfl, tw_390, by decide +kernel, by decide +kernel, by decide +kernel⟩
theorem tw_837 : Cond.selects RX8 yX8_lower yX8_lower ∈ tbs := tbs_of (List.mem_of_getElem? (i := 1293) (by decide +kernel)) rfl
theorem cw_X8_tells : Cw yX8_tells cX8_tells 5 (some .int) 1 := ⟨tbs_of (List.mem_of_getElem? (i := 1302) (by decide +kernel)) rfl, tw_390, by decide +kernel, by decide +kernel, by decide +kernel⟩
theorem tw_838 : Cond.selects RX8 yX8_tells yX8_tells ∈ tbs := tbs_of (List.mem_of_getElem? (i := 52) (by decide +kernel)) rfl
theorem cw_X8_count : Cw yX8_count cX8_count 2 (some .int) 1 := ⟨tbs_of (List.mem_of_getElem? (i := 1298) (by decide +kernel)) rfl, tw_390, by decide +kernel, by decide +kernel, by decide +kernel⟩
theorem tw_839 : Cond.selects RX8 yX8_count yX8_count ∈ tbs := tbs_of (List.mem_of_getElem? (i := 1297) (by decide +kernel)) rfl
theorem cw_X8_finding : Cw yX8_finding cX8_finding 1 (some .int) 0 := ⟨tbs_of (List.mem_of_getElem? (i := 1306) (by decide +kernel)) rfl, tw_390, by decide +kernel, by decide +kernel, by decide +kernel⟩
theorem tw_840 : Cond.selects RX8 yX8_finding yX8_finding ∈ tbs := tbs_of (List.mem_of_getElem? (i := 1305) (by decide +kernel)) rfl
theorem cw_X8_findings : Cw yX8_findings cX8_findings 2 (some .int) 1 := ⟨tbs_of (List.mem_of_getElem? (i := 1310) (by decide +kernel)) rfl, tw_390, by decide +kernel, by decide +kernel, by decide +kernel⟩
theorem tw_841 : Cond.selects RX8 yX8_findings yX8_findings ∈ tbs := tbs_of (List.mem_of_getElem? (i := 1309) (by decide +kernel)) rfl
theorem cw_X8_mix : Cw yX8_mix cX8_mix 2 none 1 := ⟨tbs_of (List.mem_of_getElem? (i := 1319) (by decide +kernel)) rfl, tw_390, by decide +kernel, by decide +kernel, by decide +kernel⟩
theorem tw_842 : Cond.selects RX8 yX8_mix yX8_mix ∈ tbs := tbs_of (List.mem_of_getElem? (i := 53) (by decide +kernel)) rfl
theorem cw_X8_digest : Cw yX8_digest cX8_digest 3 (some .long) 0 := ⟨tbs_of (List.mem_of_getElem? (i := 1314) (by decide +kernel)) rfl, tw_390, by decide +kernel, by decide +kernel, by decide +kernel⟩
theorem tw_843 : Cond.selects RX8 yX8_digest yX8_digest ∈ tbs := tbs_of (List.mem_of_getElem? (i := 1313) (by decide +kernel)) rfl
theorem cw_J6_bitCount_0f7a4 : Cw yJ6_bitCount_0f7a4 cJ6_bitCount_0f7a4 1 (some .int) 1 := ⟨tbs_of (List.mem_of_getElem? (i := 443) (by decide +kernel)) rfl, tw_392, by decide +kernel, by decide +kernel, by decide +kernel⟩
theorem cw_J9_min_7cf53 : Cw yJ9_min_7cf53 cJ9_min_7cf53 2 (some .int) 2 := ⟨tbs_of (List.mem_of_getElem? (i := 674) (by decide +kernel)) rfl, tw_393, by decide +kernel, by decide +kernel, by decide +kernel⟩
theorem cw_J7_fill_53178 : Cw yJ7_fill_53178 cJ7_fill_53178 4 none 2 := ⟨tbs_of (List.mem_of_getElem? (i := 86) (by decide +kernel)) rfl, tw_383, by decide +kernel, by decide +kernel, by decide +kernel⟩
theorem inX0 : ∀ w ∈ u_ws RX0 TX0 3, w ∈ tbs := mem_r [150, 152, 154] (by decide +kernel) (by decide +kernel)
theorem inX1 : ∀ w ∈ u_ws RX1 TX1 8, w ∈ tbs := mem_r [199, 201, 203, 205, 207, 209, 211, 213] (by decide +kernel) (by decide +kernel)
theorem inX2 : ∀ w ∈ u_ws RX2 TX2 3, w ∈ tbs := mem_r [256, 258, 260] (by decide +kernel) (by decide +kernel)
theorem inX3 : ∀ w ∈ u_ws RX3 TX3 7, w ∈ tbs := mem_r [126, 128, 130, 132, 134, 136, 138] (by decide +kernel) (by decide +kernel)
theorem inX4 : ∀ w ∈ u_ws RX4 TX4 7, w ∈ tbs := mem_r [230, 232, 234, 236, 238, 240, 242] (by decide +kernel) (by decide +kernel)
theorem inX5 : ∀ w ∈ u_ws RX5 TX5 5, w ∈ tbs := mem_r [169, 171, 173, 175, 177] (by decide +kernel) (by decide +kernel)
theorem inX6 : ∀ w ∈ u_ws RX6 TX6 2, w ∈ tbs := mem_r [89, 91] (by decide +kernel) (by decide +kernel)
theorem inX7 : ∀ w ∈ u_ws RX7 TX7 14, w ∈ tbs := mem_r [277, 279, 281, 283, 285, 287, 289, 291, 293, 295, 297, 299, 301, 303] (by decide +kernel) (by decide +kernel)
theorem inX8 : ∀ w ∈ u_ws RX8 TX8 31, w ∈ tbs := mem_r [890, 892, 894, 896, 898, 900, 902, 904, 906, 908, 910, 912, 914, 916, 918, 920, 922, 924, 926, 928, 930, 932, 934, 936, 938, 940, 942, 944, 946, 948, 950] (by decide +kernel) (by decide +kernel)
